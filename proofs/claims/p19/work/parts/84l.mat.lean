/-! ===== the matrix, on both sides ===== -/
section MA
/-- ints and references as they were -/
def sm (g h : mx_H) : Prop := g.2.1 = h.2.1 ∧ g.2.2.2 = h.2.2.2
theorem sm.refl {g : mx_H} : sm g g := ⟨rfl, rfl⟩
theorem sm.trans {g1 g2 g3 : mx_H} (A : sm g1 g2) (B : sm g2 g3) : sm g1 g3 := ⟨A.1.trans B.1, A.2.trans B.2⟩
variable {h g g0 k hc hr : mx_H} {C t c n a i j : Nat} {a1 a2 a3 a4 a5 a6 x y w : Int32} {l : Int64} {L : List Nat} {p q : Int} {b b' : mx_A}
theorem rL_s : (mx_uL h b i l).2.2.1 b i = l := if_pos ⟨rfl, rfl⟩
theorem rL_a (e : b' ≠ b) : (mx_uL h b i l).2.2.1 b' j = h.2.2.1 b' j := if_neg (fun q => e q.1)
theorem rL_i (e : j ≠ i) : (mx_uL h b i l).2.2.1 b' j = h.2.2.1 b' j := if_neg (fun q => e q.2)
theorem i64_32 : Int32.toInt64 x = Int64.ofInt x.toInt := by
  rw [← Int32.toInt_toInt64, Int64.ofInt_toInt]
/-- the free corners among the first c -/
def fl (k : mx_H) : Nat → List Nat
  | 0 => []
  | c + 1 => if k.2.1 (.inl 130) c = 0 then fl k c ++ [c] else fl k c
theorem fl_lt : ∀ c, ∀ x ∈ fl k c, x < c
  | 0, x, hx => by cases hx
  | c + 1, x, hx => by
    unfold fl at hx
    by_cases z : k.2.1 (.inl 130) c = 0
    · rw [if_pos z] at hx
      rcases List.mem_append.mp hx with hx | hx
      · have := fl_lt c x hx
        omega
      · have := List.mem_singleton.mp hx
        omega
    · rw [if_neg z] at hx
      have := fl_lt c x hx
      omega
theorem fl_len : ∀ c, (fl k c).length ≤ c
  | 0 => Nat.le_refl _
  | c + 1 => by
    have := fl_len c
    unfold fl
    by_cases z : k.2.1 (.inl 130) c = 0
    · rw [if_pos z, List.length_append]
      show (fl k c).length + 1 ≤ c + 1
      omega
    · rw [if_neg z]
      omega
theorem fl_get (hi : i < L.length) : (L ++ [c]).getD i 0 = L.getD i 0 := by
  rw [List.getD_eq_getElem?_getD, List.getD_eq_getElem?_getD, List.getElem?_append_left hi]
theorem fl_end : (L ++ [c]).getD L.length 0 = c := by
  rw [List.getD_eq_getElem?_getD, List.getElem?_append_right (Nat.le_refl _), Nat.sub_self]
  rfl
theorem fl_gl (hi : i < (fl k c).length) : (fl k c).getD i 0 < c := by
  refine fl_lt (k := k) c _ ?_
  rw [List.getD_eq_getElem?_getD, List.getElem?_eq_getElem hi]
  exact List.getElem_mem hi
/-- what pulls at a corner: its pad and all links -/
def zs (k : mx_H) (a : Nat) : Nat → Int
  | 0 => 0
  | c + 1 => zs k a c + rD k (.inl 131) (6 * a + c)
/-- an entry, for the marks p and q -/
def zm (k : mx_H) (L : List Nat) (C : Nat) (p q : Int) (i j : Nat) : Int := if i = j then q * (rD k (.inl 129) (L.getD i 0) + zs k (L.getD i 0) C) - p * rD k (.inl 128) (L.getD i 0) else -q * rD k (.inl 131) (6 * L.getD i 0 + L.getD j 0)
/-- pads and links are small, and alike both ways -/
def nt_V (k : mx_H) (C : Nat) : Prop := (∀ i, i < C → (0 ≤ rD k (.inl 129) i ∧ rD k (.inl 129) i ≤ 9) ∧ 1 ≤ rD k (.inl 128) i ∧ rD k (.inl 128) i ≤ 9) ∧ ∀ i j, i < C → j < C → (0 ≤ rD k (.inl 131) (6 * i + j) ∧ rD k (.inl 131) (6 * i + j) ≤ 9) ∧ rD k (.inl 131) (6 * i + j) = rD k (.inl 131) (6 * j + i)
theorem zs_b (V : nt_V k C) (ha : a < C) : ∀ c, c ≤ C → 0 ≤ zs k a c ∧ zs k a c ≤ 9 * c
  | 0, _ => ⟨Int.le_refl 0, Int.le_refl _⟩
  | c + 1, hc => by
    obtain ⟨b1, b2⟩ := zs_b V ha c (by omega)
    obtain ⟨b3, b4⟩ := (V.2 a c ha (by omega)).1
    unfold zs
    omega
/-- what the class's way leaves alone: the net's matrix and sums are its own -/
def cm_F (h g : mx_H) (t : Nat) : Prop := (∀ a i, a ≠ .inr (t, 36) → ¬ (a = .inr (t, 30) ∧ i = 7) → g.2.1 a i = h.2.1 a i) ∧ (∀ a i, (∀ o, 35 ≤ o → a ≠ .inr (t, o)) → g.2.2.1 a i = h.2.2.1 a i) ∧ g.2.2.2 = h.2.2.2
theorem cm_F.refl : cm_F h h t := ⟨fun _ _ _ _ => rfl, fun _ _ _ => rfl, rfl⟩
theorem cm_F.fI {i : Nat} (F : cm_F h g t) : cm_F h (mx_uI g (.inr (t, 36)) i x) t := ⟨fun a i' h1 h2 => (rI_a h1).trans (F.1 a i' h1 h2), F.2⟩
theorem cm_F.fR (F : cm_F h g t) : cm_F h (mx_uI g (.inr (t, 30)) 7 x) t := ⟨fun a i' h1 h2 => (if_neg h2).trans (F.1 a i' h1 h2), F.2⟩
theorem ne_o {o o' : Nat} (e : o ≠ o') : (Sum.inr (t, o) : mx_A) ≠ .inr (t, o') := fun q => by
  cases q
  exact e rfl
/-- the sum over a corner's links, on the class's side -/
theorem M48 (N : nt_N hc k t C) (V : nt_V k C) (F : cm_F hc g t) (h3 : a3.toInt = (a : Int)) (ha : a < C) : ∀ (j c : Nat) (a4 a5 : Int32), c + j = C → a5.toInt = (c : Int) → a4.toInt = rD k (.inl 129) a + zs k a c → ∃ a' : Int32, g28_48 t a1 a2 a3 a4 a5 g = g28_83 t a1 a2 a3 a' 0 g ∧ a'.toInt = rD k (.inl 129) a + zs k a C
  | 0, c, a4, a5, e, h5, h4 => by
    refine ⟨a4, ?_, (show c = C by omega) ▸ h4⟩
    rw [g28_48_eq, if_pos (show g.2.1 (.inr (t, 30)) 0 ≤ a5 from i_le (p := (C : Int)) (by rw [F.1 _ _ (ne_o (by decide +kernel)) (fun q => absurd q.2 (by decide +kernel))]; exact N.2.1) h5 (by omega))]
  | j + 1, c, a4, a5, e, h5, h4 => by
    have C6 := N.1
    obtain ⟨b1, b2⟩ := (V.2 a c ha (by omega)).1
    obtain ⟨b3, b4⟩ := zs_b V ha c (by omega)
    obtain ⟨b5, b6⟩ := (V.1 a ha).1
    have w := w6 h3 h5 (show a ≤ 12 by omega) (show c < 6 by omega)
    have ln : g.2.1 (.inr (t, 34)) (6 * a + c) = k.2.1 (.inl 131) (6 * a + c) := (F.1 _ _ (ne_o (by decide +kernel)) (fun q => absurd q.1 (ne_o (by decide +kernel)))).trans (N.2.2.2.2 a c ha (by omega))
    have h4' := i_add h4 (show (k.2.1 (.inl 131) (6 * a + c)).toInt = rD k (.inl 131) (6 * a + c) from rfl) (by omega) (by omega)
    rw [g28_48_eq, if_neg (show ¬ g.2.1 (.inr (t, 30)) 0 ≤ a5 from i_nle (p := (C : Int)) (by rw [F.1 _ _ (ne_o (by decide +kernel)) (fun q => absurd q.2 (by decide +kernel))]; exact N.2.1) h5 (by omega)), i_cl w, ln]
    exact M48 N V F h3 ha j (c + 1) _ (a5 + 1) (by omega) ((i_add h5 k_1 (by omega) (by omega)).trans (by omega)) (h4'.trans (by
      have zz : zs k a (c + 1) = zs k a c + rD k (.inl 131) (6 * a + c) := rfl
      omega))
/-- the links to the rows before, on the class's side -/
theorem M83 (N : nt_N hc k t C) (V : nt_V k C) (F : cm_F hc g0 t) (h2 : a2.toInt = q) (q1 : 1 ≤ q) (q9 : q ≤ 9) (h3 : a3.toInt = (a : Int)) (ha : a < C) (hn : rD g0 (.inr (t, 30)) 7 = n) (n6 : n < 6) (hL : n = L.length) (LC : ∀ x ∈ L, x < C) (fr : ∀ i, i < n → rD g0 (.inr (t, 36)) i = (L.getD i 0 : Nat)) : ∀ (j r : Nat) (a5 : Int32) {g : mx_H}, r + j = n → a5.toInt = (r : Int) → sm g g0 → ∃ g', g28_83 t a1 a2 a3 a4 a5 g = g28_7 t a1 a2 (a3 + 1) (mx_uI (mx_uL g' (.inr (t, 37)) (6 * n + n) (Int32.toInt64 (a2 * a4 - a1 * g0.2.1 (.inr (t, 31)) a))) (.inr (t, 30)) 7 (g0.2.1 (.inr (t, 30)) 7 + 1)) ∧ sm g' g0 ∧ (∀ a i, a ≠ .inr (t, 37) → g'.2.2.1 a i = g.2.2.1 a i) ∧ (∀ i j, i < n → j < n → g'.2.2.1 (.inr (t, 37)) (6 * i + j) = g.2.2.1 (.inr (t, 37)) (6 * i + j)) ∧ (∀ i, i < r → g'.2.2.1 (.inr (t, 37)) (6 * i + n) = g.2.2.1 (.inr (t, 37)) (6 * i + n) ∧ g'.2.2.1 (.inr (t, 37)) (6 * n + i) = g.2.2.1 (.inr (t, 37)) (6 * n + i)) ∧ ∀ i, r ≤ i → i < n → g'.2.2.1 (.inr (t, 37)) (6 * i + n) = Int64.ofInt (-q * rD k (.inl 131) (6 * a + L.getD i 0)) ∧ g'.2.2.1 (.inr (t, 37)) (6 * n + i) = Int64.ofInt (-q * rD k (.inl 131) (6 * a + L.getD i 0))
  | 0, r, a5, g, e, h5, eg => by
    have w := w6 hn hn (show n ≤ 12 by omega) n6
    refine ⟨g, ?_, eg, fun _ _ _ => rfl, fun _ _ _ _ => rfl, fun _ _ => ⟨rfl, rfl⟩, fun i l1 l2 => by omega⟩
    rw [g28_83_eq, eg.1, if_pos (i_le hn h5 (by omega)), i_cl w, i_cl h3]
    show g28_7 t a1 a2 (a3 + 1) (mx_uI _ (.inr (t, 30)) 7 (g.2.1 (.inr (t, 30)) 7 + 1)) = _
    rw [eg.1]
  | j + 1, r, a5, g, e, h5, eg => by
    have C6 := N.1
    have rn : r < n := by omega
    have fr' : (g0.2.1 (.inr (t, 36)) r).toInt = ((L.getD r 0 : Nat) : Int) := fr r rn
    have lc : L.getD r 0 < C := by
      refine LC _ ?_
      rw [List.getD_eq_getElem?_getD, List.getElem?_eq_getElem (by omega)]
      exact List.getElem_mem _
    have w1 := w6 h3 fr' (show a ≤ 12 by omega) (show L.getD r 0 < 6 by omega)
    have w2 := w6 h5 hn (show r ≤ 12 by omega) n6
    have w3 := w6 hn h5 (show n ≤ 12 by omega) (show r < 6 by omega)
    have ln : g0.2.1 (.inr (t, 34)) (6 * a + L.getD r 0) = k.2.1 (.inl 131) (6 * a + L.getD r 0) := (F.1 _ _ (ne_o (by decide +kernel)) (fun q => absurd q.1 (ne_o (by decide +kernel)))).trans (N.2.2.2.2 a _ ha lc)
    obtain ⟨b1, b2⟩ := (V.2 a _ ha lc).1
    have hq : (-a2).toInt = -q := by
      rw [← Int32.zero_sub]
      exact (i_sub k_0 h2 (by omega) (by omega)).trans (by omega)
    have hv : (-a2 * k.2.1 (.inl 131) (6 * a + L.getD r 0)).toInt = -q * rD k (.inl 131) (6 * a + L.getD r 0) := by
      have e1 : ∀ m : Int, 0 ≤ m → m ≤ 9 → -2147483648 ≤ -q * m ∧ -q * m ≤ 2147483647 := fun m m1 m2 => by
        have t1 : 0 ≤ q * m := Int.mul_nonneg (by omega) m1
        have t2 : q * m ≤ 9 * 9 := Int.mul_le_mul q9 m2 m1 (by decide +kernel)
        rw [Int.neg_mul]
        omega
      obtain ⟨z1, z2⟩ := e1 _ b1 b2
      exact i_mul hq rfl z1 z2
    obtain ⟨g', q1', q2, q3, q4, q5, q6⟩ := M83 N V F h2 q1 q9 h3 ha hn n6 hL LC fr j (r + 1) (a5 + 1) (g := mx_uL (mx_uL g (.inr (t, 37)) (6 * r + n) (Int64.ofInt (-q * rD k (.inl 131) (6 * a + L.getD r 0)))) (.inr (t, 37)) (6 * n + r) (Int64.ofInt (-q * rD k (.inl 131) (6 * a + L.getD r 0)))) (by omega) ((i_add h5 k_1 (by omega) (by omega)).trans (by omega)) eg
    refine ⟨g', ?_, q2, fun a i ha => ?_, fun i j hi hj => ?_, fun i hi => ?_, fun i l1 l2 => ?_⟩
    · rw [g28_83_eq, eg.1, if_neg (i_nle hn h5 (by omega)), i_cl h5, i_cl w1, ln, i64_32, hv, i_cl w2]
      show g28_83 t a1 a2 a3 a4 (a5 + 1) (mx_uL _ (.inr (t, 37)) (Int32.toNatClampNeg (6 * g.2.1 (.inr (t, 30)) 7 + a5)) _) = _
      rw [eg.1, i_cl w3]
      exact q1'
    · rw [q3 a i ha, rL_a ha, rL_a ha]
    · rw [q4 i j hi hj, rL_i (by omega), rL_i (by omega)]
    · obtain ⟨z1, z2⟩ := q5 i (by omega)
      rw [z1, z2, rL_i (by omega), rL_i (by omega), rL_i (by omega), rL_i (by omega)]
      exact ⟨rfl, rfl⟩
    · by_cases ir : i = r
      · subst ir
        obtain ⟨z1, z2⟩ := q5 i (by omega)
        rw [z1, z2, rL_s, rL_i (by omega), rL_s]
        exact ⟨rfl, rfl⟩
      · exact q6 i (by omega) l2
/-- the class's matrix so far: rows of the free corners among the first c -/
def ma_C (hc k g : mx_H) (t C c : Nat) (p q : Int) : Prop := cm_F hc g t ∧ (∀ b i, b ≠ .inr (t, 37) → g.2.2.1 b i = hc.2.2.1 b i) ∧ rD g (.inr (t, 30)) 7 = (fl k c).length ∧ (∀ i, i < (fl k c).length → rD g (.inr (t, 36)) i = ((fl k c).getD i 0 : Nat)) ∧ ∀ i j, i < (fl k c).length → j < (fl k c).length → g.2.2.1 (.inr (t, 37)) (6 * i + j) = Int64.ofInt (zm k (fl k c) C p q i j)
theorem M7 (N : nt_N hc k t C) (V : nt_V k C) (h1 : a1.toInt = p) (p0 : 0 ≤ p) (p9 : p ≤ 99) (h2 : a2.toInt = q) (q1 : 1 ≤ q) (q9 : q ≤ 9) : ∀ (j c : Nat) (a3 : Int32) {g : mx_H}, c + j = C → a3.toInt = (c : Int) → ma_C hc k g t C c p q → ma_C hc k (g28_7 t a1 a2 a3 g) t C C p q
  | 0, c, a3, g, e, h3, M => by
    rw [g28_7_eq, if_pos (show g.2.1 (.inr (t, 30)) 0 ≤ a3 from i_le (p := (C : Int)) (by rw [M.1.1 _ _ (ne_o (by decide +kernel)) (fun q => absurd q.2 (by decide +kernel))]; exact N.2.1) h3 (by omega))]
    exact (show c = C by omega) ▸ M
  | j + 1, c, a3, g, e, h3, M => by
    have C6 := N.1
    have lt : c < C := by omega
    have h3' := (i_add h3 k_1 (by omega) (by omega)).trans (show (c : Int) + 1 = ((c + 1 : Nat) : Int) by omega)
    obtain ⟨F, M1, M2, M3, M4⟩ := id M
    obtain ⟨m1, ⟨m2, m3⟩, m4, m5⟩ := N.2.2.2.1 c lt
    have eh : g.2.1 (.inr (t, 33)) c = k.2.1 (.inl 130) c := (F.1 _ _ (ne_o (by decide +kernel)) (fun q => absurd q.1 (ne_o (by decide +kernel)))).trans m5
    rw [g28_7_eq, if_neg (show ¬ g.2.1 (.inr (t, 30)) 0 ≤ a3 from i_nle (p := (C : Int)) (by rw [F.1 _ _ (ne_o (by decide +kernel)) (fun q => absurd q.2 (by decide +kernel))]; exact N.2.1) h3 (by omega)), i_cl h3, eh]
    by_cases z : k.2.1 (.inl 130) c = 0
    · have fe : fl k (c + 1) = fl k c ++ [c] := by
        rw [fl, if_pos z]
      have len := fl_len (k := k) c
      rw [if_pos z, i_cl M2]
      have ep : (mx_uI g (.inr (t, 36)) (fl k c).length a3).2.1 (.inr (t, 32)) c = k.2.1 (.inl 129) c := (rI_a (ne_o (by decide +kernel))).trans ((F.1 _ _ (ne_o (by decide +kernel)) (fun q => absurd q.1 (ne_o (by decide +kernel)))).trans m4)
      rw [ep]
      obtain ⟨a', e1, e2⟩ := M48 (a1 := a1) (a2 := a2) N V (F.fI (i := (fl k c).length) (x := a3)) h3 lt C 0 (k.2.1 (.inl 129) c) 0 (by omega) rfl (by unfold zs; exact (Int.add_zero _).symm)
      rw [e1]
      obtain ⟨g', e3, f1, f2, f3, f4, f5⟩ := M83 (a1 := a1) (a4 := a') (L := fl k c) (n := (fl k c).length) N V (F.fI (i := (fl k c).length) (x := a3)) h2 q1 q9 h3 lt (show rD (mx_uI g (.inr (t, 36)) (fl k c).length a3) (.inr (t, 30)) 7 = _ by
        unfold rD
        rw [rI_a (ne_o (by decide +kernel))]
        exact M2) (by omega) rfl (fun x hx => by have := fl_lt c x hx; omega) (fun i hi => by
        unfold rD
        rw [rI_i (by omega)]
        exact M3 i hi) (fl k c).length 0 0 (g := mx_uI g (.inr (t, 36)) (fl k c).length a3) (by omega) rfl sm.refl
      rw [e3]
      have ms : (mx_uI g (.inr (t, 36)) (fl k c).length a3).2.1 (.inr (t, 31)) c = k.2.1 (.inl 128) c := (rI_a (ne_o (by decide +kernel))).trans ((F.1 _ _ (ne_o (by decide +kernel)) (fun q => absurd q.1 (ne_o (by decide +kernel)))).trans m1)
      obtain ⟨b3, b4⟩ := zs_b V lt C (Nat.le_refl _)
      obtain ⟨b5, b6⟩ := (V.1 c lt).1
      have dg : (a2 * a' - a1 * (mx_uI g (.inr (t, 36)) (fl k c).length a3).2.1 (.inr (t, 31)) c).toInt = q * (rD k (.inl 129) c + zs k c C) - p * rD k (.inl 128) c := by
        rw [ms]
        have u1 : 0 ≤ q * (rD k (.inl 129) c + zs k c C) := Int.mul_nonneg (by omega) (by omega)
        have u2 : q * (rD k (.inl 129) c + zs k c C) ≤ 9 * 63 := Int.mul_le_mul q9 (by omega) (by omega) (by decide +kernel)
        have u3 : 0 ≤ p * rD k (.inl 128) c := Int.mul_nonneg p0 (by omega)
        have u4 : p * rD k (.inl 128) c ≤ 99 * 9 := Int.mul_le_mul p9 m3 (by omega) (by decide +kernel)
        exact i_sub (i_mul h2 e2 (by omega) (by omega)) (i_mul h1 (show (k.2.1 (.inl 128) c).toInt = rD k (.inl 128) c from rfl) (by omega) (by omega)) (by omega) (by omega)
      refine M7 N V h1 p0 p9 h2 q1 q9 j (c + 1) (a3 + 1) (by omega) h3' ⟨⟨fun b i n1 n2 => ?_, fun b i nb => ?_, f1.2.trans F.2.2⟩, fun b i nb => ?_, ?_, fun i hi => ?_, fun i j hi hj => ?_⟩
      · rw [if_neg n2 |> (fun z => (rI (mx_uL g' _ _ _) _ _ _ b i).trans z)]
        show g'.2.1 b i = _
        rw [f1.1]
        exact (rI_a n1).trans (F.1 b i n1 n2)
      · show (mx_uL g' _ _ _).2.2.1 b i = _
        rw [rL_a (nb 37 (by decide +kernel)), f2 b i (nb 37 (by decide +kernel))]
        exact F.2.1 b i nb
      · show (mx_uL g' _ _ _).2.2.1 b i = _
        rw [rL_a nb, f2 b i nb]
        exact M1 b i nb
      · rw [fe, List.length_append]
        unfold rD
        rw [rI_s, rI_a (ne_o (by decide +kernel))]
        exact (i_add M2 k_1 (by omega) (by omega)).trans (by show _ = (((fl k c).length + 1 : Nat) : Int); omega)
      · rw [fe, List.length_append] at hi
        have hi : i < (fl k c).length + 1 := hi
        unfold rD
        rw [rI_a (ne_o (by decide +kernel))]
        show (g'.2.1 (.inr (t, 36)) i).toInt = _
        rw [f1.1, fe]
        by_cases il : i = (fl k c).length
        · rw [il, fl_end, rI_s]
          exact h3
        · rw [rI_i il, fl_get (by omega)]
          exact M3 i (by omega)
      · rw [fe, List.length_append] at hi hj
        have hi : i < (fl k c).length + 1 := hi
        have hj : j < (fl k c).length + 1 := hj
        show (mx_uL g' _ _ _).2.2.1 _ _ = _
        rw [fe]
        by_cases il : i = (fl k c).length
        · by_cases jl : j = (fl k c).length
          · rw [il, jl, rL_s, i64_32, dg]
            unfold zm
            rw [if_pos rfl, fl_end]
          · rw [il, rL_i (by omega), (f5 j (Nat.zero_le _) (by omega)).2]
            unfold zm
            rw [if_neg (fun z => jl z.symm), fl_end, fl_get (by omega)]
        · by_cases jl : j = (fl k c).length
          · rw [jl, rL_i (by omega), (f5 i (Nat.zero_le _) (by omega)).1]
            unfold zm
            rw [if_neg il, fl_end, fl_get (by omega), (V.2 c _ lt (by have := fl_gl (k := k) (c := c) (i := i) (by omega); omega)).2]
          · rw [rL_i (by omega), f3 i j (by omega) (by omega)]
            show (mx_uI g _ _ _).2.2.1 _ _ = _
            refine (M4 i j (by omega) (by omega)).trans ?_
            unfold zm
            rw [fl_get (by omega), fl_get (by omega)]
    · have fe : fl k (c + 1) = fl k c := by
        rw [fl, if_neg z]
      rw [if_neg z]
      exact M7 N V h1 p0 p9 h2 q1 q9 j (c + 1) (a3 + 1) (by omega) h3' (by
        unfold ma_C
        rw [fe]
        exact M)
end MA
/-! ===== the class's way to the sums ===== -/
section SU
variable {h g g0 k hc hr : mx_H} {C t c n r u kk : Nat} {a1 a2 a3 a4 a5 a6 a7 x y w : Int32} {l v : Int64} {V E : Nat → Int64} {M : Nat → Nat → Int64}
abbrev c64s (f : Nat → Int64) (n : Nat) : Int64 := gk_sum (· + ·) 0 f n
abbrev c64v (M : Nat → Nat → Int64) (r : Nat) (x : Nat → Int64) (i : Nat) : Int64 := gk_mv (· + ·) (· * ·) 0 M r x i
abbrev c64w (M : Nat → Nat → Int64) (r m : Nat) : Nat → Int64 := gk_w (· + ·) (· * ·) 0 M r m
abbrev c64F (M : Nat → Nat → Int64) (r k : Nat) : Int64 := gk_F (· + ·) (· * ·) (- ·) 0 1 M r k
abbrev c64N (M : Nat → Nat → Int64) (r : Nat) (E : Nat → Int64) (k : Nat) : Int64 := gk_N (· + ·) (· * ·) (- ·) 0 1 M r E k
abbrev c64E (M : Nat → Nat → Int64) (r k : Nat) : Int64 := gk_E (· + ·) (· * ·) (- ·) 0 1 M r k
theorem c64w_1 {m : Nat} : c64w M r (m + 1) = bif Nat.beq (m % 2) 0 then c64w M r m else c64v M r (c64w M r m) := rfl
theorem c64F_2 {m : Nat} : c64F M r (m + 2) = bif Nat.beq (m % 2) 0 then -(c64s (fun i => c64w M r m i * c64w M r m i) r) else c64s (fun i => c64w M r m i * c64v M r (c64w M r m) i) r := rfl
theorem L28 (h1 : a1.toInt = (r : Int)) (h2 : a2.toInt = ((6 * r : Nat) : Int)) (r6 : r < 6) : ∀ (j c : Nat) (a3 : Int32) {g : mx_H}, c + j = r → a3.toInt = (c : Int) → ∃ g', g30_28 t a1 a2 a3 g = g30_55 t a1 2 g' ∧ sm g' g ∧ (∀ b i, b ≠ .inr (t, 39) → g'.2.2.1 b i = g.2.2.1 b i) ∧ (∀ i, i < c → g'.2.2.1 (.inr (t, 39)) i = g.2.2.1 (.inr (t, 39)) i) ∧ ∀ i, c ≤ i → i < r → g'.2.2.1 (.inr (t, 39)) i = g.2.2.1 (.inr (t, 37)) (6 * r + i)
  | 0, c, a3, g, e, ha => by
    refine ⟨g, ?_, sm.refl, fun _ _ _ => rfl, fun _ _ => rfl, fun i l1 l2 => by omega⟩
    rw [g30_28_eq, if_pos (i_le h1 ha (by omega))]
  | j + 1, c, a3, g, e, ha => by
    have w1 : (a2 + a3).toInt = ((6 * r + c : Nat) : Int) := (i_add h2 ha (by omega) (by omega)).trans (by omega)
    obtain ⟨g', q1, q2, q3, q4, q5⟩ := L28 h1 h2 r6 j (c + 1) (a3 + 1) (g := mx_uL g (.inr (t, 39)) c (g.2.2.1 (.inr (t, 37)) (6 * r + c))) (by omega) ((i_add ha k_1 (by omega) (by omega)).trans (by omega))
    refine ⟨g', ?_, q2, fun b i hb => (q3 b i hb).trans (rL_a hb), fun i hi => (q4 i (by omega)).trans (rL_i (by omega)), fun i l1 l2 => ?_⟩
    · rw [g30_28_eq, if_neg (i_nle h1 ha (by omega)), i_cl ha, i_cl w1]
      exact q1
    · by_cases ic : i = c
      · subst ic
        rw [q4 i (by omega), rL_s]
      · rw [q5 i (by omega) l2, rL_a (ne_o (by decide +kernel))]
theorem L100 (h1 : a1.toInt = (r : Int)) (r6 : r < 6) (h5 : a5.toInt = (u : Int)) (ur : u < r) : ∀ (j c : Nat) (a6 : Int32) {g : mx_H}, c + j = r → a6.toInt = (c : Int) → (∀ j, j < r → g.2.2.1 (.inr (t, 37)) (6 * u + j) = M u j) → (∀ j, j < r → g.2.2.1 (.inr (t, 39)) j = V j) → g.2.2.1 (.inr (t, 40)) u = c64s (fun j => M u j * V j) c → ∃ g', g30_100 t a1 a3 a4 a5 a6 g = g30_78 t a1 a3 a4 (a5 + 1) g' ∧ sm g' g ∧ (∀ b i, ¬ (b = .inr (t, 40) ∧ i = u) → g'.2.2.1 b i = g.2.2.1 b i) ∧ g'.2.2.1 (.inr (t, 40)) u = c64v M r V u
  | 0, c, a6, g, e, ha, hM, hV, hu => by
    refine ⟨g, ?_, sm.refl, fun _ _ _ => rfl, ?_⟩
    · rw [g30_100_eq, if_pos (i_le h1 ha (by omega))]
    · rw [hu, show c = r by omega]
      rfl
  | j + 1, c, a6, g, e, ha, hM, hV, hu => by
    have w1 := w6 h5 ha (show u ≤ 12 by omega) (show c < 6 by omega)
    obtain ⟨g', q1, q2, q3, q4⟩ := L100 h1 r6 h5 ur j (c + 1) (a6 + 1) (g := mx_uL g (.inr (t, 40)) u (g.2.2.1 (.inr (t, 40)) u + g.2.2.1 (.inr (t, 37)) (6 * u + c) * g.2.2.1 (.inr (t, 39)) c)) (by omega) ((i_add ha k_1 (by omega) (by omega)).trans (by omega)) (fun j hj => (rL_a (ne_o (by decide +kernel))).trans (hM j hj)) (fun j hj => (rL_a (ne_o (by decide +kernel))).trans (hV j hj)) (by
      rw [rL_s, hu, hM c (by omega), hV c (by omega)]
      rfl)
    refine ⟨g', ?_, q2, fun b i hb => (q3 b i hb).trans (if_neg hb), q4⟩
    rw [g30_100_eq, if_neg (i_nle h1 ha (by omega)), i_cl h5, i_cl w1, i_cl ha]
    exact q1
theorem L78 (h1 : a1.toInt = (r : Int)) (r6 : r < 6) (h4 : a4 ≠ 0) : ∀ (j c : Nat) (a5 : Int32) {g : mx_H}, c + j = r → a5.toInt = (c : Int) → (∀ i j, i < r → j < r → g.2.2.1 (.inr (t, 37)) (6 * i + j) = M i j) → (∀ j, j < r → g.2.2.1 (.inr (t, 39)) j = V j) → ∃ g', g30_78 t a1 a3 a4 a5 g = g30_155 t a1 a3 a4 0 0 g' ∧ sm g' g ∧ (∀ b i, b ≠ .inr (t, 40) → g'.2.2.1 b i = g.2.2.1 b i) ∧ (∀ i, i < c → g'.2.2.1 (.inr (t, 40)) i = g.2.2.1 (.inr (t, 40)) i) ∧ ∀ i, c ≤ i → i < r → g'.2.2.1 (.inr (t, 40)) i = c64v M r V i
  | 0, c, a5, g, e, ha, hM, hV => by
    refine ⟨g, ?_, sm.refl, fun _ _ _ => rfl, fun _ _ => rfl, fun i l1 l2 => by omega⟩
    rw [g30_78_eq, if_pos (i_le h1 ha (by omega))]
  | j + 1, c, a5, g, e, ha, hM, hV => by
    obtain ⟨g1, p1, p2, p3, p4⟩ := L100 (t := t) (a3 := a3) (a4 := a4) (M := M) (V := V) h1 r6 ha (show c < r by omega) r 0 0 (g := mx_uL g (.inr (t, 40)) c 0) (by omega) rfl (fun j hj => (rL_a (ne_o (by decide +kernel))).trans (hM c j (by omega) hj)) (fun j hj => (rL_a (ne_o (by decide +kernel))).trans (hV j hj)) rL_s
    have f : ∀ b i, ¬ (b = .inr (t, 40) ∧ i = c) → g1.2.2.1 b i = g.2.2.1 b i := fun b i hb => (p3 b i hb).trans (if_neg hb)
    obtain ⟨g', q1, q2, q3, q4, q5⟩ := L78 h1 r6 h4 j (c + 1) (a5 + 1) (g := g1) (by omega) ((i_add ha k_1 (by omega) (by omega)).trans (by omega)) (fun i j hi hj => (f _ _ (fun z => absurd z.1 (ne_o (by decide +kernel)))).trans (hM i j hi hj)) (fun j hj => (f _ _ (fun z => absurd z.1 (ne_o (by decide +kernel)))).trans (hV j hj))
    refine ⟨g', ?_, q2.trans p2, fun b i hb => (q3 b i hb).trans (f b i (fun z => hb z.1)), fun i hi => (q4 i (by omega)).trans (f _ i (fun z => by omega)), fun i l1 l2 => ?_⟩
    · rw [g30_78_eq, if_neg (i_nle h1 ha (by omega)), if_neg h4, i_cl ha, p1]
      exact q1
    · by_cases ic : i = c
      · subst ic
        rw [q4 i (by omega), p4]
      · exact q5 i (by omega) l2
theorem L155 (h1 : a1.toInt = (r : Int)) (r6 : r < 6) (h3 : a3.toInt = (kk : Int)) {f : Nat → Int64} (hf : ∀ i, i < r → f i = g.2.2.1 (.inr (t, 39)) i * (if a4 = 0 then g.2.2.1 (.inr (t, 39)) i else g.2.2.1 (.inr (t, 40)) i)) : ∀ (j c : Nat) (a5 : Int64) (a7 : Int32), c + j = r → a7.toInt = (c : Int) → a5 = c64s f c → g30_155 t a1 a3 a4 a5 a7 g = g30_224 t a1 a3 a4 0 (mx_uL g (.inr (t, 38)) kk (if a4 = 0 then -(c64s f r) else c64s f r))
  | 0, c, a5, a7, e, ha, h5 => by
    have ec : c = r := by omega
    subst ec
    rw [g30_155_eq, if_pos (i_le h1 ha (by omega)), i_cl h3, h5]
    by_cases z : a4 = 0
    · rw [if_pos z, if_pos z]
    · rw [if_neg z, if_neg z]
  | j + 1, c, a5, a7, e, ha, h5 => by
    have ih := fun v (hv : v = c64s f (c + 1)) => L155 h1 r6 h3 hf j (c + 1) v (a7 + 1) (by omega) ((i_add ha k_1 (by omega) (by omega)).trans (by omega)) hv
    have hfc := hf c (by omega)
    rw [g30_155_eq, if_neg (i_nle h1 ha (by omega)), i_cl ha]
    by_cases z : a4 = 0
    · rw [if_pos z]
      rw [if_pos z] at hfc
      refine ih _ ?_
      rw [h5, ← hfc]
      rfl
    · rw [if_neg z]
      rw [if_neg z] at hfc
      refine ih _ ?_
      rw [h5, ← hfc]
      rfl
theorem L224 (h1 : a1.toInt = (r : Int)) (r6 : r < 6) (h4 : a4 ≠ 0) : ∀ (j c : Nat) (a7 : Int32) {g : mx_H}, c + j = r → a7.toInt = (c : Int) → ∃ g', g30_224 t a1 a3 a4 a7 g = g30_55 t a1 (a3 + 1) g' ∧ sm g' g ∧ (∀ b i, b ≠ .inr (t, 39) → g'.2.2.1 b i = g.2.2.1 b i) ∧ (∀ i, i < c → g'.2.2.1 (.inr (t, 39)) i = g.2.2.1 (.inr (t, 39)) i) ∧ ∀ i, c ≤ i → i < r → g'.2.2.1 (.inr (t, 39)) i = g.2.2.1 (.inr (t, 40)) i
  | 0, c, a7, g, e, ha => by
    refine ⟨g, ?_, sm.refl, fun _ _ _ => rfl, fun _ _ => rfl, fun i l1 l2 => by omega⟩
    rw [g30_224_eq, if_pos (i_le h1 ha (by omega))]
  | j + 1, c, a7, g, e, ha => by
    obtain ⟨g', q1, q2, q3, q4, q5⟩ := L224 h1 r6 h4 j (c + 1) (a7 + 1) (g := mx_uL g (.inr (t, 39)) c (g.2.2.1 (.inr (t, 40)) c)) (by omega) ((i_add ha k_1 (by omega) (by omega)).trans (by omega))
    refine ⟨g', ?_, q2, fun b i hb => (q3 b i hb).trans (rL_a hb), fun i hi => (q4 i (by omega)).trans (rL_i (by omega)), fun i l1 l2 => ?_⟩
    · rw [g30_224_eq, if_neg (i_nle h1 ha (by omega)), if_neg h4, i_cl ha]
      exact q1
    · by_cases ic : i = c
      · subst ic
        rw [q4 i (by omega), rL_s]
      · rw [q5 i (by omega) l2, rL_a (ne_o (by decide +kernel))]
/-- what row r brings, so far -/
def su_F (g0 g : mx_H) (t n r kk : Nat) (M : Nat → Nat → Int64) : Prop := sm g g0 ∧ (∀ b i, b ≠ .inr (t, 38) → b ≠ .inr (t, 39) → b ≠ .inr (t, 40) → g.2.2.1 b i = g0.2.2.1 b i) ∧ (∀ i j, i < n → j < n → g.2.2.1 (.inr (t, 37)) (6 * i + j) = M i j) ∧ ∀ i, i < kk → g.2.2.1 (.inr (t, 38)) i = c64F M r i
theorem L55 (h1 : a1.toInt = (r : Int)) (r6 : r < 6) (rn : r < n) : ∀ (j m : Nat) (a3 : Int32) {g : mx_H}, m + j = r → a3.toInt = ((m + 2 : Nat) : Int) → su_F g0 g t n r (m + 2) M → (∀ i, i < r → g.2.2.1 (.inr (t, 39)) i = c64w M r m i) → su_F g0 (g30_55 t a1 a3 g) t n r (r + 2) M
  | 0, m, a3, g, e, h3, S, W => by
    rw [g30_55_eq, if_pos (i_lt (i_add h1 k_1 (by omega) (by omega)) h3 (by omega))]
    exact (show m = r by omega) ▸ S
  | j + 1, m, a3, g, e, h3, S, W => by
    obtain ⟨S1, S2, S3, S4⟩ := S
    have h3' := (i_add h3 k_1 (by omega) (by omega)).trans (show ((m + 2 : Nat) : Int) + 1 = ((m + 1 + 2 : Nat) : Int) by omega)
    have dv := i_div (y := 2) (q := 2) h3 rfl
    have pr : (a3 - a3 / 2 * 2).toInt = (((m + 2) % 2 : Nat) : Int) := by
      rw [i_sub h3 (i_mul dv k_2 (by omega) (by omega)) (by omega) (by omega)]
      omega
    rw [g30_55_eq, if_neg (i_nlt (i_add h1 k_1 (by omega) (by omega)) h3 (by omega))]
    by_cases z : m % 2 = 0
    · have eF : c64F M r (m + 2) = -(c64s (fun i => c64w M r m i * c64w M r m i) r) := by
        rw [c64F_2, show Nat.beq (m % 2) 0 = true by rw [z]; rfl]
        rfl
      have eW : c64w M r (m + 1) = c64w M r m := by
        rw [c64w_1, show Nat.beq (m % 2) 0 = true by rw [z]; rfl]
        rfl
      rw [if_pos (i_eq pr k_0 (by omega)), g30_78_eq, if_pos rfl, ite_self, L155 (f := fun i => c64w M r m i * c64w M r m i) h1 r6 h3 (fun i hi => by rw [if_pos rfl, W i hi]) r 0 0 0 (by omega) rfl rfl, if_pos rfl, g30_224_eq, if_pos rfl, ite_self]
      refine L55 h1 r6 rn j (m + 1) (a3 + 1) (by omega) h3' ⟨S1, fun b i b1 b2 b3 => (rL_a b1).trans (S2 b i b1 b2 b3), fun i j hi hj => (rL_a (ne_o (by decide +kernel))).trans (S3 i j hi hj), fun i hi => ?_⟩ (fun i hi => ?_)
      · by_cases im : i = m + 2
        · rw [im, rL_s, eF]
        · rw [rL_i im]
          exact S4 i (by omega)
      · rw [rL_a (ne_o (by decide +kernel)), eW]
        exact W i hi
    · have nb : Nat.beq (m % 2) 0 = false := by
        cases q : Nat.beq (m % 2) 0 with
        | true => exact absurd (Nat.eq_of_beq_eq_true q) z
        | false => rfl
      have eF : c64F M r (m + 2) = c64s (fun i => c64w M r m i * c64v M r (c64w M r m) i) r := by
        rw [c64F_2, nb]
        rfl
      have eW : ∀ i, c64w M r (m + 1) i = c64v M r (c64w M r m) i := fun i => by
        rw [c64w_1, nb]
        rfl
      rw [if_neg (i_ne pr k_0 (by omega))]
      obtain ⟨g1, p1, p2, p3, p4, p5⟩ := L78 (t := t) (a3 := a3) (a4 := 1) (M := M) (V := c64w M r m) h1 r6 n10 r 0 0 (g := g) (by omega) rfl (fun i j hi hj => S3 i j (by omega) (by omega)) W
      have W1 : ∀ i, i < r → g1.2.2.1 (.inr (t, 39)) i = c64w M r m i := fun i hi => (p3 _ _ (ne_o (by decide +kernel))).trans (W i hi)
      rw [p1, L155 (f := fun i => c64w M r m i * c64v M r (c64w M r m) i) h1 r6 h3 (fun i hi => by rw [if_neg n10, W1 i hi, p5 i (Nat.zero_le _) hi]) r 0 0 0 (by omega) rfl rfl, if_neg n10]
      obtain ⟨g2, q1, q2, q3, q4, q5⟩ := L224 (t := t) (a3 := a3) (a4 := 1) h1 r6 n10 r 0 0 (g := mx_uL g1 (.inr (t, 38)) (m + 2) (c64s (fun i => c64w M r m i * c64v M r (c64w M r m) i) r)) (by omega) rfl
      rw [q1]
      refine L55 h1 r6 rn j (m + 1) (a3 + 1) (by omega) h3' ⟨?_, fun b i b1 b2 b3 => (q3 b i b2).trans ((rL_a b1).trans ((p3 b i b3).trans (S2 b i b1 b2 b3))), fun i j hi hj => (q3 _ _ (ne_o (by decide +kernel))).trans ((rL_a (ne_o (by decide +kernel))).trans ((p3 _ _ (ne_o (by decide +kernel))).trans (S3 i j hi hj))), fun i hi => ?_⟩ (fun i hi => ?_)
      · exact (show sm g2 g1 from q2).trans (p2.trans S1)
      · rw [q3 _ _ (ne_o (by decide +kernel))]
        by_cases im : i = m + 2
        · rw [im, rL_s, eF]
        · rw [rL_i im, p3 _ _ (ne_o (by decide +kernel))]
          exact S4 i (by omega)
      · rw [q5 i (Nat.zero_le _) hi, rL_a (ne_o (by decide +kernel)), p5 i (Nat.zero_le _) hi, eW]
theorem S30 (h1 : a1.toInt = (r : Int)) (r6 : r < 6) (rn : r < n) (hM : ∀ i j, i < n → j < n → g.2.2.1 (.inr (t, 37)) (6 * i + j) = M i j) : su_F g (f30 t a1 g) t n r (r + 2) M := by
  have w1 : (6 * a1).toInt = ((6 * r : Nat) : Int) := (i_mul k_6 h1 (by omega) (by omega)).trans (by omega)
  have w2 := w6 h1 h1 (show r ≤ 12 by omega) r6
  obtain ⟨g', q1, q2, q3, q4, q5⟩ := L28 (t := t) h1 w1 r6 r 0 0 (g := mx_uL (mx_uL g (.inr (t, 38)) 0 1) (.inr (t, 38)) 1 (g.2.2.1 (.inr (t, 37)) (6 * r + r))) (by omega) rfl
  have e : f30 t a1 g = g30_55 t a1 2 g' := by
    rw [f30_eq, i_cl w2, rL_a (ne_o (by decide +kernel))]
    exact q1
  rw [e]
  have fr : ∀ b i, b ≠ .inr (t, 38) → b ≠ .inr (t, 39) → g'.2.2.1 b i = g.2.2.1 b i := fun b i b1 b2 => (q3 b i b2).trans ((rL_a b1).trans (rL_a b1))
  refine L55 h1 r6 rn r 0 2 (by omega) rfl ⟨q2, fun b i b1 b2 _ => fr b i b1 b2, fun i j hi hj => (fr _ _ (ne_o (by decide +kernel)) (ne_o (by decide +kernel))).trans (hM i j hi hj), fun i hi => ?_⟩ (fun i hi => ?_)
  · rw [q3 _ _ (ne_o (by decide +kernel))]
    rcases (show i = 0 ∨ i = 1 by omega) with z | z
    · rw [z, rL_i (by decide +kernel), rL_s]
      rfl
    · rw [z, rL_s, hM r r rn rn]
      rfl
  · rw [q5 i (Nat.zero_le _) hi, rL_a (ne_o (by decide +kernel)), rL_a (ne_o (by decide +kernel)), hM r i rn (by omega)]
    rfl
/-- one sum -/
theorem L44 (h3 : a3.toInt = (r : Int)) (r6 : r < 6) (h4 : a4.toInt = (kk : Int)) (k6 : kk ≤ 6) {F E : Nat → Int64} (hF : ∀ i, i ≤ kk → g.2.2.1 (.inr (t, 38)) i = F i) (hE : ∀ i, i ≤ kk → i ≤ r → g.2.2.1 (.inr (t, 35)) i = E i) : ∀ (j c : Nat) (a5 : Int64) (a7 : Int32), c + j = min kk r + 1 → a7.toInt = (c : Int) → a5 = c64s (fun j => F (kk - j) * E j) c → g29_44 t a3 a4 a5 a7 g = g29_33 t a3 (a4 + (-1)) (mx_uL g (.inr (t, 35)) kk (c64s (fun j => F (kk - j) * E j) (min kk r + 1)))
  | 0, c, a5, a7, e, h7, h5 => by
    have ec : c = min kk r + 1 := by omega
    subst ec
    rw [g29_44_eq, i_cl h4, h5]
    by_cases z : kk ≤ r
    · rw [if_pos (i_lt h4 h7 (by omega))]
    · rw [if_neg (i_nlt h4 h7 (by omega)), if_pos (i_lt h3 h7 (by omega))]
  | j + 1, c, a5, a7, e, h7, h5 => by
    have w1 : (a4 - a7).toInt = ((kk - c : Nat) : Int) := (i_sub h4 h7 (by omega) (by omega)).trans (by omega)
    rw [g29_44_eq, if_neg (i_nlt h4 h7 (by omega)), if_neg (i_nlt h3 h7 (by omega)), i_cl w1, i_cl h7, hF _ (by omega), hE c (by omega) (by omega)]
    refine L44 h3 r6 h4 k6 hF hE j (c + 1) _ (a7 + 1) (by omega) ((i_add h7 k_1 (by omega) (by omega)).trans (by omega)) ?_
    rw [h5]
    rfl
/-- a row's sums, from the last to the first -/
theorem L33 (h3 : a3.toInt = (r : Int)) (r6 : r < 6) (hF : ∀ i, i ≤ r + 1 → g0.2.2.1 (.inr (t, 38)) i = c64F M r i) : ∀ (kk : Nat) (a4 : Int32) {g : mx_H}, kk ≤ r + 1 → a4.toInt = (kk : Int) → sm g g0 → (∀ b i, b ≠ .inr (t, 35) → g.2.2.1 b i = g0.2.2.1 b i) → (∀ i, i ≤ kk → i ≤ r → g.2.2.1 (.inr (t, 35)) i = E i) → (∀ i, kk < i → i ≤ r + 1 → g.2.2.1 (.inr (t, 35)) i = c64N M r E i) → ∃ g', g29_33 t a3 a4 g = g29_15 t (a3 + 1) g' ∧ sm g' g0 ∧ (∀ b i, b ≠ .inr (t, 35) → g'.2.2.1 b i = g0.2.2.1 b i) ∧ g'.2.2.1 (.inr (t, 35)) 0 = E 0 ∧ ∀ i, 0 < i → i ≤ r + 1 → g'.2.2.1 (.inr (t, 35)) i = c64N M r E i
  | 0, a4, g, _, h4, G1, G2, G3, G4 => by
    refine ⟨g, ?_, G1, G2, G3 0 (Nat.le_refl _) (Nat.zero_le _), G4⟩
    rw [g29_33_eq, if_pos (i_le h4 k_0 (by decide +kernel))]
  | kk + 1, a4, g, hk, h4, G1, G2, G3, G4 => by
    have h4' := (i_add h4 k_m1 (by omega) (by omega)).trans (show ((kk + 1 : Nat) : Int) + -1 = (kk : Int) by omega)
    rw [g29_33_eq, if_neg (i_nle h4 k_0 (by omega)), L44 (F := c64F M r) (E := E) h3 r6 h4 (by omega) (fun i hi => (G2 _ _ (ne_o (by decide +kernel))).trans (hF i (by omega))) G3 (min (kk + 1) r + 1) 0 0 0 (by omega) rfl rfl]
    refine L33 h3 r6 hF kk (a4 + -1) (by omega) h4' G1 (fun b i hb => (rL_a hb).trans (G2 b i hb)) (fun i l1 l2 => ?_) (fun i l1 l2 => ?_)
    · rw [rL_i (by omega)]
      exact G3 i (by omega) l2
    · by_cases ik : i = kk + 1
      · rw [ik, rL_s]
        rfl
      · rw [rL_i ik]
        exact G4 i (by omega) l2
/-- all rows -/
theorem L15 (n6 : n ≤ 6) : ∀ (j r : Nat) (a3 : Int32) {g : mx_H}, r + j = n → a3.toInt = (r : Int) → rD g (.inr (t, 30)) 7 = n → (∀ i j, i < n → j < n → g.2.2.1 (.inr (t, 37)) (6 * i + j) = M i j) → (∀ i, i ≤ r → g.2.2.1 (.inr (t, 35)) i = c64E M r i) → sm (g29_15 t a3 g) g ∧ (∀ b i, (∀ o, 35 ≤ o → b ≠ .inr (t, o)) → (g29_15 t a3 g).2.2.1 b i = g.2.2.1 b i) ∧ ∀ i, i ≤ n → (g29_15 t a3 g).2.2.1 (.inr (t, 35)) i = c64E M n i
  | 0, r, a3, g, e, h3, hn, hM, hE => by
    rw [g29_15_eq, if_pos (i_le hn h3 (by omega))]
    exact ⟨sm.refl, fun _ _ _ => rfl, (show r = n by omega) ▸ hE⟩
  | j + 1, r, a3, g, e, h3, hn, hM, hE => by
    have h3' := (i_add h3 k_1 (by omega) (by omega)).trans (show (r : Int) + 1 = ((r + 1 : Nat) : Int) by omega)
    obtain ⟨S1, S2, S3, S4⟩ := S30 (t := t) (n := n) (M := M) (g := g) h3 (show r < 6 by omega) (by omega) hM
    obtain ⟨g', q1, q2, q3, q4, q5⟩ := L33 (t := t) (M := M) (g0 := f30 t a3 g) (E := c64E M r) h3 (show r < 6 by omega) (fun i hi => S4 i (by omega)) (r + 1) (a3 + 1) (g := f30 t a3 g) (Nat.le_refl _) h3' sm.refl (fun _ _ _ => rfl) (fun i _ l2 => (S2 _ _ (ne_o (by decide +kernel)) (ne_o (by decide +kernel)) (ne_o (by decide +kernel))).trans (hE i l2)) (fun i l1 l2 => by omega)
    have st : g29_15 t a3 g = g29_15 t (a3 + 1) g' := by
      rw [g29_15_eq, if_neg (i_nle hn h3 (by omega))]
      exact q1
    rw [st]
    obtain ⟨z1, z2, z3⟩ := L15 n6 j (r + 1) (a3 + 1) (g := g') (by omega) h3' (by
      unfold rD
      rw [q2.1, S1.1]
      exact hn) (fun i j hi hj => (q3 _ _ (ne_o (by decide +kernel))).trans (S3 i j hi hj)) (fun i hi => by
      by_cases z : i = 0
      · rw [z, q4]
        cases r <;> rfl
      · obtain ⟨i', rfl⟩ : ∃ i', i = i' + 1 := ⟨i - 1, by omega⟩
        rw [q5 _ (by omega) hi]
        rfl)
    exact ⟨z1.trans (q2.trans S1), fun b i hb => (z2 b i hb).trans ((q3 b i (hb 35 (by decide +kernel))).trans (S2 b i (hb 38 (by decide +kernel)) (hb 39 (by decide +kernel)) (hb 40 (by decide +kernel)))), z3⟩
/-- the sums of minors, on the class's side -/
theorem S29 {p q : Int} (N : nt_N hc k t C) (V : nt_V k C) (h1 : a1.toInt = p) (p0 : 0 ≤ p) (p9 : p ≤ 99) (h2 : a2.toInt = q) (q1 : 1 ≤ q) (q9 : q ≤ 9) : cm_F hc (f29 t a1 a2 hc) t ∧ rD (f29 t a1 a2 hc) (.inr (t, 30)) 7 = (fl k C).length ∧ (∀ i, i < (fl k C).length → rD (f29 t a1 a2 hc) (.inr (t, 36)) i = ((fl k C).getD i 0 : Nat)) ∧ ∀ i, i ≤ (fl k C).length → (f29 t a1 a2 hc).2.2.1 (.inr (t, 35)) i = Int64.ofInt (zE (zB (zm k (fl k C) C p q)) (fl k C).length i) := by
  have C6 := N.1
  have len := fl_len (k := k) C
  have M := M7 (hc := hc) N V h1 p0 p9 h2 q1 q9 C 0 0 (g := mx_uI hc (.inr (t, 30)) 7 0) (by omega) rfl ⟨cm_F.refl.fR, fun _ _ _ => rfl, by
    unfold rD
    rw [rI_s]
    rfl, fun i hi => absurd hi (Nat.not_lt_zero _), fun i j hi _ => absurd hi (Nat.not_lt_zero _)⟩
  rw [← f28_eq] at M
  obtain ⟨F, M1, M2, M3, M4⟩ := M
  obtain ⟨z1, z2, z3⟩ := L15 (t := t) (M := fun i j => Int64.ofInt (zB (zm k (fl k C) C p q) i j)) (n := (fl k C).length) (by omega) (fl k C).length 0 0 (g := mx_uL (f28 t a1 a2 hc) (.inr (t, 35)) 0 1) (by omega) rfl M2 (fun i j hi hj => by
    rw [rL_a (ne_o (by decide +kernel)), M4 i j hi hj, zB_e (by omega) (by omega)]
    unfold zm
    by_cases ij : i = j
    · subst ij
      rfl
    · rw [if_neg ij, if_neg (fun z => ij z.symm), (V.2 _ _ (fl_gl hi) (fl_gl hj)).2]) (fun i hi => by
    rw [show i = 0 by omega, rL_s]
    rfl)
  have e : f29 t a1 a2 hc = g29_15 t 0 (mx_uL (f28 t a1 a2 hc) (.inr (t, 35)) 0 1) := by
    rw [f29_eq]
    rfl
  rw [e]
  refine ⟨⟨fun b i n1 n2 => ?_, fun b i nb => ?_, z1.2.trans F.2.2⟩, ?_, fun i hi => ?_, fun i hi => ?_⟩
  · rw [z1.1]
    exact F.1 b i n1 n2
  · rw [z2 b i nb, rL_a (nb 35 (by decide +kernel))]
    exact F.2.1 b i nb
  · unfold rD
    rw [z1.1]
    exact M2
  · unfold rD
    rw [z1.1]
    exact M3 i hi
  · rw [z3 i hi]
    exact gE_64 (by omega) hi
end SU
