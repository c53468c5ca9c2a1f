/-! ===== the matrix, on both sides ===== -/
section MA
/-- ints and references as they were -/
def sm (g h : mx_H) : Prop := g.2.1 = h.2.1 ∧ g.2.2.2 = h.2.2.2
theorem sm.refl {g : mx_H} : sm g g := ⟨rfl, rfl⟩
theorem sm.trans {g1 g2 g3 : mx_H} (A : sm g1 g2) (B : sm g2 g3) : sm g1 g3 := ⟨A.1.trans B.1, A.2.trans B.2⟩
variable {h g g0 k hc hr : mx_H} {C t c n a i j : Nat} {a1 a2 a3 a4 a5 a6 x y w : Int32} {l : Int64} {L : List Nat} {p q : Int} {b b' : mx_A}
theorem rL_s : (mx_uL h b i l).2.2.1 b i = l := if_pos ⟨rfl, rfl⟩
theorem rL_a (e : b' ≠ b) : (mx_uL h b i l).2.2.1 b' j = h.2.2.1 b' j := if_neg (fun q => e q.1)
theorem rL_i (e : j ≠ i) : (mx_uL h b i l).2.2.1 b' j = h.2.2.1 b' j := if_neg (fun q => e q.2)
theorem rL_c (e1 : b' = b) (e2 : j = i) : (mx_uL h b i l).2.2.1 b' j = l := if_pos ⟨e1, e2⟩
theorem i64_32 : Int32.toInt64 x = Int64.ofInt x.toInt := by
  rw [← Int32.toInt_toInt64, Int64.ofInt_toInt]
/-- the free corners among the first c -/
def fl (k : mx_H) : Nat → List Nat
  | 0 => []
  | c + 1 => if k.2.1 (.inl 130) c = 0 then fl k c ++ [c] else fl k c
theorem fl_lt : ∀ c, ∀ x ∈ fl k c, x < c
  | 0, x, hx => by cases hx
  | c + 1, x, hx => by
    unfold fl at hx
    by_cases z : k.2.1 (.inl 130) c = 0
    · rw [if_pos z] at hx
      rcases List.mem_append.mp hx with hx | hx
      · have := fl_lt c x hx
        omega
      · have := List.mem_singleton.mp hx
        omega
    · rw [if_neg z] at hx
      have := fl_lt c x hx
      omega
theorem fl_len : ∀ c, (fl k c).length ≤ c
  | 0 => Nat.le_refl _
  | c + 1 => by
    have := fl_len c
    unfold fl
    by_cases z : k.2.1 (.inl 130) c = 0
    · rw [if_pos z, List.length_append]
      show (fl k c).length + 1 ≤ c + 1
      omega
    · rw [if_neg z]
      omega
theorem fl_get (hi : i < L.length) : (L ++ [c]).getD i 0 = L.getD i 0 := by
  rw [List.getD_eq_getElem?_getD, List.getD_eq_getElem?_getD, List.getElem?_append_left hi]
theorem fl_end : (L ++ [c]).getD L.length 0 = c := by
  rw [List.getD_eq_getElem?_getD, List.getElem?_append_right (Nat.le_refl _), Nat.sub_self]
  rfl
theorem fl_gl (hi : i < (fl k c).length) : (fl k c).getD i 0 < c := by
  refine fl_lt (k := k) c _ ?_
  rw [List.getD_eq_getElem?_getD, List.getElem?_eq_getElem hi]
  exact List.getElem_mem hi
/-- what pulls at a corner: its pad and all links -/
def zs (k : mx_H) (a : Nat) : Nat → Int
  | 0 => 0
  | c + 1 => zs k a c + rD k (.inl 131) (6 * a + c)
/-- an entry, for the marks p and q -/
def zm (k : mx_H) (L : List Nat) (C : Nat) (p q : Int) (i j : Nat) : Int := if i = j then q * (rD k (.inl 129) (L.getD i 0) + zs k (L.getD i 0) C) - p * rD k (.inl 128) (L.getD i 0) else -q * rD k (.inl 131) (6 * L.getD i 0 + L.getD j 0)
/-- pads and links are small, and alike both ways -/
def nt_V (k : mx_H) (C : Nat) : Prop := (∀ i, i < C → (0 ≤ rD k (.inl 129) i ∧ rD k (.inl 129) i ≤ 9) ∧ 1 ≤ rD k (.inl 128) i ∧ rD k (.inl 128) i ≤ 9) ∧ ∀ i j, i < C → j < C → (0 ≤ rD k (.inl 131) (6 * i + j) ∧ rD k (.inl 131) (6 * i + j) ≤ 9) ∧ rD k (.inl 131) (6 * i + j) = rD k (.inl 131) (6 * j + i)
theorem zs_b (V : nt_V k C) (ha : a < C) : ∀ c, c ≤ C → 0 ≤ zs k a c ∧ zs k a c ≤ 9 * c
  | 0, _ => ⟨Int.le_refl 0, Int.le_refl _⟩
  | c + 1, hc => by
    obtain ⟨b1, b2⟩ := zs_b V ha c (by omega)
    obtain ⟨b3, b4⟩ := (V.2 a c ha (by omega)).1
    unfold zs
    omega
/-- what the class's way leaves alone: the net's matrix and sums are its own -/
def cm_F (h g : mx_H) (t : Nat) : Prop := (∀ a i, a ≠ .inr (t, 36) → ¬ (a = .inr (t, 30) ∧ i = 7) → g.2.1 a i = h.2.1 a i) ∧ (∀ a i, (∀ o, 35 ≤ o → a ≠ .inr (t, o)) → g.2.2.1 a i = h.2.2.1 a i) ∧ g.2.2.2 = h.2.2.2
theorem cm_F.refl : cm_F h h t := ⟨fun _ _ _ _ => rfl, fun _ _ _ => rfl, rfl⟩
theorem cm_F.fL {o i : Nat} (ho : 35 ≤ o) (F : cm_F h g t) : cm_F h (mx_uL g (.inr (t, o)) i l) t := ⟨F.1, fun a i' ha => (rL_a (ha o ho)).trans (F.2.1 a i' ha), F.2.2⟩
theorem cm_F.fI {i : Nat} (F : cm_F h g t) : cm_F h (mx_uI g (.inr (t, 36)) i x) t := ⟨fun a i' h1 h2 => (rI_a h1).trans (F.1 a i' h1 h2), F.2⟩
theorem cm_F.fR (F : cm_F h g t) : cm_F h (mx_uI g (.inr (t, 30)) 7 x) t := ⟨fun a i' h1 h2 => (if_neg h2).trans (F.1 a i' h1 h2), F.2⟩
theorem ne_o {o o' : Nat} (e : o ≠ o') : (Sum.inr (t, o) : mx_A) ≠ .inr (t, o') := fun q => by
  cases q
  exact e rfl
/-- the sum over a corner's links, on the class's side -/
theorem M48 (N : nt_N hc k t C) (V : nt_V k C) (F : cm_F hc g t) (h3 : a3.toInt = (a : Int)) (ha : a < C) : ∀ (j c : Nat) (a4 a5 : Int32), c + j = C → a5.toInt = (c : Int) → a4.toInt = rD k (.inl 129) a + zs k a c → ∃ a' : Int32, g28_48 t a1 a2 a3 a4 a5 g = g28_83 t a1 a2 a3 a' 0 g ∧ a'.toInt = rD k (.inl 129) a + zs k a C
  | 0, c, a4, a5, e, h5, h4 => by
    refine ⟨a4, ?_, (show c = C by omega) ▸ h4⟩
    rw [g28_48_eq, if_pos (show g.2.1 (.inr (t, 30)) 0 ≤ a5 from i_le (p := (C : Int)) (by rw [F.1 _ _ (ne_o (by decide)) (fun q => absurd q.2 (by decide))]; exact N.2.1) h5 (by omega))]
  | j + 1, c, a4, a5, e, h5, h4 => by
    have C6 := N.1
    obtain ⟨b1, b2⟩ := (V.2 a c ha (by omega)).1
    obtain ⟨b3, b4⟩ := zs_b V ha c (by omega)
    obtain ⟨b5, b6⟩ := (V.1 a ha).1
    have w := w6 h3 h5 (show a ≤ 12 by omega) (show c < 6 by omega)
    have ln : g.2.1 (.inr (t, 34)) (6 * a + c) = k.2.1 (.inl 131) (6 * a + c) := (F.1 _ _ (ne_o (by decide)) (fun q => absurd q.1 (ne_o (by decide)))).trans (N.2.2.2.2 a c ha (by omega))
    have h4' := i_add h4 (show (k.2.1 (.inl 131) (6 * a + c)).toInt = rD k (.inl 131) (6 * a + c) from rfl) (by omega) (by omega)
    rw [g28_48_eq, if_neg (show ¬ g.2.1 (.inr (t, 30)) 0 ≤ a5 from i_nle (p := (C : Int)) (by rw [F.1 _ _ (ne_o (by decide)) (fun q => absurd q.2 (by decide))]; exact N.2.1) h5 (by omega)), i_cl w, ln]
    exact M48 N V F h3 ha j (c + 1) _ (a5 + 1) (by omega) ((i_add h5 k_1 (by omega) (by omega)).trans (by omega)) (h4'.trans (by
      have zz : zs k a (c + 1) = zs k a c + rD k (.inl 131) (6 * a + c) := rfl
      omega))
/-- the links to the rows before, on the class's side -/
theorem M83 (N : nt_N hc k t C) (V : nt_V k C) (F : cm_F hc g0 t) (h2 : a2.toInt = q) (q1 : 1 ≤ q) (q9 : q ≤ 9) (h3 : a3.toInt = (a : Int)) (ha : a < C) (hn : rD g0 (.inr (t, 30)) 7 = n) (n6 : n < 6) (hL : n = L.length) (LC : ∀ x ∈ L, x < C) (fr : ∀ i, i < n → rD g0 (.inr (t, 36)) i = (L.getD i 0 : Nat)) : ∀ (j r : Nat) (a5 : Int32) {g : mx_H}, r + j = n → a5.toInt = (r : Int) → sm g g0 → ∃ g', g28_83 t a1 a2 a3 a4 a5 g = g28_7 t a1 a2 (a3 + 1) (mx_uI (mx_uL g' (.inr (t, 37)) (6 * n + n) (Int32.toInt64 (a2 * a4 - a1 * g0.2.1 (.inr (t, 31)) a))) (.inr (t, 30)) 7 (g0.2.1 (.inr (t, 30)) 7 + 1)) ∧ sm g' g0 ∧ (∀ a i, a ≠ .inr (t, 37) → g'.2.2.1 a i = g.2.2.1 a i) ∧ (∀ i j, i < n → j < n → g'.2.2.1 (.inr (t, 37)) (6 * i + j) = g.2.2.1 (.inr (t, 37)) (6 * i + j)) ∧ (∀ i, i < r → g'.2.2.1 (.inr (t, 37)) (6 * i + n) = g.2.2.1 (.inr (t, 37)) (6 * i + n) ∧ g'.2.2.1 (.inr (t, 37)) (6 * n + i) = g.2.2.1 (.inr (t, 37)) (6 * n + i)) ∧ ∀ i, r ≤ i → i < n → g'.2.2.1 (.inr (t, 37)) (6 * i + n) = Int64.ofInt (-q * rD k (.inl 131) (6 * a + L.getD i 0)) ∧ g'.2.2.1 (.inr (t, 37)) (6 * n + i) = Int64.ofInt (-q * rD k (.inl 131) (6 * a + L.getD i 0))
  | 0, r, a5, g, e, h5, eg => by
    have w := w6 hn hn (show n ≤ 12 by omega) n6
    refine ⟨g, ?_, eg, fun _ _ _ => rfl, fun _ _ _ _ => rfl, fun _ _ => ⟨rfl, rfl⟩, fun i l1 l2 => by omega⟩
    rw [g28_83_eq, eg.1, if_pos (i_le hn h5 (by omega)), i_cl w, i_cl h3]
    show g28_7 t a1 a2 (a3 + 1) (mx_uI _ (.inr (t, 30)) 7 (g.2.1 (.inr (t, 30)) 7 + 1)) = _
    rw [eg.1]
  | j + 1, r, a5, g, e, h5, eg => by
    have C6 := N.1
    have rn : r < n := by omega
    have fr' : (g0.2.1 (.inr (t, 36)) r).toInt = ((L.getD r 0 : Nat) : Int) := fr r rn
    have lc : L.getD r 0 < C := by
      refine LC _ ?_
      rw [List.getD_eq_getElem?_getD, List.getElem?_eq_getElem (by omega)]
      exact List.getElem_mem _
    have w1 := w6 h3 fr' (show a ≤ 12 by omega) (show L.getD r 0 < 6 by omega)
    have w2 := w6 h5 hn (show r ≤ 12 by omega) n6
    have w3 := w6 hn h5 (show n ≤ 12 by omega) (show r < 6 by omega)
    have ln : g0.2.1 (.inr (t, 34)) (6 * a + L.getD r 0) = k.2.1 (.inl 131) (6 * a + L.getD r 0) := (F.1 _ _ (ne_o (by decide)) (fun q => absurd q.1 (ne_o (by decide)))).trans (N.2.2.2.2 a _ ha lc)
    obtain ⟨b1, b2⟩ := (V.2 a _ ha lc).1
    have hq : (-a2).toInt = -q := by
      rw [← Int32.zero_sub]
      exact (i_sub k_0 h2 (by omega) (by omega)).trans (by omega)
    have hv : (-a2 * k.2.1 (.inl 131) (6 * a + L.getD r 0)).toInt = -q * rD k (.inl 131) (6 * a + L.getD r 0) := by
      have e1 : ∀ m : Int, 0 ≤ m → m ≤ 9 → -2147483648 ≤ -q * m ∧ -q * m ≤ 2147483647 := fun m m1 m2 => by
        have t1 : 0 ≤ q * m := Int.mul_nonneg (by omega) m1
        have t2 : q * m ≤ 9 * 9 := Int.mul_le_mul q9 m2 m1 (by decide)
        rw [Int.neg_mul]
        omega
      obtain ⟨z1, z2⟩ := e1 _ b1 b2
      exact i_mul hq rfl z1 z2
    obtain ⟨g', q1', q2, q3, q4, q5, q6⟩ := M83 N V F h2 q1 q9 h3 ha hn n6 hL LC fr j (r + 1) (a5 + 1) (g := mx_uL (mx_uL g (.inr (t, 37)) (6 * r + n) (Int64.ofInt (-q * rD k (.inl 131) (6 * a + L.getD r 0)))) (.inr (t, 37)) (6 * n + r) (Int64.ofInt (-q * rD k (.inl 131) (6 * a + L.getD r 0)))) (by omega) ((i_add h5 k_1 (by omega) (by omega)).trans (by omega)) eg
    refine ⟨g', ?_, q2, fun a i ha => ?_, fun i j hi hj => ?_, fun i hi => ?_, fun i l1 l2 => ?_⟩
    · rw [g28_83_eq, eg.1, if_neg (i_nle hn h5 (by omega)), i_cl h5, i_cl w1, ln, i64_32, hv, i_cl w2]
      show g28_83 t a1 a2 a3 a4 (a5 + 1) (mx_uL _ (.inr (t, 37)) (Int32.toNatClampNeg (6 * g.2.1 (.inr (t, 30)) 7 + a5)) _) = _
      rw [eg.1, i_cl w3]
      exact q1'
    · rw [q3 a i ha, rL_a ha, rL_a ha]
    · rw [q4 i j hi hj, rL_i (by omega), rL_i (by omega)]
    · obtain ⟨z1, z2⟩ := q5 i (by omega)
      rw [z1, z2, rL_i (by omega), rL_i (by omega), rL_i (by omega), rL_i (by omega)]
      exact ⟨rfl, rfl⟩
    · by_cases ir : i = r
      · subst ir
        obtain ⟨z1, z2⟩ := q5 i (by omega)
        rw [z1, z2, rL_s, rL_i (by omega), rL_s]
        exact ⟨rfl, rfl⟩
      · exact q6 i (by omega) l2
/-- the class's matrix so far: rows of the free corners among the first c -/
def ma_C (hc k g : mx_H) (t C c : Nat) (p q : Int) : Prop := cm_F hc g t ∧ (∀ b i, b ≠ .inr (t, 37) → g.2.2.1 b i = hc.2.2.1 b i) ∧ rD g (.inr (t, 30)) 7 = (fl k c).length ∧ (∀ i, i < (fl k c).length → rD g (.inr (t, 36)) i = ((fl k c).getD i 0 : Nat)) ∧ ∀ i j, i < (fl k c).length → j < (fl k c).length → g.2.2.1 (.inr (t, 37)) (6 * i + j) = Int64.ofInt (zm k (fl k c) C p q i j)
theorem M7 (N : nt_N hc k t C) (V : nt_V k C) (h1 : a1.toInt = p) (p0 : 0 ≤ p) (p9 : p ≤ 99) (h2 : a2.toInt = q) (q1 : 1 ≤ q) (q9 : q ≤ 9) : ∀ (j c : Nat) (a3 : Int32) {g : mx_H}, c + j = C → a3.toInt = (c : Int) → ma_C hc k g t C c p q → ma_C hc k (g28_7 t a1 a2 a3 g) t C C p q
  | 0, c, a3, g, e, h3, M => by
    rw [g28_7_eq, if_pos (show g.2.1 (.inr (t, 30)) 0 ≤ a3 from i_le (p := (C : Int)) (by rw [M.1.1 _ _ (ne_o (by decide)) (fun q => absurd q.2 (by decide))]; exact N.2.1) h3 (by omega))]
    exact (show c = C by omega) ▸ M
  | j + 1, c, a3, g, e, h3, M => by
    have C6 := N.1
    have lt : c < C := by omega
    have h3' := (i_add h3 k_1 (by omega) (by omega)).trans (show (c : Int) + 1 = ((c + 1 : Nat) : Int) by omega)
    obtain ⟨F, M1, M2, M3, M4⟩ := id M
    obtain ⟨m1, ⟨m2, m3⟩, m4, m5⟩ := N.2.2.2.1 c lt
    have eh : g.2.1 (.inr (t, 33)) c = k.2.1 (.inl 130) c := (F.1 _ _ (ne_o (by decide)) (fun q => absurd q.1 (ne_o (by decide)))).trans m5
    rw [g28_7_eq, if_neg (show ¬ g.2.1 (.inr (t, 30)) 0 ≤ a3 from i_nle (p := (C : Int)) (by rw [F.1 _ _ (ne_o (by decide)) (fun q => absurd q.2 (by decide))]; exact N.2.1) h3 (by omega)), i_cl h3, eh]
    by_cases z : k.2.1 (.inl 130) c = 0
    · have fe : fl k (c + 1) = fl k c ++ [c] := by
        rw [fl, if_pos z]
      have len := fl_len (k := k) c
      rw [if_pos z, i_cl M2]
      have ep : (mx_uI g (.inr (t, 36)) (fl k c).length a3).2.1 (.inr (t, 32)) c = k.2.1 (.inl 129) c := (rI_a (ne_o (by decide))).trans ((F.1 _ _ (ne_o (by decide)) (fun q => absurd q.1 (ne_o (by decide)))).trans m4)
      rw [ep]
      obtain ⟨a', e1, e2⟩ := M48 (a1 := a1) (a2 := a2) N V (F.fI (i := (fl k c).length) (x := a3)) h3 lt C 0 (k.2.1 (.inl 129) c) 0 (by omega) rfl (by unfold zs; exact (Int.add_zero _).symm)
      rw [e1]
      obtain ⟨g', e3, f1, f2, f3, f4, f5⟩ := M83 (a1 := a1) (a4 := a') (L := fl k c) (n := (fl k c).length) N V (F.fI (i := (fl k c).length) (x := a3)) h2 q1 q9 h3 lt (show rD (mx_uI g (.inr (t, 36)) (fl k c).length a3) (.inr (t, 30)) 7 = _ by
        unfold rD
        rw [rI_a (ne_o (by decide))]
        exact M2) (by omega) rfl (fun x hx => by have := fl_lt c x hx; omega) (fun i hi => by
        unfold rD
        rw [rI_i (by omega)]
        exact M3 i hi) (fl k c).length 0 0 (g := mx_uI g (.inr (t, 36)) (fl k c).length a3) (by omega) rfl sm.refl
      rw [e3]
      have ms : (mx_uI g (.inr (t, 36)) (fl k c).length a3).2.1 (.inr (t, 31)) c = k.2.1 (.inl 128) c := (rI_a (ne_o (by decide))).trans ((F.1 _ _ (ne_o (by decide)) (fun q => absurd q.1 (ne_o (by decide)))).trans m1)
      obtain ⟨b3, b4⟩ := zs_b V lt C (Nat.le_refl _)
      obtain ⟨b5, b6⟩ := (V.1 c lt).1
      have dg : (a2 * a' - a1 * (mx_uI g (.inr (t, 36)) (fl k c).length a3).2.1 (.inr (t, 31)) c).toInt = q * (rD k (.inl 129) c + zs k c C) - p * rD k (.inl 128) c := by
        rw [ms]
        have u1 : 0 ≤ q * (rD k (.inl 129) c + zs k c C) := Int.mul_nonneg (by omega) (by omega)
        have u2 : q * (rD k (.inl 129) c + zs k c C) ≤ 9 * 63 := Int.mul_le_mul q9 (by omega) (by omega) (by decide)
        have u3 : 0 ≤ p * rD k (.inl 128) c := Int.mul_nonneg p0 (by omega)
        have u4 : p * rD k (.inl 128) c ≤ 99 * 9 := Int.mul_le_mul p9 m3 (by omega) (by decide)
        exact i_sub (i_mul h2 e2 (by omega) (by omega)) (i_mul h1 (show (k.2.1 (.inl 128) c).toInt = rD k (.inl 128) c from rfl) (by omega) (by omega)) (by omega) (by omega)
      refine M7 N V h1 p0 p9 h2 q1 q9 j (c + 1) (a3 + 1) (by omega) h3' ⟨⟨fun b i n1 n2 => ?_, fun b i nb => ?_, f1.2.trans F.2.2⟩, fun b i nb => ?_, ?_, fun i hi => ?_, fun i j hi hj => ?_⟩
      · rw [if_neg n2 |> (fun z => (rI (mx_uL g' _ _ _) _ _ _ b i).trans z)]
        show g'.2.1 b i = _
        rw [f1.1]
        exact (rI_a n1).trans (F.1 b i n1 n2)
      · show (mx_uL g' _ _ _).2.2.1 b i = _
        rw [rL_a (nb 37 (by decide)), f2 b i (nb 37 (by decide))]
        exact F.2.1 b i nb
      · show (mx_uL g' _ _ _).2.2.1 b i = _
        rw [rL_a nb, f2 b i nb]
        exact M1 b i nb
      · rw [fe, List.length_append]
        unfold rD
        rw [rI_s, rI_a (ne_o (by decide))]
        exact (i_add M2 k_1 (by omega) (by omega)).trans (by show _ = (((fl k c).length + 1 : Nat) : Int); omega)
      · rw [fe, List.length_append] at hi
        have hi : i < (fl k c).length + 1 := hi
        unfold rD
        rw [rI_a (ne_o (by decide))]
        show (g'.2.1 (.inr (t, 36)) i).toInt = _
        rw [f1.1, fe]
        by_cases il : i = (fl k c).length
        · rw [il, fl_end, rI_s]
          exact h3
        · rw [rI_i il, fl_get (by omega)]
          exact M3 i (by omega)
      · rw [fe, List.length_append] at hi hj
        have hi : i < (fl k c).length + 1 := hi
        have hj : j < (fl k c).length + 1 := hj
        show (mx_uL g' _ _ _).2.2.1 _ _ = _
        rw [fe]
        by_cases il : i = (fl k c).length
        · by_cases jl : j = (fl k c).length
          · rw [il, jl, rL_s, i64_32, dg]
            unfold zm
            rw [if_pos rfl, fl_end]
          · rw [il, rL_i (by omega), (f5 j (Nat.zero_le _) (by omega)).2]
            unfold zm
            rw [if_neg (fun z => jl z.symm), fl_end, fl_get (by omega)]
        · by_cases jl : j = (fl k c).length
          · rw [jl, rL_i (by omega), (f5 i (Nat.zero_le _) (by omega)).1]
            unfold zm
            rw [if_neg il, fl_end, fl_get (by omega), (V.2 c _ lt (by have := fl_gl (k := k) (c := c) (i := i) (by omega); omega)).2]
          · rw [rL_i (by omega), f3 i j (by omega) (by omega)]
            show (mx_uI g _ _ _).2.2.1 _ _ = _
            refine (M4 i j (by omega) (by omega)).trans ?_
            unfold zm
            rw [fl_get (by omega), fl_get (by omega)]
    · have fe : fl k (c + 1) = fl k c := by
        rw [fl, if_neg z]
      rw [if_neg z]
      exact M7 N V h1 p0 p9 h2 q1 q9 j (c + 1) (a3 + 1) (by omega) h3' (by
        unfold ma_C
        rw [fe]
        exact M)
end MA
