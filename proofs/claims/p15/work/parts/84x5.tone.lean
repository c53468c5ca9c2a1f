/-! ===== 84x5: BELOW never falls as p rises; a tone's SHUT on both sides ===== -/
section MX5
variable {h g k k' hc gc hr : mx_H} {C t c n a b : Nat} {a1 a2 a3 x y : Int32} {p q i : Int} {f : Nat → Int}
/-- BELOW of a net, for the mark p / q -/
def fb (k : mx_H) (C : Nat) (q : Int) (p : Nat) : Nat := (zc (ze k C (p : Int) q) (fl k C).length).1
theorem nb_d : ∀ (m j : Nat), (∀ i, j ≤ i → i < j + m → (f i).natAbs ≤ if i = a then 891 else 81) → nb f j m ≤ 81 * m + (if a < j then 0 else 810)
  | 0, _, _ => Nat.zero_le _
  | m + 1, j, h => by
    have ih := nb_d m (j + 1) (fun i h1 h2 => h i (by omega) (by omega))
    have h0 := h j (Nat.le_refl _) (by omega)
    show (f j).natAbs + nb f (j + 1) m ≤ _
    by_cases z : j = a
    · rw [if_pos z] at h0
      rw [if_pos (by omega)] at ih
      rw [if_neg (by omega)]
      omega
    · rw [if_neg z] at h0
      by_cases z2 : a < j
      · rw [if_pos (by omega)] at ih
        rw [if_pos z2]
        omega
      · rw [if_neg (by omega)] at ih
        rw [if_neg z2]
        omega
theorem zm_sy (V : nt_V k C) {i j : Nat} (hi : i < (fl k C).length) (hj : j < (fl k C).length) : zm k (fl k C) C p q i j = zm k (fl k C) C p q j i := by
  unfold zm
  by_cases z : i = j
  · rw [z]
  · rw [if_neg z, if_neg (fun w => z w.symm), (V.2 _ _ (fl_gl hi) (fl_gl hj)).2]
theorem zm_d (V : nt_V k C) (C6 : C ≤ 6) (p0 : 0 ≤ p) (p9 : p ≤ 99) (q1 : 1 ≤ q) (q9 : q ≤ 9) {i j : Nat} (hi : i < (fl k C).length) (hj : j < (fl k C).length) : (zm k (fl k C) C p q i j).natAbs ≤ if j = i then 891 else 81 := by
  unfold zm
  by_cases z : i = j
  · rw [if_pos z, if_pos z.symm]
    have li := fl_gl hi
    obtain ⟨v1, v2⟩ := V.1 _ li
    have v3 := zs_b V li C (Nat.le_refl _)
    generalize rD k (.inl 129) ((fl k C).getD i 0) = pd at *
    generalize zs k ((fl k C).getD i 0) C = s at *
    generalize rD k (.inl 128) ((fl k C).getD i 0) = m at *
    have e1 : 0 ≤ q * (pd + s) := Int.mul_nonneg (by omega) (by omega)
    have e2 : q * (pd + s) ≤ 9 * 63 := Int.mul_le_mul q9 (by omega) (by omega) (by decide)
    have e3 : 0 ≤ p * m := Int.mul_nonneg (by omega) (by omega)
    have e4 : p * m ≤ 99 * 9 := Int.mul_le_mul p9 (by omega) (by omega) (by decide)
    generalize q * (pd + s) = A at *
    generalize p * m = B at *
    omega
  · rw [if_neg z, if_neg (fun w => z w.symm)]
    have v := (V.2 _ _ (fl_gl hi) (fl_gl hj)).1
    generalize rD k (.inl 131) (6 * (fl k C).getD i 0 + (fl k C).getD j 0) = l at *
    have e1 : 0 ≤ q * l := Int.mul_nonneg (by omega) v.1
    have e2 : q * l ≤ 9 * 9 := Int.mul_le_mul q9 v.2 v.1 (by decide)
    rw [Int.neg_mul]
    generalize q * l = A at *
    omega
theorem zm_b (V : nt_V k C) (C6 : C ≤ 6) (p0 : 0 ≤ p) (p9 : p ≤ 99) (q1 : 1 ≤ q) (q9 : q ≤ 9) (hn : n ≤ (fl k C).length) : (zE (zB (zm k (fl k C) C p q)) (fl k C).length n).natAbs < 9223372036854775808 := by
  have len := fl_len (k := k) C
  refine zE_b (by omega) hn (fun i hi => ?_)
  have h := nb_d (f := zB (zm k (fl k C) C p q) i) (a := i) (fl k C).length 0 (fun j _ hj => by
    have hj' : j < (fl k C).length := by omega
    rw [zB_v (by omega) (by omega)]
    by_cases z : i < j
    · rw [if_pos z]
      exact zm_d V C6 p0 p9 q1 q9 hi hj'
    · rw [if_neg z, zm_sy V hj' hi]
      exact zm_d V C6 p0 p9 q1 q9 hi hj')
  rw [if_neg (Nat.not_lt_zero _)] at h
  omega
theorem fb_zi (V : nt_V k C) (C6 : C ≤ 6) (q1 : 1 ≤ q) (q9 : q ≤ 9) {p : Nat} (p9 : p ≤ 99) : fb k C q p = (zi (zE (zB (zm k (fl k C) C p q)) (fl k C).length) (fl k C).length).1 := by
  unfold fb
  rw [show ze k C (p : Int) q = fun n => Int64.ofInt (zE (zB (zm k (fl k C) C p q)) (fl k C).length n) from rfl, zc_zi _ (fun n hn => zm_b V C6 (by omega) (by omega) q1 q9 hn)]
theorem fb_6 (V : nt_V k C) (C6 : C ≤ 6) (q1 : 1 ≤ q) (q9 : q ≤ 9) {p : Nat} (p9 : p ≤ 99) : fb k C q p ≤ 6 := by
  rw [fb_zi V C6 q1 q9 p9]
  have len := fl_len (k := k) C
  have := zi_le (e := zE (zB (zm k (fl k C) C p q)) (fl k C).length) (fl k C).length
  omega
theorem fb_1 (V : nt_V k C) (C6 : C ≤ 6) (q1 : 1 ≤ q) (q9 : q ≤ 9) {p : Nat} (p9 : p + 1 ≤ 99) : fb k C q p ≤ fb k C q (p + 1) := by
  rw [fb_zi V C6 q1 q9 (by omega), fb_zi V C6 q1 q9 p9]
  have len := fl_len (k := k) C
  refine zi_low (w := fun i => rD k (.inl 128) ((fl k C).getD i 0)) (by omega) (fun i j hi hj => zm_sy V hi hj) (fun i hi => ?_) (fun i j hi hj => ?_)
  · have := (V.1 _ (fl_gl hi)).2.1
    show 0 ≤ rD k (.inl 128) ((fl k C).getD i 0)
    omega
  · unfold zm
    by_cases z : i = j
    · rw [if_pos z, if_pos z, if_pos z, show ((p + 1 : Nat) : Int) = (p : Int) + 1 by omega, Int.add_mul, Int.one_mul]
      omega
    · rw [if_neg z, if_neg z, if_neg z]
theorem fb_m (V : nt_V k C) (C6 : C ≤ 6) (q1 : 1 ≤ q) (q9 : q ≤ 9) (p p' : Nat) (l : p ≤ p') (p9 : p' ≤ 99) : fb k C q p ≤ fb k C q p' := by
  have S : ∀ m, p + m ≤ 99 → fb k C q p ≤ fb k C q (p + m) := fun m => by
    induction m with
    | zero => exact fun _ => Nat.le_refl _
    | succ m ih => exact fun hm => Nat.le_trans (ih (by omega)) (fb_1 V C6 q1 q9 hm)
  have := S (p' - p) (by omega)
  rw [show p + (p' - p) = p' by omega] at this
  exact this
/-- what a net's sound rests on -/
def nt_Q (k k' : mx_H) : Prop := ∀ x i, 128 ≤ x → x ≤ 131 → k'.2.1 (.inl x) i = k.2.1 (.inl x) i
theorem nt_Qf (Q : nt_Q k k') : ∀ c, fl k' c = fl k c
  | 0 => rfl
  | c + 1 => by
    unfold fl
    rw [nt_Qf Q c, Q 130 c (by decide) (by decide)]
theorem nt_Qz (Q : nt_Q k k') : ∀ c, zs k' a c = zs k a c
  | 0 => rfl
  | c + 1 => by
    unfold zs rD
    rw [nt_Qz Q c, Q 131 _ (by decide) (by decide)]
theorem nt_Qm (Q : nt_Q k k') {L : List Nat} : zm k' L C p q = zm k L C p q := funext (fun i => funext (fun j => by
  unfold zm
  rw [nt_Qz Q]
  unfold rD
  rw [Q 129 _ (by decide) (by decide), Q 128 _ (by decide) (by decide), Q 131 _ (by decide) (by decide)]))
theorem nt_Qe (Q : nt_Q k k') : ze k' C p q = ze k C p q := funext (fun i => by
  unfold ze
  rw [nt_Qf Q, nt_Qm Q])
theorem nt_Qb (Q : nt_Q k k') : fb k' C q = fb k C q := funext (fun p => by
  unfold fb
  rw [nt_Qe Q, nt_Qf Q])
theorem nt_QV (Q : nt_Q k k') (V : nt_V k C) : nt_V k' C := by
  unfold nt_V rD
  refine ⟨fun i hi => ?_, fun i j hi hj => ?_⟩
  · rw [Q 129 _ (by decide) (by decide), Q 128 _ (by decide) (by decide)]
    exact V.1 i hi
  · rw [Q 131 _ (by decide) (by decide), Q 131 _ (by decide) (by decide)]
    exact V.2 i j hi hj
/-- the class's side leaves its net -/
theorem cm_F.trans (A : cm_F h g t) (B : cm_F g k t) : cm_F h k t := ⟨fun a i h1 h2 => (B.1 a i h1 h2).trans (A.1 a i h1 h2), fun a i h1 => (B.2.1 a i h1).trans (A.2.1 a i h1), B.2.2.trans A.2.2⟩
theorem cm_n (F : cm_F h g t) {o i : Nat} (ho : o ≤ 34) (h30 : ¬ (o = 30 ∧ i = 7)) : g.2.1 (.inr (t, o)) i = h.2.1 (.inr (t, o)) i := F.1 _ _ (fun e => by
  cases e
  omega) (fun e => by
  obtain ⟨e1, e2⟩ := e
  cases e1
  exact h30 ⟨rfl, e2⟩)
theorem nt_cm (N : nt_N hc k t C) (F : cm_F hc gc t) : nt_N gc k t C := by
  obtain ⟨n1, n2, n3, n4, n5⟩ := N
  refine ⟨n1, ?_, n3, fun i hi => ?_, fun i j hi hj => ?_⟩
  · unfold rD
    rw [cm_n F (by decide) (by decide)]
    exact n2
  · rw [cm_n F (by decide) (by omega), cm_n F (by decide) (by omega), cm_n F (by decide) (by omega)]
    exact n4 i hi
  · rw [cm_n F (by decide) (by omega)]
    exact n5 i j hi hj
/-- the reference's side -/
def tw_F (k k' : mx_H) : Prop := ∀ a i, a ≠ .inl 134 → a ≠ .inl 136 → a ≠ .inl 137 → ¬ (a = .inl 105 ∧ (i = 37 ∨ i = 42)) → k'.2.1 a i = k.2.1 a i
theorem tw_F.refl : tw_F k k := fun _ _ _ _ _ _ => rfl
theorem tw_F.trans (A : tw_F h g) (B : tw_F g k) : tw_F h k := fun a i h1 h2 h3 h4 => (B a i h1 h2 h3 h4).trans (A a i h1 h2 h3 h4)
theorem tw_F.fu {j : Nat} {v : Int32} (A : tw_F h g) : tw_F h (mx_uI g (.inl 137) j v) := fun a i h1 h2 h3 h4 => (rI_a h3).trans (A a i h1 h2 h3 h4)
theorem tw_l (F : tw_F k k') {x i : Nat} (h1 : x < 132) (h2 : x ≠ 105) : k'.2.1 (.inl x) i = k.2.1 (.inl x) i := F _ _ (ne_l (by omega)) (ne_l (by omega)) (ne_l (by omega)) (fun e => absurd e.1 (ne_l h2))
theorem tw_Q (F : tw_F k k') : nt_Q k k' := fun x i h1 h2 => tw_l F (by omega) (by omega)
theorem tw_C (F : tw_F k k') : rD k' (.inl 105) 35 = rD k (.inl 105) 35 := congrArg Int32.toInt (F _ _ (ne_l (by decide)) (ne_l (by decide)) (ne_l (by decide)) (fun e => absurd e.2 (by decide)))
theorem nt_tw (N : nt_N hc k t C) (F : tw_F k k') : nt_N hc k' t C := by
  obtain ⟨n1, n2, n3, n4, n5⟩ := N
  refine ⟨n1, n2, (tw_C F).trans n3, fun i hi => ?_, fun i j hi hj => ?_⟩
  · unfold rD
    rw [tw_l F (by decide) (by decide), tw_l F (by decide) (by decide), tw_l F (by decide) (by decide)]
    exact n4 i hi
  · rw [tw_l F (by decide) (by decide)]
    exact n5 i j hi hj
theorem TNc (N : nt_N hc k t C) (V : nt_V k C) (h1 : a1.toInt = i) (h2 : a2.toInt = q) (q1 : 1 ≤ q) (q9 : q ≤ 9) : ∃ r : Nat, (f33 t a1 a2 hc).1 = nI r ∧ zg (fb k C q) i r ∧ cm_F hc (f33 t a1 a2 hc).2 t :=
  Z33 (P := fun h' => cm_F hc h' t) (fb_m V N.1 q1 q9) (fun p p9 => fb_6 V N.1 q1 q9 p9) h1 (fun h' p a P p9 ha => by
    have N' := nt_cm N P
    rw [S31c N' V ha (by omega) (by omega) h2 q1 q9]
    exact ⟨rfl, P.trans (S29 N' V ha (by omega) (by omega) h2 q1 q9).1⟩) cm_F.refl
theorem TNr (hC : rD k (.inl 105) 35 = C) (C6 : C ≤ 6) (V : nt_V k C) (st : mi_S k b) (hb : b + 8 < 2147483647) (h1 : a1.toInt = i) (h2 : a2.toInt = q) (q1 : 1 ≤ q) (q9 : q ≤ 9) (M : zm7 (fb k C q) k) : ∃ r : Nat, (f219 a1 a2 k).1 = nI r ∧ zg (fb k C q) i r ∧ tw_F k (f219 a1 a2 k).2 ∧ mi_S (f219 a1 a2 k).2 (b + 7) ∧ zm7 (fb k C q) (f219 a1 a2 k).2 := by
  obtain ⟨r, c', y1, y2, ⟨y3, y4⟩, y5, y6⟩ := Z219f (P := fun c k' => tw_F k k' ∧ mi_S k' c) (B := b + 7) (fb_m V C6 q1 q9) (fun p p9 => fb_6 V C6 q1 q9 p9) h1 (fun c k' p a P lc p9 ha => by
    have hC' := (tw_C P.1).trans hC
    have V' := nt_QV (tw_Q P.1) V
    obtain ⟨s1, s2, s3, s4⟩ := S212 hC' C6 V' ha h2 P.2 (by omega)
    rw [S213r hC' C6 V' ha h2 P.2 (by omega)]
    refine ⟨?_, ⟨fun a i e1 e2 e3 e4 => (s4 a i e1 e2 e4).trans (P.1 a i e1 e2 e3 e4), s3⟩, fun j => s4 _ _ (ne_l (by decide)) (ne_l (by decide)) (fun e => absurd e.1 (ne_l (by decide)))⟩
    show nI (zc (ze k' C (p : Int) q) (fl k' C).length).1 = nI (fb k C q p)
    rw [nt_Qe (tw_Q P.1), nt_Qf (tw_Q P.1)]
    rfl) (fun c k' j v P => ⟨P.1.fu, mi_Sf (fun i => rI_a (ne_l (by decide))) (rI_a (ne_l (by decide))) P.2⟩) (c := b) (k := k) ⟨tw_F.refl, st⟩ M (Nat.le_refl _)
  exact ⟨r, y1, y2, y3, y4.up y5, y6⟩
/-- the memo is wiped -/
theorem L218 : ∀ (j c : Nat) (x : Int32) {g : mx_H}, c + j = 100 → x.toInt = (c : Int) → (∀ i, i < c → g.2.1 (.inl 137) i = 0) → (∀ i, i < 100 → (g218_2 x g).2.1 (.inl 137) i = 0) ∧ ∀ a i, a ≠ .inl 137 → (g218_2 x g).2.1 a i = g.2.1 a i
  | 0, c, x, g, e, hx, z => by
    rw [g218_2_eq, if_pos (i_le (show (100 : Int32).toInt = 100 from rfl) hx (by omega))]
    exact ⟨fun i hi => z i (by omega), fun _ _ _ => rfl⟩
  | j + 1, c, x, g, e, hx, z => by
    have hx' := (i_add hx k_1 (by omega) (by omega)).trans (show (c : Int) + 1 = ((c + 1 : Nat) : Int) by omega)
    rw [g218_2_eq, if_neg (i_nle (show (100 : Int32).toInt = 100 from rfl) hx (by omega)), i_cl hx]
    obtain ⟨r1, r2⟩ := L218 j (c + 1) (x + 1) (g := mx_uI g (.inl 137) c 0) (by omega) hx' (fun i hi => by
      by_cases w : i = c
      · rw [w, rI_s]
      · rw [rI_i w]
        exact z i (by omega))
    exact ⟨r1, fun a i ha => (r2 a i ha).trans (rI_a ha)⟩
theorem T218 : tw_F k (f218 k) ∧ (∀ f, zm7 f (f218 k)) ∧ ∀ a i, a ≠ .inl 137 → (f218 k).2.1 a i = k.2.1 a i := by
  rw [f218_eq]
  obtain ⟨r1, r2⟩ := L218 100 0 0 (g := k) (by decide) rfl (fun i hi => absurd hi (Nat.not_lt_zero _))
  exact ⟨fun a i _ _ h3 _ => r2 a i h3, fun f p hp => Or.inl (r1 p (by omega)), r2⟩
theorem TNs (hC : rD k (.inl 105) 35 = C) (C6 : C ≤ 6) (V : nt_V k C) (st : mi_S k b) (hb : b + 8 < 2147483647) (h1 : a1.toInt = i) (h2 : a2.toInt = q) (q1 : 1 ≤ q) (q9 : q ≤ 9) : ∃ r : Nat, (f220 a1 a2 k).1 = nI r ∧ zg (fb k C q) i r ∧ tw_F k (f220 a1 a2 k).2 ∧ mi_S (f220 a1 a2 k).2 (b + 7) := by
  obtain ⟨F, M, W⟩ := T218 (k := k)
  have st' : mi_S (f218 k) b := mi_Sf (fun i => W _ _ (ne_l (by decide))) (W _ _ (ne_l (by decide))) st
  obtain ⟨r, y1, y2, y3, y4, y5⟩ := TNr (a1 := a1) (a2 := a2) ((tw_C F).trans hC) C6 (nt_QV (tw_Q F) V) st' hb h1 h2 q1 q9 (M _)
  rw [nt_Qb (tw_Q F)] at y2
  have e : f220 a1 a2 k = f219 a1 a2 (f218 k) := by
    rw [f220_eq]
    rfl
  rw [e]
  exact ⟨r, y1, y2, F.trans y3, y4⟩
/-- the same answer on both sides -/
theorem TNe (N : nt_N hc k t C) (V : nt_V k C) (st : mi_S k b) (hb : b + 8 < 2147483647) (h1 : a1.toInt = i) (h2 : a2.toInt = q) (q1 : 1 ≤ q) (q9 : q ≤ 9) : (f33 t a1 a2 hc).1 = (f220 a1 a2 k).1 ∧ cm_F hc (f33 t a1 a2 hc).2 t ∧ tw_F k (f220 a1 a2 k).2 ∧ mi_S (f220 a1 a2 k).2 (b + 7) := by
  obtain ⟨r, x1, x2, x3⟩ := TNc N V h1 h2 q1 q9
  obtain ⟨r', y1, y2, y3, y4⟩ := TNs N.2.2.1 N.1 V st hb h1 h2 q1 q9
  rw [x1, y1, zg_u x2 y2]
  exact ⟨rfl, x3, y3, y4⟩
/-- a tone and a q: asked alike -/
theorem ton_in {s S N m n F : Nat} {hr : mx_H} (Ds : rs_D hc hr N s m n F) (s12 : s ≤ 12) (h1 : a1.toInt = (s : Int)) : f165 s a2 a3 hc = 1 ∧ f173 a2 0 (f195 a1 hr - 1) = 1 ∧ f173 a3 1 9 = 1 ∧ 1 ≤ a3.toInt ∧ a3.toInt ≤ 9 ∨ f165 s a2 a3 hc = 0 ∧ (f173 a2 0 (f195 a1 hr - 1) = 0 ∨ f173 a3 1 9 = 0) := by
  rw [f165_eq, aw_tones Ds s12 h1, w_ws, w_ws]
  have b9 : f173 a3 1 9 = 1 ∧ 1 ≤ a3.toInt ∧ a3.toInt ≤ 9 ∨ f173 a3 1 9 = 0 := by
    by_cases c : 1 ≤ a3.toInt ∧ a3.toInt ≤ 9
    · exact Or.inl ⟨w173_1 (x := a3) rfl k_1 (show (9 : Int32).toInt = 9 from rfl) c, c.1, c.2⟩
    · exact Or.inr (w173_0 (x := a3) rfl k_1 (show (9 : Int32).toInt = 9 from rfl) c)
  have bt : f173 a2 0 (f195 a1 hr - 1) = 1 ∨ f173 a2 0 (f195 a1 hr - 1) = 0 := by
    by_cases c : (0 : Int) ≤ a2.toInt ∧ a2.toInt ≤ (f195 a1 hr - 1).toInt
    · exact Or.inl (w173_1 (x := a2) rfl k_0 rfl c)
    · exact Or.inr (w173_0 (x := a2) rfl k_0 rfl c)
  rcases bt with b | b
  · rcases b9 with ⟨c1, c2, c3⟩ | c1
    · exact Or.inl ⟨by rw [if_neg (by rw [b]; exact n10), if_neg (by rw [c1]; exact n10)], b, c1, c2, c3⟩
    · exact Or.inr ⟨by rw [if_neg (by rw [b]; exact n10), if_pos c1], Or.inr c1⟩
  · exact Or.inr ⟨if_pos b, Or.inl b⟩
theorem aw_shut {S N : Nat} {hr : mx_H} (I : sf_I hr) (A : rs_A hc hr S N) (st : mi_S hr b) (hb : b + 8 < 2147483647) : (f111 a1 a2 a3 hc).1 = (f221 a1 a2 a3 hr).1 := by
  obtain ⟨A1, A2, A3, A4, A5, A6, A7, A8, A9, A10⟩ := id A
  have K := f111_eq a1 a2 a3 hc
  have T := f221_eq a1 a2 a3 hr
  rcases C166 (a := a1) A with ⟨s, lt, h1, e1, e1'⟩ | ⟨e1, e1'⟩
  · obtain ⟨C, n, F, Ds⟩ := (A9 s lt).2
    rw [e1] at K
    simp only [x_opt] at K
    rw [if_neg (by rw [e1']; exact n10)] at T
    rcases ton_in (a2 := a2) (a3 := a3) (S := S) Ds (by omega) h1 with ⟨z1, z2, z3, z4, z5⟩ | ⟨z1, z2⟩
    · rw [if_pos (by rw [z1]; exact n10)] at K
      rw [if_neg (by rw [z2]; exact n10), if_pos (by rw [z3]; exact n10)] at T
      obtain ⟨NN, KF, R, R3, R4⟩ := nt_load (t := 0) I A4 lt A1 A2 Ds h1 rfl
      have V := nt_take I A4 lt A1 A2 Ds h1
      have st' := rn_Fs R st
      simp only [x_h, x_let] at K T
      rw [K, T]
      exact (TNe NN V st' hb rfl rfl z4 z5).1
    · rw [if_neg (fun w => w z1)] at K
      rcases z2 with z2 | z2
      · rw [if_pos z2] at T
        rw [K, T]
      · by_cases z3 : f173 a2 0 (f195 a1 hr - 1) = 0
        · rw [if_pos z3] at T
          rw [K, T]
        · rw [if_neg z3, if_neg (fun w => w z2)] at T
          rw [K, T]
  · rw [e1] at K
    simp only [x_opt] at K
    rw [if_pos e1'] at T
    rw [K, T]
end MX5
