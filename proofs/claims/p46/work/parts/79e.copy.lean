/-! ===== the copy loops walk together ===== -/
section RV
variable {h h' h'' hc hr gc gr hc0 hr0 : mx_H} {S N n C M k s1 b B u v s o C1 F1 u0 v0 : Nat} {a1 a2 a3 a4 a5 c2 x y : Int32}
theorem k_cp5 {i : Nat} : (k_cp h S s1 M k a2).2.1 (.inr (S, 5)) i = if i = M then k_mn (a2 + h.2.1 (.inr (s1, 5)) k) (a2 + h.2.1 (.inr (s1, 6)) k) else h.2.1 (.inr (S, 5)) i := by
  unfold k_cp
  rw [rS (by decide +kernel), ka5]
theorem k_cp6 {i : Nat} : (k_cp h S s1 M k a2).2.1 (.inr (S, 6)) i = if i = M then k_mx (a2 + h.2.1 (.inr (s1, 5)) k) (a2 + h.2.1 (.inr (s1, 6)) k) else h.2.1 (.inr (S, 6)) i := by
  unfold k_cp
  rw [rS (by decide +kernel), ka6]
theorem k_cp7 {i : Nat} : (k_cp h S s1 M k a2).2.1 (.inr (S, 7)) i = if i = M then h.2.1 (.inr (s1, 7)) k else h.2.1 (.inr (S, 7)) i := by
  unfold k_cp
  rw [rS (by decide +kernel), ka7]
theorem k_cp8 {i : Nat} : (k_cp h S s1 M k a2).2.1 (.inr (S, 8)) i = if i = M then h.2.1 (.inr (s1, 8)) k else h.2.1 (.inr (S, 8)) i := by
  unfold k_cp
  by_cases e : i = M
  · rw [rI_c rfl e, if_pos e]
  · rw [rI_i e, ka8, if_neg e, if_neg e]
theorem k_cp0 : (k_cp h S s1 M k a2).2.1 (.inr (S, 0)) 6 = h.2.1 (.inr (S, 0)) 6 + 1 := by
  unfold k_cp
  rw [rS (by decide +kernel), ka0, if_pos rfl]
/-- so far: k pieces of s1, moved by o corners -/
def rj_Z (hc0 hr0 hc hr : mx_H) (S C N M s1 C1 F1 o k : Nat) : Prop := rj_c S hc0 hc ∧ rj_r N S hr0 hr ∧ rj_J hc hr S C N M ∧ ∀ u v, u < 6 → v < 6 → ¬ hr.2.1 (.inl 113) (36 * S + 6 * u + v) = 0 → (u < o ∧ v < o) ∨ ∃ k' u0 v0, k' < k ∧ rs_k hc0 hr0 s1 C1 F1 k' u0 v0 ∧ ((u = o + u0 ∧ v = o + v0) ∨ (u = o + v0 ∧ v = o + u0))
/-! numbers, apart from the heaps (omega is slow where many facts stand) -/
theorem i_suc {x : Int32} {n : Nat} (h : x.toInt = (n : Int)) (l : n ≤ 2147483646) : (x + 1).toInt = ((n + 1 : Nat) : Int) := (i_add h k_1 (by omega) (by omega)).trans (by omega)
theorem i_addn {x y : Int32} {p q : Nat} (hx : x.toInt = (p : Int)) (hy : y.toInt = (q : Int)) (l : p + q ≤ 2147483647) : (x + y).toInt = ((p + q : Nat) : Int) := (i_add hx hy (by omega) (by omega)).trans (by omega)
theorem rjn_ne {x : Int} {F a b : Nat} (p : x = ((F + a + 1 : Nat) : Int)) (q : x = ((F + b + 1 : Nat) : Int)) (h : a < b) : False := by omega
theorem rjn_o1 {u0 v0 u1 v1 : Nat} (w : (o + u0 = o + u1 ∧ o + v0 = o + v1) ∨ (o + u0 = o + v1 ∧ o + v0 = o + u1)) (f : ¬ (u1 = u0 ∧ v1 = v0) ∧ ¬ (u1 = v0 ∧ v1 = u0)) : False := by omega
theorem rjn_o2 {u0 v0 u1 v1 : Nat} (w : (o + v0 = o + u1 ∧ o + u0 = o + v1) ∨ (o + v0 = o + v1 ∧ o + u0 = o + u1)) (f : ¬ (u1 = u0 ∧ v1 = v0) ∧ ¬ (u1 = v0 ∧ v1 = u0)) : False := by omega
theorem rjn_n {u0 v0 : Nat} (C6 : C ≤ 6) (oC : o + C1 ≤ C) (q1 : u0 < C1) (q2 : v0 < C1) (q3 : u0 ≠ v0) : (o ≤ 6 ∧ u0 < 6 ∧ v0 < 6) ∧ (o + u0 < 6 ∧ o + v0 < 6) ∧ (o + u0 < C ∧ o + v0 < C) ∧ o + u0 ≠ o + v0 ∧ (o + min u0 v0 ≤ 2147483647 ∧ o + max u0 v0 ≤ 2147483647) := ⟨⟨by omega, by omega, by omega⟩, ⟨by omega, by omega⟩, ⟨by omega, by omega⟩, by omega, ⟨by omega, by omega⟩⟩
theorem rjn_far {u v : Nat} (ne : s1 ≠ S) (hu : u < 6) (hv : v < 6) : ¬ (36 * S ≤ 36 * s1 + 6 * u + v ∧ 36 * s1 + 6 * u + v < 36 * S + 36) := by omega
theorem rjn_mn {u v : Nat} : ((min (o + min u v) (o + max u v) : Nat) : Int) = ((min (o + u) (o + v) : Nat) : Int) := by omega
theorem rjn_mx {u v : Nat} : ((max (o + min u v) (o + max u v) : Nat) : Int) = ((max (o + u) (o + v) : Nat) : Int) := by omega
theorem rjn_b {u v : Nat} (S12 : S ≤ 12) (hu : u < 6) (hv : v < 6) : 36 * S + 6 * u + v ≤ 2147483646 := by omega
theorem rjn_i {u v i : Nat} (hu : u < 6) (hv : v < 6) (p : ¬ (36 * S ≤ i ∧ i < 36 * S + 36)) : ¬ i = 36 * S + 6 * u + v := by omega
theorem rjn_0 {F1 : Nat} (K : (b ≤ F1 ∧ k = 0) ∨ (F1 < b ∧ b ≤ F1 + n ∧ k = b - F1) ∨ (F1 + n < b ∧ k = n)) (e : b + 0 = B) (NB : N ≤ B) (fn : F1 + n ≤ N) : k = n ∧ (B : Int) ≤ (b : Int) := ⟨by omega, by omega⟩
theorem rjn_2 {j : Nat} (e : b + (j + 1) = B) (BM : B ≤ N + M) (room : N + M + (n - k) ≤ 200) : b ≤ 2147483646 ∧ b < B ∧ b + 1 + j = B := ⟨by omega, by omega, by omega⟩
theorem rjn_3 {F1 : Nat} (K : (b ≤ F1 ∧ k = 0) ∨ (F1 < b ∧ b ≤ F1 + n ∧ k = b - F1) ∨ (F1 + n < b ∧ k = n)) (c : F1 ≤ b ∧ b < F1 + n) (fn : F1 + n ≤ N) : F1 + k = b ∧ k < n ∧ b < N ∧ ((b + 1 ≤ F1 ∧ k + 1 = 0) ∨ (F1 < b + 1 ∧ b + 1 ≤ F1 + n ∧ k + 1 = b + 1 - F1) ∨ (F1 + n < b + 1 ∧ k + 1 = n)) := ⟨by omega, by omega, by omega, by omega⟩
theorem rjn_5 {F1 : Nat} (fn : F1 + n ≤ N) (room : N + M + (n - k) ≤ 200) (kn : k < n) : N + M < 200 ∧ N + (M + 1) + (n - (k + 1)) ≤ 200 ∧ M + 1 + (n - (k + 1)) = M + (n - k) ∧ k ≤ 2147483646 := ⟨by omega, by omega, by omega, by omega⟩
theorem rjn_9 (h : ¬ b < N) (NB : N ≤ B) (bB : b < B) (BM : B ≤ N + M) : b - N < M ∧ N + (b - N) = b := ⟨by omega, by omega⟩
theorem rjn_11 {F1 : Nat} (K : (b ≤ F1 ∧ k = 0) ∨ (F1 < b ∧ b ≤ F1 + n ∧ k = b - F1) ∨ (F1 + n < b ∧ k = n)) (c : ¬ (F1 ≤ b ∧ b < F1 + n)) : (b + 1 ≤ F1 ∧ k = 0) ∨ (F1 < b + 1 ∧ b + 1 ≤ F1 + n ∧ k = b + 1 - F1) ∨ (F1 + n < b + 1 ∧ k = n) := by omega
theorem rj_step (Z : rj_Z hc0 hr0 hc hr S C N M s1 C1 F1 o k) (Q : rs_k hc0 hr0 s1 C1 F1 k u0 v0) (oC : o + C1 ≤ C) (ne : s1 ≠ S) (S12 : S ≤ 12) (NM : N + M < 200) (h2 : c2.toInt = (o : Int)) (hs : a2.toInt = (S : Int)) (hx : x.toInt = ((o + u0 : Nat) : Int)) (hy : y.toInt = ((o + v0 : Nat) : Int)) :
    M < 15 ∧ rj_Z hc0 hr0 (k_cp hc S s1 M k c2) (f193 a2 x y (f181 a2 x y (hr.2.1 (.inl 105) 12) (hr.2.1 (.inl 111) (36 * s1 + 6 * u0 + v0)) (hr.2.1 (.inl 112) (36 * s1 + 6 * u0 + v0)) hr)) S C N (M + 1) s1 C1 F1 o (k + 1) := by
  obtain ⟨fc, fr, J, O⟩ := Z
  obtain ⟨q1, q2, q3, q4, q5, q6, q7, q8, q9, q10, q11, q12⟩ := id Q
  obtain ⟨⟨o6, u06, v06⟩, ⟨u6, v6⟩, ⟨uC, vC⟩, nuv, mb, xb⟩ := rjn_n J.1 oC q1 q2 q3
  have far : ∀ k' u1 v1, k' < k → rs_k hc0 hr0 s1 C1 F1 k' u1 v1 → ¬ (u1 = u0 ∧ v1 = v0) ∧ ¬ (u1 = v0 ∧ v1 = u0) := fun k' u1 v1 hk P => by
    have p6 := P.2.2.2.2.2.1
    refine ⟨fun t => ?_, fun t => ?_⟩
    · rw [t.1, t.2] at p6
      exact rjn_ne p6 q6 hk
    · rw [t.1, t.2] at p6
      exact rjn_ne p6 q7 hk
  have z1 : hr.2.1 (.inl 113) (36 * S + 6 * (o + u0) + (o + v0)) = 0 := Classical.byContradiction fun t => by
    rcases O (o + u0) (o + v0) u6 v6 t with w | ⟨k', u1, v1, w1, w2, w3⟩
    · exact absurd w.1 (Nat.not_lt.mpr (Nat.le_add_right _ _))
    · exact rjn_o1 w3 (far k' u1 v1 w1 w2)
  have z2 : hr.2.1 (.inl 113) (36 * S + 6 * (o + v0) + (o + u0)) = 0 := Classical.byContradiction fun t => by
    rcases O (o + v0) (o + u0) v6 u6 t with w | ⟨k', u1, v1, w1, w2, w3⟩
    · exact absurd w.1 (Nat.not_lt.mpr (Nat.le_add_right _ _))
    · exact rjn_o2 w3 (far k' u1 v1 w1 w2)
  have M15 := rj_15 J u6 v6 nuv z1 z2
  refine ⟨M15, ?_⟩
  have e5 : (hc.2.1 (.inr (s1, 5)) k).toInt = ((min u0 v0 : Nat) : Int) := by
    rw [fc.2.2.2 s1 5 k (fun t => ne t.1)]
    exact q4
  have e6 : (hc.2.1 (.inr (s1, 6)) k).toInt = ((max u0 v0 : Nat) : Int) := by
    rw [fc.2.2.2 s1 6 k (fun t => ne t.1)]
    exact q5
  have x5 : (c2 + hc.2.1 (.inr (s1, 5)) k).toInt = ((o + min u0 v0 : Nat) : Int) := i_addn h2 e5 mb
  have x6 : (c2 + hc.2.1 (.inr (s1, 6)) k).toInt = ((o + max u0 v0 : Nat) : Int) := i_addn h2 e6 xb
  have e7 : hr.2.1 (.inl 111) (36 * s1 + 6 * u0 + v0) = hc.2.1 (.inr (s1, 7)) k := by
    rw [fc.2.2.2 s1 7 k (fun t => ne t.1), fr.2.2.2 111 _ (fun t => rjn_far ne u06 v06 t.2) (fun t => absurd t.1 (by decide +kernel)) (fun t => absurd t.1 (by decide +kernel))]
    exact q8
  have e8 : hr.2.1 (.inl 112) (36 * s1 + 6 * u0 + v0) = hc.2.1 (.inr (s1, 8)) k := by
    rw [fc.2.2.2 s1 8 k (fun t => ne t.1), fr.2.2.2 112 _ (fun t => rjn_far ne u06 v06 t.2) (fun t => absurd t.1 (by decide +kernel)) (fun t => absurd t.1 (by decide +kernel))]
    exact q10
  rw [e7, e8]
  generalize hG : f193 a2 x y (f181 a2 x y (hr.2.1 (.inl 105) 12) (hc.2.1 (.inr (s1, 7)) k) (hc.2.1 (.inr (s1, 8)) k) hr) = g
  have j2 := J.2.2.1
  obtain ⟨r1, r2, r3, r4, r5, r6, r7, r8, r9, r10, r11⟩ := R_add (N := N + M) hs hx hy j2 S12 u6 v6 nuv hG.symm
  have bo : (hr.2.1 (.inl 105) 12 + 1).toInt = ((N + M + 1 : Nat) : Int) := i_suc j2 (Nat.le_trans (Nat.le_of_lt NM) (by decide +kernel))
  have w := w179 hs hx hy S12 u6 v6
  have A := rj_add (u := o + u0) (v := o + v0) J uC vC nuv z1 z2 (gc := k_cp hc S s1 M k c2) (gr := g) (fun i => k_cp5) (fun i => k_cp6) (fun i => k_cp7) (fun i => k_cp8)
    (by unfold rD; rw [k_cp0]; exact i_suc J.2.1 (Nat.le_trans (Nat.le_of_lt M15) (by decide +kernel))) ((k_mn_v x5 x6).trans rjn_mn) ((k_mx_v x5 x6).trans rjn_mx) bo (w := f179 a2 x y + 1) (i_suc w (rjn_b S12 u6 v6)) r4 r5 r6 r7 r8 (by unfold rD; rw [r9]; exact bo) (by rw [fc.2.2.2 s1 8 k (fun t => ne t.1), fc.2.2.2 s1 7 k (fun t => ne t.1)]; exact q12.2)
  refine ⟨fc.trans k_cpF, fr.trans ⟨r1, r2, r3, fun a i p1 p2 p3 => ?_⟩, A.1, fun u v hu hv t => ?_⟩
  · by_cases c105 : a = 105
    · subst c105
      exact r10 i (fun e => p2 ⟨rfl, e⟩)
    · by_cases c111 : a = 111
      · subst c111
        rw [r5, if_neg (rjn_i v6 u6 (fun t => p1 ⟨Or.inl rfl, t⟩)), if_neg (rjn_i u6 v6 (fun t => p1 ⟨Or.inl rfl, t⟩))]
      · by_cases c112 : a = 112
        · subst c112
          rw [r6, if_neg (rjn_i v6 u6 (fun t => p1 ⟨Or.inr (Or.inl rfl), t⟩)), if_neg (rjn_i u6 v6 (fun t => p1 ⟨Or.inr (Or.inl rfl), t⟩))]
        · by_cases c113 : a = 113
          · subst c113
            rw [r4, if_neg (rjn_i v6 u6 (fun t => p1 ⟨Or.inr (Or.inr rfl), t⟩)), if_neg (rjn_i u6 v6 (fun t => p1 ⟨Or.inr (Or.inr rfl), t⟩))]
          · by_cases c116 : a = 116
            · subst c116
              rw [r7, if_neg (fun e => p3 ⟨Or.inl rfl, by rw [e]; exact Nat.le_add_right _ _⟩)]
            · by_cases c117 : a = 117
              · subst c117
                rw [r8, if_neg (fun e => p3 ⟨Or.inr rfl, by rw [e]; exact Nat.le_add_right _ _⟩)]
              · exact r11 a i c105 c111 c112 c113 c116 c117
  · rcases A.2 u v hu hv t with t | t | t
    · exact Or.inr ⟨k, u0, v0, Nat.lt_succ_self k, Q, Or.inl t⟩
    · exact Or.inr ⟨k, u0, v0, Nat.lt_succ_self k, Q, Or.inr t⟩
    · rcases O u v hu hv t with w | ⟨k', u1, v1, w1, w2, w3⟩
      · exact Or.inl w
      · exact Or.inr ⟨k', u1, v1, Nat.lt_succ_of_lt w1, w2, w3⟩
/-- both loops, from body b on -/
theorem rj_copy (D : rs_D hc0 hr0 N s1 C1 n F1) (Hm : ∀ b, b < N → ¬ (F1 ≤ b ∧ b < F1 + n) → hr0.2.1 (.inl 117) b = 0 ∨ ∃ s u v : Nat, s ≤ 12 ∧ s ≠ s1 ∧ u < 6 ∧ v < 6 ∧ rD hr0 (.inl 117) b = ((36 * s + 6 * u + v + 1 : Nat) : Int)) (oC : o + C1 ≤ C) (lt : s1 < S) (S12 : S ≤ 12) (h1 : a1.toInt = (s1 : Int)) (h2 : c2.toInt = (o : Int)) (hs : a2.toInt = (S : Int)) (h4 : a4.toInt = (B : Int)) (NB : N ≤ B) :
    ∀ (j b k M : Nat) (a3 a5 : Int32) {hc hr : mx_H}, b + j = B → a5.toInt = (b : Int) → a3.toInt = (k : Int) → (b ≤ F1 ∧ k = 0) ∨ (F1 < b ∧ b ≤ F1 + n ∧ k = b - F1) ∨ (F1 + n < b ∧ k = n) → B ≤ N + M → N + M + (n - k) ≤ 200 → rj_Z hc0 hr0 hc hr S C N M s1 C1 F1 o k → rj_Z hc0 hr0 (g64_102 S s1 c2 a3 hc) (g278_9 a1 a2 c2 a4 a5 hr) S C N (M + (n - k)) s1 C1 F1 o n
  | 0, b, k, M, a3, a5, hc, hr, e, hb, ha, K, BM, room, Z => by
    obtain ⟨kn, le⟩ := rjn_0 K e NB D.2.2.1
    have h6 : rD hc (.inr (s1, 0)) 6 = n := by
      unfold rD
      rw [Z.1.2.2.2 s1 0 6 (fun t => absurd t.1 (Nat.ne_of_lt lt))]
      exact D.2.2.2.2.2.1
    subst kn
    rw [g64_102_eq, if_pos (i_le h6 ha (Int.le_refl _)), g278_9_eq, if_pos (i_le h4 hb le), Nat.sub_self, Nat.add_zero]
    exact Z
  | j + 1, b, k, M, a3, a5, hc, hr, e, hb, ha, K, BM, room, Z => by
    have fn := D.2.2.1
    have C6 := Z.2.2.1.1
    have ne : s1 ≠ S := Nat.ne_of_lt lt
    obtain ⟨bb, bB, e'⟩ := rjn_2 e BM room
    have hb1 : (a5 + 1).toInt = ((b + 1 : Nat) : Int) := i_suc hb bb
    by_cases c : F1 ≤ b ∧ b < F1 + n
    · obtain ⟨fkb, kn, bN, K'⟩ := rjn_3 K c fn
      obtain ⟨NM, room', en, kb⟩ := rjn_5 fn room kn
      obtain ⟨u0, v0, Q⟩ := D.2.2.2.2.2.2.2.2.2.1 k kn
      have hh : rD hr (.inl 117) b = ((36 * s1 + 6 * u0 + v0 + 1 : Nat) : Int) := by
        have q := Q.2.2.2.2.2.2.2.2.2.2.2.1
        rw [fkb] at q
        unfold rD at q ⊢
        rw [Z.2.1.2.2.2 117 b (fun t => absurd t.1 (by decide +kernel)) (fun t => absurd t.1 (by decide +kernel)) (fun t => absurd bN (Nat.not_lt.mpr t.2))]
        exact q
      obtain ⟨⟨o6, u06, v06⟩, -⟩ := rjn_n C6 oC Q.1 Q.2.1 Q.2.2.1
      obtain ⟨x, y, hx, hy, E⟩ := R278c (a2 := a2) h1 h2 o6 h4 hb bB hh u06 v06 (Nat.le_trans (Nat.le_of_lt lt) S12)
      obtain ⟨M15, Z'⟩ := rj_step Z Q oC ne S12 NM h2 hs hx hy
      have h6 : rD hc (.inr (s1, 0)) 6 = n := by
        unfold rD
        rw [Z.1.2.2.2 s1 0 6 (fun t => ne t.1)]
        exact D.2.2.2.2.2.1
      rw [E, C64b ne h6 Z.2.2.1.2.1 M15 ha kn]
      have r := rj_copy D Hm oC lt S12 h1 h2 hs h4 NB j (b + 1) (k + 1) (M + 1) (a3 + 1) (a5 + 1) e' hb1 (i_suc ha kb) K' (Nat.le_succ_of_le BM) room' Z'
      rw [en] at r
      exact r
    · have E : g278_9 a1 a2 c2 a4 a5 hr = g278_9 a1 a2 c2 a4 (a5 + 1) hr := by
        by_cases bN : b < N
        · have e7 : hr.2.1 (.inl 117) b = hr0.2.1 (.inl 117) b := Z.2.1.2.2.2 117 b (fun t => absurd t.1 (by decide +kernel)) (fun t => absurd t.1 (by decide +kernel)) (fun t => absurd bN (Nat.not_lt.mpr t.2))
          rcases Hm b bN c with z | ⟨s, u, v, w1, w2, w3, w4, w5⟩
          · exact R278a h4 hb bB (e7.trans z)
          · exact R278b h1 h4 hb bB (show rD hr (.inl 117) b = _ by unfold rD; rw [e7]; exact w5) w3 w4 w1 w2
        · obtain ⟨bM, Nb⟩ := rjn_9 bN NB bB BM
          obtain ⟨-, u, v, Q⟩ := Z.2.2.1.2.2.2.1 (b - N) bM
          have q := Q.2.2.2.2.2.2.2.2.2.2.2.1
          rw [Nb] at q
          exact R278b h1 h4 hb bB q (Nat.lt_of_lt_of_le Q.1 C6) (Nat.lt_of_lt_of_le Q.2.1 C6) S12 (fun e => ne e.symm)
      rw [E]
      exact rj_copy D Hm oC lt S12 h1 h2 hs h4 NB j (b + 1) k M a3 (a5 + 1) e' hb1 ha (rjn_11 K c) BM room Z
end RV
