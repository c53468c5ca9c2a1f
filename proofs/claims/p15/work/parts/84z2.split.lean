/-! ===== 84z2: SPLIT ===== -/
section MY
variable {h g hc hr k k2 k' : mx_H} {S N C n F s t t' c b m i : Nat} {a1 a2 a3 a4 a5 a6 a7 a8 x y w : Int32} {q : Int} {f : Nat → Nat}
theorem zg_ex {i : Int} : ∀ m, m ≤ 99 → (∀ p', m < p' → p' ≤ 99 → i < (f p' : Int)) → ∃ r, zg f i r
  | 0, hm, hh => ⟨0, hm, Or.inl rfl, hh⟩
  | m + 1, hm, hh => by
    by_cases z : (f (m + 1) : Int) ≤ i
    · exact ⟨m + 1, hm, Or.inr z, hh⟩
    · exact zg_ex m (by omega) (fun p' l1 l2 => by
        by_cases e : p' = m + 1
        · rw [e]
          omega
        · exact hh p' (by omega) l2)
/-- a tone's SHUT -/
noncomputable def zt (f : Nat → Nat) (j : Nat) : Nat := Classical.choose (zg_ex (f := f) (i := (j : Int)) 99 (Nat.le_refl _) (fun p' l1 l2 => by omega))
theorem zt_s {j : Nat} : zg f (j : Int) (zt f j) := Classical.choose_spec (zg_ex (f := f) (i := (j : Int)) 99 (Nat.le_refl _) (fun p' l1 l2 => by omega))
theorem zt_e {j r : Nat} (z : zg f (j : Int) r) : r = zt f j := zg_u z zt_s
theorem zt_99 {j : Nat} : zt f j ≤ 99 := zt_s.1
theorem TTc (N : nt_N hc k t C) (V : nt_V k C) (h1 : a1.toInt = (i : Int)) (h2 : a2.toInt = q) (q1 : 1 ≤ q) (q9 : q ≤ 9) : (f33 t a1 a2 hc).1 = nI (zt (fb k C q) i) ∧ cm_F hc (f33 t a1 a2 hc).2 t := by
  obtain ⟨r, x1, x2, x3⟩ := TNc N V h1 h2 q1 q9
  exact ⟨by rw [x1, zt_e x2], x3⟩
theorem TTr (hC : rD k (.inl 105) 35 = C) (C6 : C ≤ 6) (V : nt_V k C) (st : mi_S k b) (hb : b + 8 < 2147483647) (h1 : a1.toInt = (i : Int)) (h2 : a2.toInt = q) (q1 : 1 ≤ q) (q9 : q ≤ 9) (M : zm7 (fb k C q) k) : (f219 a1 a2 k).1 = nI (zt (fb k C q) i) ∧ tw_F k (f219 a1 a2 k).2 ∧ mi_S (f219 a1 a2 k).2 (b + 7) ∧ zm7 (fb k C q) (f219 a1 a2 k).2 := by
  obtain ⟨r, y1, y2, y3, y4, y5⟩ := TNr hC C6 V st hb h1 h2 q1 q9 M
  exact ⟨by rw [y1, zt_e y2], y3, y4, y5⟩
theorem TTs (hC : rD k (.inl 105) 35 = C) (C6 : C ≤ 6) (V : nt_V k C) (st : mi_S k b) (hb : b + 8 < 2147483647) (h1 : a1.toInt = (i : Int)) (h2 : a2.toInt = q) (q1 : 1 ≤ q) (q9 : q ≤ 9) : (f220 a1 a2 k).1 = nI (zt (fb k C q) i) ∧ tw_F k (f220 a1 a2 k).2 ∧ mi_S (f220 a1 a2 k).2 (b + 7) := by
  obtain ⟨r, y1, y2, y3, y4⟩ := TNs hC C6 V st hb h1 h2 q1 q9
  exact ⟨by rw [y1, zt_e y2], y3, y4⟩
/-- another net is left alone -/
theorem nt_cmo (N : nt_N hc k t' C) (F : cm_F hc g t) (ne : t' ≠ t) : nt_N g k t' C := by
  have r : ∀ o i, g.2.1 (.inr (t', o)) i = hc.2.1 (.inr (t', o)) i := fun o i => F.1 _ _ (fun e => by
    cases e
    exact ne rfl) (fun e => by
    obtain ⟨e1, -⟩ := e
    cases e1
    exact ne rfl)
  obtain ⟨n1, n2, n3, n4, n5⟩ := N
  refine ⟨n1, ?_, n3, fun i hi => ?_, fun i j hi hj => ?_⟩
  · unfold rD
    rw [r]
    exact n2
  · rw [r, r, r]
    exact n4 i hi
  · rw [r]
    exact n5 i j hi hj
theorem cm_s (F : cm_F h g t) {o i : Nat} (ho : o < 30) : g.2.1 (.inr (s, o)) i = h.2.1 (.inr (s, o)) i := F.1 _ _ (fun e => by
  cases e
  omega) (fun e => by
  obtain ⟨e1, -⟩ := e
  cases e1
  omega)
/-- weighed alike -/
theorem nt_wt (N : nt_N hc k t C) (V : nt_V k C) (x1 : 1 ≤ x.toInt) (x9 : x.toInt ≤ 9) (c : Nat) : nt_N (mx_uI hc (.inr (t, 31)) c x) (mx_uI k (.inl 128) c x) t C ∧ nt_V (mx_uI k (.inl 128) c x) C := by
  obtain ⟨n1, n2, n3, n4, n5⟩ := N
  have r8 : ∀ i, 1 ≤ rD k (.inl 128) i ∧ rD k (.inl 128) i ≤ 9 → 1 ≤ rD (mx_uI k (.inl 128) c x) (.inl 128) i ∧ rD (mx_uI k (.inl 128) c x) (.inl 128) i ≤ 9 := fun i hi => by
    unfold rD
    by_cases z : i = c
    · rw [z, rI_s]
      exact ⟨x1, x9⟩
    · rw [rI_i z]
      exact hi
  refine ⟨⟨n1, ?_, ?_, fun i hi => ?_, fun i j hi hj => ?_⟩, fun i hi => ⟨?_, r8 i (V.1 i hi).2⟩, fun i j hi hj => ?_⟩
  · unfold rD
    rw [rI_a (ne_o (by decide))]
    exact n2
  · unfold rD
    rw [rI_a (ne_l (by decide))]
    exact n3
  · obtain ⟨m1, m2, m3, m4⟩ := n4 i hi
    refine ⟨?_, r8 i m2, ?_, ?_⟩
    · by_cases z : i = c
      · rw [z, rI_s, rI_s]
      · rw [rI_i z, rI_i z]
        exact m1
    · rw [rI_a (ne_o (by decide)), rI_a (ne_l (by decide))]
      exact m3
    · rw [rI_a (ne_o (by decide)), rI_a (ne_l (by decide))]
      exact m4
  · rw [rI_a (ne_o (by decide)), rI_a (ne_l (by decide))]
    exact n5 i j hi hj
  · unfold rD
    rw [rI_a (ne_l (by decide))]
    exact (V.1 i hi).1
  · unfold rD
    rw [rI_a (ne_l (by decide)), rI_a (ne_l (by decide))]
    exact V.2 i j hi hj
/-- how many of the first m tones are parted -/
def sp_n (τ τ' : Nat → Nat) (i : Nat) : Nat → Nat
  | 0 => 0
  | m + 1 => sp_n τ τ' i m + if τ m = τ i ∧ τ' m ≠ τ m then 1 else 0
theorem sp_le {τ τ' : Nat → Nat} : ∀ m, sp_n τ τ' i m ≤ m
  | 0 => Nat.le_refl _
  | m + 1 => by
    have := sp_le (τ := τ) (τ' := τ') m
    unfold sp_n
    split <;> omega
theorem nI_q9 {p q : Nat} (hp : p ≤ 99) (hq : q ≤ 99) : nI p = nI q ↔ p = q := ⟨fun e => by
  have e1 := nI_toInt (n := p) (by omega)
  have e2 := nI_toInt (n := q) (by omega)
  rw [e] at e1
  omega, fun e => by rw [e]⟩
/-- the class walks over its two nets -/
theorem S113 (V : nt_V k C) (V2 : nt_V k2 C) (h1 : a1.toInt = (s : Int)) (s12 : s ≤ 12) (C6 : C ≤ 6) (kr : rD hr (.inl 106) s = C) (hm : f195 a1 hr = nI m) (m6 : m ≤ 6) (h3 : a3.toInt = q) (q1 : 1 ≤ q) (q9 : q ≤ 9) : ∀ (j c : Nat) (a8 a9 : Int32) {g : mx_H}, c + j = m → a9.toInt = (c : Int) → a8 = nI (sp_n (zt (fb k C q)) (zt (fb k2 C q)) i c) → nt_N g k 0 C → nt_N g k2 1 C → rD g (.inr (s, 0)) 0 = C → (∀ c, c < C → g.2.1 (.inr (s, 4)) c = hr.2.1 (.inl 110) (6 * s + c)) → (g113_134 a3 s (nI (zt (fb k C q) i)) a8 a9 g).1 = nI (sp_n (zt (fb k C q)) (zt (fb k2 C q)) i m)
  | 0, c, a8, a9, g, e, h9, h8, N1, N2, k0, k4 => by
    have ht : f60 s g = nI m := by
      rw [f60_eq, aw_tg h1 s12 C6 k0 kr k4 C 0 0 0 (by omega) rfl, ← f195_eq]
      exact hm
    rw [g113_134_eq, ht, if_pos (i_le (nI_toInt (n := m) (by omega)) h9 (by omega)), h8, show c = m by omega]
  | j + 1, c, a8, a9, g, e, h9, h8, N1, N2, k0, k4 => by
    have ht : f60 s g = nI m := by
      rw [f60_eq, aw_tg h1 s12 C6 k0 kr k4 C 0 0 0 (by omega) rfl, ← f195_eq]
      exact hm
    have h9' := (i_add h9 k_1 (by omega) (by omega)).trans (show (c : Int) + 1 = ((c + 1 : Nat) : Int) by omega)
    obtain ⟨t1, F1⟩ := TTc (a1 := a9) N1 V h9 h3 q1 q9
    have N1' := nt_cm N1 F1
    have N2' := nt_cmo N2 F1 (by decide)
    obtain ⟨t2, F2⟩ := TTc (a1 := a9) N2' V2 h9 h3 q1 q9
    have k0' : rD (f33 0 a9 a3 g).2 (.inr (s, 0)) 0 = C := (congrArg Int32.toInt (cm_s F1 (by decide))).trans k0
    have k4' : ∀ c, c < C → (f33 0 a9 a3 g).2.2.1 (.inr (s, 4)) c = hr.2.1 (.inl 110) (6 * s + c) := fun c hc => (cm_s F1 (by decide)).trans (k4 c hc)
    have le := sp_le (τ := zt (fb k C q)) (τ' := zt (fb k2 C q)) (i := i) c
    rw [g113_134_eq, ht, if_neg (i_nle (nI_toInt (n := m) (by omega)) h9 (by omega))]
    simp only [x_let]
    rw [t1, t2]
    by_cases z : zt (fb k C q) c = zt (fb k C q) i
    · rw [if_neg (fun w => w (by rw [z]))]
      by_cases z2 : zt (fb k2 C q) c = zt (fb k C q) i
      · rw [if_pos (by rw [z2])]
        exact S113 V V2 h1 s12 C6 kr hm m6 h3 q1 q9 j (c + 1) a8 (a9 + 1) (by omega) h9' (by rw [h8, sp_n, if_neg (fun w => w.2 (by rw [z2, z])), Nat.add_zero]) (nt_cmo N1' F2 (by decide)) (nt_cm N2' F2) ((congrArg Int32.toInt (cm_s F2 (by decide))).trans k0') (fun c hc => (cm_s F2 (by decide)).trans (k4' c hc))
      · rw [if_neg (fun w => z2 ((nI_q9 zt_99 zt_99).mp w))]
        exact S113 V V2 h1 s12 C6 kr hm m6 h3 q1 q9 j (c + 1) (a8 + 1) (a9 + 1) (by omega) h9' (by rw [h8, sp_n, if_pos ⟨z, fun w => z2 (w.trans z)⟩, nI_s]) (nt_cmo N1' F2 (by decide)) (nt_cm N2' F2) ((congrArg Int32.toInt (cm_s F2 (by decide))).trans k0') (fun c hc => (cm_s F2 (by decide)).trans (k4' c hc))
    · rw [if_pos (fun w => z ((nI_q9 zt_99 zt_99).mp w))]
      exact S113 V V2 h1 s12 C6 kr hm m6 h3 q1 q9 j (c + 1) a8 (a9 + 1) (by omega) h9' (by rw [h8, sp_n, if_neg (fun w => z w.1), Nat.add_zero]) N1' N2' k0' k4'
/-- the reference's frame: the told SHUTS too -/
def tv_F (k k' : mx_H) : Prop := ∀ a i, a ≠ .inl 134 → a ≠ .inl 136 → a ≠ .inl 137 → a ≠ .inl 138 → ¬ (a = .inl 105 ∧ (i = 37 ∨ i = 42)) → k'.2.1 a i = k.2.1 a i
theorem tv_F.refl : tv_F k k := fun _ _ _ _ _ _ _ => rfl
theorem tv_F.tw (A : tv_F h g) (B : tw_F g k) : tv_F h k := fun a i h1 h2 h3 h4 h5 => (B a i h1 h2 h3 h5).trans (A a i h1 h2 h3 h4 h5)
theorem tv_F.fu {j : Nat} {v : Int32} (A : tv_F h g) : tv_F h (mx_uI g (.inl 138) j v) := fun a i h1 h2 h3 h4 h5 => (rI_a h4).trans (A a i h1 h2 h3 h4 h5)
theorem tv_l (F : tv_F k k') {x i : Nat} (h1 : x < 132) (h2 : x ≠ 105) : k'.2.1 (.inl x) i = k.2.1 (.inl x) i := F _ _ (ne_l (by omega)) (ne_l (by omega)) (ne_l (by omega)) (ne_l (by omega)) (fun e => absurd e.1 (ne_l h2))
theorem tv_Q (F : tv_F k k') : nt_Q k k' := fun x i h1 h2 => tv_l F (by omega) (by omega)
theorem tv_C (F : tv_F k k') : rD k' (.inl 105) 35 = rD k (.inl 105) 35 := congrArg Int32.toInt (F _ _ (ne_l (by decide)) (ne_l (by decide)) (ne_l (by decide)) (ne_l (by decide)) (fun e => absurd e.2 (by decide)))
theorem R120 (hC : rD k (.inl 105) 35 = C) (C6 : C ≤ 6) (V : nt_V k C) (h6 : a6 = nI m) (m6 : m ≤ 6) (h3 : a3.toInt = q) (q1 : 1 ≤ q) (q9 : q ≤ 9) (hb : b + 100 < 2147483647) : ∀ (j c : Nat) (a7 : Int32) {g : mx_H}, c + j = m → a7.toInt = (c : Int) → tv_F k g → mi_S g (b + 7 * c) → zm7 (fb k C q) g → (∀ i, i < c → g.2.1 (.inl 138) i = nI (zt (fb k C q) i)) → ∃ g' a7', g223_120 a1 a2 a3 a4 a5 a6 a7 g = g223_120 a1 a2 a3 a4 a5 a6 a7' g' ∧ a6 ≤ a7' ∧ tv_F k g' ∧ mi_S g' (b + 42) ∧ ∀ i, i < m → g'.2.1 (.inl 138) i = nI (zt (fb k C q) i)
  | 0, c, a7, g, e, h7, F, st, M, O => ⟨g, a7, rfl, by
    rw [h6]
    exact i_le (nI_toInt (n := m) (by omega)) h7 (by omega), F, st.up (by omega), fun i hi => O i (by omega)⟩
  | j + 1, c, a7, g, e, h7, F, st, M, O => by
    have h7' := (i_add h7 k_1 (by omega) (by omega)).trans (show (c : Int) + 1 = ((c + 1 : Nat) : Int) by omega)
    have Q := tv_Q F
    obtain ⟨y1, y2, y3, y4⟩ := TTr (a1 := a7) ((tv_C F).trans hC) C6 (nt_QV Q V) st (by omega) h7 h3 q1 q9 (by
      rw [nt_Qb Q]
      exact M)
    rw [nt_Qb Q] at y1 y4
    have step : g223_120 a1 a2 a3 a4 a5 a6 a7 g = g223_120 a1 a2 a3 a4 a5 a6 (a7 + 1) (mx_uI (f219 a7 a3 g).2 (.inl 138) c (nI (zt (fb k C q) c))) := by
      rw [g223_120_eq, if_neg (by
        rw [h6]
        exact i_nle (nI_toInt (n := m) (by omega)) h7 (by omega))]
      simp only [x_let]
      rw [y1, i_cl h7]
    obtain ⟨g', a7', e1, e2, e3, e4, e5⟩ := R120 hC C6 V h6 m6 h3 q1 q9 hb j (c + 1) (a7 + 1) (g := mx_uI (f219 a7 a3 g).2 (.inl 138) c (nI (zt (fb k C q) c))) (by omega) h7' (F.tw y2).fu (mi_Sf (fun i => rI_a (ne_l (by decide))) (rI_a (ne_l (by decide))) (y3.up (by omega))) (fun p hp => by
      rw [rI_a (ne_l (by decide))]
      exact y4 p hp) (fun i hi => by
      by_cases z : i = c
      · rw [z, rI_s]
      · rw [rI_i z, y2 _ _ (ne_l (by decide)) (ne_l (by decide)) (ne_l (by decide)) (fun e => absurd e.1 (ne_l (by decide)))]
        exact O i (by omega))
    exact ⟨g', a7', step.trans e1, e2, e3, e4, e5⟩
theorem R184 (hC : rD k2 (.inl 105) 35 = C) (C6 : C ≤ 6) (V : nt_V k2 C) (h6 : a6 = nI m) (m6 : m ≤ 6) (h2 : a2.toInt = (i : Int)) (im : i < m) (h3 : a3.toInt = q) (q1 : 1 ≤ q) (q9 : q ≤ 9) (hb : b + 100 < 2147483647) (O : ∀ i, i < m → k2.2.1 (.inl 138) i = nI (zt f i)) : ∀ (j c : Nat) (a7 a8 : Int32) {g : mx_H}, c + j = m → a8.toInt = (c : Int) → a7 = nI (sp_n (zt f) (zt (fb k2 C q)) i c) → tw_F k2 g → mi_S g (b + 7 * c) → zm7 (fb k2 C q) g → (g223_184 a2 a3 a6 a7 a8 g).1 = nI (sp_n (zt f) (zt (fb k2 C q)) i m)
  | 0, c, a7, a8, g, e, h8, h7, F, st, M => by
    rw [g223_184_eq, h6, if_pos (i_le (nI_toInt (n := m) (by omega)) h8 (by omega)), h7, show c = m by omega]
  | j + 1, c, a7, a8, g, e, h8, h7, F, st, M => by
    have h8' := (i_add h8 k_1 (by omega) (by omega)).trans (show (c : Int) + 1 = ((c + 1 : Nat) : Int) by omega)
    have Q := tw_Q F
    have r : ∀ i, i < m → g.2.1 (.inl 138) i = nI (zt f i) := fun i hi => (F _ _ (ne_l (by decide)) (ne_l (by decide)) (ne_l (by decide)) (fun e => absurd e.1 (ne_l (by decide)))).trans (O i hi)
    rw [g223_184_eq, if_neg (by
      rw [h6]
      exact i_nle (nI_toInt (n := m) (by omega)) h8 (by omega)), i_cl h8, i_cl h2, r c (by omega), r i im]
    by_cases z : zt f c = zt f i
    · rw [if_neg (fun w => w (by rw [z]))]
      obtain ⟨y1, y2, y3, y4⟩ := TTr (a1 := a8) ((tw_C F).trans hC) C6 (nt_QV Q V) st (by omega) h8 h3 q1 q9 (by
        rw [nt_Qb Q]
        exact M)
      rw [nt_Qb Q] at y1 y4
      have r' : (f219 a8 a3 g).2.2.1 (.inl 138) c = nI (zt f c) := (y2 _ _ (ne_l (by decide)) (ne_l (by decide)) (ne_l (by decide)) (fun e => absurd e.1 (ne_l (by decide)))).trans (r c (by omega))
      simp only [x_let]
      rw [y1, r']
      by_cases z2 : zt (fb k2 C q) c = zt f c
      · rw [if_pos (by rw [z2])]
        exact R184 hC C6 V h6 m6 h2 im h3 q1 q9 hb O j (c + 1) (a7 + 0) (a8 + 1) (by omega) h8' (by rw [h7, sp_n, if_neg (fun w => w.2 z2), Nat.add_zero]; exact Int32.add_zero _) (F.trans y2) (y3.up (by omega)) y4
      · rw [if_neg (fun w => z2 ((nI_q9 zt_99 zt_99).mp w))]
        exact R184 hC C6 V h6 m6 h2 im h3 q1 q9 hb O j (c + 1) (a7 + 1) (a8 + 1) (by omega) h8' (by rw [h7, sp_n, if_pos ⟨z, z2⟩, nI_s]) (F.trans y2) (y3.up (by omega)) y4
    · rw [if_pos (fun w => z ((nI_q9 zt_99 zt_99).mp w))]
      exact R184 hC C6 V h6 m6 h2 im h3 q1 q9 hb O j (c + 1) (a7 + 0) (a8 + 1) (by omega) h8' (by rw [h7, sp_n, if_neg (fun w => z w.1), Nat.add_zero]; exact Int32.add_zero _) F (st.up (by omega)) M
end MY
