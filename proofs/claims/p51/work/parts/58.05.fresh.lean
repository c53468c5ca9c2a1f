/-! ===== the two sides: shapes and bodies alike ===== -/
/-- piece k of shape s, of body F + k, lies between u and v -/
def rs_k (hc hr : mx_H) (s C F k u v : Nat) : Prop := u < C ∧ v < C ∧ u ≠ v ∧ rD hc (.inr (s, 5)) k = (min u v : Nat) ∧ rD hc (.inr (s, 6)) k = (max u v : Nat) ∧
  rD hr (.inl 113) (36 * s + 6 * u + v) = ((F + k + 1 : Nat) : Int) ∧ rD hr (.inl 113) (36 * s + 6 * v + u) = ((F + k + 1 : Nat) : Int) ∧ hr.2.1 (.inl 111) (36 * s + 6 * u + v) = hc.2.1 (.inr (s, 7)) k ∧ hr.2.1 (.inl 111) (36 * s + 6 * v + u) = hc.2.1 (.inr (s, 7)) k ∧
  hr.2.1 (.inl 112) (36 * s + 6 * u + v) = hc.2.1 (.inr (s, 8)) k ∧ hr.2.1 (.inl 112) (36 * s + 6 * v + u) = hc.2.1 (.inr (s, 8)) k ∧ rD hr (.inl 117) (F + k) = ((36 * s + 6 * u + v + 1 : Nat) : Int) ∧ rD hc (.inr (s, 8)) k ≤ rD hc (.inr (s, 7)) k
/-- shape s, with C corners, n pieces, the first of them body F -/
def rs_D (hc hr : mx_H) (N s C n F : Nat) : Prop := 1 ≤ C ∧ C ≤ 6 ∧ F + n ≤ N ∧ rD hc (.inr (s, 0)) 0 = C ∧ rD hr (.inl 106) s = C ∧ rD hc (.inr (s, 0)) 6 = n ∧ rD hc (.inr (s, 0)) 5 = F ∧
  (∀ c, c < C → hc.2.1 (.inr (s, 1)) c = hr.2.1 (.inl 107) (6 * s + c) ∧ hc.2.1 (.inr (s, 2)) c = hr.2.1 (.inl 108) (6 * s + c) ∧ hc.2.1 (.inr (s, 3)) c = hr.2.1 (.inl 109) (6 * s + c) ∧ hc.2.1 (.inr (s, 4)) c = hr.2.1 (.inl 110) (6 * s + c)) ∧
  (hc.2.1 (.inr (s, 0)) 11 = hr.2.1 (.inl 114) s ∧ (¬ hr.2.1 (.inl 114) s = -1 → hc.2.1 (.inr (s, 0)) 12 = hr.2.1 (.inl 115) s)) ∧
  (∀ k, k < n → ∃ u v, rs_k hc hr s C F k u v) ∧ (∀ u v, u < 6 → v < 6 → hr.2.1 (.inl 113) (36 * s + 6 * u + v) = 0 ∨ ∃ k, k < n ∧ (rs_k hc hr s C F k u v ∨ rs_k hc hr s C F k v u)) ∧
  n = sd_C sd_CL (rz_g hr s) ∧ ∀ k, k < n → hc.2.2.2 (.inl 92) (F + k) = some (.inr (s, 0))
def rs_S (hc hr : mx_H) (N s : Nat) : Prop := ∃ C n F, rs_D hc hr N s C n F
def rs_B (hc hr : mx_H) (N S : Nat) : Prop := ∀ b, b < N → hc.2.1 (.inl 91) b = hr.2.1 (.inl 116) b ∧ ((hr.2.1 (.inl 117) b = 0 ∧ hc.2.2.2 (.inl 92) b = none) ∨ ∃ s k : Nat, s < S ∧ (k : Int) < rD hc (.inr (s, 0)) 6 ∧ rD hc (.inr (s, 0)) 5 + k = b)
def rs_A (hc hr : mx_H) (S N : Nat) : Prop := S ≤ 12 ∧ N ≤ 200 ∧ rD hc (.inl 0) 2 = S ∧ rD hr (.inl 105) 1 = S ∧ rD hc (.inl 90) 0 = N ∧ rD hr (.inl 105) 12 = N ∧ hc.1 = 167 + 9 * S ∧ hc.2.2.2 (.inl 0) 3 = some (.inr (S, 0)) ∧
  (∀ s, s < S → hc.2.2.2 (.inl 3) s = some (.inr (s, 0)) ∧ rs_S hc hr N s) ∧ rs_B hc hr N S
/-- shape s is as it was -/
def rs_ec (s : Nat) (h h' : mx_H) : Prop := ∀ o i, o < 9 ∧ (o = 0 → i < 13) → h'.2.1 (.inr (s, o)) i = h.2.1 (.inr (s, o)) i
def rs_w (s k i : Nat) : Prop := ((k = 106 ∨ k = 114 ∨ k = 115) ∧ i = s) ∨ ((k = 107 ∨ k = 108 ∨ k = 109 ∨ k = 110) ∧ 6 * s ≤ i ∧ i < 6 * s + 6) ∨ ((k = 111 ∨ k = 112 ∨ k = 113) ∧ 36 * s ≤ i ∧ i < 36 * s + 36)
def rs_er (s : Nat) (h h' : mx_H) : Prop := ∀ k i, rs_w s k i → h'.2.1 (.inl k) i = h.2.1 (.inl k) i
theorem rs_k.x {hc hc' hr hr' : mx_H} {s C F k u v N : Nat} (C6 : C ≤ 6) (hN : F + k < N) (a : rs_ec s hc hc') (b : rs_er s hr hr') (l : ∀ i, i < N → hr'.2.1 (.inl 117) i = hr.2.1 (.inl 117) i) (q : rs_k hc hr s C F k u v) : rs_k hc' hr' s C F k u v := by
  obtain ⟨o1, o2, o3, o4, o5, o6, o7, o8, o9, o10, o11, o12⟩ := q
  unfold rs_k rD
  rw [a 5 k (by omega), a 6 k (by omega), a 7 k (by omega), a 8 k (by omega), b 113 (36 * s + 6 * u + v) (by unfold rs_w; omega), b 113 (36 * s + 6 * v + u) (by unfold rs_w; omega), b 111 (36 * s + 6 * u + v) (by unfold rs_w; omega), b 111 (36 * s + 6 * v + u) (by unfold rs_w; omega), b 112 (36 * s + 6 * u + v) (by unfold rs_w; omega), b 112 (36 * s + 6 * v + u) (by unfold rs_w; omega), l (F + k) hN]
  exact ⟨o1, o2, o3, o4, o5, o6, o7, o8, o9, o10, o11, o12⟩
theorem rs_D.x {hc hc' hr hr' : mx_H} {s C n F N N' : Nat} (hN : N ≤ N') (a : rs_ec s hc hc') (b : rs_er s hr hr') (l : ∀ i, i < N → hr'.2.1 (.inl 117) i = hr.2.1 (.inl 117) i ∧ hc'.2.2.2 (.inl 92) i = hc.2.2.2 (.inl 92) i) (q : rs_D hc hr N s C n F) : rs_D hc' hr' N' s C n F := by
  obtain ⟨c1, c6, fn, d1, d2, d3, d4, d5, d6, d7, d8, d9, d10⟩ := q
  have kx : ∀ k u v, k < n → rs_k hc hr s C F k u v → rs_k hc' hr' s C F k u v := fun k u v hk Q => rs_k.x c6 (N := N) (by omega) a b (fun i hi => (l i hi).1) Q
  refine ⟨c1, c6, by omega, ?_, ?_, ?_, ?_, fun c q => ?_, ?_, fun k hk => ?_, fun u v hu hv => ?_, ?_, fun k hk => ?_⟩
  · unfold rD
    rw [a 0 0 (by omega)]
    exact d1
  · unfold rD
    rw [b 106 s (by unfold rs_w; omega)]
    exact d2
  · unfold rD
    rw [a 0 6 (by omega)]
    exact d3
  · unfold rD
    rw [a 0 5 (by omega)]
    exact d4
  · rw [a 1 c (by omega), a 2 c (by omega), a 3 c (by omega), a 4 c (by omega), b 107 _ (by unfold rs_w; omega), b 108 _ (by unfold rs_w; omega), b 109 _ (by unfold rs_w; omega), b 110 _ (by unfold rs_w; omega)]
    exact d5 c q
  · rw [a 0 11 (by omega), a 0 12 (by omega), b 114 _ (by unfold rs_w; omega), b 115 _ (by unfold rs_w; omega)]
    exact d6
  · obtain ⟨u, v, Q⟩ := d7 k hk
    exact ⟨u, v, kx k u v hk Q⟩
  · rw [b 113 _ (by unfold rs_w; omega)]
    rcases d8 u v hu hv with z | ⟨k, hk, Q⟩
    · exact Or.inl z
    · refine Or.inr ⟨k, hk, ?_⟩
      rcases Q with Q | Q
      · exact Or.inl (kx k _ _ hk Q)
      · exact Or.inr (kx k _ _ hk Q)
  · rw [d9]
    unfold sd_C
    congr 1
    refine List.filter_congr (fun c hc1 => ?_)
    have lt : ∀ c ∈ sd_CL, c < 36 := by decide +kernel
    unfold rz_g
    rw [b 113 (36 * s + c) (by have := lt c hc1; unfold rs_w; omega)]
  · rw [(l (F + k) (by omega)).2]
    exact d10 k hk
/-- the class's reading, whatever is read -/
def rs_h0 (hc : mx_H) (m : Nat) : mx_H := (0, fun a i => if a = .inl 118 then (if (hc.2.1 (.inl 2) i).toInt ≤ 127 then hc.2.1 (.inl 2) i else hc.2.1 (.inl 2) i - 256) else if a = .inl 105 ∧ i = 16 then hc.2.1 (.inl 1) 1 else if a = .inl 105 ∧ i = 1 then nI m else 0, fun _ _ => 0, fun _ _ => none)
theorem C86F {hc : mx_H} {m L : Nat} (hm : m ≤ 12) (L120 : L ≤ 120) (h1 : rD hc (.inl 1) 1 = L) (hb : ∀ i, 0 ≤ rD hc (.inl 2) i ∧ rD hc (.inl 2) i ≤ 255) : rz_FW m hc (f86 m hc).2 := by
  have e16 : (rs_h0 hc m).2.1 (.inl 105) 16 = hc.2.1 (.inl 1) 1 := rfl
  have e1 : (rs_h0 hc m).2.1 (.inl 105) 1 = nI m := rfl
  have e8 : ∀ i, (rs_h0 hc m).2.1 (.inl 118) i = if (hc.2.1 (.inl 2) i).toInt ≤ 127 then hc.2.1 (.inl 2) i else hc.2.1 (.inl 2) i - 256 := fun _ => rfl
  obtain ⟨C, -, E⟩ := rz_text (hc := hc) (hr := rs_h0 hc m) (S := m) L120 h1 (by unfold rD; rw [e16]; exact h1) (fun i _ => by
    obtain ⟨b1, b2⟩ := hb i
    refine ⟨b1, b2, ?_⟩
    unfold rD
    rw [e8]
    by_cases c : (hc.2.1 (.inl 2) i).toInt ≤ 127
    · rw [if_pos c, if_pos c]
    · rw [if_neg c, if_neg c]
      exact i_sub rfl ivt_256 (by unfold rD at b1 b2; omega) (by unfold rD at b1 b2; omega)) (by unfold rD; rw [e1]; exact nI_toInt (by omega)) hm
  exact E.1
/-! ===== a draft becomes a shape, on both sides ===== -/
section RM
variable {h hc hr : mx_H} {S N n C k : Nat}
theorem adn {m o : Nat} (hm : m = 167 + 9 * S + o) (ho : o < 9) : mx_adr m = .inr (S + 1, o) := by
  have e := mx_adr_pos (a := (.inr (S + 1, o) : mx_A)) (Or.inl ho)
  rw [mx_pos_s _ ho, if_neg (by omega)] at e
  rw [show m = 158 + 9 * (S + 1) + o by omega]
  exact e
theorem x_val_s {α β : Type} {p q : α} {f : α → β} {R : β} (e : p = q) (k : f q = R) : x_val p f = R := by
  rw [e]
  exact k
theorem C58 (hn : h.1 = 167 + 9 * S + 1) : f58 (.inr (S + 1, 0)) h = sn_h h (S + 1) := by
  rw [f58_eq]
  refine x_val_s (adn (S := S) (o := 1) (show h.1 = 167 + 9 * S + 1 from hn) (by decide +kernel)) ?_
  refine x_val_s (adn (S := S) (o := 2) (show h.1 + 1 = 167 + 9 * S + 2 by omega) (by decide +kernel)) ?_
  refine x_val_s (adn (S := S) (o := 3) (show h.1 + 1 + 1 = 167 + 9 * S + 3 by omega) (by decide +kernel)) ?_
  refine x_val_s (adn (S := S) (o := 4) (show h.1 + 1 + 1 + 1 = 167 + 9 * S + 4 by omega) (by decide +kernel)) ?_
  refine x_val_s (adn (S := S) (o := 5) (show h.1 + 1 + 1 + 1 + 1 = 167 + 9 * S + 5 by omega) (by decide +kernel)) ?_
  refine x_val_s (adn (S := S) (o := 6) (show h.1 + 1 + 1 + 1 + 1 + 1 = 167 + 9 * S + 6 by omega) (by decide +kernel)) ?_
  refine x_val_s (adn (S := S) (o := 7) (show h.1 + 1 + 1 + 1 + 1 + 1 + 1 = 167 + 9 * S + 7 by omega) (by decide +kernel)) ?_
  refine x_val_s (adn (S := S) (o := 8) (show h.1 + 1 + 1 + 1 + 1 + 1 + 1 + 1 = 167 + 9 * S + 8 by omega) (by decide +kernel)) ?_
  rfl
/-- a body more -/
def k_b (h : mx_H) (N S : Nat) : mx_H := mx_uI (mx_uR (mx_uI h (.inl 91) N 1) (.inl 92) N (some (.inr (S, 0)))) (.inl 90) 0 (h.2.1 (.inl 90) 0 + 1)
theorem C37 (hN : rD h (.inl 90) 0 = N) (n2 : N < 200) : (f37 1 S h).2 = k_b h N S := by
  rw [f37_eq, if_pos (i_lt hN k_200 (by omega))]
  show mx_uI (mx_uR (mx_uI h (.inl 91) (Int32.toNatClampNeg (h.2.1 (.inl 90) 0)) 1) (.inl 92) (Int32.toNatClampNeg (h.2.1 (.inl 90) 0)) (some (.inr (S, 0)))) (.inl 90) 0 (h.2.1 (.inl 90) 0 + 1) = _
  rw [i_cl hN]
  rfl
/-- what bodies do: nothing else -/
def k_B (h g : mx_H) (N M S : Nat) : Prop := g.1 = h.1 ∧ (∀ q i, g.2.1 (.inr q) i = h.2.1 (.inr q) i) ∧ (∀ k i, k ≠ 90 → k ≠ 91 → g.2.1 (.inl k) i = h.2.1 (.inl k) i) ∧ rD g (.inl 90) 0 = M ∧ (∀ k i, k ≠ 92 → g.2.2.2 (.inl k) i = h.2.2.2 (.inl k) i) ∧
  (∀ i, i < N → g.2.1 (.inl 91) i = h.2.1 (.inl 91) i ∧ g.2.2.2 (.inl 92) i = h.2.2.2 (.inl 92) i) ∧ ∀ i, N ≤ i → i < M → g.2.1 (.inl 91) i = 1 ∧ g.2.2.2 (.inl 92) i = some (.inr (S, 0))
theorem k_B.b {g : mx_H} {M : Nat} (B : k_B h g N M S) (hM : M < 200) (NM : N ≤ M) : k_B h (k_b g M S) N (M + 1) S := by
  obtain ⟨b1, b2, b3, b4, b5, b6, b7⟩ := B
  have r91 : ∀ i, (k_b g M S).2.1 (.inl 91) i = if i = M then 1 else g.2.1 (.inl 91) i := fun i => by
    show (mx_uI g (.inl 91) M 1).2.1 (.inl 91) i = _
    by_cases e : i = M
    · rw [if_pos e, rI_c rfl e]
    · rw [if_neg e, rI_i e]
  have r92 : ∀ i, (k_b g M S).2.2.2 (.inl 92) i = if i = M then some (.inr (S, 0)) else g.2.2.2 (.inl 92) i := fun i => by
    show (if (Sum.inl 92 : mx_A) = .inl 92 ∧ i = M then some (.inr (S, 0)) else g.2.2.2 (.inl 92) i) = _
    by_cases e : i = M
    · rw [if_pos e, if_pos ⟨rfl, e⟩]
    · rw [if_neg e, if_neg (fun q => e q.2)]
  refine ⟨b1, b2, fun k i q1 q2 => ?_, ?_, fun k i q => ?_, fun i hi => ?_, fun i h1 h2 => ?_⟩
  · show (mx_uI (mx_uR (mx_uI g (.inl 91) M 1) (.inl 92) M (some (.inr (S, 0)))) (.inl 90) 0 (g.2.1 (.inl 90) 0 + 1)).2.1 (.inl k) i = _
    rw [rN q1]
    show (mx_uI g (.inl 91) M 1).2.1 (.inl k) i = _
    rw [rN q2]
    exact b3 k i q1 q2
  · show (g.2.1 (.inl 90) 0 + 1).toInt = _
    rw [i_add b4 k_1 (by omega) (by omega)]
    omega
  · show (if (Sum.inl k : mx_A) = .inl 92 ∧ i = M then some (.inr (S, 0)) else g.2.2.2 (.inl k) i) = _
    rw [if_neg (fun e => q (Sum.inl.inj e.1))]
    exact b5 k i q
  · rw [r91, r92, if_neg (by omega), if_neg (by omega)]
    exact b6 i hi
  · rw [r91, r92]
    by_cases e : i = M
    · rw [if_pos e, if_pos e]
      exact ⟨rfl, rfl⟩
    · rw [if_neg e, if_neg e]
      exact b7 i h1 (by omega)
/-- the new shape's heap -/
def k_G (g : mx_H) (S : Nat) : mx_H := mx_uI (mx_uR g (.inl 3) S (some (.inr (S, 0)))) (.inl 0) 2 (g.2.1 (.inl 0) 2 + 1)
def k_N (g : mx_H) (S : Nat) : mx_H := mx_uR (sn_f (k_G g S) (S + 1)) (.inl 0) 3 (some (.inr (S + 1, 0)))
theorem C169g (S11 : S ≤ 11) : ∀ (j k : Nat) (a1 : Int32) {h g : mx_H}, k + j = n → a1.toInt = (k : Int) → n ≤ 15 → N + n ≤ 200 → rD h (.inr (S, 0)) 6 = n → h.2.2.2 (.inl 0) 3 = some (.inr (S, 0)) → rD h (.inl 0) 2 = S → h.1 = 167 + 9 * S → k_B h g N (N + k) S →
    ∃ g', k_B h g' N (N + n) S ∧ g169_16 a1 g = (g'.2.1 (.inl 0) 2 + 1 - 1, k_N g' S)
  | j, k, a1, h, g, e, ha, n15, nn, hp, hd, hs, h1, B => by
    have p6 : rD g (.inr (S, 0)) 6 = n := by
      unfold rD
      rw [B.2.1]
      exact hp
    have d3 : g.2.2.2 (.inl 0) 3 = some (.inr (S, 0)) := by
      rw [B.2.2.2.2.1 0 3 (by decide +kernel)]
      exact hd
    have s2 : rD g (.inl 0) 2 = S := by
      unfold rD
      rw [B.2.2.1 0 2 (by decide +kernel) (by decide +kernel)]
      exact hs
    have g1 : g.1 = 167 + 9 * S := B.1.trans h1
    rw [g169_16_eq, d3]
    match j, e with
    | 0, e =>
      refine ⟨g, (show N + k = N + n by omega) ▸ B, ?_⟩
      show (if g.2.1 (.inr (S, 0)) 6 ≤ a1 then (x_val (mx_adr (mx_uI (mx_uR g (.inl 3) (Int32.toNatClampNeg (g.2.1 (.inl 0) 2)) (some (.inr (S, 0)))) (.inl 0) 2 (g.2.1 (.inl 0) 2 + 1)).1) (fun y3 => x_h (f58 y3 (mx_nw (mx_uI (mx_uR g (.inl 3) (Int32.toNatClampNeg (g.2.1 (.inl 0) 2)) (some (.inr (S, 0)))) (.inl 0) 2 (g.2.1 (.inl 0) 2 + 1)) y3)) (fun h5 => ((mx_uR h5 (.inl 0) 3 (some y3)).2.1 (.inl 0) 2 - 1, mx_uR h5 (.inl 0) 3 (some y3))))) else _) = _
      rw [if_pos (i_le p6 ha (by omega)), i_cl s2]
      refine x_val_s (adn (o := 0) (show g.1 = _ from g1) (by decide +kernel)) ?_
      show ((mx_uR (f58 (.inr (S + 1, 0)) (mx_nw (k_G g S) (.inr (S + 1, 0)))) (.inl 0) 3 (some (.inr (S + 1, 0)))).2.1 (.inl 0) 2 - 1, mx_uR (f58 (.inr (S + 1, 0)) (mx_nw (k_G g S) (.inr (S + 1, 0)))) (.inl 0) 3 (some (.inr (S + 1, 0)))) = _
      rw [C58 (S := S) (show g.1 + 1 = _ by omega)]
      rfl
    | j + 1, e =>
      have c : rD g (.inl 90) 0 = (N + k : Nat) := B.2.2.2.1
      show ∃ g', k_B h g' N (N + n) S ∧ (if g.2.1 (.inr (S, 0)) 6 ≤ a1 then _ else g169_16 (a1 + 1) (f37 1 S g).2) = (g'.2.1 (.inl 0) 2 + 1 - 1, k_N g' S)
      rw [if_neg (i_nle p6 ha (by omega)), C37 c (by omega)]
      exact C169g S11 j (k + 1) (a1 + 1) (by omega) (by rw [i_add ha k_1 (by omega) (by omega)]; omega) n15 nn hp hd hs h1 (B.b (by omega) (by omega))
end RM
/-! ===== bear, on the reference's side ===== -/
section RB
variable {h hc hr g : mx_H} {S N n C k : Nat}
theorem R193 {s x y : Int32} {u v : Nat} (hs : s.toInt = (S : Int)) (hx : x.toInt = (u : Int)) (hy : y.toInt = (v : Int)) (hN : rD h (.inl 105) 12 = N) (S12 : S ≤ 12) (hu : u < 6) (hv : v < 6) :
    f193 s x y h = mx_uI (k_p (k_p (mx_uI (mx_uI h (.inl 116) N 1) (.inl 117) N (f179 s x y + 1)) (36 * S + 6 * u + v) (h.2.1 (.inl 105) 12) (h.2.1 (.inl 111) (36 * S + 6 * u + v)) (h.2.1 (.inl 112) (36 * S + 6 * u + v))) (36 * S + 6 * v + u) (h.2.1 (.inl 105) 12) (h.2.1 (.inl 111) (36 * S + 6 * u + v)) (h.2.1 (.inl 112) (36 * S + 6 * u + v))) (.inl 105) 12 (h.2.1 (.inl 105) 12 + 1) := by
  rw [f193_eq]
  show x_h (f181 s x y (h.2.1 (.inl 105) 12) (h.2.1 (.inl 111) (Int32.toNatClampNeg (f179 s x y))) (h.2.1 (.inl 112) (Int32.toNatClampNeg (f179 s x y))) (mx_uI (mx_uI h (.inl 116) (Int32.toNatClampNeg (h.2.1 (.inl 105) 12)) 1) (.inl 117) (Int32.toNatClampNeg (h.2.1 (.inl 105) 12)) (f179 s x y + 1))) (fun h11 => mx_uI h11 (.inl 105) 12 (h11.2.1 (.inl 105) 12 + 1)) = _
  rw [k181 hs hx hy S12 hu hv, i_cl (w179 hs hx hy S12 hu hv), i_cl hN]
  rfl
/-- k pieces are born -/
def k_R (hc hr g : mx_H) (S C N k : Nat) : Prop := g.1 = hr.1 ∧ g.2.2 = hr.2.2 ∧ (∀ q i, g.2.1 (.inr q) i = hr.2.1 (.inr q) i) ∧ rD g (.inl 105) 12 = ((N + k : Nat) : Int) ∧ (∀ i, i ≠ 12 → g.2.1 (.inl 105) i = hr.2.1 (.inl 105) i) ∧
  (∀ a i, a ≠ 105 → a ≠ 113 → a ≠ 116 → a ≠ 117 → g.2.1 (.inl a) i = hr.2.1 (.inl a) i) ∧ (∀ i, i < N → g.2.1 (.inl 116) i = hr.2.1 (.inl 116) i ∧ g.2.1 (.inl 117) i = hr.2.1 (.inl 117) i) ∧
  (∀ q, q < k → g.2.1 (.inl 116) (N + q) = 1 ∧ ∀ u v, rz_k hc hr S C q u v → rD g (.inl 113) (36 * S + 6 * u + v) = ((N + q + 1 : Nat) : Int) ∧ rD g (.inl 113) (36 * S + 6 * v + u) = ((N + q + 1 : Nat) : Int) ∧ rD g (.inl 117) (N + q) = ((36 * S + 6 * u + v + 1 : Nat) : Int)) ∧
  ∀ i, (∀ q u v, q < k → rz_k hc hr S C q u v → i ≠ 36 * S + 6 * u + v ∧ i ≠ 36 * S + 6 * v + u) → g.2.1 (.inl 113) i = hr.2.1 (.inl 113) i
theorem k_R.s {s x y : Int32} {u v : Nat} (K : rz_C hc hr S C n) (R : k_R hc hr g S C N k) (hk : k < n) (Q : rz_k hc hr S C k u v) (hs : s.toInt = (S : Int)) (hx : x.toInt = (u : Int)) (hy : y.toInt = (v : Int)) (S12 : S ≤ 12) (nn : N + n ≤ 200) : k_R hc hr (f193 s x y g) S C N (k + 1) := by
  obtain ⟨C6, -, -, -, -, -, -, kP1, kP2, kP3, kP4⟩ := K
  obtain ⟨r1, r2, r3, r4, r5, r6, r7, r8, r9⟩ := R
  have hu : u < 6 := by have := Q.1; omega
  have hv : v < 6 := by have := Q.2.1; omega
  have hne := Q.2.2.1
  have w := w179 hs hx hy S12 hu hv
  rw [R193 hs hx hy r4 S12 hu hv]
  generalize hG : mx_uI (k_p (k_p (mx_uI (mx_uI g (.inl 116) (N + k) 1) (.inl 117) (N + k) (f179 s x y + 1)) (36 * S + 6 * u + v) (g.2.1 (.inl 105) 12) (g.2.1 (.inl 111) (36 * S + 6 * u + v)) (g.2.1 (.inl 112) (36 * S + 6 * u + v))) (36 * S + 6 * v + u) (g.2.1 (.inl 105) 12) (g.2.1 (.inl 111) (36 * S + 6 * u + v)) (g.2.1 (.inl 112) (36 * S + 6 * u + v))) (.inl 105) 12 (g.2.1 (.inl 105) 12 + 1) = G
  have g113 : ∀ i, G.2.1 (.inl 113) i = if i = 36 * S + 6 * v + u then g.2.1 (.inl 105) 12 + 1 else if i = 36 * S + 6 * u + v then g.2.1 (.inl 105) 12 + 1 else g.2.1 (.inl 113) i := fun i => by
    rw [← hG, rN (show (113 : Nat) ≠ 105 by decide +kernel), k_p3, k_p3, rN (show (113 : Nat) ≠ 117 by decide +kernel), rN (show (113 : Nat) ≠ 116 by decide +kernel)]
  have g111 : ∀ i, G.2.1 (.inl 111) i = if i = 36 * S + 6 * v + u then g.2.1 (.inl 111) (36 * S + 6 * u + v) else if i = 36 * S + 6 * u + v then g.2.1 (.inl 111) (36 * S + 6 * u + v) else g.2.1 (.inl 111) i := fun i => by
    rw [← hG, rN (show (111 : Nat) ≠ 105 by decide +kernel), k_p1, k_p1, rN (show (111 : Nat) ≠ 117 by decide +kernel), rN (show (111 : Nat) ≠ 116 by decide +kernel)]
  have g112 : ∀ i, G.2.1 (.inl 112) i = if i = 36 * S + 6 * v + u then g.2.1 (.inl 112) (36 * S + 6 * u + v) else if i = 36 * S + 6 * u + v then g.2.1 (.inl 112) (36 * S + 6 * u + v) else g.2.1 (.inl 112) i := fun i => by
    rw [← hG, rN (show (112 : Nat) ≠ 105 by decide +kernel), k_p2, k_p2, rN (show (112 : Nat) ≠ 117 by decide +kernel), rN (show (112 : Nat) ≠ 116 by decide +kernel)]
  have g116 : ∀ i, G.2.1 (.inl 116) i = if i = N + k then 1 else g.2.1 (.inl 116) i := fun i => by
    rw [← hG]
    show (mx_uI g (.inl 116) (N + k) 1).2.1 (.inl 116) i = _
    by_cases e : i = N + k
    · rw [if_pos e, rI_c rfl e]
    · rw [if_neg e, rI_i e]
  have g117 : ∀ i, G.2.1 (.inl 117) i = if i = N + k then f179 s x y + 1 else g.2.1 (.inl 117) i := fun i => by
    rw [← hG]
    show (mx_uI (mx_uI g (.inl 116) (N + k) 1) (.inl 117) (N + k) (f179 s x y + 1)).2.1 (.inl 117) i = _
    by_cases e : i = N + k
    · rw [if_pos e, rI_c rfl e]
    · rw [if_neg e, rI_i e]
      rfl
  have go : ∀ q i, q ≠ 105 → q ≠ 111 → q ≠ 112 → q ≠ 113 → q ≠ 116 → q ≠ 117 → G.2.1 (.inl q) i = g.2.1 (.inl q) i := fun q i q0 q1 q2 q3 q4 q5 => by
    rw [← hG, rN q0, k_po q1 q2 q3, k_po q1 q2 q3, rN q5, rN q4]
  have bo : (g.2.1 (.inl 105) 12 + 1).toInt = ((N + k + 1 : Nat) : Int) := by
    rw [i_add r4 k_1 (by omega) (by omega)]
    omega
  have far : ∀ q u' v', q < k → rz_k hc hr S C q u' v' → (36 * S + 6 * u' + v' ≠ 36 * S + 6 * u + v ∧ 36 * S + 6 * u' + v' ≠ 36 * S + 6 * v + u) ∧ (36 * S + 6 * v' + u' ≠ 36 * S + 6 * u + v ∧ 36 * S + 6 * v' + u' ≠ 36 * S + 6 * v + u) := fun q u' v' hq Q' => by
    have t := kP4 k q u v hk (by omega) (by omega) Q
    have a1 := Q'.1
    have a2 := Q'.2.1
    have n1 : ¬ (u' = u ∧ v' = v) := fun e => t.1 (by rw [← e.1, ← e.2]; exact Q')
    have n2 : ¬ (u' = v ∧ v' = u) := fun e => t.2 (by rw [← e.1, ← e.2]; exact Q')
    omega
  have st : ∀ i, G.2.1 (.inl 111) i = hr.2.1 (.inl 111) i := fun i => by
    rw [g111, r6 111 _ (by decide +kernel) (by decide +kernel) (by decide +kernel) (by decide +kernel), r6 111 _ (by decide +kernel) (by decide +kernel) (by decide +kernel) (by decide +kernel)]
    have q1 := Q.2.2.2.2.2.2.2.2.2.1
    have q2 := Q.2.2.2.2.2.2.2.2.2.2.1
    by_cases e : i = 36 * S + 6 * v + u
    · rw [if_pos e, e, q1, q2]
    · rw [if_neg e]
      by_cases e2 : i = 36 * S + 6 * u + v
      · rw [if_pos e2, e2]
      · rw [if_neg e2]
  have cr : ∀ i, G.2.1 (.inl 112) i = hr.2.1 (.inl 112) i := fun i => by
    rw [g112, r6 112 _ (by decide +kernel) (by decide +kernel) (by decide +kernel) (by decide +kernel), r6 112 _ (by decide +kernel) (by decide +kernel) (by decide +kernel) (by decide +kernel)]
    have q1 := Q.2.2.2.2.2.2.2.2.2.2.2.1
    have q2 := Q.2.2.2.2.2.2.2.2.2.2.2.2.1
    by_cases e : i = 36 * S + 6 * v + u
    · rw [if_pos e, e, q1, q2]
    · rw [if_neg e]
      by_cases e2 : i = 36 * S + 6 * u + v
      · rw [if_pos e2, e2]
      · rw [if_neg e2]
  refine ⟨?_, ?_, fun q i => ?_, ?_, fun i hi => ?_, fun a i a1 a2 a3 a4 => ?_, fun i hi => ?_, fun q hq => ?_, fun i hi => ?_⟩
  · rw [← hG]
    exact r1
  · rw [← hG]
    exact r2
  · rw [← hG]
    exact r3 q i
  · unfold rD
    rw [← hG, rI_s, bo]
    omega
  · rw [← hG, rI_i hi]
    exact r5 i hi
  · by_cases e1 : a = 111
    · subst e1
      exact st i
    · by_cases e2 : a = 112
      · subst e2
        exact cr i
      · rw [go a i a1 e1 e2 a2 a3 a4]
        exact r6 a i a1 a2 a3 a4
  · rw [g116, g117, if_neg (by omega), if_neg (by omega)]
    exact r7 i hi
  · by_cases e : q = k
    · subst e
      rw [g116, if_pos rfl]
      refine ⟨rfl, fun u' v' Q' => ?_⟩
      have e1 : u' = u := by
        have a1 := Q.2.2.2.1
        have a2 := Q'.2.2.2.1
        omega
      have e2 : v' = v := by
        have a1 := Q.2.2.2.2.1
        have a2 := Q'.2.2.2.2.1
        omega
      subst e1
      subst e2
      unfold rD
      rw [g113, g113, g117, if_pos rfl, if_pos rfl, if_neg (show ¬ 36 * S + 6 * u' + v' = 36 * S + 6 * v' + u' by omega), if_pos rfl]
      refine ⟨bo, bo, ?_⟩
      rw [i_add w k_1 (by omega) (by omega)]
      omega
    · obtain ⟨b1, b2⟩ := r8 q (by omega)
      rw [g116, if_neg (by omega)]
      refine ⟨b1, fun u' v' Q' => ?_⟩
      obtain ⟨⟨f1, f2⟩, f3, f4⟩ := far q u' v' (by omega) Q'
      unfold rD
      rw [g113, g113, g117, if_neg f2, if_neg f1, if_neg f4, if_neg f3, if_neg (by omega)]
      exact b2 u' v' Q'
  · have t := hi k u v (by omega) Q
    rw [g113, if_neg t.2, if_neg t.1]
    exact r9 i (fun q u' v' hq Q' => hi q u' v' (by omega) Q')
/-- the reference's new shape -/
def k_M (g : mx_H) (S : Nat) : mx_H := mx_uI (mx_uI g (.inl 114) S (-1)) (.inl 105) 1 (g.2.1 (.inl 105) 1 + 1)
theorem R194g (K : rz_C hc hr S C n) (S12 : S ≤ 12) (nn : N + n ≤ 200) (hS : rD hr (.inl 105) 1 = S) : ∀ (j k : Nat) (a1 : Int32) {g : mx_H}, k + j = n → a1.toInt = (k : Int) → k_R hc hr g S C N k → ∃ g', k_R hc hr g' S C N n ∧ g194_61 a1 g = (g'.2.1 (.inl 105) 1 + 1 - 1, k_M g' S)
  | 0, k, a1, g, e, ha, R => by
    have e' : k = n := by omega
    subst e'
    have s1 : rD g (.inl 105) 1 = S := by
      unfold rD
      rw [R.2.2.2.2.1 1 (by decide +kernel)]
      exact hS
    have s19 : rD g (.inl 105) 19 = k := by
      unfold rD
      rw [R.2.2.2.2.1 19 (by decide +kernel)]
      exact K.2.2.2.2.1
    refine ⟨g, R, ?_⟩
    rw [g194_61_eq, if_pos (i_le s19 ha (by omega)), i_cl s1]
    rfl
  | j + 1, k, a1, g, e, ha, R => by
    have s1 : rD g (.inl 105) 1 = S := by
      unfold rD
      rw [R.2.2.2.2.1 1 (by decide +kernel)]
      exact hS
    have s19 : rD g (.inl 105) 19 = n := by
      unfold rD
      rw [R.2.2.2.2.1 19 (by decide +kernel)]
      exact K.2.2.2.2.1
    obtain ⟨u, v, Q⟩ := K.2.2.2.2.2.2.2.1 k (by omega)
    have hx : (g.2.1 (.inl 119) k).toInt = (u : Int) := by
      rw [R.2.2.2.2.2.1 119 k (by decide +kernel) (by decide +kernel) (by decide +kernel) (by decide +kernel)]
      exact Q.2.2.2.1
    have hy : (g.2.1 (.inl 120) k).toInt = (v : Int) := by
      rw [R.2.2.2.2.2.1 120 k (by decide +kernel) (by decide +kernel) (by decide +kernel) (by decide +kernel)]
      exact Q.2.2.2.2.1
    rw [g194_61_eq, if_neg (i_nle s19 ha (by omega)), i_cl ha]
    show ∃ g', k_R hc hr g' S C N n ∧ g194_61 (a1 + 1) (f193 (g.2.1 (.inl 105) 1) (g.2.1 (.inl 119) k) (g.2.1 (.inl 120) k) g) = (g'.2.1 (.inl 105) 1 + 1 - 1, k_M g' S)
    exact R194g K S12 nn hS j (k + 1) (a1 + 1) (by omega) (by rw [i_add ha k_1 (by omega) (by omega)]; omega) (R.s K (by omega) Q s1 hx hy S12 nn)
theorem k_R.z (K : rz_C hc hr S C n) (hN : rD hr (.inl 105) 12 = N) : k_R hc hr hr S C N 0 := ⟨rfl, rfl, fun _ _ => rfl, hN, fun _ _ => rfl, fun _ _ _ _ _ _ => rfl, fun _ _ => ⟨rfl, rfl⟩, fun q hq => absurd hq (Nat.not_lt_zero _), fun _ _ => rfl⟩
end RB
/-! ===== shape(): both sides stay alike ===== -/
/-- the tapes are alike -/
def rs_T (hc hr : mx_H) : Prop := ∃ L : Nat, L ≤ 120 ∧ rD hc (.inl 1) 1 = L ∧ rD hr (.inl 105) 16 = L ∧ ∀ i, i < L → rz_b (rD hc (.inl 2) i) (rD hr (.inl 118) i)
section RH
variable {h hc hr hc' hr' gc gr : mx_H} {S N n C k : Nat}
theorem rs_ecF (F : rz_FW S hc hc') {s : Nat} (hs : s < S) : rs_ec s hc hc' := fun o i _ => F.2.2.2 s o i (by omega)
theorem rs_erF (F : rz_FR S hr hr') {s : Nat} (hs : s < S) : rs_er s hr hr' := fun k i w => F.2.2.2 k i (by unfold rs_w at w; unfold rz_w; omega)
theorem rR (h : mx_H) (a : mx_A) (i : Nat) (r : Option mx_A) (b : mx_A) (j : Nat) : (mx_uR h a i r).2.2.2 b j = if b = a ∧ j = i then r else h.2.2.2 b j := rfl
/-- what the relation reads is as it was -/
def rs_u (S : Nat) (h h' : mx_H) : Prop := h'.1 = h.1 ∧ h'.2.2.2 (.inl 0) 3 = h.2.2.2 (.inl 0) 3 ∧ (∀ i, h'.2.2.2 (.inl 3) i = h.2.2.2 (.inl 3) i) ∧ (∀ i, h'.2.2.2 (.inl 92) i = h.2.2.2 (.inl 92) i) ∧ h'.2.1 (.inl 0) 2 = h.2.1 (.inl 0) 2 ∧ h'.2.1 (.inl 90) 0 = h.2.1 (.inl 90) 0 ∧ (∀ i, h'.2.1 (.inl 91) i = h.2.1 (.inl 91) i) ∧ ∀ s, s < S → rs_ec s h h'
def rs_v (S : Nat) (h h' : mx_H) : Prop := h'.2.1 (.inl 105) 1 = h.2.1 (.inl 105) 1 ∧ h'.2.1 (.inl 105) 12 = h.2.1 (.inl 105) 12 ∧ (∀ i, h'.2.1 (.inl 116) i = h.2.1 (.inl 116) i) ∧ (∀ i, h'.2.1 (.inl 117) i = h.2.1 (.inl 117) i) ∧ ∀ s, s < S → rs_er s h h'
theorem rs_A.g (A : rs_A hc hr S N) (a : rs_u S hc hc') (b : rs_v S hr hr') : rs_A hc' hr' S N := by
  obtain ⟨a1, a2, a3, a4, a5, a6, a7, a8, a9, a10⟩ := A
  obtain ⟨u1, u2, u3, u4, u5, u6, u7, u8⟩ := a
  obtain ⟨v1, v2, v3, v4, v5⟩ := b
  refine ⟨a1, a2, ?_, ?_, ?_, ?_, u1.trans a7, u2.trans a8, fun s hs => ⟨(u3 s).trans (a9 s hs).1, ?_⟩, fun i hi => ?_⟩
  · unfold rD
    rw [u5]
    exact a3
  · unfold rD
    rw [v1]
    exact a4
  · unfold rD
    rw [u6]
    exact a5
  · unfold rD
    rw [v2]
    exact a6
  · obtain ⟨C, n, F, D⟩ := (a9 s hs).2
    exact ⟨C, n, F, D.x (Nat.le_refl _) (u8 s hs) (v5 s hs) (fun i _ => ⟨v4 i, u4 i⟩)⟩
  · rw [u7 i, v3 i, v4 i, u4 i]
    obtain ⟨b1, b2⟩ := a10 i hi
    refine ⟨b1, ?_⟩
    rcases b2 with q | ⟨s, k, q1, q2, q3⟩
    · exact Or.inl q
    · refine Or.inr ⟨s, k, q1, ?_, ?_⟩
      · unfold rD
        rw [u8 s q1 0 6 (by omega)]
        exact q2
      · unfold rD
        rw [u8 s q1 0 5 (by omega)]
        exact q3
theorem rz_FW.u (a : rz_FW S hc hc') : rs_u S hc hc' := by
  have e : hc'.2.2.2 = hc.2.2.2 := congrArg Prod.snd a.2.1
  exact ⟨a.1, by rw [e], fun i => by rw [e], fun i => by rw [e], a.2.2.1 0 2 (by omega), a.2.2.1 90 0 (by omega), fun i => a.2.2.1 91 i (by omega), fun s hs => rs_ecF a hs⟩
theorem rz_FR.v (b : rz_FR S hr hr') : rs_v S hr hr' := ⟨b.2.2.2 105 1 (by unfold rz_w; omega), b.2.2.2 105 12 (by unfold rz_w; omega), fun i => b.2.2.2 116 i (by unfold rz_w; omega), fun i => b.2.2.2 117 i (by unfold rz_w; omega), fun s hs => rs_erF b hs⟩
/-- what is read or thrown away in the draft does not matter -/
theorem rs_A.f (A : rs_A hc hr S N) (a : rz_FW S hc hc') (b : rz_FR S hr hr') : rs_A hc' hr' S N := A.g a.u b.v
theorem C103 (hd : h.2.2.2 (.inl 0) 3 = some (.inr (S, 0))) (F : rz_FW S h (f86 S h).2) : f103 h = if (f86 S h).1 < 0 then (if f168 ((f86 S h).2.2.1 (.inr (S, 0)) 6) (f86 S h).2 = 0 then f169 (mx_uI (f86 S h).2 (.inl 1) 1 0) else (-3, (f86 S h).2)) else (-100 - (f86 S h).1, mx_uI (f86 S h).2 (.inl 1) 1 0) := by
  have e : (f86 S h).2.2.2.2 (.inl 0) 3 = some (.inr (S, 0)) := by
    rw [show (f86 S h).2.2.2.2 = h.2.2.2 from congrArg Prod.snd F.2.1]
    exact hd
  rw [f103_eq, hd]
  show (if (f86 S h).1 < 0 then x_opt (ml_sn ((f86 S h).2.2.2.2 (.inl 0) 3)) (fun j5 => if f168 ((f86 S h).2.2.1 (.inr (j5, 0)) 6) (f86 S h).2 = 0 then f169 (mx_uI (f86 S h).2 (.inl 1) 1 0) else (-3, (f86 S h).2)) (0, h) else (-100 - (f86 S h).1, mx_uI (f86 S h).2 (.inl 1) 1 0)) = _
  rw [e]
  rfl
theorem C169 (hd : h.2.2.2 (.inl 0) 3 = some (.inr (S, 0))) : f169 h = g169_16 0 (mx_uI h (.inr (S, 0)) 5 (h.2.1 (.inl 90) 0)) := by
  rw [f169_eq, hd]
  rfl
theorem C168 {a : Int32} {p : Nat} (hs : rD h (.inl 0) 2 = S) (hn : rD h (.inl 90) 0 = N) (ha : a.toInt = (p : Int)) (S12 : S ≤ 12) (N2 : N ≤ 200) (p2 : p ≤ 100) : (S ≤ 11 ∧ N + p ≤ 200 ∧ f168 a h = 0) ∨ (¬ (S ≤ 11 ∧ N + p ≤ 200) ∧ f168 a h = 1) := by
  rw [f168_eq]
  by_cases c : 12 ≤ S
  · rw [if_pos (i_le k_12 hs (by omega))]
    exact Or.inr ⟨by omega, rfl⟩
  · rw [if_neg (i_nle k_12 hs (by omega))]
    have e := i_add hn ha (by omega) (by omega)
    by_cases c2 : N + p ≤ 200
    · rw [if_pos (i_le e k_200 (by omega))]
      exact Or.inl ⟨by omega, c2, rfl⟩
    · rw [if_neg (i_nle e k_200 (by omega))]
      exact Or.inr ⟨by omega, rfl⟩
/-- a shape more -/
theorem rs_more {hx : mx_H} (A : rs_A hc hr S N) (S11 : S ≤ 11) (nn : N + n ≤ 200) (C1 : 1 ≤ C) (K : rz_C hc' hr' S C n) (a : rz_FW S hc hc') (b : rz_FR S hr hr') (o1 : hc'.2.1 (.inr (S, 0)) 11 = -1)
    (hst : ∀ q, 0 ≤ rD hc' (.inr (S, 7)) q) (hX : hx = mx_uI hc' (.inr (S, 0)) 5 (hc'.2.1 (.inl 90) 0)) (B : k_B hx gc N (N + n) S) (R : k_R hc' hr' gr S C N n) : rs_A (k_N gc S) (k_M gr S) (S + 1) (N + n) := by
  obtain ⟨a1, a2, a3, a4, a5, a6, a7, a8, a9, a10⟩ := A
  obtain ⟨C6, k1, k2, k3, k4, k5, k6, kP1, kP2, kP3, kP4⟩ := id K
  obtain ⟨b1, b2, b3, b4, b5, b6, b7⟩ := B
  obtain ⟨r1, r2, r3, r4, r5, r6, r7, r8, r9⟩ := R
  have xl : ∀ q i, hx.2.1 (.inl q) i = hc'.2.1 (.inl q) i := fun q i => by rw [hX]; rfl
  have xr : hx.2.2.2 = hc.2.2.2 := by
    rw [hX]
    exact congrArg Prod.snd a.2.1
  have x0 : ∀ o i, ¬ (o = 0 ∧ i = 5) → hx.2.1 (.inr (S, o)) i = hc'.2.1 (.inr (S, o)) i := fun o i q => by
    rw [hX]
    refine if_neg (fun e => q ⟨?_, e.2⟩)
    have e1 := e.1
    cases e1
    rfl
  have x5 : rD hx (.inr (S, 0)) 5 = N := by
    unfold rD
    rw [hX, rI_s, a.2.2.1 90 0 (by decide +kernel)]
    exact a5
  have xs : ∀ s o i, s ≠ S → o < 9 → hx.2.1 (.inr (s, o)) i = hc.2.1 (.inr (s, o)) i := fun s o i q ho => by
    rw [hX]
    refine (if_neg (fun e => q ?_)).trans (a.2.2.2 s o i (by omega))
    have e1 := e.1
    cases e1
    rfl
  have ni : ∀ s o i, s ≤ S → (k_N gc S).2.1 (.inr (s, o)) i = hx.2.1 (.inr (s, o)) i := fun s o i q => by
    show (sn_f (k_G gc S) (S + 1)).2.1 (.inr (s, o)) i = _
    rw [sn_io i (by omega)]
    exact b2 (s, o) i
  have nl : ∀ q i, ¬ (q = 0 ∧ i = 2) → (k_N gc S).2.1 (.inl q) i = gc.2.1 (.inl q) i := fun q i e => by
    show (k_G gc S).2.1 (.inl q) i = _
    exact if_neg (fun z => e ⟨Sum.inl.inj z.1, z.2⟩)
  have nr : ∀ q i, ¬ (q = 0 ∧ i = 3) → ¬ (q = 3 ∧ i = S) → (k_N gc S).2.2.2 (.inl q) i = gc.2.2.2 (.inl q) i := fun q i e1 e2 => by
    refine (if_neg (fun z => e1 ⟨Sum.inl.inj z.1, z.2⟩)).trans ?_
    exact if_neg (fun z => e2 ⟨Sum.inl.inj z.1, z.2⟩)
  have ml : ∀ q i, ¬ (q = 105 ∧ i = 1) → ¬ (q = 114 ∧ i = S) → (k_M gr S).2.1 (.inl q) i = gr.2.1 (.inl q) i := fun q i e1 e2 => by
    refine (if_neg (fun z => e1 ⟨Sum.inl.inj z.1, z.2⟩)).trans ?_
    exact if_neg (fun z => e2 ⟨Sum.inl.inj z.1, z.2⟩)
  have big : ∀ i, i < 36 * S → gr.2.1 (.inl 113) i = hr'.2.1 (.inl 113) i := fun i hi => r9 i (fun q u v _ _ => by omega)
  have pk : ∀ q u v, q < n → rz_k hc' hr' S C q u v → rs_k (k_N gc S) (k_M gr S) S C N q u v := fun q u v hq Q => by
    obtain ⟨p1, p2, p3, p4, p5, p6, p7, p8, p9, p10, p11, p12, p13, p14⟩ := id Q
    obtain ⟨-, z⟩ := r8 q hq
    obtain ⟨z1, z2, z3⟩ := z u v Q
    unfold rs_k rD
    rw [ni S 5 q (Nat.le_refl _), ni S 6 q (Nat.le_refl _), ni S 7 q (Nat.le_refl _), ni S 8 q (Nat.le_refl _), x0 5 q (by omega), x0 6 q (by omega), x0 7 q (by omega), x0 8 q (by omega), ml 113 _ (by omega) (by omega), ml 113 _ (by omega) (by omega), ml 111 _ (by omega) (by omega), ml 111 _ (by omega) (by omega), ml 112 _ (by omega) (by omega), ml 112 _ (by omega) (by omega), ml 117 _ (by omega) (by omega),
      r6 111 _ (by decide +kernel) (by decide +kernel) (by decide +kernel) (by decide +kernel), r6 111 _ (by decide +kernel) (by decide +kernel) (by decide +kernel) (by decide +kernel), r6 112 _ (by decide +kernel) (by decide +kernel) (by decide +kernel) (by decide +kernel), r6 112 _ (by decide +kernel) (by decide +kernel) (by decide +kernel) (by decide +kernel)]
    exact ⟨p1, p2, p3, p6, p7, z1, z2, p10, p11, by rw [p12, p14], by rw [p13, p14], z3, by rw [p14, k_0]; exact hst q⟩
  have g113 : ∀ u v, u < 6 → v < 6 → (k_M gr S).2.1 (.inl 113) (36 * S + 6 * u + v) = 0 ∨ ∃ q, q < n ∧ (rs_k (k_N gc S) (k_M gr S) S C N q u v ∨ rs_k (k_N gc S) (k_M gr S) S C N q v u) := fun u v hu hv => by
    rcases kP2 u v hu hv with z | ⟨q, q1, q2⟩
    · refine Or.inl ?_
      rw [ml 113 _ (by omega) (by omega)]
      refine (r9 _ (fun q u' v' hq Q => ?_)).trans z
      have t := rz_kb Q
      refine ⟨fun e => ?_, fun e => ?_⟩
      · rw [e, t.1] at z
        exact n10 z
      · rw [e, t.2] at z
        exact n10 z
    · refine Or.inr ⟨q, q1, ?_⟩
      rcases q2 with q2 | q2
      · exact Or.inl (pk q _ _ q1 q2)
      · exact Or.inr (pk q _ _ q1 q2)
  refine ⟨by omega, nn, ?_, ?_, ?_, ?_, ?_, ?_, fun s hs => ⟨?_, ?_⟩, fun i hi => ?_⟩
  · show (gc.2.1 (.inl 0) 2 + 1).toInt = _
    rw [b3 0 2 (by decide +kernel) (by decide +kernel), xl, a.2.2.1 0 2 (by decide +kernel), i_add a3 k_1 (by omega) (by omega)]
    omega
  · show (gr.2.1 (.inl 105) 1 + 1).toInt = _
    rw [r5 1 (by decide +kernel), b.2.2.2 105 1 (by unfold rz_w; omega), i_add a4 k_1 (by omega) (by omega)]
    omega
  · unfold rD
    rw [nl 90 0 (by omega)]
    exact b4
  · unfold rD
    rw [ml 105 12 (by omega) (by omega)]
    exact r4
  · show gc.1 + 9 = _
    rw [b1, show hx.1 = hc.1 by rw [hX]; exact a.1, a7]
    omega
  · exact (rR _ _ _ _ _ _).trans (if_pos ⟨rfl, rfl⟩)
  · by_cases e : s = S
    · subst e
      refine (rR _ _ _ _ _ _).trans ?_
      rw [if_neg (fun z => absurd (Sum.inl.inj z.1) (by decide +kernel))]
      show (mx_uR gc (.inl 3) s (some (.inr (s, 0)))).2.2.2 (.inl 3) s = _
      exact (rR _ _ _ _ _ _).trans (if_pos ⟨rfl, rfl⟩)
    · rw [nr 3 s (by omega) (by omega), b5 3 s (by decide +kernel), xr]
      exact (a9 s (by omega)).1
  · by_cases e : s = S
    · subst e
      refine ⟨C, n, N, C1, C6, Nat.le_refl _, ?_, ?_, ?_, ?_, fun c q => ?_, ⟨?_, fun z => ?_⟩, fun q hq => ?_, g113, ?_, fun q hq => ?_⟩
      · unfold rD
        rw [ni s 0 0 (Nat.le_refl _), x0 0 0 (by omega)]
        exact k1
      · unfold rD
        rw [ml 106 s (by omega) (by omega), r6 106 s (by decide +kernel) (by decide +kernel) (by decide +kernel) (by decide +kernel)]
        exact k2
      · unfold rD
        rw [ni s 0 6 (Nat.le_refl _), x0 0 6 (by omega)]
        exact k3
      · unfold rD
        rw [ni s 0 5 (Nat.le_refl _)]
        exact x5
      · rw [ni s 1 c (Nat.le_refl _), ni s 2 c (Nat.le_refl _), ni s 3 c (Nat.le_refl _), ni s 4 c (Nat.le_refl _), x0 1 c (by omega), x0 2 c (by omega), x0 3 c (by omega), x0 4 c (by omega), ml 107 _ (by omega) (by omega), ml 108 _ (by omega) (by omega), ml 109 _ (by omega) (by omega), ml 110 _ (by omega) (by omega),
          r6 107 _ (by decide +kernel) (by decide +kernel) (by decide +kernel) (by decide +kernel), r6 108 _ (by decide +kernel) (by decide +kernel) (by decide +kernel) (by decide +kernel), r6 109 _ (by decide +kernel) (by decide +kernel) (by decide +kernel) (by decide +kernel), r6 110 _ (by decide +kernel) (by decide +kernel) (by decide +kernel) (by decide +kernel)]
        obtain ⟨c1, c2, c3, -, -⟩ := k6 c (by omega)
        exact ⟨k5 c q, c1, c2, c3⟩
      · rw [ni s 0 11 (Nat.le_refl _), x0 0 11 (by omega), o1]
        exact (show (mx_uI gr (.inl 114) s (-1)).2.1 (.inl 114) s = -1 from rI_s).symm
      · exact absurd (show (mx_uI gr (.inl 114) s (-1)).2.1 (.inl 114) s = -1 from rI_s) z
      · obtain ⟨u, v, Q⟩ := kP1 q hq
        exact ⟨u, v, pk q u v hq Q⟩
      · rw [kP3]
        unfold sd_C
        congr 1
        refine List.filter_congr (fun c hc1 => ?_)
        have lt : ∀ c ∈ sd_CL, c < 36 ∧ c / 6 < 6 ∧ c % 6 < 6 := by decide +kernel
        obtain ⟨l1, l2, l3⟩ := lt c hc1
        unfold rz_g
        have ec : 36 * s + c = 36 * s + 6 * (c / 6) + c % 6 := by omega
        rw [decide_eq_decide, ec]
        rcases kP2 (c / 6) (c % 6) l2 l3 with z | ⟨q, q1, q2⟩
        · rcases g113 (c / 6) (c % 6) l2 l3 with z2 | ⟨q, q1, q2⟩
          · rw [z, z2]
          · exfalso
            obtain ⟨u, v, Q⟩ := kP1 q q1
            have t := rz_kb Q
            have Q2 := pk q u v q1 Q
            have m1 := Q2.2.2.2.1
            have m2 := Q2.2.2.2.2.1
            rcases q2 with q2 | q2
            · have w1 := q2.2.2.2.1
              have w2 := q2.2.2.2.2.1
              have : (c / 6 = u ∧ c % 6 = v) ∨ (c / 6 = v ∧ c % 6 = u) := by omega
              rcases this with ⟨e1, e2⟩ | ⟨e1, e2⟩
              · rw [e1, e2, t.1] at z
                exact n10 z
              · rw [e1, e2, t.2] at z
                exact n10 z
            · have w1 := q2.2.2.2.1
              have w2 := q2.2.2.2.2.1
              have : (c / 6 = u ∧ c % 6 = v) ∨ (c / 6 = v ∧ c % 6 = u) := by omega
              rcases this with ⟨e1, e2⟩ | ⟨e1, e2⟩
              · rw [e1, e2, t.1] at z
                exact n10 z
              · rw [e1, e2, t.2] at z
                exact n10 z
        · have t : hr'.2.1 (.inl 113) (36 * s + 6 * (c / 6) + c % 6) = 1 := by
            rcases q2 with q2 | q2
            · exact (rz_kb q2).1
            · exact (rz_kb q2).2
          have t2 : ¬ (k_M gr s).2.1 (.inl 113) (36 * s + 6 * (c / 6) + c % 6) = 0 := by
            rcases q2 with q2 | q2
            · exact i_ne (pk q _ _ q1 q2).2.2.2.2.2.1 k_0 (by omega)
            · exact i_ne (pk q _ _ q1 q2).2.2.2.2.2.2.1 k_0 (by omega)
          rw [t]
          exact ⟨fun _ => t2, fun _ => n10⟩
      · rw [nr 92 _ (by omega) (by omega)]
        exact (b7 (N + q) (by omega) (by omega)).2
    · have hs' : s < S := by omega
      obtain ⟨C', n', F', D⟩ := (a9 s hs').2
      refine ⟨C', n', F', D.x (by omega) (fun o i ho => ?_) (fun q i w => ?_) (fun i hi => ⟨?_, ?_⟩)⟩
      · rw [ni s o i (by omega), xs s o i e ho.1]
      · have w' := w
        unfold rs_w at w'
        rw [ml q i (by omega) (by omega)]
        by_cases c : q = 113
        · subst c
          rw [big i (by omega)]
          exact rs_erF b hs' 113 i w
        · rw [r6 q i (by omega) c (by omega) (by omega)]
          exact rs_erF b hs' q i w
      · rw [ml 117 i (by omega) (by omega), (r7 i hi).2]
        exact b.2.2.2 117 i (by unfold rz_w; omega)
      · rw [nr 92 i (by omega) (by omega), (b6 i hi).2, xr]
  · rw [nl 91 i (by omega), ml 116 i (by omega) (by omega), ml 117 i (by omega) (by omega), nr 92 i (by omega) (by omega)]
    by_cases c : i < N
    · rw [(b6 i c).1, (b6 i c).2, (r7 i c).1, (r7 i c).2, xl, xr, a.2.2.1 91 i (by omega), b.2.2.2 116 i (by unfold rz_w; omega), b.2.2.2 117 i (by unfold rz_w; omega)]
      obtain ⟨q1, q2⟩ := a10 i c
      refine ⟨q1, ?_⟩
      rcases q2 with q | ⟨s, k, q1, q2, q3⟩
      · exact Or.inl q
      · refine Or.inr ⟨s, k, by omega, ?_, ?_⟩
        · unfold rD
          rw [ni s 0 6 (by omega), xs s 0 6 (by omega) (by decide +kernel)]
          exact q2
        · unfold rD
          rw [ni s 0 5 (by omega), xs s 0 5 (by omega) (by decide +kernel)]
          exact q3
    · refine ⟨?_, Or.inr ⟨S, i - N, by omega, ?_, ?_⟩⟩
      · rw [(b7 i (by omega) hi).1]
        have := (r8 (i - N) (by omega)).1
        rw [show N + (i - N) = i by omega] at this
        exact this.symm
      · unfold rD
        rw [ni S 0 6 (Nat.le_refl _), x0 0 6 (by omega)]
        have : rD hc' (.inr (S, 0)) 6 = n := k3
        unfold rD at this
        omega
      · unfold rD
        rw [ni S 0 5 (Nat.le_refl _)]
        have : rD hx (.inr (S, 0)) 5 = N := x5
        unfold rD at this
        omega
end RH
/-! ===== shape(), whatever the tape holds ===== -/
section RJ
variable {h hc hr hc' hr' : mx_H} {S N n C k : Nat}
theorem rz_FW.l {v : Int32} (a : rz_FW S hc hc') : rz_FW S (mx_uI hc (.inl 1) 1 v) (mx_uI hc' (.inl 1) 1 v) := ⟨a.1, a.2.1, fun k i q => by
  by_cases e : k = 1 ∧ i = 1
  · rw [e.1, e.2, rI_s, rI_s]
  · rw [show (mx_uI hc' (.inl 1) 1 v).2.1 (.inl k) i = hc'.2.1 (.inl k) i from if_neg (fun z => e ⟨Sum.inl.inj z.1, z.2⟩), show (mx_uI hc (.inl 1) 1 v).2.1 (.inl k) i = hc.2.1 (.inl k) i from if_neg (fun z => e ⟨Sum.inl.inj z.1, z.2⟩)]
    exact a.2.2.1 k i q, a.2.2.2⟩
theorem rz_FR.l {v : Int32} (a : rz_FR S hr hr') : rz_FR S (mx_uI hr (.inl 105) 16 v) (mx_uI hr' (.inl 105) 16 v) := ⟨a.1, a.2.1, a.2.2.1, fun k i q => by
  by_cases e : k = 105 ∧ i = 16
  · rw [e.1, e.2, rI_s, rI_s]
  · rw [show (mx_uI hr' (.inl 105) 16 v).2.1 (.inl k) i = hr'.2.1 (.inl k) i from if_neg (fun z => e ⟨Sum.inl.inj z.1, z.2⟩), show (mx_uI hr (.inl 105) 16 v).2.1 (.inl k) i = hr.2.1 (.inl k) i from if_neg (fun z => e ⟨Sum.inl.inj z.1, z.2⟩)]
    exact a.2.2.2 k i q⟩
/-- an emptied tape changes nothing else -/
theorem rs_A.e {v w : Int32} (A : rs_A hc hr S N) : rs_A (mx_uI hc (.inl 1) 1 v) (mx_uI hr (.inl 105) 16 w) S N := A
theorem rs_A.ec {v : Int32} (A : rs_A hc hr S N) : rs_A (mx_uI hc (.inl 1) 1 v) hr S N := A
theorem rs_T0 : rs_T (mx_uI hc (.inl 1) 1 0) (mx_uI hr (.inl 105) 16 0) := ⟨0, by decide +kernel, rfl, rfl, fun i hi => absurd hi (Nat.not_lt_zero _)⟩
theorem rs_T.f (T : rs_T hc hr) (a : rz_FW S hc hc') (b : rz_FR S hr hr') : rs_T hc' hr' := by
  obtain ⟨L, l, t1, t2, tb⟩ := T
  refine ⟨L, l, ?_, ?_, fun i hi => ?_⟩
  · unfold rD
    rw [a.2.2.1 1 1 (by omega)]
    exact t1
  · unfold rD
    rw [b.2.2.2 105 16 (by unfold rz_w; omega)]
    exact t2
  · unfold rD
    rw [a.2.2.1 2 i (by omega), b.2.2.2 118 i (by unfold rz_w; omega)]
    exact tb i hi
theorem R194 (h : mx_H) : f194 h = if h.2.1 (.inl 105) 1 ≠ 12 then (if (f192 h).2.1 (.inl 105) 18 < 0 then (if (f192 h).2.1 (.inl 105) 12 + (f192 h).2.1 (.inl 105) 19 ≤ 200 then g194_61 0 (mx_uI (f192 h) (.inl 105) 16 0) else (-3, f192 h)) else (-100 - (f192 h).2.1 (.inl 105) 18, mx_uI (f192 h) (.inl 105) 16 0)) else (-3, h) := f194_eq h
theorem k_N_ec {hx gc : mx_H} {M s : Nat} (B : k_B hx gc N M S) (W : rz_FW S hc hx) (hs : s < S) : rs_ec s hc (k_N gc S) := fun o i ho => by
  show (sn_f (k_G gc S) (S + 1)).2.1 (.inr (s, o)) i = _
  rw [sn_io i (by omega)]
  exact (B.2.1 (s, o) i).trans (W.2.2.2 s o i (by omega))
theorem rz_FW_r (W : rz_FW S hc hc') (i : Nat) : hc'.2.2.2 (.inl 85) i = hc.2.2.2 (.inl 85) i := by rw [show hc'.2.2.2 = hc.2.2.2 from congrArg Prod.snd W.2.1]
theorem k_N_r {hx gc : mx_H} {M i : Nat} (B : k_B hx gc N M S) (W : rz_FW S hc hx) : (k_N gc S).2.2.2 (.inl 85) i = hc.2.2.2 (.inl 85) i := by
  refine Eq.trans (show (k_N gc S).2.2.2 (.inl 85) i = gc.2.2.2 (.inl 85) i from rfl) ?_
  exact (B.2.2.2.2.1 85 i (by decide +kernel)).trans (rz_FW_r W i)
theorem rs_shape (A : rs_A hc hr S N) (T : S ≤ 11 → rs_T hc hr) (hL : 0 ≤ rD hc (.inl 1) 1 ∧ rD hc (.inl 1) 1 ≤ 120) (hb : ∀ i, 0 ≤ rD hc (.inl 2) i ∧ rD hc (.inl 2) i ≤ 255) (h7 : ∀ k, 0 ≤ rD (f103 hc).2 (.inr (S, 7)) k) :
    ∃ S' N', (S ≤ S' ∧ N ≤ N') ∧ rs_A (f103 hc).2 (f194 hr).2 S' N' ∧ (S' ≤ 11 → rs_T (f103 hc).2 (f194 hr).2) ∧ (∀ s, s < S → rs_ec s hc (f103 hc).2) ∧ ∀ i, (f103 hc).2.2.2.2 (.inl 85) i = hc.2.2.2 (.inl 85) i := by
  obtain ⟨a1, a2, a3, a4, a5, a6, a7, a8, a9, a10⟩ := id A
  have F : rz_FW S hc (f86 S hc).2 := C86F (L := (rD hc (.inl 1) 1).toNat) a1 (by omega) (by omega) hb
  rw [C103 a8 F, R194]
  have e2 : rD (f86 S hc).2 (.inl 0) 2 = S := by
    unfold rD
    rw [F.2.2.1 0 2 (by decide +kernel)]
    exact a3
  have e90 : rD (f86 S hc).2 (.inl 90) 0 = N := by
    unfold rD
    rw [F.2.2.1 90 0 (by decide +kernel)]
    exact a5
  by_cases c12 : S = 12
  · rw [if_neg (show ¬ hr.2.1 (.inl 105) 1 ≠ 12 from fun q => q (i_eq a4 k_12 (by omega)))]
    have f1 : f168 ((f86 S hc).2.2.1 (.inr (S, 0)) 6) (f86 S hc).2 = 1 := by rw [f168_eq, if_pos (i_le k_12 e2 (by omega))]
    rw [f1, if_neg n10]
    have B : rs_A (f86 S hc).2 hr S N := A.f F rz_FR.refl
    by_cases c : (f86 S hc).1 < 0
    · rw [if_pos c]
      exact ⟨S, N, ⟨Nat.le_refl _, Nat.le_refl _⟩, B, fun q => by omega, fun s hs => rs_ecF F hs, fun i => (show (f86 S hc).2.2.2.2 (.inl 85) i = _ from rz_FW_r F i)⟩
    · rw [if_neg c]
      exact ⟨S, N, ⟨Nat.le_refl _, Nat.le_refl _⟩, B.ec, fun q => by omega, fun s hs => rs_ecF F hs, fun i => (show (f86 S hc).2.2.2.2 (.inl 85) i = _ from rz_FW_r F i)⟩
  · rw [if_pos (show hr.2.1 (.inl 105) 1 ≠ 12 from i_ne a4 k_12 (by omega))]
    obtain ⟨L, l, t1, t2, tb⟩ := id (T (by omega))
    obtain ⟨C, C1, E1, ⟨o1, o2⟩, E2, E3⟩ := rz_text l t1 t2 tb a4 a1
    rcases E3 with ⟨e1, ef, n, K⟩ | ⟨e1, ef⟩
    · have n15 : n ≤ 15 := by
        rw [K.2.2.2.2.2.2.2.2.2.1]
        exact sd_C_15 _
      have k3 := K.2.2.2.1
      have k4 := K.2.2.2.2.1
      have e12 : rD (f192 hr) (.inl 105) 12 = N := by
        unfold rD
        rw [E2.2.2.2 105 12 (by unfold rz_w; omega)]
        exact a6
      have sum := i_add e12 k4 (by omega) (by omega)
      rw [e1, if_pos (show (-1 : Int32) < 0 by decide +kernel), if_pos (i_lt ef k_0 (by omega))]
      rcases C168 e2 e90 k3 a1 a2 (by omega) with ⟨q1, q2, q3⟩ | ⟨q1, q3⟩
      · rw [q3, if_pos rfl, if_pos (i_le sum k_200 (by omega))]
        have dr : (mx_uI (f86 S hc).2 (.inl 1) 1 0).2.2.2 (.inl 0) 3 = some (.inr (S, 0)) := by
          show (f86 S hc).2.2.2.2 (.inl 0) 3 = _
          rw [show (f86 S hc).2.2.2.2 = hc.2.2.2 from congrArg Prod.snd E1.2.1]
          exact a8
        rw [C169 dr]
        generalize hX : mx_uI (mx_uI (f86 S hc).2 (.inl 1) 1 0) (.inr (S, 0)) 5 ((mx_uI (f86 S hc).2 (.inl 1) 1 0).2.1 (.inl 90) 0) = hx
        have x6 : rD hx (.inr (S, 0)) 6 = n := by
          unfold rD
          rw [← hX, rI_i (by decide +kernel)]
          exact k3
        have x3 : hx.2.2.2 (.inl 0) 3 = some (.inr (S, 0)) := by
          rw [← hX]
          exact dr
        have x2 : rD hx (.inl 0) 2 = S := by
          rw [← hX]
          exact e2
        have x1 : hx.1 = 167 + 9 * S := by
          rw [← hX]
          exact E1.1.trans a7
        have x90 : rD hx (.inl 90) 0 = N := by
          rw [← hX]
          exact e90
        obtain ⟨gc, B, ec⟩ := C169g (N := N) q1 n 0 0 (h := hx) (g := hx) (by omega) rfl n15 q2 x6 x3 x2 x1 ⟨rfl, fun _ _ => rfl, fun _ _ _ _ => rfl, x90, fun _ _ _ => rfl, fun _ _ => ⟨rfl, rfl⟩, fun i h1 h2 => by omega⟩
        have K' : rz_C (mx_uI (f86 S hc).2 (.inl 1) 1 0) (mx_uI (f192 hr) (.inl 105) 16 0) S C n := K
        have s1 : rD (mx_uI (f192 hr) (.inl 105) 16 0) (.inl 105) 1 = S := by
          show rD (f192 hr) (.inl 105) 1 = S
          unfold rD
          rw [E2.2.2.2 105 1 (by unfold rz_w; omega)]
          exact a4
        obtain ⟨gr, R, er⟩ := R194g (N := N) K' a1 q2 s1 n 0 0 (by omega) rfl (k_R.z K' e12)
        have E103 : (f103 hc).2 = k_N gc S := by rw [C103 a8 F, e1, if_pos (show (-1 : Int32) < 0 by decide +kernel), q3, if_pos rfl, C169 dr, hX, ec]
        have hst : ∀ q, 0 ≤ rD (mx_uI (f86 S hc).2 (.inl 1) 1 0) (.inr (S, 7)) q := fun q => by
          have z := h7 q
          rw [E103] at z
          have z2 : (k_N gc S).2.1 (.inr (S, 7)) q = hx.2.1 (.inr (S, 7)) q := by
            show (sn_f (k_G gc S) (S + 1)).2.1 (.inr (S, 7)) q = _
            rw [sn_io q (by omega)]
            exact B.2.1 (S, 7) q
          unfold rD at z ⊢
          rw [z2, ← hX, rS (by decide +kernel)] at z
          exact z
        rw [ec, er]
        refine ⟨S + 1, N + n, ⟨by omega, by omega⟩, rs_more (hc := mx_uI hc (.inl 1) 1 0) (hr := mx_uI hr (.inl 105) 16 0) A.e q1 q2 C1 K' E1.l E2.l o1 hst hX.symm B R, fun _ => ⟨0, by decide +kernel, ?_, ?_, fun i hi => absurd hi (Nat.not_lt_zero _)⟩, fun s hs => ?_, fun i => ?_⟩
        · show (gc.2.1 (.inl 1) 1).toInt = _
          rw [B.2.2.1 1 1 (by decide +kernel) (by decide +kernel), ← hX]
          rfl
        · show (gr.2.1 (.inl 105) 16).toInt = _
          rw [R.2.2.2.2.1 16 (by decide +kernel)]
          rfl
        · have W : rz_FW S (mx_uI hc (.inl 1) 1 0) hx := by
            rw [← hX]
            exact E1.l.s (by decide +kernel)
          exact (show rs_ec s (mx_uI hc (.inl 1) 1 0) (k_N gc S) from k_N_ec B W hs)
        · have W : rz_FW S (mx_uI hc (.inl 1) 1 0) hx := by
            rw [← hX]
            exact E1.l.s (by decide +kernel)
          exact (show (k_N gc S).2.2.2 (.inl 85) i = (mx_uI hc (.inl 1) 1 0).2.2.2 (.inl 85) i from k_N_r B W)
      · rw [q3, if_neg n10, if_neg (i_nle sum k_200 (by omega))]
        exact ⟨S, N, ⟨Nat.le_refl _, Nat.le_refl _⟩, A.f E1 E2, fun q => (T q).f E1 E2, fun s hs => rs_ecF E1 hs, fun i => (show (f86 S hc).2.2.2.2 (.inl 85) i = _ from rz_FW_r E1 i)⟩
    · rw [if_neg (i_nlt rfl k_0 e1), if_neg (i_nlt rfl k_0 ef)]
      exact ⟨S, N, ⟨Nat.le_refl _, Nat.le_refl _⟩, (A.f E1 E2).e, fun _ => rs_T0, fun s hs => rs_ecF E1 hs, fun i => (show (f86 S hc).2.2.2.2 (.inl 85) i = _ from rz_FW_r E1 i)⟩
end RJ
/-! ===== body(): alike on both sides ===== -/
section RO
variable {h hc hr : mx_H} {S N : Nat} {a : Int32}
theorem w_ws {x p q : Int32} : f157 x p q = f173 x p q := by rw [w157, w173]
def k_n (h : mx_H) (N : Nat) (a : Int32) : mx_H := mx_uI (mx_uR (mx_uI h (.inl 91) N a) (.inl 92) N none) (.inl 90) 0 (h.2.1 (.inl 90) 0 + 1)
theorem C37n (hN : rD h (.inl 90) 0 = N) (n2 : N < 200) : f37_null a h = (h.2.1 (.inl 90) 0 + 1 - 1, k_n h N a) := by
  rw [f37_null_eq, if_pos (i_lt hN k_200 (by omega))]
  show (h.2.1 (.inl 90) 0 + 1 - 1, mx_uI (mx_uR (mx_uI h (.inl 91) (Int32.toNatClampNeg (h.2.1 (.inl 90) 0)) a) (.inl 92) (Int32.toNatClampNeg (h.2.1 (.inl 90) 0)) none) (.inl 90) 0 (h.2.1 (.inl 90) 0 + 1)) = _
  rw [i_cl hN]
  rfl
def k_m (h : mx_H) (N : Nat) (a : Int32) : mx_H := mx_uI (mx_uI (mx_uI h (.inl 116) N a) (.inl 117) N 0) (.inl 105) 12 (h.2.1 (.inl 105) 12 + 1)
theorem R285 (hN : rD h (.inl 105) 12 = N) : f285 a h = if f173 a 0 5 ≠ 0 then (if h.2.1 (.inl 105) 12 ≠ 200 then (h.2.1 (.inl 105) 12 + 1 - 1, k_m h N a) else (-3, h)) else (-1, h) := by
  rw [f285_eq]
  show (if f173 a 0 5 ≠ 0 then (if h.2.1 (.inl 105) 12 ≠ 200 then (h.2.1 (.inl 105) 12 + 1 - 1, mx_uI (mx_uI (mx_uI h (.inl 116) (Int32.toNatClampNeg (h.2.1 (.inl 105) 12)) a) (.inl 117) (Int32.toNatClampNeg (h.2.1 (.inl 105) 12)) 0) (.inl 105) 12 (h.2.1 (.inl 105) 12 + 1)) else (-3, h)) else (-1, h)) = _
  rw [i_cl hN]
  rfl
theorem rs_body (A : rs_A hc hr S N) : (f147 a hc).1 = (f285 a hr).1 ∧ ∃ N', N ≤ N' ∧ rs_A (f147 a hc).2 (f285 a hr).2 S N' := by
  obtain ⟨a1, a2, a3, a4, a5, a6, a7, a8, a9, a10⟩ := id A
  rw [f147_eq, R285 a6, f162_eq, w_ws]
  by_cases c : f173 a 0 5 ≠ 0
  · rw [if_pos c, if_pos c]
    by_cases c2 : N < 200
    · rw [if_pos (i_lt a5 k_200 (by omega)), if_pos (i_ne a6 k_200 (by omega)), C37n a5 c2]
      refine ⟨?_, N + 1, by omega, a1, by omega, a3, a4, ?_, ?_, a7, a8, fun s hs => ⟨(a9 s hs).1, ?_⟩, fun i hi => ?_⟩
      · show hc.2.1 (.inl 90) 0 + 1 - 1 = hr.2.1 (.inl 105) 12 + 1 - 1
        rw [i_eq a5 a6 rfl]
      · show (hc.2.1 (.inl 90) 0 + 1).toInt = _
        rw [i_add a5 k_1 (by omega) (by omega)]
        omega
      · show (hr.2.1 (.inl 105) 12 + 1).toInt = _
        rw [i_add a6 k_1 (by omega) (by omega)]
        omega
      · obtain ⟨C, n, F, D⟩ := (a9 s hs).2
        refine ⟨C, n, F, rs_D.x (N := N) (hc := hc) (hc' := k_n hc N a) (hr := hr) (hr' := k_m hr N a) (by omega) (fun o i ho => rfl) (fun k i w => ?_) (fun i hi => ⟨?_, ?_⟩) D⟩
        · unfold rs_w at w
          show (mx_uI (mx_uI (mx_uI hr (.inl 116) N a) (.inl 117) N 0) (.inl 105) 12 (hr.2.1 (.inl 105) 12 + 1)).2.1 (.inl k) i = _
          rw [rN (by omega), rN (by omega), rN (by omega)]
        · show (mx_uI (mx_uI hr (.inl 116) N a) (.inl 117) N 0).2.1 (.inl 117) i = _
          rw [rI_i (by omega)]
          rfl
        · show (if (Sum.inl 92 : mx_A) = .inl 92 ∧ i = N then none else hc.2.2.2 (.inl 92) i) = _
          exact if_neg (fun q => by omega)
      · have e1 : (k_n hc N a).2.1 (.inl 91) i = if i = N then a else hc.2.1 (.inl 91) i := by
          show (mx_uI hc (.inl 91) N a).2.1 (.inl 91) i = _
          by_cases e : i = N
          · rw [if_pos e, rI_c rfl e]
          · rw [if_neg e, rI_i e]
        have e2 : (k_n hc N a).2.2.2 (.inl 92) i = if i = N then none else hc.2.2.2 (.inl 92) i := by
          show (if (Sum.inl 92 : mx_A) = .inl 92 ∧ i = N then none else hc.2.2.2 (.inl 92) i) = _
          by_cases e : i = N
          · rw [if_pos e, if_pos ⟨rfl, e⟩]
          · rw [if_neg e, if_neg (fun q => e q.2)]
        have e3 : (k_m hr N a).2.1 (.inl 116) i = if i = N then a else hr.2.1 (.inl 116) i := by
          show (mx_uI hr (.inl 116) N a).2.1 (.inl 116) i = _
          by_cases e : i = N
          · rw [if_pos e, rI_c rfl e]
          · rw [if_neg e, rI_i e]
        have e4 : (k_m hr N a).2.1 (.inl 117) i = if i = N then 0 else hr.2.1 (.inl 117) i := by
          show (mx_uI (mx_uI hr (.inl 116) N a) (.inl 117) N 0).2.1 (.inl 117) i = _
          by_cases e : i = N
          · rw [if_pos e, rI_c rfl e]
          · rw [if_neg e, rI_i e]
            rfl
        show (k_n hc N a).2.1 (.inl 91) i = (k_m hr N a).2.1 (.inl 116) i ∧ (((k_m hr N a).2.1 (.inl 117) i = 0 ∧ (k_n hc N a).2.2.2 (.inl 92) i = none) ∨ ∃ s k : Nat, s < S ∧ (k : Int) < rD hc (.inr (s, 0)) 6 ∧ rD hc (.inr (s, 0)) 5 + k = i)
        rw [e1, e2, e3, e4]
        by_cases e : i = N
        · rw [if_pos e, if_pos e, if_pos e, if_pos e]
          exact ⟨rfl, Or.inl ⟨rfl, rfl⟩⟩
        · rw [if_neg e, if_neg e, if_neg e, if_neg e]
          exact a10 i (by omega)
    · rw [if_neg (i_nlt a5 k_200 (by omega)), if_neg (fun q => q (i_eq a6 k_200 (by omega)))]
      exact ⟨rfl, N, Nat.le_refl _, A⟩
  · rw [if_neg c, if_neg c]
    exact ⟨rfl, N, Nat.le_refl _, A⟩
end RO
/-! ===== feed(): the tape takes bytes alike ===== -/
section RP
variable {h h' h'' hc hr : mx_H} {S N L n : Nat} {a1 a2 : Int32}
theorem by8 {x c r y : Int32} {s : Nat} (hs : s ≤ 24) (e1 : c.toBitVec = (x.toBitVec >>> s) &&& 255#32) (e2 : y.toBitVec = x.toBitVec.sshiftRight s) (e3 : r = y.toInt8.toInt32.toInt8.toInt32) : rz_b c.toInt r.toInt := by
  have w : (x.toBitVec.sshiftRight s).setWidth 8 = (x.toBitVec >>> s).setWidth 8 := by
    apply BitVec.eq_of_getLsbD_eq
    intro i hi
    rw [BitVec.getLsbD_setWidth, BitVec.getLsbD_setWidth, BitVec.getLsbD_sshiftRight, BitVec.getLsbD_ushiftRight, if_pos (by omega)]
    have : decide (32 ≤ i) = false := by
      rw [decide_eq_false_iff_not]
      omega
    rw [this]
    simp
  have n : (x.toBitVec >>> s &&& 255#32).toNat = ((x.toBitVec >>> s).setWidth 8).toNat := by
    rw [BitVec.toNat_and, BitVec.toNat_setWidth]
    exact Nat.and_two_pow_sub_one_eq_mod _ 8
  generalize hW : (x.toBitVec >>> s).setWidth 8 = W at w n
  have b := W.isLt
  have c1 : c.toInt = W.toNat := by
    show c.toBitVec.toInt = _
    rw [e1, BitVec.toInt_eq_toNat_cond, n, if_pos (by omega)]
  have r1 : r.toInt = W.toInt := by
    rw [e3, Int8.toInt8_toInt32, Int8.toInt_toInt32]
    show (y.toBitVec.signExtend 8).toInt = _
    first
      | rw [BitVec.signExtend_eq_setWidth_of_le _ (by decide +kernel), e2, w]
      | rw [BitVec.signExtend_eq_setWidth_of_lt _ (by decide +kernel), e2, w]
  rw [c1, r1, BitVec.toInt_eq_toNat_cond]
  refine ⟨by omega, by omega, ?_⟩
  split <;> split <;> omega
theorem by8k {x a3 : Int32} {k : Nat} (hk : k < 4) (ha : a3.toInt = (k : Int)) : rz_b (((x.toUInt32 >>> (Int32.toUInt32 (8 * a3) &&& Int32.toUInt32 31)).toInt32) &&& 255).toInt (vp_nar .byte ((Int32.toInt8 (x >>> ((8 * a3) &&& 31))).toInt32)).toInt := by
  have z : k = 0 ∨ k = 1 ∨ k = 2 ∨ k = 3 := by omega
  have e : a3 = nI k := i_nI ha
  rcases z with z | z | z | z
  · rw [e, z]
    exact by8 (x := x) (s := 0) (by decide +kernel) rfl rfl rfl
  · rw [e, z]
    exact by8 (x := x) (s := 8) (by decide +kernel) rfl rfl rfl
  · rw [e, z]
    exact by8 (x := x) (s := 16) (by decide +kernel) rfl rfl rfl
  · rw [e, z]
    exact by8 (x := x) (s := 24) (by decide +kernel) rfl rfl rfl
/-- only the tape -/
def rf_c (h h' : mx_H) : Prop := h'.1 = h.1 ∧ h'.2.2 = h.2.2 ∧ (∀ q i, h'.2.1 (.inr q) i = h.2.1 (.inr q) i) ∧ ∀ k i, ¬ (k = 1 ∧ i = 1) → k ≠ 2 → h'.2.1 (.inl k) i = h.2.1 (.inl k) i
def rf_r (h h' : mx_H) : Prop := h'.1 = h.1 ∧ h'.2.2 = h.2.2 ∧ (∀ q i, h'.2.1 (.inr q) i = h.2.1 (.inr q) i) ∧ ∀ k i, ¬ (k = 105 ∧ i = 16) → k ≠ 118 → h'.2.1 (.inl k) i = h.2.1 (.inl k) i
theorem rf_c.refl : rf_c h h := ⟨rfl, rfl, fun _ _ => rfl, fun _ _ _ _ => rfl⟩
theorem rf_r.refl : rf_r h h := ⟨rfl, rfl, fun _ _ => rfl, fun _ _ _ _ => rfl⟩
theorem rf_c.trans (a : rf_c h h') (b : rf_c h' h'') : rf_c h h'' := ⟨b.1.trans a.1, b.2.1.trans a.2.1, fun q i => (b.2.2.1 q i).trans (a.2.2.1 q i), fun k i p q => (b.2.2.2 k i p q).trans (a.2.2.2 k i p q)⟩
theorem rf_r.trans (a : rf_r h h') (b : rf_r h' h'') : rf_r h h'' := ⟨b.1.trans a.1, b.2.1.trans a.2.1, fun q i => (b.2.2.1 q i).trans (a.2.2.1 q i), fun k i p q => (b.2.2.2 k i p q).trans (a.2.2.2 k i p q)⟩
theorem rf_c.a {i : Nat} {v w : Int32} : rf_c h (mx_uI (mx_uI h (.inl 2) i v) (.inl 1) 1 w) := ⟨rfl, rfl, fun _ _ => rfl, fun k j p q => by
  rw [show (mx_uI (mx_uI h (.inl 2) i v) (.inl 1) 1 w).2.1 (.inl k) j = (mx_uI h (.inl 2) i v).2.1 (.inl k) j from if_neg (fun z => p ⟨Sum.inl.inj z.1, z.2⟩), rN q]⟩
theorem rf_r.a {i : Nat} {v w : Int32} : rf_r h (mx_uI (mx_uI h (.inl 118) i v) (.inl 105) 16 w) := ⟨rfl, rfl, fun _ _ => rfl, fun k j p q => by
  rw [show (mx_uI (mx_uI h (.inl 118) i v) (.inl 105) 16 w).2.1 (.inl k) j = (mx_uI h (.inl 118) i v).2.1 (.inl k) j from if_neg (fun z => p ⟨Sum.inl.inj z.1, z.2⟩), rN q]⟩
theorem rf_c.u (a : rf_c h h') : rs_u S h h' := by
  have e : h'.2.2.2 = h.2.2.2 := congrArg Prod.snd a.2.1
  exact ⟨a.1, by rw [e], fun i => by rw [e], fun i => by rw [e], a.2.2.2 0 2 (by omega) (by omega), a.2.2.2 90 0 (by omega) (by omega), fun i => a.2.2.2 91 i (by omega) (by omega), fun s hs o i _ => a.2.2.1 (s, o) i⟩
theorem rf_r.v (b : rf_r h h') : rs_v S h h' := ⟨b.2.2.2 105 1 (by omega) (by omega), b.2.2.2 105 12 (by omega) (by omega), fun i => b.2.2.2 116 i (by omega) (by omega), fun i => b.2.2.2 117 i (by omega) (by omega), fun s hs k i w => by
  unfold rs_w at w
  exact b.2.2.2 k i (by omega) (by omega)⟩
theorem rf_85 (h1 : a1.toInt = (n : Int)) : ∀ (j k : Nat) (a3 : Int32) {h : mx_H}, k + j = n → a3.toInt = (k : Int) → rf_c h (g85_2 a1 a2 a3 h)
  | 0, k, a3, h, e, ha => by
    rw [g85_2_eq, if_pos (i_le h1 ha (by omega))]
    exact rf_c.refl
  | j + 1, k, a3, h, e, ha => by
    have b := i_b a1
    rw [g85_2_eq, if_neg (i_nle h1 ha (by omega))]
    by_cases c : 120 ≤ h.2.1 (.inl 1) 1
    · rw [if_pos c]
      exact rf_c.refl
    · rw [if_neg c]
      exact rf_c.a.trans (rf_85 h1 j (k + 1) (a3 + 1) (by omega) (by rw [i_add ha k_1 (by omega) (by omega)]; omega))
theorem rf_184 (h1 : a1.toInt = (n : Int)) : ∀ (j k : Nat) (a3 : Int32) {h : mx_H}, k + j = n → a3.toInt = (k : Int) → rf_r h (g184_27 a1 a2 a3 h).2
  | 0, k, a3, h, e, ha => by
    rw [g184_27_eq, if_pos (i_le h1 ha (by omega))]
    exact rf_r.refl
  | j + 1, k, a3, h, e, ha => by
    have b := i_b a1
    rw [g184_27_eq, if_neg (i_nle h1 ha (by omega))]
    exact rf_r.a.trans (rf_184 h1 j (k + 1) (a3 + 1) (by omega) (by rw [i_add ha k_1 (by omega) (by omega)]; omega))
theorem rs_fd (n4 : n ≤ 4) (h1 : a1.toInt = (n : Int)) : ∀ (j k : Nat) (a3 : Int32) {hc hr : mx_H} {L : Nat}, k + j = n → a3.toInt = (k : Int) → L + j ≤ 120 → rD hc (.inl 1) 1 = L → rD hr (.inl 105) 16 = L → (∀ i, i < L → rz_b (rD hc (.inl 2) i) (rD hr (.inl 118) i)) →
    (g184_27 a1 a2 a3 hr).1 = (g184_27 a1 a2 a3 hr).2.2.1 (.inl 105) 16 ∧ rD (g85_2 a1 a2 a3 hc) (.inl 1) 1 = ((L + j : Nat) : Int) ∧ rD (g184_27 a1 a2 a3 hr).2 (.inl 105) 16 = ((L + j : Nat) : Int) ∧ ∀ i, i < L + j → rz_b (rD (g85_2 a1 a2 a3 hc) (.inl 2) i) (rD (g184_27 a1 a2 a3 hr).2 (.inl 118) i)
  | 0, k, a3, hc, hr, L, e, ha, hl, c1, r1, b => by
    rw [g184_27_eq, if_pos (i_le h1 ha (by omega)), g85_2_eq, if_pos (i_le h1 ha (by omega))]
    exact ⟨rfl, c1, r1, b⟩
  | j + 1, k, a3, hc, hr, L, e, ha, hl, c1, r1, b => by
    rw [g184_27_eq, if_neg (i_nle h1 ha (by omega)), g85_2_eq, if_neg (i_nle h1 ha (by omega)), if_neg (i_nle k_120 c1 (by omega)), i_cl c1, i_cl r1]
    have key : ∀ vc vr : Int32, rz_b vc.toInt vr.toInt → (g184_27 a1 a2 (a3 + 1) (mx_uI (mx_uI hr (.inl 118) L vr) (.inl 105) 16 (hr.2.1 (.inl 105) 16 + 1))).1 = (g184_27 a1 a2 (a3 + 1) (mx_uI (mx_uI hr (.inl 118) L vr) (.inl 105) 16 (hr.2.1 (.inl 105) 16 + 1))).2.2.1 (.inl 105) 16 ∧ rD (g85_2 a1 a2 (a3 + 1) (mx_uI (mx_uI hc (.inl 2) L vc) (.inl 1) 1 (hc.2.1 (.inl 1) 1 + 1))) (.inl 1) 1 = ((L + (j + 1) : Nat) : Int) ∧ rD (g184_27 a1 a2 (a3 + 1) (mx_uI (mx_uI hr (.inl 118) L vr) (.inl 105) 16 (hr.2.1 (.inl 105) 16 + 1))).2 (.inl 105) 16 = ((L + (j + 1) : Nat) : Int) ∧
        ∀ i, i < L + (j + 1) → rz_b (rD (g85_2 a1 a2 (a3 + 1) (mx_uI (mx_uI hc (.inl 2) L vc) (.inl 1) 1 (hc.2.1 (.inl 1) 1 + 1))) (.inl 2) i) (rD (g184_27 a1 a2 (a3 + 1) (mx_uI (mx_uI hr (.inl 118) L vr) (.inl 105) 16 (hr.2.1 (.inl 105) 16 + 1))).2 (.inl 118) i) := fun vc vr B => by
      have f := rs_fd n4 h1 j (k + 1) (a3 + 1) (hc := mx_uI (mx_uI hc (.inl 2) L vc) (.inl 1) 1 (hc.2.1 (.inl 1) 1 + 1)) (hr := mx_uI (mx_uI hr (.inl 118) L vr) (.inl 105) 16 (hr.2.1 (.inl 105) 16 + 1)) (L := L + 1) (by omega) (by rw [i_add ha k_1 (by omega) (by omega)]; omega) (by omega)
        (by show (hc.2.1 (.inl 1) 1 + 1).toInt = _; rw [i_add c1 k_1 (by omega) (by omega)]; omega) (by show (hr.2.1 (.inl 105) 16 + 1).toInt = _; rw [i_add r1 k_1 (by omega) (by omega)]; omega) (fun i hi => by
          show rz_b ((mx_uI hc (.inl 2) L vc).2.1 (.inl 2) i).toInt ((mx_uI hr (.inl 118) L vr).2.1 (.inl 118) i).toInt
          by_cases e : i = L
          · rw [rI_c rfl e, rI_c rfl e]
            exact B
          · rw [rI_i e, rI_i e]
            exact b i (by omega))
      rw [show L + 1 + j = L + (j + 1) by omega] at f
      exact f
    exact key _ _ (by8k (x := a2) (show k < 4 by omega) ha)
/-- whatever the tapes hold, the shapes stay -/
theorem rs_feed (A : rs_A hc hr S N) (T : S ≤ 11 → rs_T hc hr) : rs_A (f102 a1 a2 hc).2 (f184 a1 a2 hr).2 S N ∧ (S ≤ 11 → rs_T (f102 a1 a2 hc).2 (f184 a1 a2 hr).2 ∧ (f102 a1 a2 hc).1 = (f184 a1 a2 hr).1) := by
  have C : ∀ c : ¬ f173 a1 1 4 = 0, ∃ n : Nat, n ≤ 4 ∧ a1.toInt = (n : Int) := fun c => by
    by_cases q : (1 : Int32).toInt ≤ a1.toInt ∧ a1.toInt ≤ (4 : Int32).toInt
    · rw [k_1, k_4] at q
      exact ⟨a1.toInt.toNat, by omega, by omega⟩
    · exact absurd (by rw [w173, if_neg q]) c
  constructor
  · refine A.g (rf_c.u ?_) (rf_r.v ?_)
    · rw [f102_eq, w_ws]
      by_cases c : f173 a1 1 4 ≠ 0
      · rw [if_pos c]
        obtain ⟨n, -, hn⟩ := C c
        by_cases c2 : hc.2.1 (.inl 1) 1 + a1 ≤ 120
        · rw [if_pos c2, f85_eq]
          exact rf_85 hn n 0 0 (by omega) rfl
        · rw [if_neg c2]
          exact rf_c.refl
      · rw [if_neg c]
        exact rf_c.refl
    · rw [f184_eq]
      by_cases c : f173 a1 1 4 ≠ 0
      · rw [if_pos c]
        obtain ⟨n, -, hn⟩ := C c
        by_cases c2 : hr.2.1 (.inl 105) 16 + a1 ≤ 120
        · rw [if_pos c2]
          exact rf_184 hn n 0 0 (by omega) rfl
        · rw [if_neg c2]
          exact rf_r.refl
      · rw [if_neg c]
        exact rf_r.refl
  · intro s11
    obtain ⟨L, l, t1, t2, tb⟩ := id (T s11)
    rw [f102_eq, f184_eq, w_ws]
    by_cases c : f173 a1 1 4 ≠ 0
    · rw [if_pos c, if_pos c]
      obtain ⟨n, n4, hn⟩ := C c
      have s1 := i_add t1 hn (by omega) (by omega)
      have s2 := i_add t2 hn (by omega) (by omega)
      by_cases c2 : L + n ≤ 120
      · rw [if_pos (i_le s1 k_120 (by omega)), if_pos (i_le s2 k_120 (by omega)), f85_eq]
        obtain ⟨f1, f4, f5, f6⟩ := rs_fd (a2 := a2) n4 hn n 0 0 (by omega) rfl c2 t1 t2 tb
        refine ⟨⟨L + n, c2, f4, f5, f6⟩, ?_⟩
        rw [f1]
        exact i_eq f4 f5 rfl
      · rw [if_neg (i_nle s1 k_120 (by omega)), if_neg (i_nle s2 k_120 (by omega))]
        exact ⟨T s11, rfl⟩
    · rw [if_neg c, if_neg c]
      exact ⟨T s11, rfl⟩
end RP
