/-! ===== the two sides: shapes and bodies alike ===== -/
/-- piece k of shape s, of body F + k, lies between u and v -/
def rs_k (hc hr : mx_H) (s C F k u v : Nat) : Prop := u < C ∧ v < C ∧ u ≠ v ∧ rD hc (.inr (s, 5)) k = (min u v : Nat) ∧ rD hc (.inr (s, 6)) k = (max u v : Nat) ∧
  rD hr (.inl 113) (36 * s + 6 * u + v) = ((F + k + 1 : Nat) : Int) ∧ rD hr (.inl 113) (36 * s + 6 * v + u) = ((F + k + 1 : Nat) : Int) ∧ hr.2.1 (.inl 111) (36 * s + 6 * u + v) = hc.2.1 (.inr (s, 7)) k ∧ hr.2.1 (.inl 111) (36 * s + 6 * v + u) = hc.2.1 (.inr (s, 7)) k ∧
  hr.2.1 (.inl 112) (36 * s + 6 * u + v) = hc.2.1 (.inr (s, 8)) k ∧ hr.2.1 (.inl 112) (36 * s + 6 * v + u) = hc.2.1 (.inr (s, 8)) k ∧ rD hr (.inl 117) (F + k) = ((36 * s + 6 * u + v + 1 : Nat) : Int) ∧ rD hc (.inr (s, 8)) k ≤ rD hc (.inr (s, 7)) k
/-- shape s, with C corners, n pieces, the first of them body F -/
def rs_D (hc hr : mx_H) (N s C n F : Nat) : Prop := 1 ≤ C ∧ C ≤ 6 ∧ F + n ≤ N ∧ rD hc (.inr (s, 0)) 0 = C ∧ rD hr (.inl 106) s = C ∧ rD hc (.inr (s, 0)) 6 = n ∧ rD hc (.inr (s, 0)) 5 = F ∧
  (∀ c, c < C → hc.2.1 (.inr (s, 1)) c = hr.2.1 (.inl 107) (6 * s + c) ∧ hc.2.1 (.inr (s, 2)) c = hr.2.1 (.inl 108) (6 * s + c) ∧ hc.2.1 (.inr (s, 3)) c = hr.2.1 (.inl 109) (6 * s + c) ∧ hc.2.1 (.inr (s, 4)) c = hr.2.1 (.inl 110) (6 * s + c)) ∧
  (hc.2.1 (.inr (s, 0)) 11 = hr.2.1 (.inl 114) s ∧ (¬ hr.2.1 (.inl 114) s = -1 → hc.2.1 (.inr (s, 0)) 12 = hr.2.1 (.inl 115) s)) ∧
  (∀ k, k < n → ∃ u v, rs_k hc hr s C F k u v) ∧ (∀ u v, u < 6 → v < 6 → hr.2.1 (.inl 113) (36 * s + 6 * u + v) = 0 ∨ ∃ k, k < n ∧ (rs_k hc hr s C F k u v ∨ rs_k hc hr s C F k v u)) ∧
  n = sd_C sd_CL (rz_g hr s) ∧ ∀ k, k < n → hc.2.2.2 (.inl 92) (F + k) = some (.inr (s, 0))
def rs_S (hc hr : mx_H) (N s : Nat) : Prop := ∃ C n F, rs_D hc hr N s C n F
def rs_B (hc hr : mx_H) (N S : Nat) : Prop := ∀ b, b < N → hc.2.1 (.inl 91) b = hr.2.1 (.inl 116) b ∧ ((hr.2.1 (.inl 117) b = 0 ∧ hc.2.2.2 (.inl 92) b = none) ∨ ∃ s k : Nat, s < S ∧ (k : Int) < rD hc (.inr (s, 0)) 6 ∧ rD hc (.inr (s, 0)) 5 + k = b)
def rs_A (hc hr : mx_H) (S N : Nat) : Prop := S ≤ 12 ∧ N ≤ 200 ∧ rD hc (.inl 0) 2 = S ∧ rD hr (.inl 105) 1 = S ∧ rD hc (.inl 90) 0 = N ∧ rD hr (.inl 105) 12 = N ∧ hc.1 = 167 + 9 * S ∧ hc.2.2.2 (.inl 0) 3 = some (.inr (S, 0)) ∧
  (∀ s, s < S → hc.2.2.2 (.inl 3) s = some (.inr (s, 0)) ∧ rs_S hc hr N s) ∧ rs_B hc hr N S
/-- shape s is as it was -/
def rs_ec (s : Nat) (h h' : mx_H) : Prop := ∀ o i, o < 9 ∧ (o = 0 → i < 13) → h'.2.1 (.inr (s, o)) i = h.2.1 (.inr (s, o)) i
def rs_w (s k i : Nat) : Prop := ((k = 106 ∨ k = 114 ∨ k = 115) ∧ i = s) ∨ ((k = 107 ∨ k = 108 ∨ k = 109 ∨ k = 110) ∧ 6 * s ≤ i ∧ i < 6 * s + 6) ∨ ((k = 111 ∨ k = 112 ∨ k = 113) ∧ 36 * s ≤ i ∧ i < 36 * s + 36)
def rs_er (s : Nat) (h h' : mx_H) : Prop := ∀ k i, rs_w s k i → h'.2.1 (.inl k) i = h.2.1 (.inl k) i
theorem rs_k.x {hc hc' hr hr' : mx_H} {s C F k u v N : Nat} (C6 : C ≤ 6) (hN : F + k < N) (a : rs_ec s hc hc') (b : rs_er s hr hr') (l : ∀ i, i < N → hr'.2.1 (.inl 117) i = hr.2.1 (.inl 117) i) (q : rs_k hc hr s C F k u v) : rs_k hc' hr' s C F k u v := by
  obtain ⟨o1, o2, o3, o4, o5, o6, o7, o8, o9, o10, o11, o12⟩ := q
  unfold rs_k rD
  rw [a 5 k (by omega), a 6 k (by omega), a 7 k (by omega), a 8 k (by omega), b 113 (36 * s + 6 * u + v) (by unfold rs_w; omega), b 113 (36 * s + 6 * v + u) (by unfold rs_w; omega), b 111 (36 * s + 6 * u + v) (by unfold rs_w; omega), b 111 (36 * s + 6 * v + u) (by unfold rs_w; omega), b 112 (36 * s + 6 * u + v) (by unfold rs_w; omega), b 112 (36 * s + 6 * v + u) (by unfold rs_w; omega), l (F + k) hN]
  exact ⟨o1, o2, o3, o4, o5, o6, o7, o8, o9, o10, o11, o12⟩
theorem rs_D.x {hc hc' hr hr' : mx_H} {s C n F N N' : Nat} (hN : N ≤ N') (a : rs_ec s hc hc') (b : rs_er s hr hr') (l : ∀ i, i < N → hr'.2.1 (.inl 117) i = hr.2.1 (.inl 117) i ∧ hc'.2.2.2 (.inl 92) i = hc.2.2.2 (.inl 92) i) (q : rs_D hc hr N s C n F) : rs_D hc' hr' N' s C n F := by
  obtain ⟨c1, c6, fn, d1, d2, d3, d4, d5, d6, d7, d8, d9, d10⟩ := q
  have kx : ∀ k u v, k < n → rs_k hc hr s C F k u v → rs_k hc' hr' s C F k u v := fun k u v hk Q => rs_k.x c6 (N := N) (by omega) a b (fun i hi => (l i hi).1) Q
  refine ⟨c1, c6, by omega, ?_, ?_, ?_, ?_, fun c q => ?_, ?_, fun k hk => ?_, fun u v hu hv => ?_, ?_, fun k hk => ?_⟩
  · unfold rD
    rw [a 0 0 (by omega)]
    exact d1
  · unfold rD
    rw [b 106 s (by unfold rs_w; omega)]
    exact d2
  · unfold rD
    rw [a 0 6 (by omega)]
    exact d3
  · unfold rD
    rw [a 0 5 (by omega)]
    exact d4
  · rw [a 1 c (by omega), a 2 c (by omega), a 3 c (by omega), a 4 c (by omega), b 107 _ (by unfold rs_w; omega), b 108 _ (by unfold rs_w; omega), b 109 _ (by unfold rs_w; omega), b 110 _ (by unfold rs_w; omega)]
    exact d5 c q
  · rw [a 0 11 (by omega), a 0 12 (by omega), b 114 _ (by unfold rs_w; omega), b 115 _ (by unfold rs_w; omega)]
    exact d6
  · obtain ⟨u, v, Q⟩ := d7 k hk
    exact ⟨u, v, kx k u v hk Q⟩
  · rw [b 113 _ (by unfold rs_w; omega)]
    rcases d8 u v hu hv with z | ⟨k, hk, Q⟩
    · exact Or.inl z
    · refine Or.inr ⟨k, hk, ?_⟩
      rcases Q with Q | Q
      · exact Or.inl (kx k _ _ hk Q)
      · exact Or.inr (kx k _ _ hk Q)
  · rw [d9]
    unfold sd_C
    congr 1
    refine List.filter_congr (fun c hc1 => ?_)
    have lt : ∀ c ∈ sd_CL, c < 36 := by decide
    unfold rz_g
    rw [b 113 (36 * s + c) (by have := lt c hc1; unfold rs_w; omega)]
  · rw [(l (F + k) (by omega)).2]
    exact d10 k hk
/-- the class's reading, whatever is read -/
def rs_h0 (hc : mx_H) (m : Nat) : mx_H := (0, fun a i => if a = .inl 118 then (if (hc.2.1 (.inl 2) i).toInt ≤ 127 then hc.2.1 (.inl 2) i else hc.2.1 (.inl 2) i - 256) else if a = .inl 105 ∧ i = 16 then hc.2.1 (.inl 1) 1 else if a = .inl 105 ∧ i = 1 then nI m else 0, fun _ _ => 0, fun _ _ => none)
theorem C86F {hc : mx_H} {m L : Nat} (hm : m ≤ 12) (L120 : L ≤ 120) (h1 : rD hc (.inl 1) 1 = L) (hb : ∀ i, 0 ≤ rD hc (.inl 2) i ∧ rD hc (.inl 2) i ≤ 255) : rz_FW m hc (f86 m hc).2 := by
  have e16 : (rs_h0 hc m).2.1 (.inl 105) 16 = hc.2.1 (.inl 1) 1 := rfl
  have e1 : (rs_h0 hc m).2.1 (.inl 105) 1 = nI m := rfl
  have e8 : ∀ i, (rs_h0 hc m).2.1 (.inl 118) i = if (hc.2.1 (.inl 2) i).toInt ≤ 127 then hc.2.1 (.inl 2) i else hc.2.1 (.inl 2) i - 256 := fun _ => rfl
  obtain ⟨C, -, E⟩ := rz_text (hc := hc) (hr := rs_h0 hc m) (S := m) L120 h1 (by unfold rD; rw [e16]; exact h1) (fun i _ => by
    obtain ⟨b1, b2⟩ := hb i
    refine ⟨b1, b2, ?_⟩
    unfold rD
    rw [e8]
    by_cases c : (hc.2.1 (.inl 2) i).toInt ≤ 127
    · rw [if_pos c, if_pos c]
    · rw [if_neg c, if_neg c]
      exact i_sub rfl (show (256 : Int32).toInt = 256 from rfl) (by unfold rD at b1 b2; omega) (by unfold rD at b1 b2; omega)) (by unfold rD; rw [e1]; exact nI_toInt (by omega)) hm
  exact E.1
