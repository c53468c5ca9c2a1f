/-! ===== Arrays.fill; TONES: bounds kept ===== -/
theorem sf_fi {h : mx_H} {a : mx_A} {v : Int32} {r : Nat} {lo hi : Int} (hI : sf_I h) (hr : ∀ i, sf_rg a i = r) (p : sf_iv lo hi v) (hc : (decide ((sf_bR r).1 ≤ lo) && (decide (hi ≤ (sf_bR r).2) && !sf_jr r)) = true) : ∀ n, sf_I (sp_fi h a v n)
  | 0 => by
    rw [sp_fi_0]
    exact hI
  | n + 1 => by
    rw [← sp_fi_s]
    exact sf_uI (sf_fi hI hr p hc n) (hr n) p hc
theorem sf_fiE {h : mx_H} {a : mx_A} {v : Int32} {m r : Nat} (hr : ∀ i, sf_rg a i = r) (hb : m.testBit r = true) : ∀ n, sf_E m h (sp_fi h a v n)
  | 0 => by
    rw [sp_fi_0]
    exact sf_E0 _ _
  | n + 1 => by
    rw [← sp_fi_s]
    exact sf_Eu (hr n) hb (sf_fiE hr hb n)
section SFF
variable {E : mx_Ev} {d : Nat} {h : mx_H} {Q : Option mx_V → mx_H → Prop}
theorem sf_fill {a : mx_A} {v : Int32} {N m r : Nat} {lo hi : Int} (ha : mx_lo a = (100, N)) (hN : N < 10000) (hr : ∀ i, sf_rg a i = r) (p : sf_iv lo hi v) (hc : (decide ((sf_bR r).1 ≤ lo) && (decide (hi ≤ (sf_bR r).2) && !sf_jr r)) = true) (hb : m.testBit r = true) (hI : sf_I h) (hQ : ∀ h', sf_I h' → sf_E m h h' → Q none h') : mx_C E (mx_fn true) d 317 [.inr a, .inl (.int v)] h Q :=
  sp_fill ha hN (hQ _ (sf_fi hI hr p hc N) (sf_fiE hr hb N))
theorem sf_fl {hh : mx_H} {t : Nat} {v : Int64} : ∀ (k c : Nat) {h : mx_H}, c + k = 60 → h.2.1 = hh.2.1 ∧ h.2.2.2 = hh.2.2.2 ∧ h.1 = hh.1 → (∀ h', h'.2.1 = hh.2.1 ∧ h'.2.2.2 = hh.2.2.2 ∧ h'.1 = hh.1 → Q none h') → mx_T E (mx_fn true) d 0 0 316 6 [(0, .inr (.inr (t, 20))), (1, .inl (.long v)), (3, .inl (.int (nI c))), (4, .inl (.int (nI 60)))] [] h Q
  | 0, c, h, e, he, hQ => by
    have e : c = 60 := by omega
    subst e
    exact sg316_6 ⟨fun _ => hQ _ he, fun h1 => absurd (by decide) h1⟩
  | k + 1, c, h, e, he, hQ => by
    refine sg316_6 ⟨fun h1 => absurd h1 (nI_ge (by omega) (by decide)), fun _ => (show _ ∧ _ from ⟨(show vp_in (nI c) 60 from vp_in_nI (by omega) (by decide)), ?_⟩)⟩
    rw [nI_1]
    exact sf_fl k (c + 1) (by omega) he hQ
theorem sf_same {h h' : mx_H} (e : h'.2.1 = h.2.1 ∧ h'.2.2.2 = h.2.2.2 ∧ h'.1 = h.1) (hI : sf_I h) : sf_I h' := by
  obtain ⟨n, I, L, R⟩ := h
  obtain ⟨n', I', L', R'⟩ := h'
  obtain ⟨e1, e2, e3⟩ := e
  dsimp only at e1 e2 e3
  subst e1
  subst e2
  subst e3
  exact hI
theorem sf_fillL {t : Nat} {v : Int64} (hI : sf_I h) (hQ : ∀ h', sf_I h' → sf_E 0 h h' → Q none h') : mx_C E (mx_fn true) d 316 [.inr (.inr (t, 20)), .inl (.long v)] h Q :=
  sg316_0 (sf_fl (E := E) (hh := h) 60 0 rfl ⟨rfl, rfl, rfl⟩ (fun h' e => hQ h' (sf_same e hI) ⟨fun a i _ => by rw [e.1], fun a i _ => by rw [e.2.1], fun _ => e.2.2⟩))
theorem sf_nI {n : Nat} {b : Int} (hn : (n : Int) ≤ b) (hb : b ≤ 2147483647) : sf_iv 0 b (nI n) := by
  unfold sf_iv
  rw [nI_toInt (by omega)]
  exact ⟨by omega, hn⟩
theorem sf_of {x : Int32} {b : Nat} (p : sf_iv 0 b x) : ∃ k : Nat, k ≤ b ∧ x = nI k := by
  obtain ⟨p1, p2⟩ := p
  refine ⟨x.toInt.toNat, by omega, Int32.toInt_inj.mp ?_⟩
  have := (iv_rng x).2
  rw [nI_toInt (by omega)]
  omega
theorem sf60 {t0 : Nat} (hI : sf_I h) (hQ : ∀ x h', sf_I h' → sf_E 0 h h' → sf_iv 0 6 x → Q (some (.inl (.int x))) h') : mx_C E (mx_fn true) d 60 [.inr (.inr (t0, 0))] h Q := by
  obtain ⟨N, hN, hc⟩ := sf_of (b := 6) (sf_rd (r := 379) (lo := 0) (hi := 6) hI (.inr (t0, 0)) 0 rfl rfl)
  refine sp_tonesX hN hc (hQ _ _ hI (sf_E0 _ _) (sf_nI ?_ (by decide)))
  have := sp_cnt_le (h.2.1 (.inr (t0, 4))) 0 N
  omega
theorem sf195 {a1 : Int32} (pa1 : sf_iv 0 11 a1) (hI : sf_I h) (hQ : ∀ x h', sf_I h' → sf_E 0 h h' → sf_iv 0 6 x → Q (some (.inl (.int x))) h') : mx_C E (mx_fn true) d 195 [.inr (.inl 105), .inl (.int a1)] h Q := by
  obtain ⟨S, hS, rfl⟩ := sf_of (b := 11) pa1
  obtain ⟨N, hN, hc⟩ := sf_of (b := 6) (sf_rd (r := 318) (lo := 0) (hi := 6) hI (.inl 106) S rfl rfl)
  refine sp_tonesM (by omega) hN hc (hQ _ _ hI (sf_E0 _ _) (sf_nI ?_ (by decide)))
  have := sp_cnt_le (h.2.1 (.inl 110)) (6 * S) N
  omega
end SFF
