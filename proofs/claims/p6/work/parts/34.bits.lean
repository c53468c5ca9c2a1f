/-! ===== bitsOf and minor of the reference ===== -/
theorem mx_T0.deep {E : mx_Ev} {fin : mx_A → Nat → Option mx_A} {d d' bc bs mid pc : Nat} {lv : mx_Lv} {st : List mx_V} {h : mx_H} {Q : Option mx_V → mx_H → Prop} (hd : d ≤ d') (hT : mx_T0 E fin d bc bs mid pc lv st h Q) : mx_T0 E fin d' bc bs mid pc lv st h Q :=
  fun p e R s m args below meth c H locs cells slots Qw ls hS => hT p e R s m args below meth c H locs cells slots Qw ls ⟨hS.1, hS.2.1, hS.2.2.1, hS.2.2.2.1, hS.2.2.2.2.1, hS.2.2.2.2.2.1, hS.2.2.2.2.2.2.1, hS.2.2.2.2.2.2.2.1, hS.2.2.2.2.2.2.2.2.1, Nat.le_trans hd hS.2.2.2.2.2.2.2.2.2.1, by
    have := hS.2.2.2.2.2.2.2.2.2.2
    omega⟩
theorem mx_T.deep {E : mx_Ev} {fin : mx_A → Nat → Option mx_A} {d d' bc bs mid pc : Nat} {lv : mx_Lv} {st : List mx_V} {h : mx_H} {Q : Option mx_V → mx_H → Prop} (hd : d ≤ d') (hT : mx_T E fin d bc bs mid pc lv st h Q) : mx_T E fin d' bc bs mid pc lv st h Q :=
  mx_T.mk ⟨fun f hf P hP => mx_T0.deep hd (hT.up.1 f hf P hP), hT.up.2⟩
/-- how many bits of a number below 128 -/
def sf_pb (k : Nat) : Nat := k % 2 + k / 2 % 2 + k / 4 % 2 + k / 8 % 2 + k / 16 % 2 + k / 32 % 2 + k / 64 % 2
theorem sf_b1 : ∀ k, k < 128 → k ≠ 0 → (nI k &&& (nI k - 1)) = nI (k &&& (k - 1)) ∧ (k &&& (k - 1)) < 128 ∧ sf_pb (k &&& (k - 1)) + 1 = sf_pb k := by decide +kernel
theorem sf_b2 : ∀ k, k < 64 → sf_pb k ≤ 6 := by decide +kernel
theorem sf_b2b : ∀ k, k < 128 → sf_pb k ≤ 7 := by decide +kernel
theorem sf_b3 : ∀ k, k < 128 → (nI k = 0 ↔ k = 0) := by decide +kernel
theorem sf_b4 : ∀ k, k < 64 → ∀ i, i < 6 → ((nI k >>> (nI i &&& 31)) &&& 1) = nI (k / 2 ^ i % 2) := by decide +kernel
theorem sf_b5 : ∀ k, k < 64 → ∀ i, i < 6 → (nI k &&& (((1 : Int32) <<< (nI i &&& 31)) ^^^ (-1))) = nI (k &&& (63 - 2 ^ i)) ∧ (k &&& (63 - 2 ^ i)) < 64 ∧ (k / 2 ^ i % 2 = 1 → sf_pb (k &&& (63 - 2 ^ i)) + 1 = sf_pb k) := by decide +kernel
theorem sf_b6 : ∀ k, k < 64 → k ≠ 0 → ∃ i, i < 6 ∧ k / 2 ^ i % 2 = 1 ∧ ∀ j, j < i → k / 2 ^ j % 2 = 0 := by decide +kernel
theorem sf_b7 : ∀ b : Nat, b < 2 → (nI b = 0 ↔ b = 0) := by decide +kernel
section SFB
variable {E : mx_Ev} {d : Nat} {h : mx_H} {Q : Option mx_V → mx_H → Prop}
theorem sf211_4 {b : Nat} (hb : b ≤ 7) : ∀ (n k c : Nat), k < 128 → sf_pb k = n → c + n ≤ b → (∀ x, sf_iv 0 b x → Q (some (.inl (.int x))) h) → mx_T E (mx_fn true) d 0 0 211 4 [(1, .inl (.int (nI c))), (2, .inl (.int (nI k)))] [] h Q
  | 0, k, c, hk, hp, hc, hQ => by
    refine sg211_4 ⟨fun _ => hQ _ (sf_nI (by omega) (by omega)), fun g => ?_⟩
    have hk0 : k ≠ 0 := fun e => g ((sf_b3 k hk).mpr e)
    have := (sf_b1 k hk hk0).2.2
    omega
  | n + 1, k, c, hk, hp, hc, hQ => by
    refine sg211_4 ⟨fun _ => hQ _ (sf_nI (by omega) (by omega)), fun g => ?_⟩
    have hk0 : k ≠ 0 := fun e => g ((sf_b3 k hk).mpr e)
    obtain ⟨e1, e2, e3⟩ := sf_b1 k hk hk0
    rw [e1, nI_1]
    exact sf211_4 hb n _ (c + 1) e2 (by omega) (by omega) hQ
theorem sf211 {a0 : Int32} (pa0 : sf_iv 0 127 a0) (hI : sf_I h) (hQ : ∀ x h', sf_I h' → sf_E 0 h h' → sf_iv 0 7 x → (a0.toInt ≤ 63 → x.toInt ≤ 6) → Q (some (.inl (.int x))) h') : mx_C E (mx_fn true) d 211 [.inl (.int a0)] h Q := by
  obtain ⟨k, hk, rfl⟩ := sf_of (b := 127) pa0
  by_cases h6 : k < 64
  · have := sf_b2 k h6
    exact sg211_0 (sf211_4 (b := 6) (by decide) _ k 0 (by omega) rfl (by omega) (fun x hx => hQ x h hI (sf_E0 _ _) ⟨hx.1, Int.le_trans hx.2 (by decide)⟩ (fun _ => hx.2)))
  · have := sf_b2b k (by omega)
    refine sg211_0 (sf211_4 (b := 7) (by decide) _ k 0 (by omega) rfl (by omega) (fun x hx => hQ x h hI (sf_E0 _ _) hx (fun q => ?_)))
    rw [nI_toInt (by omega)] at q
    omega
theorem nI_64 (a b : Nat) : 64 * nI a + nI b = nI (64 * a + b) := by
  rw [show (64 : Int32) = nI 64 from rfl, nI_mul, nI_add]
abbrev sf_mM : Nat := 860061980996276816854057835738282602798711870938105421401595814770096078533181803026256957416297132457984
theorem sf210_60 {s c i : Nat} {h0 : mx_H} (hs : s < 64) (hc : c < 64) (hi : i < 6) (hQ : ∀ x h', sf_I h' → sf_E sf_mM h0 h' → Q (some (.inl (.long x))) h')
    (hrec : ∀ c', c' < 64 → ∀ {h1 : mx_H} {Q1 : Option mx_V → mx_H → Prop}, sf_I h1 → (∀ x h', sf_I h' → sf_E sf_mM h1 h' → Q1 (some (.inl (.long x))) h') → mx_C E (mx_fn true) d 210 [.inr (.inl 105), .inl (.int (nI (s &&& (63 - 2 ^ i)))), .inl (.int (nI c'))] h1 Q1) :
    ∀ (n j : Nat) {h : mx_H} {a5 : Int64} {a7 : Int32}, j + n = 6 → sf_I h → sf_E sf_mM h0 h → mx_T E (mx_fn true) (d + 1) 0 0 210 60 [(0, .inr (.inl 105)), (1, .inl (.int (nI s))), (2, .inl (.int (nI c))), (3, .inl (.int (nI (64 * s + c)))), (4, .inl (.int (nI i))), (5, .inl (.long a5)), (7, .inl (.int a7)), (8, .inl (.int (nI j)))] [] h Q
  | 0, j, h, a5, a7, e, hI, hE => by
    have hv : vp_in (nI (64 * s + c)) 4096 := vp_in_nI (by omega) (by decide)
    refine sg210_60 ⟨fun _ => ⟨hv, hv, hQ _ _ (sf_uL (sf_uI (r := 348) hI rfl (sf_rd (r := 266) hI (.inl 105) 42 rfl rfl) (by decide))) (sf_EL (sf_Eu (r := 348) rfl (by decide) hE))⟩, fun g => absurd ?_ g⟩
    have e : j = 6 := by omega
    subst e
    obtain ⟨N, hN, hr⟩ := sf_of (b := 6) (sf_rd (r := 261) (lo := 0) (hi := 6) hI (.inl 105) 37 rfl rfl)
    rw [hr]
    exact nI_le hN (by decide)
  | n + 1, j, h, a5, a7, e, hI, hE => by
    have hv : vp_in (nI (64 * s + c)) 4096 := vp_in_nI (by omega) (by decide)
    have hj : j < 6 := by omega
    have hm : vp_in (6 * nI i + nI j) 36 := by
      rw [nI_6]
      exact vp_in_nI (by omega) (by decide)
    have ih : ∀ {h : mx_H} {a5 : Int64} {a7 : Int32}, sf_I h → sf_E sf_mM h0 h → mx_T E (mx_fn true) (d + 1) 0 0 210 60 [(0, .inr (.inl 105)), (1, .inl (.int (nI s))), (2, .inl (.int (nI c))), (3, .inl (.int (nI (64 * s + c)))), (4, .inl (.int (nI i))), (5, .inl (.long a5)), (7, .inl (.int a7)), (8, .inl (.int (nI j + 1)))] [] h Q := by
      intro h a5 a7 hI hE
      rw [nI_1]
      exact sf210_60 hs hc hi hQ hrec n (j + 1) (by omega) hI hE
    refine sg210_60 ⟨fun _ => ⟨hv, hv, hQ _ _ (sf_uL (sf_uI (r := 348) hI rfl (sf_rd (r := 266) hI (.inl 105) 42 rfl rfl) (by decide))) (sf_EL (sf_Eu (r := 348) rfl (by decide) hE))⟩, fun _ => ⟨fun _ => ⟨hm, ⟨fun _ => ⟨fun _ => ih hI hE, fun _ => ih hI hE⟩, fun _ => ⟨hm, ?_⟩⟩⟩, fun _ => ih hI hE⟩⟩
    rw [(sf_b5 s hs i hi).1, (sf_b5 c hc j hj).1]
    refine hrec _ (sf_b5 c hc j hj).2.1 hI ?_
    intro x h2 hI2 hE2
    have hE3 : sf_E sf_mM h0 h2 := sf_Et (by decide) hE hE2
    exact hx_l ⟨fun _ => ⟨fun _ => ih hI2 hE3, fun _ => ih hI2 hE3⟩, fun _ => ⟨fun _ => ih hI2 hE3, fun _ => ih hI2 hE3⟩⟩
theorem sf210_36 {s c i : Nat} (hs : s < 64) (hi : i < 6) (hb : s / 2 ^ i % 2 = 1) (hz : ∀ j, j < i → s / 2 ^ j % 2 = 0)
    (hk : mx_T E (mx_fn true) (d + 1) 0 0 210 60 [(0, .inr (.inl 105)), (1, .inl (.int (nI s))), (2, .inl (.int (nI c))), (3, .inl (.int (nI (64 * s + c)))), (4, .inl (.int (nI i))), (5, .inl (.long 0)), (7, .inl (.int 0)), (8, .inl (.int 0))] [] h Q) :
    ∀ (n j : Nat), j + n = i → mx_T E (mx_fn true) (d + 1) 0 0 210 36 [(0, .inr (.inl 105)), (1, .inl (.int (nI s))), (2, .inl (.int (nI c))), (3, .inl (.int (nI (64 * s + c)))), (4, .inl (.int (nI j)))] [] h Q
  | 0, j, e => by
    have e : j = i := by omega
    subst e
    refine sg210_36 ⟨fun _ => hk, fun g => absurd ?_ g⟩
    rw [sf_b4 s hs j hi, hb]
    decide
  | n + 1, j, e => by
    refine sg210_36 ⟨fun g => absurd ?_ g, fun _ => ?_⟩
    · rw [sf_b4 s hs j (by omega), hz j (by omega)]
      decide
    · rw [nI_1]
      exact sf210_36 hs hi hb hz hk n (j + 1) (by omega)
theorem sf210k : ∀ (k s c : Nat), s < 64 → c < 64 → sf_pb s ≤ k → ∀ {h : mx_H} {Q : Option mx_V → mx_H → Prop}, sf_I h → (∀ x h', sf_I h' → sf_E sf_mM h h' → Q (some (.inl (.long x))) h') → mx_C E (mx_fn true) (d + k + 1) 210 [.inr (.inl 105), .inl (.int (nI s)), .inl (.int (nI c))] h Q
  | k, s, c, hs, hc, hp, h, Q, hI, hQ => by
    by_cases h0 : s = 0
    · subst h0
      exact sg210_0 ⟨fun g => absurd (by decide) g, fun _ => hQ _ _ hI (sf_E0 _ _)⟩
    · obtain ⟨i, hi, hb, hz⟩ := sf_b6 s hs h0
      have hv : vp_in (64 * nI s + nI c) 4096 := by
        rw [nI_64]
        exact vp_in_nI (by omega) (by decide)
      obtain ⟨-, e2, e3⟩ := sf_b5 s hs i hi
      have e3 := e3 hb
      match k, hp with
      | 0, hp => omega
      | k + 1, hp =>
        refine sg210_0 ⟨fun _ => ⟨hv, ⟨fun _ => ?_, fun _ => ⟨hv, hQ _ _ hI (sf_E0 _ _)⟩⟩⟩, fun g => absurd (fun q => h0 ((sf_b3 s (by omega)).mp q)) g⟩
        rw [nI_64]
        refine sf210_36 (i := i) hs hi hb hz (sf210_60 hs hc hi hQ (fun c' hc' h1 Q1 hI1 hQ1 => sf210k k _ c' e2 hc' (by omega) hI1 hQ1) 6 0 rfl hI (sf_E0 _ _)) i 0 (Nat.zero_add _)
theorem sf210 {a1 a2 : Int32} (pa1 : sf_iv 0 63 a1) (pa2 : sf_iv 0 63 a2) (hI : sf_I h) (hQ : ∀ x h', sf_I h' → sf_E sf_mM h h' → Q (some (.inl (.long x))) h') : mx_C E (mx_fn true) (d + 8) 210 [.inr (.inl 105), .inl (.int a1), .inl (.int a2)] h Q := by
  obtain ⟨s, hs, rfl⟩ := sf_of (b := 63) pa1
  obtain ⟨c, hc, rfl⟩ := sf_of (b := 63) pa2
  exact sf210k (d := d) 7 s c (by omega) (by omega) (Nat.le_trans (sf_b2 s (by omega)) (by decide)) hI hQ
end SFB
