/-! ===== regions of ints, their bounds, what holds between ints, what a call may write ===== -/
def sf_rgT : List (List Nat) := [[0, 14, 17, 18, 19, 32, 33, 34, 35, 36, 37, 38, 39, 40, 52, 53], [54, 55, 56, 57, 58, 59, 60, 61, 62, 74, 75, 76, 77, 78, 79, 80], [81, 82, 83, 84, 90, 91, 92, 104, 105, 106, 107, 108, 109, 110, 111, 112], [113, 114, 126, 127, 128, 129, 130, 131, 132, 133, 134, 135, 136, 149, 150, 151], [152, 153, 154, 155, 156, 162, 163, 164, 175, 176, 177, 178, 179, 180, 181, 182], [183, 187, 188, 189, 190, 197, 198, 199, 200, 201, 202, 207, 208, 209, 210, 214], [215, 216, 217, 218, 219, 220, 221, 222, 223, 224, 318, 319, 320, 321, 322, 323], [324, 325, 326, 327, 328, 329, 330, 331, 332, 333, 334, 335, 336, 337, 338, 339], [340, 341, 342, 343, 344, 345, 346, 347, 348, 349, 350, 351, 352, 353, 354, 355], [356, 357, 358, 359, 360, 361, 362, 363, 364, 365, 366, 367, 368, 369, 370, 371], [372, 373, 374, 375, 376, 377, 378]]
def sf_rg : mx_A → Nat → Nat
  | .inl n, i => bif Nat.blt (mx_lo (.inl n)).1 100 then (sf_rgT.getD (n / 16) []).getD (n % 16) 0 + i else (sf_rgT.getD (n / 16) []).getD (n % 16) 0
  | .inr (_, o), i => bif Nat.beq o 0 then 379 + i else bif Nat.blt o 9 then 391 + o else bif Nat.beq o 30 then 400 + i else bif Nat.blt o 30 then 422 else 411 + (o - 30)
def sf_bdT : List (List (Int × Int)) := [[(0, 0), (0, 0), (0, 12), (0, 0), (0, 0), (0, 0), (0, 0), (0, 0), (0, 0), (0, 0), (0, 0), (0, 0), (0, 0), (0, 0), (0, 0), (0, 120)],
  [(0, 120), (0, 255), (0, 0), (0, 0), (0, 0), (0, 0), (0, 0), (0, 0), (0, 0), (0, 0), (0, 0), (0, 0), (0, 0), (0, 0), (0, 0), (0, 0)],
  [(0, 0), (0, 0), (0, 0), (0, 0), (0, 0), (0, 0), (0, 0), (0, 0), (0, 0), (0, 0), (0, 0), (0, 0), (0, 0), (0, 0), (0, 0), (0, 0)],
  [(0, 0), (0, 0), (0, 0), (0, 0), (0, 0), (0, 0), (0, 0), (0, 0), (0, 0), (0, 0), (0, 0), (0, 0), (0, 0), (0, 0), (0, 0), (0, 0)],
  [(0, 0), (0, 0), (0, 0), (0, 0), (0, 0), (0, 0), (0, 0), (0, 0), (0, 0), (0, 0), (0, 0), (0, 0), (0, 0), (0, 0), (0, 0), (0, 0)],
  [(0, 0), (0, 0), (0, 0), (0, 0), ((-2147483648), 2147483647), ((-2147483648), 2147483647), (0, 0), (0, 0), (0, 0), (0, 0), ((-2147483648), 2147483647), (0, 5), (0, 0), (0, 0), (0, 0), (0, 0)],
  [(0, 0), (0, 0), (0, 0), (0, 0), (0, 0), (0, 0), (0, 0), (0, 0), (0, 0), (0, 0), (0, 0), (0, 0), (0, 0), (0, 0), (0, 0), (0, 0)],
  [(0, 0), (0, 0), (0, 0), (0, 0), (0, 0), (0, 0), (0, 0), (0, 0), (0, 0), (0, 0), (0, 0), (0, 0), (0, 0), (0, 0), (0, 0), (0, 0)],
  [(0, 0), (0, 0), (0, 0), (0, 0), (0, 0), (0, 0), (0, 0), (0, 0), (0, 11), (0, 6), (0, 0), (0, 0), (0, 0), (0, 6), (0, 0), (0, 0)],
  [(0, 0), (0, 0), ((-2147483648), 2147483647), (0, 4), ((-2147483648), 2147483647), (0, 4), (0, 14), (0, 3), (0, 5), (0, 9), (0, 99), ((-2147483648), 2147483647), (0, 6), (0, 0), ((-2147483648), 2147483647), ((-1), 14)],
  [(0, 9), (0, 0), (0, 99), ((-2147483648), 2147483647), (0, 500), (0, 0), (0, 200), (0, 0), (0, 0), (0, 0), (0, 0), (0, 6), (0, 0), (0, 0), (0, 0), ((-1), 5)],
  [((-1), 5), ((-2147483648), 2147483647), ((-2147483648), 2147483647), ((-2147483648), 2147483647), (0, 5), ((-99), 99), (0, 99), (0, 6), (0, 0), (0, 0), (0, 0), (0, 9), (0, 9), (0, 99), (0, 40), (0, 40)],
  [(0, 0), (0, 0), (0, 0), (0, 0), (0, 0), (0, 0), (0, 4), (0, 14), (0, 99), (0, 99), (0, 200), (0, 0), (0, 0), (0, 1000), (0, 0), (0, 5)],
  [(0, 0), (0, 63), (0, 0), (0, 0), (0, 0), (0, 0), ((-2), 4), (0, 60), (0, 199), (0, 0), (0, 0), (0, 0), (0, 0), (0, 0), (0, 0), (0, 0)],
  [(0, 0), (0, 12), (0, 0), (0, 0), (0, 0), (0, 0), (0, 0), (0, 0), (0, 0), (0, 0), (0, 0), (0, 0), (0, 200), (0, 0), (0, 0), (0, 0)],
  [(0, 120), (0, 120), ((-1), 120), (0, 15), (0, 0), (0, 0), (0, 0), (0, 0), (0, 40), (0, 40), (0, 0), (0, 0), (0, 0), (0, 0), (0, 0), (0, 0)],
  [(0, 0), (0, 0), (0, 0), (0, 6), (0, 0), (0, 6), (0, 0), (0, 0), (0, 0), (0, 0), ((-2147483648), 2147483647), (0, 0), (0, 0), (0, 0), ((-2147483648), 2147483647), ((-2147483648), 2147483647)],
  [(0, 5), (0, 1), ((-2147483648), 2147483647), (0, 6), (0, 11), (0, 0), (0, 0), (0, 0), (0, 6), (0, 0), (0, 0), (0, 0), (0, 0), ((-1), 4), ((-2147483648), 2147483647), ((-1), 2147483647)],
  [(0, 4), (0, 6), (0, 0), ((-2147483648), 2147483647), ((-1), 199), (0, 9), (0, 0), (0, 500), (0, 0), (0, 0), (0, 200), (0, 0), (0, 0), (0, 0), (0, 0), (0, 6)],
  [(0, 0), (0, 0), (0, 0), (0, 6), (0, 0), (0, 0), (0, 0), (0, 0), (0, 1000), (0, 0), (0, 0), (0, 0), (0, 0), (0, 0), (0, 6), (0, 9)],
  [(0, 9), (0, 9), (0, 1), (0, 9), (0, 9), (0, 201), ((-1), 11), (0, 11), (0, 5), (0, 468), ((-128), 127), (0, 5), (0, 5), (0, 1), (0, 1), (0, 5)],
  [(0, 467), (0, 9), (0, 9), (0, 9), ((-2147483648), 2147483647), ((-2147483648), 2147483647), (0, 1), ((-2147483648), 2147483647), (0, 0), (0, 0), (0, 5), (0, 0), ((-2147483648), 2147483647), ((-2147483648), 2147483647), (0, 99), (0, 5)],
  [(0, 5), ((-1), 5), (0, 3), (0, 5), (0, 9), (0, 99), (0, 3), (0, 99), ((-2147483648), 2147483647), ((-1), 5), ((-1), 5), ((-2147483648), 2147483647), ((-2147483648), 2147483647), ((-2147483648), 2147483647), ((-2147483648), 2147483647), (0, 5)],
  [((-99), 99), (0, 99), (0, 9), (0, 9), (0, 11), (0, 99), (0, 63), ((-6), 199), (0, 60), (0, 0), (0, 0), (0, 6), (0, 0), (0, 0), (0, 0), (0, 0)],
  [(0, 200), (0, 15), (0, 0), (0, 0), (0, 0), (0, 0), ((-1), 11), ((-1), 11), (0, 99), (0, 99), (0, 99), (0, 99), (0, 5), (0, 5), (0, 9), (0, 9)],
  [(0, 6), (0, 0), (0, 0), (0, 0), (0, 0), (0, 0), (0, 0), (0, 6), (0, 0), (0, 0), (0, 0), (0, 0), ((-2147483648), 2147483647), ((-2147483648), 2147483647), ((-2147483648), 2147483647), ((-2147483648), 2147483647)],
  [(0, 0), (0, 5), (0, 0), (0, 0), (0, 0), (0, 0), (0, 0)]]
def sf_bR (r : Nat) : Int × Int := (sf_bdT.getD (r / 16) []).getD (r % 16) (-2147483648, 2147483647)
def sf_bd (a : mx_A) (i : Nat) : Int × Int := sf_bR (sf_rg a i)
/-- where references to shapes lie that change: shapes, the draft, history's, homes -/
def sf_rr : mx_A → Nat
  | .inl n => bif Nat.beq n 3 then 424 else bif Nat.beq n 0 then 425 else bif Nat.beq n 85 then 426 else bif Nat.beq n 92 then 427 else 428
  | .inr _ => 428
/-- the regions of which more is known than bounds -/
def sf_jm : Nat := 484251887466381787897445801280719149899206322997465044506403229429033934336710497741664434975583127624845043872699514884
def sf_jr (r : Nat) : Bool := sf_jm.testBit r
/-- the ints of those regions, as numbers -/
def sf_jf (h : mx_H) (a : mx_A) (i : Nat) : Int := bif sf_jr (sf_rg a i) then (h.2.1 a i).toInt else 0
/-- the class: pieces lie between corners -/
def sf_J1 (f : mx_A → Nat → Int) : Prop := ∀ j k : Nat, (k : Int) < f (.inr (j, 0)) 6 → f (.inr (j, 5)) k < f (.inr (j, 0)) 0 ∧ f (.inr (j, 6)) k < f (.inr (j, 0)) 0
/-- strokes of HEAVY name corners -/
def sf_J2 (f : mx_A → Nat → Int) : Prop := ∀ k : Nat, (k : Int) < f (.inl 60) 1 → f (.inl 61) k = 3 → f (.inl 62) k ≤ 5
/-- acts on corners name corners -/
def sf_J3 (f : mx_A → Nat → Int) : Prop := f (.inl 84) 0 + f (.inl 84) 1 ≤ 40 ∧ ∀ k : Nat, (k : Int) < f (.inl 84) 0 + f (.inl 84) 1 → f (.inl 86) k ≤ 3 → f (.inl 87) k ≤ 5
/-- the draft's number -/
def sf_J4 (f : mx_A → Nat → Int) (R : mx_A → Nat → Option mx_A) (n : Nat) : Prop := ∃ m : Nat, R (.inl 0) 3 = some (.inr (m, 0)) ∧ n = 167 + 9 * m ∧ f (.inl 0) 2 = m ∧ ∀ i j : Nat, R (.inl 3) i = some (.inr (j, 0)) → j < m
/-- the reference: acts name places where they must -/
def sf_K1 (f : mx_A → Nat → Int) : Prop := f (.inl 105) 24 + f (.inl 105) 25 ≤ 40 ∧ ∀ k : Nat, (k : Int) < f (.inl 105) 24 + f (.inl 105) 25 →
    (f (.inl 123) k ≠ 3 ∧ f (.inl 123) k ≠ 4 → f (.inl 124) k < 78) ∧ (f (.inl 123) k = 4 ∨ f (.inl 123) k = 5 → 1 ≤ f (.inl 125) k ∧ 1 ≤ f (.inl 126) k)
/-- corners are heavy -/
def sf_K2 (f : mx_A → Nat → Int) : Prop := ∀ s c : Nat, (s : Int) < f (.inl 105) 1 → (c : Int) < f (.inl 106) s → 1 ≤ f (.inl 107) (6 * s + c)
/-- pieces are stiff -/
def sf_K3 (f : mx_A → Nat → Int) : Prop := ∀ p : Nat, (p : Int) < 36 * f (.inl 105) 1 → 0 < f (.inl 113) p → 1 ≤ f (.inl 111) p
/-- a piece lies both ways -/
def sf_K4 (f : mx_A → Nat → Int) : Prop := ∀ s a b : Nat, (s : Int) < f (.inl 105) 1 → a < 6 → b < 6 → f (.inl 113) (36 * s + 6 * a + b) = f (.inl 113) (36 * s + 6 * b + a)
/-- bodies lie where pieces are -/
def sf_K5 (f : mx_A → Nat → Int) : Prop := ∀ b : Nat, (b : Int) < f (.inl 105) 12 → 0 < f (.inl 117) b → ∃ s x y : Nat, f (.inl 117) b = ((36 * s + 6 * x + y : Nat) : Int) + 1 ∧ (s : Int) < f (.inl 105) 1 ∧ (x : Int) < f (.inl 106) s ∧ (y : Int) < f (.inl 106) s ∧ x ≠ y ∧ f (.inl 113) (36 * s + 6 * x + y) = (b : Int) + 1
def sf_JC (f : mx_A → Nat → Int) (R : mx_A → Nat → Option mx_A) (n : Nat) : Prop := sf_J1 f ∧ sf_J2 f ∧ sf_J3 f ∧ sf_J4 f R n
def sf_JR (f : mx_A → Nat → Int) : Prop := sf_K1 f ∧ sf_K2 f ∧ sf_K3 f ∧ sf_K4 f ∧ sf_K5 f
def sf_J (h : mx_H) : Prop := sf_JC (sf_jf h) h.2.2.2 h.1 ∧ sf_JR (sf_jf h)
def sf_sr (a : mx_A) (i : Nat) : Bool := match a with
  | .inl n => Nat.beq n 3 || (Nat.beq n 85 || (Nat.beq n 92 || (Nat.beq n 0 && Nat.beq i 3)))
  | .inr _ => false
/-- every int keeps its bounds; what lies among the shapes is a shape; what holds between ints -/
def sf_I (h : mx_H) : Prop := (∀ a i, sf_iv (sf_bd a i).1 (sf_bd a i).2 (h.2.1 a i)) ∧ (∀ a i b, sf_sr a i = true → h.2.2.2 a i = some b → ∃ j, b = .inr (j, 0)) ∧ sf_J h
/-- a call wrote no more than what the mask names -/
def sf_E (m : Nat) (h h' : mx_H) : Prop := (∀ a i, m.testBit (sf_rg a i) = false → h'.2.1 a i = h.2.1 a i) ∧ (∀ a i, m.testBit (sf_rr a) = false → h'.2.2.2 a i = h.2.2.2 a i) ∧ (m.testBit 429 = false → h'.1 = h.1)
theorem sf_rd {h : mx_H} {r : Nat} {lo hi : Int} (hI : sf_I h) (a : mx_A) (i : Nat) (e : sf_rg a i = r) (e2 : sf_bR r = (lo, hi)) : sf_iv lo hi (h.2.1 a i) := by
  have p := hI.1 a i
  unfold sf_bd at p
  rw [e, e2] at p
  exact p
theorem sf_rt {h : mx_H} {a : mx_A} {i : Nat} (hI : sf_I h) (e : sf_sr a i = true) : ∀ b, h.2.2.2 a i = some b → ∃ j, b = .inr (j, 0) := fun b hb => hI.2.1 a i b e hb
theorem sf_dn {h : mx_H} (hI : sf_I h) : ¬ h.2.2.2 (.inl 0) 3 = none := fun e => by
  obtain ⟨j, hj, -⟩ := hI.2.2.1.2.2.2
  rw [e] at hj
  cases hj
theorem sf_jf_u {h : mx_H} {a : mx_A} {i : Nat} {v : Int32} (hj : sf_jr (sf_rg a i) = false) : sf_jf (mx_uI h a i v) = sf_jf h := by
  funext b j
  unfold sf_jf
  by_cases q : b = a ∧ j = i
  · rw [q.1, q.2, hj, cond_false, cond_false]
  · rw [show (mx_uI h a i v).2.1 b j = h.2.1 b j from if_neg q]
theorem sf_J_u {h : mx_H} {a : mx_A} {i : Nat} {v : Int32} (hj : sf_jr (sf_rg a i) = false) (hJ : sf_J h) : sf_J (mx_uI h a i v) := by
  unfold sf_J
  rw [sf_jf_u hj]
  exact hJ
theorem sf_uI {h : mx_H} {a : mx_A} {i r : Nat} {v : Int32} {lo hi : Int} (hI : sf_I h) (e : sf_rg a i = r) (p : sf_iv lo hi v) (hc : (decide ((sf_bR r).1 ≤ lo) && (decide (hi ≤ (sf_bR r).2) && !sf_jr r)) = true) : sf_I (mx_uI h a i v) := by
  subst e
  simp only [Bool.and_eq_true, decide_eq_true_eq, Bool.not_eq_true'] at hc
  refine ⟨fun b j => ?_, hI.2.1, sf_J_u hc.2.2 hI.2.2⟩
  by_cases q : b = a ∧ j = i
  · obtain ⟨rfl, rfl⟩ := q
    exact iv_s ⟨Int.le_trans hc.1 p.1, Int.le_trans p.2 hc.2.1⟩
  · exact iv_e (if_neg q) (hI.1 b j)
theorem sf_uL {h : mx_H} {a : mx_A} {i : Nat} {v : Int64} (hI : sf_I h) : sf_I (mx_uL h a i v) := hI
theorem sf_E0 (m : Nat) (h : mx_H) : sf_E m h h := ⟨fun _ _ _ => rfl, fun _ _ _ => rfl, fun _ => rfl⟩
theorem sf_Eu {m : Nat} {h h' : mx_H} {a : mx_A} {i r : Nat} {v : Int32} (e : sf_rg a i = r) (hb : m.testBit r = true) (hE : sf_E m h h') : sf_E m h (mx_uI h' a i v) := by
  subst e
  refine ⟨fun b j hf => ?_, hE.2.1, hE.2.2⟩
  have q : ¬ (b = a ∧ j = i) := fun q => by
    rw [q.1, q.2, hb] at hf
    cases hf
  exact (if_neg q).trans (hE.1 b j hf)
theorem sf_fr {m : Nat} {h h' : mx_H} {a : mx_A} {i r : Nat} (hE : sf_E m h h') (e : sf_rg a i = r) (hb : m.testBit r = false) : h'.2.1 a i = h.2.1 a i := by
  subst e
  exact hE.1 a i hb
theorem sf_EL {m : Nat} {h h' : mx_H} {a : mx_A} {i : Nat} {v : Int64} (hE : sf_E m h h') : sf_E m h (mx_uL h' a i v) := hE
theorem sf_sub {m k r : Nat} (hs : k &&& m = k) (hf : m.testBit r = false) : k.testBit r = false := by
  rw [← hs, Nat.testBit_and, hf, Bool.and_false]
theorem sf_Et {m k : Nat} {h h1 h2 : mx_H} (hs : k &&& m = k) (hE : sf_E m h h1) (hk : sf_E k h1 h2) : sf_E m h h2 :=
  ⟨fun a i hf => (hk.1 a i (sf_sub hs hf)).trans (hE.1 a i hf), fun a i hf => (hk.2.1 a i (sf_sub hs hf)).trans (hE.2.1 a i hf), fun hf => (hk.2.2 (sf_sub hs hf)).trans (hE.2.2 hf)⟩
theorem iv_nar1 (x : Int32) : sf_iv 0 1 (vp_nar .boolean x) := iv_and rfl (by decide)
theorem iv_nar8 (x : Int32) : sf_iv (-128) 127 (vp_nar .byte x) := iv_i2b x
