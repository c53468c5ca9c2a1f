/-! ===== feed(): the tape takes bytes alike ===== -/
section RP
variable {h h' h'' hc hr : mx_H} {S N L n : Nat} {a1 a2 : Int32}
theorem by8 {x c r y : Int32} {s : Nat} (hs : s ≤ 24) (e1 : c.toBitVec = (x.toBitVec >>> s) &&& 255#32) (e2 : y.toBitVec = x.toBitVec.sshiftRight s) (e3 : r = y.toInt8.toInt32.toInt8.toInt32) : rz_b c.toInt r.toInt := by
  have w : (x.toBitVec.sshiftRight s).setWidth 8 = (x.toBitVec >>> s).setWidth 8 := by
    apply BitVec.eq_of_getLsbD_eq
    intro i hi
    rw [BitVec.getLsbD_setWidth, BitVec.getLsbD_setWidth, BitVec.getLsbD_sshiftRight, BitVec.getLsbD_ushiftRight, if_pos (by omega)]
    have : decide (32 ≤ i) = false := by
      rw [decide_eq_false_iff_not]
      omega
    rw [this]
    simp
  have n : (x.toBitVec >>> s &&& 255#32).toNat = ((x.toBitVec >>> s).setWidth 8).toNat := by
    rw [BitVec.toNat_and, BitVec.toNat_setWidth]
    exact Nat.and_two_pow_sub_one_eq_mod _ 8
  generalize hW : (x.toBitVec >>> s).setWidth 8 = W at w n
  have b := W.isLt
  have c1 : c.toInt = W.toNat := by
    show c.toBitVec.toInt = _
    rw [e1, BitVec.toInt_eq_toNat_cond, n, if_pos (by omega)]
  have r1 : r.toInt = W.toInt := by
    rw [e3, Int8.toInt8_toInt32, Int8.toInt_toInt32]
    show (y.toBitVec.signExtend 8).toInt = _
    first
      | rw [BitVec.signExtend_eq_setWidth_of_le _ (by decide), e2, w]
      | rw [BitVec.signExtend_eq_setWidth_of_lt _ (by decide), e2, w]
  rw [c1, r1, BitVec.toInt_eq_toNat_cond]
  refine ⟨by omega, by omega, ?_⟩
  split <;> split <;> omega
theorem by8k {x a3 : Int32} {k : Nat} (hk : k < 4) (ha : a3.toInt = (k : Int)) : rz_b (((x.toUInt32 >>> (Int32.toUInt32 (8 * a3) &&& Int32.toUInt32 31)).toInt32) &&& 255).toInt (vp_nar .byte ((Int32.toInt8 (x >>> ((8 * a3) &&& 31))).toInt32)).toInt := by
  have z : k = 0 ∨ k = 1 ∨ k = 2 ∨ k = 3 := by omega
  have e : a3 = nI k := i_nI ha
  rcases z with z | z | z | z
  · rw [e, z]
    exact by8 (x := x) (s := 0) (by decide) rfl rfl rfl
  · rw [e, z]
    exact by8 (x := x) (s := 8) (by decide) rfl rfl rfl
  · rw [e, z]
    exact by8 (x := x) (s := 16) (by decide) rfl rfl rfl
  · rw [e, z]
    exact by8 (x := x) (s := 24) (by decide) rfl rfl rfl
/-- only the tape -/
def rf_c (h h' : mx_H) : Prop := h'.1 = h.1 ∧ h'.2.2 = h.2.2 ∧ (∀ q i, h'.2.1 (.inr q) i = h.2.1 (.inr q) i) ∧ ∀ k i, ¬ (k = 1 ∧ i = 1) → k ≠ 2 → h'.2.1 (.inl k) i = h.2.1 (.inl k) i
def rf_r (h h' : mx_H) : Prop := h'.1 = h.1 ∧ h'.2.2 = h.2.2 ∧ (∀ q i, h'.2.1 (.inr q) i = h.2.1 (.inr q) i) ∧ ∀ k i, ¬ (k = 105 ∧ i = 16) → k ≠ 118 → h'.2.1 (.inl k) i = h.2.1 (.inl k) i
theorem rf_c.refl : rf_c h h := ⟨rfl, rfl, fun _ _ => rfl, fun _ _ _ _ => rfl⟩
theorem rf_r.refl : rf_r h h := ⟨rfl, rfl, fun _ _ => rfl, fun _ _ _ _ => rfl⟩
theorem rf_c.trans (a : rf_c h h') (b : rf_c h' h'') : rf_c h h'' := ⟨b.1.trans a.1, b.2.1.trans a.2.1, fun q i => (b.2.2.1 q i).trans (a.2.2.1 q i), fun k i p q => (b.2.2.2 k i p q).trans (a.2.2.2 k i p q)⟩
theorem rf_r.trans (a : rf_r h h') (b : rf_r h' h'') : rf_r h h'' := ⟨b.1.trans a.1, b.2.1.trans a.2.1, fun q i => (b.2.2.1 q i).trans (a.2.2.1 q i), fun k i p q => (b.2.2.2 k i p q).trans (a.2.2.2 k i p q)⟩
theorem rf_c.a {i : Nat} {v w : Int32} : rf_c h (mx_uI (mx_uI h (.inl 2) i v) (.inl 1) 1 w) := ⟨rfl, rfl, fun _ _ => rfl, fun k j p q => by
  rw [show (mx_uI (mx_uI h (.inl 2) i v) (.inl 1) 1 w).2.1 (.inl k) j = (mx_uI h (.inl 2) i v).2.1 (.inl k) j from if_neg (fun z => p ⟨Sum.inl.inj z.1, z.2⟩), rN q]⟩
theorem rf_r.a {i : Nat} {v w : Int32} : rf_r h (mx_uI (mx_uI h (.inl 118) i v) (.inl 105) 16 w) := ⟨rfl, rfl, fun _ _ => rfl, fun k j p q => by
  rw [show (mx_uI (mx_uI h (.inl 118) i v) (.inl 105) 16 w).2.1 (.inl k) j = (mx_uI h (.inl 118) i v).2.1 (.inl k) j from if_neg (fun z => p ⟨Sum.inl.inj z.1, z.2⟩), rN q]⟩
theorem rf_c.u (a : rf_c h h') : rs_u S h h' := by
  have e : h'.2.2.2 = h.2.2.2 := congrArg Prod.snd a.2.1
  exact ⟨a.1, by rw [e], fun i => by rw [e], fun i => by rw [e], a.2.2.2 0 2 (by omega) (by omega), a.2.2.2 90 0 (by omega) (by omega), fun i => a.2.2.2 91 i (by omega) (by omega), fun s hs o i _ => a.2.2.1 (s, o) i⟩
theorem rf_r.v (b : rf_r h h') : rs_v S h h' := ⟨b.2.2.2 105 1 (by omega) (by omega), b.2.2.2 105 12 (by omega) (by omega), fun i => b.2.2.2 116 i (by omega) (by omega), fun i => b.2.2.2 117 i (by omega) (by omega), fun s hs k i w => by
  unfold rs_w at w
  exact b.2.2.2 k i (by omega) (by omega)⟩
theorem rf_85 (h1 : a1.toInt = (n : Int)) : ∀ (j k : Nat) (a3 : Int32) {h : mx_H}, k + j = n → a3.toInt = (k : Int) → rf_c h (g85_2 a1 a2 a3 h)
  | 0, k, a3, h, e, ha => by
    rw [g85_2_eq, if_pos (i_le h1 ha (by omega))]
    exact rf_c.refl
  | j + 1, k, a3, h, e, ha => by
    have b := i_b a1
    rw [g85_2_eq, if_neg (i_nle h1 ha (by omega))]
    by_cases c : 120 ≤ h.2.1 (.inl 1) 1
    · rw [if_pos c]
      exact rf_c.refl
    · rw [if_neg c]
      exact rf_c.a.trans (rf_85 h1 j (k + 1) (a3 + 1) (by omega) (by rw [i_add ha k_1 (by omega) (by omega)]; omega))
theorem rf_184 (h1 : a1.toInt = (n : Int)) : ∀ (j k : Nat) (a3 : Int32) {h : mx_H}, k + j = n → a3.toInt = (k : Int) → rf_r h (g184_27 a1 a2 a3 h).2
  | 0, k, a3, h, e, ha => by
    rw [g184_27_eq, if_pos (i_le h1 ha (by omega))]
    exact rf_r.refl
  | j + 1, k, a3, h, e, ha => by
    have b := i_b a1
    rw [g184_27_eq, if_neg (i_nle h1 ha (by omega))]
    exact rf_r.a.trans (rf_184 h1 j (k + 1) (a3 + 1) (by omega) (by rw [i_add ha k_1 (by omega) (by omega)]; omega))
theorem rs_fd (n4 : n ≤ 4) (h1 : a1.toInt = (n : Int)) : ∀ (j k : Nat) (a3 : Int32) {hc hr : mx_H} {L : Nat}, k + j = n → a3.toInt = (k : Int) → L + j ≤ 120 → rD hc (.inl 1) 1 = L → rD hr (.inl 105) 16 = L → (∀ i, i < L → rz_b (rD hc (.inl 2) i) (rD hr (.inl 118) i)) →
    (g184_27 a1 a2 a3 hr).1 = (g184_27 a1 a2 a3 hr).2.2.1 (.inl 105) 16 ∧ rD (g85_2 a1 a2 a3 hc) (.inl 1) 1 = ((L + j : Nat) : Int) ∧ rD (g184_27 a1 a2 a3 hr).2 (.inl 105) 16 = ((L + j : Nat) : Int) ∧ ∀ i, i < L + j → rz_b (rD (g85_2 a1 a2 a3 hc) (.inl 2) i) (rD (g184_27 a1 a2 a3 hr).2 (.inl 118) i)
  | 0, k, a3, hc, hr, L, e, ha, hl, c1, r1, b => by
    rw [g184_27_eq, if_pos (i_le h1 ha (by omega)), g85_2_eq, if_pos (i_le h1 ha (by omega))]
    exact ⟨rfl, c1, r1, b⟩
  | j + 1, k, a3, hc, hr, L, e, ha, hl, c1, r1, b => by
    rw [g184_27_eq, if_neg (i_nle h1 ha (by omega)), g85_2_eq, if_neg (i_nle h1 ha (by omega)), if_neg (i_nle k_120 c1 (by omega)), i_cl c1, i_cl r1]
    have key : ∀ vc vr : Int32, rz_b vc.toInt vr.toInt → (g184_27 a1 a2 (a3 + 1) (mx_uI (mx_uI hr (.inl 118) L vr) (.inl 105) 16 (hr.2.1 (.inl 105) 16 + 1))).1 = (g184_27 a1 a2 (a3 + 1) (mx_uI (mx_uI hr (.inl 118) L vr) (.inl 105) 16 (hr.2.1 (.inl 105) 16 + 1))).2.2.1 (.inl 105) 16 ∧ rD (g85_2 a1 a2 (a3 + 1) (mx_uI (mx_uI hc (.inl 2) L vc) (.inl 1) 1 (hc.2.1 (.inl 1) 1 + 1))) (.inl 1) 1 = ((L + (j + 1) : Nat) : Int) ∧ rD (g184_27 a1 a2 (a3 + 1) (mx_uI (mx_uI hr (.inl 118) L vr) (.inl 105) 16 (hr.2.1 (.inl 105) 16 + 1))).2 (.inl 105) 16 = ((L + (j + 1) : Nat) : Int) ∧
        ∀ i, i < L + (j + 1) → rz_b (rD (g85_2 a1 a2 (a3 + 1) (mx_uI (mx_uI hc (.inl 2) L vc) (.inl 1) 1 (hc.2.1 (.inl 1) 1 + 1))) (.inl 2) i) (rD (g184_27 a1 a2 (a3 + 1) (mx_uI (mx_uI hr (.inl 118) L vr) (.inl 105) 16 (hr.2.1 (.inl 105) 16 + 1))).2 (.inl 118) i) := fun vc vr B => by
      have f := rs_fd n4 h1 j (k + 1) (a3 + 1) (hc := mx_uI (mx_uI hc (.inl 2) L vc) (.inl 1) 1 (hc.2.1 (.inl 1) 1 + 1)) (hr := mx_uI (mx_uI hr (.inl 118) L vr) (.inl 105) 16 (hr.2.1 (.inl 105) 16 + 1)) (L := L + 1) (by omega) (by rw [i_add ha k_1 (by omega) (by omega)]; omega) (by omega)
        (by show (hc.2.1 (.inl 1) 1 + 1).toInt = _; rw [i_add c1 k_1 (by omega) (by omega)]; omega) (by show (hr.2.1 (.inl 105) 16 + 1).toInt = _; rw [i_add r1 k_1 (by omega) (by omega)]; omega) (fun i hi => by
          show rz_b ((mx_uI hc (.inl 2) L vc).2.1 (.inl 2) i).toInt ((mx_uI hr (.inl 118) L vr).2.1 (.inl 118) i).toInt
          by_cases e : i = L
          · rw [rI_c rfl e, rI_c rfl e]
            exact B
          · rw [rI_i e, rI_i e]
            exact b i (by omega))
      rw [show L + 1 + j = L + (j + 1) by omega] at f
      exact f
    exact key _ _ (by8k (x := a2) (show k < 4 by omega) ha)
/-- whatever the tapes hold, the shapes stay -/
theorem rs_feed (A : rs_A hc hr S N) (T : S ≤ 11 → rs_T hc hr) : rs_A (f102 a1 a2 hc).2 (f184 a1 a2 hr).2 S N ∧ (S ≤ 11 → rs_T (f102 a1 a2 hc).2 (f184 a1 a2 hr).2 ∧ (f102 a1 a2 hc).1 = (f184 a1 a2 hr).1) := by
  have C : ∀ c : ¬ f173 a1 1 4 = 0, ∃ n : Nat, n ≤ 4 ∧ a1.toInt = (n : Int) := fun c => by
    by_cases q : (1 : Int32).toInt ≤ a1.toInt ∧ a1.toInt ≤ (4 : Int32).toInt
    · rw [k_1, k_4] at q
      exact ⟨a1.toInt.toNat, by omega, by omega⟩
    · exact absurd (by rw [w173, if_neg q]) c
  constructor
  · refine A.g (rf_c.u ?_) (rf_r.v ?_)
    · rw [f102_eq, w_ws]
      by_cases c : f173 a1 1 4 ≠ 0
      · rw [if_pos c]
        obtain ⟨n, -, hn⟩ := C c
        by_cases c2 : hc.2.1 (.inl 1) 1 + a1 ≤ 120
        · rw [if_pos c2, f85_eq]
          exact rf_85 hn n 0 0 (by omega) rfl
        · rw [if_neg c2]
          exact rf_c.refl
      · rw [if_neg c]
        exact rf_c.refl
    · rw [f184_eq]
      by_cases c : f173 a1 1 4 ≠ 0
      · rw [if_pos c]
        obtain ⟨n, -, hn⟩ := C c
        by_cases c2 : hr.2.1 (.inl 105) 16 + a1 ≤ 120
        · rw [if_pos c2]
          exact rf_184 hn n 0 0 (by omega) rfl
        · rw [if_neg c2]
          exact rf_r.refl
      · rw [if_neg c]
        exact rf_r.refl
  · intro s11
    obtain ⟨L, l, t1, t2, tb⟩ := id (T s11)
    rw [f102_eq, f184_eq, w_ws]
    by_cases c : f173 a1 1 4 ≠ 0
    · rw [if_pos c, if_pos c]
      obtain ⟨n, n4, hn⟩ := C c
      have s1 := i_add t1 hn (by omega) (by omega)
      have s2 := i_add t2 hn (by omega) (by omega)
      by_cases c2 : L + n ≤ 120
      · rw [if_pos (i_le s1 k_120 (by omega)), if_pos (i_le s2 k_120 (by omega)), f85_eq]
        obtain ⟨f1, f4, f5, f6⟩ := rs_fd (a2 := a2) n4 hn n 0 0 (by omega) rfl c2 t1 t2 tb
        refine ⟨⟨L + n, c2, f4, f5, f6⟩, ?_⟩
        rw [f1]
        exact i_eq f4 f5 rfl
      · rw [if_neg (i_nle s1 k_120 (by omega)), if_neg (i_nle s2 k_120 (by omega))]
        exact ⟨T s11, rfl⟩
    · rw [if_neg c, if_neg c]
      exact ⟨T s11, rfl⟩
end RP
