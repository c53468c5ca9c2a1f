/-! ===== turns: the calls ===== -/
section TV
variable {h g hc hr : mx_H} {S N s o C n n' F F' w : Nat} {a a1 a2 a3 x y : Int32}
/-- the class's nets are loaded -/
def tv_1 (hc : mx_H) : mx_H := k_f (mx_uI (mx_uI hc (.inl 35) 0 0) (.inl 35) 1 0) (.inl 36) 6 0
theorem tk_fi {b : Nat} {q : Nat × Nat} {i : Nat} {v : Int32} : (k_f h (.inl b) n v).2.1 (.inr q) i = h.2.1 (.inr q) i := k_fr.trans (if_neg (fun w => by
  obtain ⟨e, -⟩ := w
  cases e))
theorem tk_fl {b c : Nat} {i : Nat} {v : Int32} (e : c ≠ b) : (k_f h (.inl b) n v).2.1 (.inl c) i = h.2.1 (.inl c) i := k_fr.trans (if_neg (fun w => e (Sum.inl.inj w.1)))
theorem tv_1i (q : Nat × Nat) (i : Nat) : (tv_1 hc).2.1 (.inr q) i = hc.2.1 (.inr q) i := tk_fi.trans ((rI_a (fun e => by cases e)).trans (rI_a (fun e => by cases e)))
theorem tv_D (Ds : rs_D hc hr N s C n F) : rs_D (tv_1 hc) hr N s C n F := Ds.x (Nat.le_refl _) (fun o i _ => tv_1i (s, o) i) (fun _ _ _ => rfl) (fun _ _ => ⟨rfl, rfl⟩)
theorem tv_D2 {t : Nat} (K : kn_F h g t) (Ds : rs_D h hr N s C n F) : rs_D g hr N s C n F := Ds.x (Nat.le_refl _) (fun o i ho => K.2.2.2 s o i (by omega)) (fun _ _ _ => rfl) (fun _ _ => ⟨rfl, by rw [K.2.1]⟩)
theorem tv_W (I : sf_I hr) (A : rs_A hc hr S N) (ls : s < S) (lo : o < S) (Ds : rs_D hc hr N s C n F) (Do : rs_D hc hr N o C n' F') : tu_W (f22 3 o (f22 2 s (tv_1 hc))) hr s o C ∧ rD (f22 3 o (f22 2 s (tv_1 hc))) (.inl 35) 0 = 0 ∧ ∀ w, w < 6 → (f22 3 o (f22 2 s (tv_1 hc))).2.1 (.inl 36) w = 0 := by
  obtain ⟨A1, A2, A3, A4, A5, A6, A7, A8, A9, A10⟩ := A
  have D1 := tv_D Ds
  obtain ⟨N1, K1, R1, -, L1⟩ := nt_load (t := 2) (a1 := nI s) I A4 ls A1 A2 D1 (nI_toInt (by omega)) rfl
  have D2 := tv_D2 K1 (tv_D Do)
  obtain ⟨N2, K2, R2, -, L2⟩ := nt_load (t := 3) (a1 := nI o) I A4 lo A1 A2 D2 (nI_toInt (by omega)) rfl
  have sc : ∀ t q i, q < 9 → (f22 3 o (f22 2 s (tv_1 hc))).2.1 (.inr (t, q)) i = hc.2.1 (.inr (t, q)) i := fun t q i hq => by
    rw [K2.2.2.2 t q i (by omega), K1.2.2.2 t q i (by omega), tv_1i]
  refine ⟨⟨Ds.2.1, by omega, by omega, ?_, ?_, Ds.2.2.2.2.1, fun c hc1 => ?_, fun c hc1 => ?_, fun i j hi hj => ?_, fun i j hi hj => ?_⟩, ?_, fun w hw => ?_⟩
  · unfold rD
    rw [sc s 0 0 (by decide)]
    exact Ds.2.2.2.1
  · unfold rD
    rw [sc o 0 0 (by decide)]
    exact Do.2.2.2.1
  · rw [sc s 1 c (by decide), sc s 2 c (by decide), sc s 3 c (by decide), sc s 4 c (by decide)]
    exact Ds.2.2.2.2.2.2.2.1 c hc1
  · rw [sc o 1 c (by decide), sc o 2 c (by decide), sc o 3 c (by decide), sc o 4 c (by decide)]
    exact Do.2.2.2.2.2.2.2.1 c hc1
  · rw [K2.2.2.2 2 34 _ (by omega), N1.2.2.2.2 i j hi hj, L1 i j hi hj]
  · rw [N2.2.2.2.2 i j hi hj, L2 i j hi hj]
  · unfold rD
    rw [K2.2.2.1, K1.2.2.1]
    show ((tv_1 hc).2.1 (.inl 35) 0).toInt = 0
    rw [show (tv_1 hc).2.1 (.inl 35) 0 = 0 from (tk_fl (by decide)).trans ((rI_i (by decide)).trans rI_s)]
    rfl
  · rw [K2.2.2.1, K1.2.2.1]
    exact if_pos ⟨rfl, hw⟩
theorem tv_main (I : sf_I hr) (A : rs_A hc hr S N) (ls : s < S) (lo : o < S) (h1 : a1.toInt = (s : Int)) (h2 : a2.toInt = (o : Int)) (h3 : a3.toInt = (w : Int)) (Ds : rs_D hc hr N s C n F) (Do : rs_D hc hr N o C n' F') (hw : w < C) : ∃ f, f ≤ 50000 ∧ tu_S (f96 s o hc) (f230 a1 a2 a3 hr) w f := by
  obtain ⟨W, Z1, Z2⟩ := tv_W I A ls lo Ds Do
  have C6 := W.1
  have ec : f96 s o hc = f97 s o 0 (f22 3 o (f22 2 s (tv_1 hc))) := by
    rw [f96_eq, k317 (n := 6) rfl (by decide)]
    simp only [x_h]
    exact if_pos (i_eq (p := (C : Int)) (q := (C : Int)) (by rw [show (k_f (mx_uI (mx_uI hc (.inl 35) 0 0) (.inl 35) 1 0) (.inl 36) 6 0) = tv_1 hc from rfl, tv_1i]; exact Ds.2.2.2.1) (by rw [show (k_f (mx_uI (mx_uI hc (.inl 35) 0 0) (.inl 35) 1 0) (.inl 36) 6 0) = tv_1 hc from rfl, tv_1i]; exact Do.2.2.2.1) rfl)
  have er : f230 a1 a2 a3 hr = f229 a1 a2 0 0 (mx_uI (mx_uI (mx_uI (mx_uI hr (.inl 105) 46 0) (.inl 105) 47 0) (.inl 105) 48 a3) (.inl 105) 49 0) := by
    rw [f230_eq]
    rfl
  have K0 := fun K L (hK : C ≤ K) (hL : C ≤ L) => Trec W h1 h2 hw C 0 K L (Nat.zero_add _) hK hL (fun _ => 0) 0 0 0 (f22 3 o (f22 2 s (tv_1 hc))) (mx_uI (mx_uI (mx_uI (mx_uI hr (.inl 105) 46 0) (.inl 105) 47 0) (.inl 105) 48 a3) (.inl 105) 49 0) 0 rfl rfl (fun _ _ => rfl) (((((show tr_F hr hr from fun _ _ _ _ => rfl).fs (by decide) (by decide)).fs (by decide) (by decide)).fs (by decide) (by decide)).fs (by decide) (by decide)) (fun j hj => absurd hj (Nat.not_lt_zero _)) ⟨0, by decide, rfl, fun t _ => ⟨fun q => absurd q (by rw [Nat.zero_testBit]; exact Bool.noConfusion), fun ⟨j, hj, _⟩ => absurd hj (Nat.not_lt_zero _)⟩⟩ ⟨Z1, by
      unfold rD
      rw [rI_i (by decide), rI_i (by decide), rI_i (by decide), rI_s]
      rfl, by
      rw [rI_i (by decide), rI_i (by decide), rI_s]
      exact Z2 w (by omega), by
      unfold rD
      rw [rI_i (by decide), rI_s]
      exact h3, rI_s, fun q => absurd rfl q⟩ (by
      have : 6 ^ C ≤ 6 ^ 6 := Nat.pow_le_pow_right (by decide) C6
      have : 6 ^ 6 = 46656 := by decide
      omega)
  have fc : f97 s o 0 (f22 3 o (f22 2 s (tv_1 hc))) = ff97 (C + 1) s o 0 (f22 3 o (f22 2 s (tv_1 hc))) := x_lim_eq (n := C + 1) (fun k hk => by
    obtain ⟨K, rfl⟩ : ∃ K, k = K + 1 := ⟨k - 1, by omega⟩
    exact (K0 K C (by omega) (Nat.le_refl _)).1)
  have fr : f229 a1 a2 0 0 (mx_uI (mx_uI (mx_uI (mx_uI hr (.inl 105) 46 0) (.inl 105) 47 0) (.inl 105) 48 a3) (.inl 105) 49 0) = ff229 (C + 1) a1 a2 0 0 (mx_uI (mx_uI (mx_uI (mx_uI hr (.inl 105) 46 0) (.inl 105) 47 0) (.inl 105) 48 a3) (.inl 105) 49 0) := x_lim_eq (n := C + 1) (fun k hk => by
    obtain ⟨L, rfl⟩ : ∃ L, k = L + 1 := ⟨k - 1, by omega⟩
    exact (K0 C L (Nat.le_refl _) (by omega)).2.1)
  obtain ⟨-, -, -, -, -, f', -, z5, z6⟩ := K0 C C (Nat.le_refl _) (Nat.le_refl _)
  rw [ec, er, fc, fr]
  refine ⟨f', ?_, z6⟩
  have : 6 ^ C ≤ 6 ^ 6 := Nat.pow_le_pow_right (by decide) C6
  have : 6 ^ 6 = 46656 := by decide
  omega
theorem aw_turnsOf (I : sf_I hr) (A : rs_A hc hr S N) : (f116 a1 hc).1 = (f231 a1 hr).1 := by
  have K := f116_eq a1 hc
  have T := f231_eq a1 hr
  rcases C166 (a := a1) A with ⟨s, lt, h1, e1, e1'⟩ | ⟨e1, e1'⟩
  · obtain ⟨C, n, F, Ds⟩ := (A.2.2.2.2.2.2.2.2.1 s lt).2
    obtain ⟨f, -, Z⟩ := tv_main (w := 0) (a3 := 0) I A lt lt h1 h1 rfl Ds Ds (by have := Ds.1; omega)
    rw [e1] at K
    simp only [x_opt, x_h] at K
    rw [if_pos (by rw [e1']; exact n10)] at T
    simp only [x_h] at T
    rw [K, T]
    exact i_eq Z.1 Z.2.1 rfl
  · rw [e1] at K
    simp only [x_opt] at K
    rw [if_neg (by rw [e1']; exact fun z => z rfl)] at T
    rw [K, T]
theorem aw_orbit (I : sf_I hr) (A : rs_A hc hr S N) : (f117 a1 a2 hc).1 = (f232 a1 a2 hr).1 := by
  have K := f117_eq a1 a2 hc
  have T := f232_eq a1 a2 hr
  rcases C166 (a := a1) A with ⟨s, lt, h1, e1, e1'⟩ | ⟨e1, e1'⟩
  · obtain ⟨C, n, F, Ds⟩ := (A.2.2.2.2.2.2.2.2.1 s lt).2
    rw [e1] at K
    simp only [x_opt, x_h] at K
    rw [if_neg (by rw [e1']; exact n10)] at T
    rcases C164 (x := a2) h1 Ds.2.2.2.1 Ds.2.2.2.2.1 Ds.2.1 with ⟨c, hc1, hx, g1, g1'⟩ | ⟨g1, g1'⟩
    · obtain ⟨f, -, Z⟩ := tv_main (w := c) (a3 := a2) I A lt lt h1 h1 hx Ds Ds hc1
      rw [if_pos (by rw [g1]; exact n10), i_cl hx] at K
      rw [if_pos (by rw [g1']; exact n10)] at T
      simp only [x_h] at T
      rw [K, T]
      exact Z.2.2.1
    · rw [if_neg (by rw [g1]; exact fun z => z rfl)] at K
      rw [if_neg (by rw [g1']; exact fun z => z rfl)] at T
      rw [K, T]
  · rw [e1] at K
    simp only [x_opt] at K
    rw [if_pos e1'] at T
    rw [K, T]
theorem tv_233 (I : sf_I hr) (A : rs_A hc hr S N) (ls : s < S) (lo : o < S) (h1 : a1.toInt = (s : Int)) (h2 : a2.toInt = (o : Int)) : (if (f96 s o hc).2.1 (.inl 35) 0 ≤ 0 then (-2 : Int32) else (f96 s o hc).2.1 (.inl 35) 1) = (f233 a1 a2 hr).1 ∧ ((f96 s o hc).2.1 (.inl 35) 0 = 0 ↔ (f96 s o hc).2.1 (.inl 35) 0 ≤ 0) := by
  obtain ⟨C, n, F, Ds⟩ := (A.2.2.2.2.2.2.2.2.1 s ls).2
  obtain ⟨C', n', F', Do⟩ := (A.2.2.2.2.2.2.2.2.1 o lo).2
  have T := f233_eq a1 a2 hr
  rw [i_cl h1, i_cl h2] at T
  by_cases z : C = C'
  · subst z
    obtain ⟨f, f5, Z⟩ := tv_main (w := 0) (a3 := 0) I A ls lo h1 h2 rfl Ds Do (by have := Ds.1; omega)
    rw [if_pos (i_eq Ds.2.2.2.2.1 Do.2.2.2.2.1 rfl)] at T
    simp only [x_h] at T
    obtain ⟨z1, z2, z3, z4, z5, z6⟩ := Z
    have z1' : ((f96 s o hc).2.1 (.inl 35) 0).toInt = (f : Int) := z1
    rw [z5] at T
    by_cases f0 : f = 0
    · rw [if_pos f0, if_pos rfl] at T
      rw [if_pos (i_le z1' k_0 (by omega)), T]
      exact ⟨rfl, fun _ => i_le z1' k_0 (by omega), fun _ => i_eq z1' k_0 (by omega)⟩
    · rw [if_neg f0, if_neg n10] at T
      rw [if_neg (i_nle z1' k_0 (by omega)), T]
      exact ⟨z6 f0, fun q => absurd q (i_ne z1' k_0 (by omega)), fun q => absurd q (i_nle z1' k_0 (by omega))⟩
  · have ec : f96 s o hc = tv_1 hc := by
      rw [f96_eq, k317 (n := 6) rfl (by decide)]
      simp only [x_h]
      exact if_neg (i_ne (p := (C : Int)) (q := (C' : Int)) (by rw [show (k_f (mx_uI (mx_uI hc (.inl 35) 0 0) (.inl 35) 1 0) (.inl 36) 6 0) = tv_1 hc from rfl, tv_1i]; exact Ds.2.2.2.1) (by rw [show (k_f (mx_uI (mx_uI hc (.inl 35) 0 0) (.inl 35) 1 0) (.inl 36) 6 0) = tv_1 hc from rfl, tv_1i]; exact Do.2.2.2.1) (by omega))
    have e0 : (tv_1 hc).2.1 (.inl 35) 0 = 0 := (tk_fl (by decide)).trans ((rI_i (by decide)).trans rI_s)
    rw [if_neg (i_ne Ds.2.2.2.2.1 Do.2.2.2.2.1 (by omega))] at T
    rw [ec, e0, T]
    exact ⟨if_pos (by decide), fun _ => by decide, fun _ => rfl⟩
theorem aw_table (I : sf_I hr) (A : rs_A hc hr S N) : (f118 a1 a2 hc).1 = (f234 a1 a2 hr).1 := by
  have K := f118_eq a1 a2 hc
  have T := f234_eq a1 a2 hr
  rcases C166 (a := a1) A with ⟨s, lt, h1, e1, e1'⟩ | ⟨e1, e1'⟩
  · rw [if_neg (by rw [e1']; exact n10)] at T
    rcases C166 (a := a2) A with ⟨o, lo, h2, e2, e2'⟩ | ⟨e2, e2'⟩
    · rw [if_neg (by rw [e2']; exact n10)] at T
      rw [e1, e2] at K
      simp only [x_opt, x_h] at K
      simp only [x_let] at T
      rw [K, T, ← (tv_233 I A lt lo h1 h2).1]
      split <;> rfl
    · rw [if_pos e2'] at T
      rw [e1, e2] at K
      simp only [x_opt] at K
      rw [K, T]
  · rw [if_pos e1'] at T
    rw [e1] at K
    simp only [x_opt] at K
    rw [T]
    rcases C166 (a := a2) A with ⟨o, lo, h2, e2, e2'⟩ | ⟨e2, e2'⟩
    · rw [e2] at K
      rw [K]
    · rw [e2] at K
      rw [K]
end TV
