/-! ===== shape, row and count on a new object ===== -/
section FZ2
variable {E : mx_Ev} {d : Nat} {h : mx_H} {Q : Option mx_V → mx_H → Prop}
theorem fz_clear {j : Nat} (hQ : ∀ h', (∀ k i, h'.2.1 (.inl k) i = h.2.1 (.inl k) i) → h'.2.2.2 = h.2.2.2 → Q none h') : mx_C E (mx_fn true) (d + 1) 59 [.inr (.inr (j, 0))] h Q := by
  refine sg59_0 (sp_fill (N := 6) rfl (by decide) (hx_n (sp_fill (N := 6) rfl (by decide) (hx_n (sp_fill (N := 6) rfl (by decide) (hx_n (hQ _ ?_ ?_)))))))
  · intro k i
    simp [mx_uI, mx_up, sp_fi]
  · rfl
theorem fz_cl2 {hh : mx_H} : ∀ (k c : Nat) {h : mx_H}, c + k = 36 → (∀ j, h.2.1 (.inl 105) j = hh.2.1 (.inl 105) j) → (∀ h', (∀ j, h'.2.1 (.inl 105) j = hh.2.1 (.inl 105) j) → Q none h') → mx_T E (mx_fn true) d 0 0 182 74 [(0, .inr (.inl 105)), (1, .inl (.int 0)), (2, .inl (.int (nI c)))] [] h Q
  | 0, c, h, e, he, hQ => by
    have e : c = 36 := by omega
    subst e
    exact sg182_74 ⟨fun _ => hQ _ he, fun h1 => absurd (by decide) h1⟩
  | k + 1, c, h, e, he, hQ => by
    have hv : vp_in (nI c) 468 := vp_in_nI (by omega) (by decide)
    refine sg182_74 ⟨fun h1 => absurd h1 ?_, fun _ => ⟨hv, hv, hv, ?_⟩⟩
    · rw [show (36 * (0 : Int32) + 36) = nI 36 by decide]
      exact nI_ge (by omega) (by decide)
    · rw [nI_1]
      exact fz_cl2 k (c + 1) (by omega) (fun j => by simp [mx_uI, mx_up, he]) hQ
theorem fz_cl1 {hh : mx_H} : ∀ (k c : Nat) {h : mx_H}, c + k = 6 → (∀ j, h.2.1 (.inl 105) j = hh.2.1 (.inl 105) j) → (∀ h', (∀ j, h'.2.1 (.inl 105) j = hh.2.1 (.inl 105) j) → Q none h') → mx_T E (mx_fn true) d 0 0 182 9 [(0, .inr (.inl 105)), (1, .inl (.int 0)), (2, .inl (.int (nI c)))] [] h Q
  | 0, c, h, e, he, hQ => by
    have e : c = 6 := by omega
    subst e
    refine sg182_9 ⟨fun _ => ?_, fun h1 => absurd (by decide) h1⟩
    exact fz_cl2 (E := E) 36 0 rfl he hQ
  | k + 1, c, h, e, he, hQ => by
    have hv : vp_in (6 * (0 : Int32) + nI c) 78 := by
      rw [show (6 * (0 : Int32) + nI c) = nI c by simp]
      exact vp_in_nI (by omega) (by decide)
    refine sg182_9 ⟨fun h1 => absurd h1 (nI_ge (b := 6) (by omega) (by decide)), fun _ => ⟨hv, hv, hv, hv, ?_⟩⟩
    rw [nI_1]
    exact fz_cl1 k (c + 1) (by omega) (fun j => by simp [mx_uI, mx_up, he]) hQ
theorem fz_clearM (hQ : ∀ h', (∀ j, h'.2.1 (.inl 105) j = h.2.1 (.inl 105) j) → Q none h') : mx_C E (mx_fn true) d 182 [.inr (.inl 105), .inl (.int 0)] h Q :=
  sg182_0 ⟨sp_vin (by decide) (by decide), fz_cl1 (E := E) (hh := h) 6 0 rfl (fun j => by simp [mx_uI, mx_up]) hQ⟩
theorem fz_l25 {hh : mx_H} (e16 : hh.2.1 (.inl 105) 16 = 0) (e17 : hh.2.1 (.inl 105) 17 = 0) (e18 : hh.2.1 (.inl 105) 18 = -1) (hQ : ∀ h', h'.2.1 (.inl 105) 18 = 0 → Q none h') : ∀ (k c : Nat) {h : mx_H}, c + k = 6 → (∀ j, h.2.1 (.inl 105) j = hh.2.1 (.inl 105) j) → mx_T E (mx_fn true) (d + 1) 0 0 192 25 [(0, .inr (.inl 105)), (1, .inl (.int (nI c)))] [] h Q
  | 0, c, h, e, he => by
    have e : c = 6 := by omega
    subst e
    refine sg192_25 ⟨fun _ => ?_, fun h1 => absurd (by decide) h1⟩
    refine sg185_0 ⟨fun _ => ?_, fun h1 => absurd (by rw [he, he, e16, e17]; decide) h1⟩
    refine hx_i ⟨fun h1 => absurd h1 (by decide), fun _ => ?_⟩
    refine sg186_0 ⟨fun h1 => absurd h1 (by rw [he, e18]; decide), fun _ => hx_n (hQ _ ?_)⟩
    simp [mx_uI, mx_up, he, e17]
  | k + 1, c, h, e, he => by
    have hv : vp_in (nI c) 6 := vp_in_nI (by omega) (by decide)
    refine sg192_25 ⟨fun h1 => absurd h1 (nI_ge (b := 6) (by omega) (by decide)), fun _ => ⟨hv, hv, ?_⟩⟩
    rw [nI_1]
    exact fz_l25 e16 e17 e18 hQ k (c + 1) (by omega) (fun j => by simp [mx_uI, mx_up, he])
theorem fn98 {t : Nat} (ht : t < 6) : mx_fn true (.inl 98) t = some (.inr (t, 20)) := by
  show (bif Nat.blt t 6 then some (.inr (t, 20)) else none : Option mx_A) = _
  rw [show Nat.blt t 6 = true by simpa using ht]
  rfl
theorem fz_fl {hh : mx_H} {t : Nat} {v : Int64} : ∀ (k c : Nat) {h : mx_H}, c + k = 60 → h.2.1 = hh.2.1 → (∀ h', h'.2.1 = hh.2.1 → Q none h') → mx_T E (mx_fn true) d 0 0 316 6 [(0, .inr (.inr (t, 20))), (1, .inl (.long v)), (3, .inl (.int (nI c))), (4, .inl (.int (nI 60)))] [] h Q
  | 0, c, h, e, he, hQ => by
    have e : c = 60 := by omega
    subst e
    exact sg316_6 ⟨fun _ => hQ _ he, fun h1 => absurd (by decide) h1⟩
  | k + 1, c, h, e, he, hQ => by
    refine sg316_6 ⟨fun h1 => absurd h1 (nI_ge (by omega) (by decide)), fun _ => (show _ ∧ _ from ⟨(show vp_in (nI c) 60 from vp_in_nI (by omega) (by decide)), ?_⟩)⟩
    rw [nI_1]
    exact fz_fl k (c + 1) (by omega) he hQ
theorem fz_fillL {t : Nat} {v : Int64} (hQ : ∀ h', h'.2.1 = h.2.1 → Q none h') : mx_C E (mx_fn true) d 316 [.inr (.inr (t, 20)), .inl (.long v)] h Q :=
  sg316_0 (fz_fl (E := E) (hh := h) 60 0 rfl rfl hQ)
theorem fz_holdRow {a1 a2 a3 : Int32} (g : 0 ≤ a1 ∧ a1 ≤ 5) (hQ : ∀ h', (∀ k i, 105 ≤ k → h'.2.1 (.inl k) i = h.2.1 (.inl k) i) → Q none h') : mx_C E (mx_fn true) (d + 1) 71 [.inr (.inl 94), .inl (.int a1), .inl (.int a2), .inl (.int a3)] h Q := by
  refine sg71_0 ⟨vi6 g, vi6 g, vi6 g, fn98 (cl6 g), fz_fillL ?_⟩
  intro h' e
  refine hx_n (hQ _ ?_)
  intro k i hk
  rw [e]
  exact (sp_up_ne (sp_cl_ne rfl hk)).trans (sp_up_ne (sp_cl_ne rfl hk))
theorem fz_r54 {s : Nat} (hs : s ≤ 5) (hQ : ∀ h', Q (some (.inl (.int 1))) h') : ∀ (k c : Nat) {h : mx_H}, c + k = 60 → mx_T E (mx_fn true) (d + 1) 0 0 302 54 [(0, .inr (.inl 105)), (1, .inl (.int (nI s))), (4, .inl (.int (nI (60 * s + c))))] [] h Q
  | 0, c, h, e => by
    have e : c = 60 := by omega
    subst e
    refine sg302_54 ⟨fun _ => hQ _, fun h1 => absurd ?_ h1⟩
    rw [show (60 : Int32) = nI 60 from rfl, nI_mul, nI_add]
    exact nI_le (Nat.le_refl _) (by omega)
  | k + 1, c, h, e => by
    refine sg302_54 ⟨fun h1 => absurd h1 ?_, fun _ => ⟨vp_in_nI (by omega) (by decide), ?_⟩⟩
    · rw [show (60 : Int32) = nI 60 from rfl, nI_mul, nI_add]
      exact nI_ge (by omega) (by omega)
    · rw [nI_1]
      exact fz_r54 hs hQ k (c + 1) (by omega)
theorem fz_r54x {a1 : Int32} (g : 0 ≤ a1 ∧ a1 ≤ 5) (hQ : ∀ h', Q (some (.inl (.int 1))) h') : mx_T E (mx_fn true) (d + 1) 0 0 302 54 [(0, .inr (.inl 105)), (1, .inl (.int a1)), (4, .inl (.int (60 * a1)))] [] h Q := by
  obtain ⟨s, hs, rfl⟩ := nI_of2 (M := 5) (n := 5) rfl (Int32.not_lt.mpr g.1) g.2
  rw [show (60 : Int32) * nI s = nI (60 * s + 0) by rw [show (60 : Int32) = nI 60 from rfl, nI_mul, Nat.add_zero]]
  exact fz_r54 hs hQ 60 0 rfl
theorem sw_in {a : Int32} (h1 : 0 ≤ a.toInt) (h2 : a.toInt ≤ 5) : 0 ≤ a ∧ a ≤ 5 := ⟨Int32.le_iff_toInt_le.mpr h1, Int32.le_iff_toInt_le.mpr h2⟩
theorem sw_out {a : Int32} (h : a.toInt < 0 ∨ 5 < a.toInt) : ¬ (0 ≤ a ∧ a ≤ 5) := fun q => by
  have h1 : (0 : Int32).toInt ≤ a.toInt := Int32.le_iff_toInt_le.mp q.1
  have h2 : a.toInt ≤ (5 : Int32).toInt := Int32.le_iff_toInt_le.mp q.2
  have e0 : (0 : Int32).toInt = 0 := rfl
  have e5 : (5 : Int32).toInt = 5 := rfl
  omega
end FZ2
set_option maxHeartbeats 2000000 in
theorem fc103 {E : mx_Ev} {d : Nat} {h : mx_H} {Q : Option mx_V → mx_H → Prop}  (hF : sp_FR h) (hM : sp_FM h) (hQ : ∀ r h', r = (-100) → sp_FM h' → Q (some (.inl (.int r))) h') :
    mx_C E (mx_fn true) (d + 4) 103 [.inr (.inl 0)] h Q := by
  obtain ⟨⟨f0, f3, ft, fp, fw, fh⟩, fd, fs, fr, gE, gT, fra, fdo, fud, fc, frn, gS⟩ := hF
  obtain ⟨⟨m1, m12, m16, m24, m25, m51, m56, m65, m71, m74, m79, m83, m88⟩, nE, nW, nH⟩ := hM
  refine sg103_0 ⟨?_, ?_, ?_⟩
  · intro j hj
    rw [f3] at hj
    cases hj
    refine sg86_0 (fz_clear ?_)
    intro h1 e1 e2
    refine hx_n (sg87_0 (sg92_0 ⟨fun _ => hx_i ⟨fun q => absurd q (by decide), fun _ => ⟨Or.inl rfl, hx_i (sg86_17 ⟨fun _ => ⟨fun _ => hx_i ⟨fun q => absurd q ?_, fun _ => hQ _ _ ?_ ?_⟩, fun q => absurd rfl q⟩, fun q => absurd rfl q⟩)⟩⟩, fun q => absurd ?_ q⟩))
    · simp [mx_uI, mx_up]
    · simp [mx_uI, mx_up]
    · exact sp_FM_uI rfl (sp_FM_uI rfl (sp_FM_ext (fun k i _ => e1 k i) ⟨⟨m1, m12, m16, m24, m25, m51, m56, m65, m71, m74, m79, m83, m88⟩, nE, nW, nH⟩))
    · simp [mx_uI, mx_up, e1, ft]
  · intro hn
    rw [f3] at hn
    cases hn
  · intro b hb
    rw [f3] at hb
    cases hb
    exact ⟨0, rfl⟩
set_option maxHeartbeats 2000000 in
theorem fr194 {E : mx_Ev} {d : Nat} {h : mx_H} {Q : Option mx_V → mx_H → Prop}  (hM : sp_FM h) (hQ : ∀ r h', r = (-100) → Q (some (.inl (.int r))) h') :
    mx_C E (mx_fn true) (d + 4) 194 [.inr (.inl 105)] h Q := by
  obtain ⟨⟨m1, m12, m16, m24, m25, m51, m56, m65, m71, m74, m79, m83, m88⟩, nE, nW, nH⟩ := hM
  refine sg194_0 ⟨fun _ => sg192_0 ?_, fun q => absurd (by rw [m1]; decide) q⟩
  rw [show (mx_uI (mx_uI (mx_uI h (.inl 105) 17 0) (.inl 105) 18 (-1)) (.inl 105) 19 0).2.1 (.inl 105) 1 = 0 by simp [mx_uI, mx_up, m1]]
  refine fz_clearM ?_
  intro h1 e1
  refine hx_n (fz_l25 (hh := h1) ?_ ?_ ?_ ?_ 6 0 rfl (fun j => rfl))
  · rw [e1]
    simp [mx_uI, mx_up, m16]
  · rw [e1]
    simp [mx_uI, mx_up]
  · rw [e1]
    simp [mx_uI, mx_up]
  · intro h2 e2
    refine hx_n ⟨fun q => absurd q (by rw [e2]; decide), fun _ => hQ _ _ ?_⟩
    simp [mx_uI, mx_up, e2]
set_option maxHeartbeats 2000000 in
theorem fc156 {E : mx_Ev} {d : Nat} {h : mx_H} {Q : Option mx_V → mx_H → Prop} {a1 : Int32} (hF : sp_FR h) (hM : sp_FM h) (hQ : ∀ r h', r = (if (0 ≤ a1 ∧ a1 ≤ 5) then 0 else (-1)) → sp_FM h' → Q (some (.inl (.int r))) h') :
    mx_C E (mx_fn true) (d + 4) 156 [.inr (.inl 0), .inl (.int a1)] h Q := by
  obtain ⟨⟨f0, f3, ft, fp, fw, fh⟩, fd, fs, fr, gE, gT, fra, fdo, fud, fc, frn, gS⟩ := hF
  obtain ⟨⟨m1, m12, m16, m24, m25, m51, m56, m65, m71, m74, m79, m83, m88⟩, nE, nW, nH⟩ := hM
  refine sg156_0 ?_
  intro tgt ht
  rcases ht with ⟨h1, h2⟩ | ⟨h1, h2, o, ho, h3⟩
  · have e : tgt = 85 := by omega
    subst e
    refine mx_T.sub (lv' := []) (fun q hq => absurd hq List.not_mem_nil) (sg156_85 (hQ _ _ ?_ ⟨⟨m1, m12, m16, m24, m25, m51, m56, m65, m71, m74, m79, m83, m88⟩, nE, nW, nH⟩))
    rw [if_neg (sw_out h1)]
  · have hin := sw_in h1 h2
    rcases (show a1.toInt = 0 ∨ a1.toInt = 1 ∨ a1.toInt = 2 ∨ a1.toInt = 3 ∨ a1.toInt = 4 ∨ a1.toInt = 5 by omega) with q | q | q | q | q | q
    · rw [q] at ho
      have ho : some (39 : Int) = some o := ho
      cases ho
      have e : tgt = 40 := by omega
      subst e
      refine mx_T.sub (lv' := [(0, .inr (.inl 0))]) (fun q hq => List.mem_cons.mpr (Or.inl (List.mem_singleton.mp hq))) (sg156_40 (hQ _ _ ?_ ⟨⟨m1, m12, m16, m24, m25, m51, m56, m65, m71, m74, m79, m83, m88⟩, nE, nW, nH⟩))
      rw [if_pos hin, f0]
    · rw [q] at ho
      have ho : some (44 : Int) = some o := ho
      cases ho
      have e : tgt = 45 := by omega
      subst e
      refine mx_T.sub (lv' := [(0, .inr (.inl 0))]) (fun q hq => List.mem_cons.mpr (Or.inl (List.mem_singleton.mp hq))) (sg156_45 (hQ _ _ ?_ ⟨⟨m1, m12, m16, m24, m25, m51, m56, m65, m71, m74, m79, m83, m88⟩, nE, nW, nH⟩))
      rw [if_pos hin, fc]
    · rw [q] at ho
      have ho : some (52 : Int) = some o := ho
      cases ho
      have e : tgt = 53 := by omega
      subst e
      refine mx_T.sub (lv' := [(0, .inr (.inl 0))]) (fun q hq => List.mem_cons.mpr (Or.inl (List.mem_singleton.mp hq))) (sg156_53 (hQ _ _ ?_ ⟨⟨m1, m12, m16, m24, m25, m51, m56, m65, m71, m74, m79, m83, m88⟩, nE, nW, nH⟩))
      rw [if_pos hin, ft]
    · rw [q] at ho
      have ho : some (60 : Int) = some o := ho
      cases ho
      have e : tgt = 61 := by omega
      subst e
      refine mx_T.sub (lv' := [(0, .inr (.inl 0))]) (fun q hq => List.mem_cons.mpr (Or.inl (List.mem_singleton.mp hq))) (sg156_61 (hQ _ _ ?_ ⟨⟨m1, m12, m16, m24, m25, m51, m56, m65, m71, m74, m79, m83, m88⟩, nE, nW, nH⟩))
      rw [if_pos hin, fdo]
    · rw [q] at ho
      have ho : some (68 : Int) = some o := ho
      cases ho
      have e : tgt = 69 := by omega
      subst e
      refine mx_T.sub (lv' := [(0, .inr (.inl 0))]) (fun q hq => List.mem_cons.mpr (Or.inl (List.mem_singleton.mp hq))) (sg156_69 (hQ _ _ ?_ ⟨⟨m1, m12, m16, m24, m25, m51, m56, m65, m71, m74, m79, m83, m88⟩, nE, nW, nH⟩))
      rw [if_pos hin, frn]
    · rw [q] at ho
      have ho : some (76 : Int) = some o := ho
      cases ho
      have e : tgt = 77 := by omega
      subst e
      refine mx_T.sub (lv' := [(0, .inr (.inl 0))]) (fun q hq => List.mem_cons.mpr (Or.inl (List.mem_singleton.mp hq))) (sg156_77 (hQ _ _ ?_ ⟨⟨m1, m12, m16, m24, m25, m51, m56, m65, m71, m74, m79, m83, m88⟩, nE, nW, nH⟩))
      rw [if_pos hin, fs]
set_option maxHeartbeats 2000000 in
theorem fr299 {E : mx_Ev} {d : Nat} {h : mx_H} {Q : Option mx_V → mx_H → Prop} {a1 : Int32} (hM : sp_FM h) (hQ : ∀ r h', r = (if (0 ≤ a1 ∧ a1 ≤ 5) then 0 else (-1)) → Q (some (.inl (.int r))) h') :
    mx_C E (mx_fn true) (d + 4) 299 [.inr (.inl 105), .inl (.int a1)] h Q := by
  obtain ⟨⟨m1, m12, m16, m24, m25, m51, m56, m65, m71, m74, m79, m83, m88⟩, nE, nW, nH⟩ := hM
  refine sg299_0 ?_
  intro tgt ht
  rcases ht with ⟨h1, h2⟩ | ⟨h1, h2, o, ho, h3⟩
  · have e : tgt = 70 := by omega
    subst e
    refine mx_T.sub (lv' := []) (fun q hq => absurd hq List.not_mem_nil) (sg299_70 (hQ _ _ ?_))
    rw [if_neg (sw_out h1)]
  · have hin := sw_in h1 h2
    rcases (show a1.toInt = 0 ∨ a1.toInt = 1 ∨ a1.toInt = 2 ∨ a1.toInt = 3 ∨ a1.toInt = 4 ∨ a1.toInt = 5 by omega) with q | q | q | q | q | q
    · rw [q] at ho
      have ho : some (39 : Int) = some o := ho
      cases ho
      have e : tgt = 40 := by omega
      subst e
      refine mx_T.sub (lv' := [(0, .inr (.inl 105))]) (fun q hq => List.mem_cons.mpr (Or.inl (List.mem_singleton.mp hq))) (sg299_40 (hQ _ _ ?_))
      rw [if_pos hin, m1]
    · rw [q] at ho
      have ho : some (44 : Int) = some o := ho
      cases ho
      have e : tgt = 45 := by omega
      subst e
      refine mx_T.sub (lv' := [(0, .inr (.inl 105))]) (fun q hq => List.mem_cons.mpr (Or.inl (List.mem_singleton.mp hq))) (sg299_45 (hQ _ _ ?_))
      rw [if_pos hin, m12]
    · rw [q] at ho
      have ho : some (49 : Int) = some o := ho
      cases ho
      have e : tgt = 50 := by omega
      subst e
      refine mx_T.sub (lv' := [(0, .inr (.inl 105))]) (fun q hq => List.mem_cons.mpr (Or.inl (List.mem_singleton.mp hq))) (sg299_50 (hQ _ _ ?_))
      rw [if_pos hin, m16]
    · rw [q] at ho
      have ho : some (54 : Int) = some o := ho
      cases ho
      have e : tgt = 55 := by omega
      subst e
      refine mx_T.sub (lv' := [(0, .inr (.inl 105))]) (fun q hq => List.mem_cons.mpr (Or.inl (List.mem_singleton.mp hq))) (sg299_55 (hQ _ _ ?_))
      rw [if_pos hin, m24]
    · rw [q] at ho
      have ho : some (59 : Int) = some o := ho
      cases ho
      have e : tgt = 60 := by omega
      subst e
      refine mx_T.sub (lv' := [(0, .inr (.inl 105))]) (fun q hq => List.mem_cons.mpr (Or.inl (List.mem_singleton.mp hq))) (sg299_60 (hQ _ _ ?_))
      rw [if_pos hin, m88]
    · rw [q] at ho
      have ho : some (64 : Int) = some o := ho
      cases ho
      have e : tgt = 65 := by omega
      subst e
      refine mx_T.sub (lv' := [(0, .inr (.inl 105))]) (fun q hq => List.mem_cons.mpr (Or.inl (List.mem_singleton.mp hq))) (sg299_65 (hQ _ _ ?_))
      rw [if_pos hin, m74]
set_option maxHeartbeats 2000000 in
theorem fc151 {E : mx_Ev} {d : Nat} {h : mx_H} {Q : Option mx_V → mx_H → Prop} {a1 : Int32} {a2 : Int32} {a3 : Int32} (hF : sp_FR h) (hM : sp_FM h) (hQ : ∀ r h', r = (if (0 ≤ a1 ∧ a1 ≤ 5) ∧ (0 ≤ a2 ∧ a2 ≤ 4) ∧ (a3 ≤ 60) then (if 0 ≤ a3 then 1 else (-14)) else (-1)) → sp_FM h' → Q (some (.inl (.int r))) h') :
    mx_C E (mx_fn true) (d + 4) 151 [.inr (.inl 0), .inl (.int a1), .inl (.int a2), .inl (.int a3)] h Q := by
  obtain ⟨⟨f0, f3, ft, fp, fw, fh⟩, fd, fs, fr, gE, gT, fra, fdo, fud, fc, frn, gS⟩ := hF
  obtain ⟨⟨m1, m12, m16, m24, m25, m51, m56, m65, m71, m74, m79, m83, m88⟩, nE, nW, nH⟩ := hM
  refine sg151_0 ?_
  repeat' first
    | exact hQ _ _ (by first | rfl | (simp [f0, f3, ft, fp, fw, fh, fd, fs, fr, fra, fdo, fud, fc, frn, mx_uI, mx_uR, mx_up]; done) | (rw [if_pos ⟨(by assumption), (by assumption), (by assumption)⟩] <;> (first | rfl | (simp [f0, f3, ft, fp, fw, fh, fd, fs, fr, fra, fdo, fud, fc, frn, mx_uI, mx_uR, mx_up]; done) | (rw [if_pos (by assumption)]) | (rw [if_neg (by assumption)]))) | (rw [if_neg (fun q => absurd q.1 (by assumption))] <;> (first | rfl | (simp [f0, f3, ft, fp, fw, fh, fd, fs, fr, fra, fdo, fud, fc, frn, mx_uI, mx_uR, mx_up]; done) | (rw [if_pos (by assumption)]) | (rw [if_neg (by assumption)]))) | (rw [if_neg (fun q => absurd q.2.1 (by assumption))] <;> (first | rfl | (simp [f0, f3, ft, fp, fw, fh, fd, fs, fr, fra, fdo, fud, fc, frn, mx_uI, mx_uR, mx_up]; done) | (rw [if_pos (by assumption)]) | (rw [if_neg (by assumption)]))) | (rw [if_neg (fun q => absurd q.2.2 (by assumption))] <;> (first | rfl | (simp [f0, f3, ft, fp, fw, fh, fd, fs, fr, fra, fdo, fud, fc, frn, mx_uI, mx_uR, mx_up]; done) | (rw [if_pos (by assumption)]) | (rw [if_neg (by assumption)])))) (by repeat first | assumption | exact sp_FM_ext (by assumption) ⟨⟨m1, m12, m16, m24, m25, m51, m56, m65, m71, m74, m79, m83, m88⟩, nE, nW, nH⟩ | exact ⟨⟨m1, m12, m16, m24, m25, m51, m56, m65, m71, m74, m79, m83, m88⟩, nE, nW, nH⟩ | refine sp_FM_uI rfl ?_ | refine sp_FM_uL ?_ | refine sp_FM_uR ?_)
    | (intro h1; exact absurd h1 (by decide))
    | (intro h1; exfalso; revert h1; simp only [f0, f3, ft, fp, fw, fh, fd, fs, fr, fra, fdo, fud, fc, frn]; first | decide | exact sp_e0 | exact sp_e1)
    | (intro h1; exfalso; revert h1; simp [f0, f3, ft, fp, fw, fh, fd, fs, fr, fra, fdo, fud, fc, frn, mx_uI, mx_up]; done)
    | refine hx_i ?_
    | refine hx_l ?_
    | refine hx_n ?_
    | refine hx_0 ?_
    | refine fz_shapeAt (by assumption) ?_
    | refine fz_planned (by assumption) ?_
    | refine fz_isBody (by assumption) ?_
    | refine fz_was (by assumption) ?_
    | refine sp_wi ?_ ?_
    | refine fz_159 ?_ ?_
    | refine fz_160 ?_ ?_
    | refine fz_161 ?_ ?_
    | refine fz_162 ?_ ?_
    | refine sg164_null ?_
    | refine sg165_null ?_
    | refine fz_holdRow (by assumption) ?_
    | refine And.intro ?_ ?_
    | exact Or.inl rfl
    | exact Or.inr rfl
    | decide
    | exact rfl
    | (intro h1; exact absurd h1 (cgt (by assumption)))
    | (intro h1; exfalso; rw [frn] at h1; exact h1 (Int32.not_lt.mp (by assumption)))
    | exact vi6 (by assumption)
    | exact vi4 (by assumption)
    | (intro h1; exact absurd (gS _ (cl6 (by assumption))) h1)
    | (unfold vp_in; simp [f0, f3, ft, fp, fw, fh, fd, fs, fr, fra, fdo, fud, fc, frn, mx_uI, mx_up]; done)
    | refine fun (_ : (_ : Prop)) => ?_
    | refine fun (_ : mx_H) => ?_
set_option maxHeartbeats 2000000 in
theorem fr302 {E : mx_Ev} {d : Nat} {h : mx_H} {Q : Option mx_V → mx_H → Prop} {a1 : Int32} {a2 : Int32} {a3 : Int32} (hM : sp_FM h) (hQ : ∀ r h', r = (if (0 ≤ a1 ∧ a1 ≤ 5) ∧ (0 ≤ a2 ∧ a2 ≤ 4) ∧ (a3 ≤ 60) then (if 0 ≤ a3 then 1 else (-14)) else (-1)) → Q (some (.inl (.int r))) h') :
    mx_C E (mx_fn true) (d + 4) 302 [.inr (.inl 105), .inl (.int a1), .inl (.int a2), .inl (.int a3)] h Q := by
  obtain ⟨⟨m1, m12, m16, m24, m25, m51, m56, m65, m71, m74, m79, m83, m88⟩, nE, nW, nH⟩ := hM
  refine sg302_0 ?_
  repeat' first
    | exact hQ _ _ (by first | rfl | (simp [m1, m12, m16, m24, m25, m51, m56, m65, m71, m74, m79, m83, m88, mx_uI, mx_uR, mx_up]; done) | (rw [if_pos ⟨(by assumption), (by assumption), (by assumption)⟩] <;> (first | rfl | (simp [m1, m12, m16, m24, m25, m51, m56, m65, m71, m74, m79, m83, m88, mx_uI, mx_uR, mx_up]; done) | (rw [if_pos (by assumption)]) | (rw [if_neg (by assumption)]))) | (rw [if_neg (fun q => absurd q.1 (by assumption))] <;> (first | rfl | (simp [m1, m12, m16, m24, m25, m51, m56, m65, m71, m74, m79, m83, m88, mx_uI, mx_uR, mx_up]; done) | (rw [if_pos (by assumption)]) | (rw [if_neg (by assumption)]))) | (rw [if_neg (fun q => absurd q.2.1 (by assumption))] <;> (first | rfl | (simp [m1, m12, m16, m24, m25, m51, m56, m65, m71, m74, m79, m83, m88, mx_uI, mx_uR, mx_up]; done) | (rw [if_pos (by assumption)]) | (rw [if_neg (by assumption)]))) | (rw [if_neg (fun q => absurd q.2.2 (by assumption))] <;> (first | rfl | (simp [m1, m12, m16, m24, m25, m51, m56, m65, m71, m74, m79, m83, m88, mx_uI, mx_uR, mx_up]; done) | (rw [if_pos (by assumption)]) | (rw [if_neg (by assumption)]))))
    | (intro h1; exact absurd h1 (by decide))
    | (intro h1; exfalso; revert h1; simp only [m1, m12, m16, m24, m25, m51, m56, m65, m71, m74, m79, m83, m88]; first | decide | exact sp_e0 | exact sp_e1)
    | (intro h1; exfalso; revert h1; simp [m1, m12, m16, m24, m25, m51, m56, m65, m71, m74, m79, m83, m88, mx_uI, mx_up]; done)
    | refine hx_i ?_
    | refine hx_l ?_
    | refine hx_n ?_
    | refine hx_0 ?_
    | refine fz_isShape (by assumption) ?_
    | refine fz_isBodyM (by assumption) ?_
    | refine sp_ini ?_ ?_
    | refine fz_255 ?_ ?_
    | refine fz_300 ?_ ?_
    | refine fz_r54x (by assumption) ?_
    | refine And.intro ?_ ?_
    | exact Or.inl rfl
    | exact Or.inr rfl
    | decide
    | exact rfl
    | (intro h1; exact absurd h1 (cgt (by assumption)))
    | (intro h1; exfalso; rw [m88] at h1; exact h1 (Int32.not_lt.mp (by assumption)))
    | exact vi6 (by assumption)
    | exact vi4 (by assumption)
    | (intro h1; exact absurd (nH _ (cl6 (by assumption))) h1)
    | (unfold vp_in; simp [m1, m12, m16, m24, m25, m51, m56, m65, m71, m74, m79, m83, m88, mx_uI, mx_up]; done)
    | refine fun (_ : (_ : Prop)) => ?_
    | refine fun (_ : mx_H) => ?_
