/-! ===== every call on a new object ===== -/
theorem sp_e1 {a : Int32} : ¬ (1 ≤ a ∧ a ≤ (0 : Int32)) := fun h => absurd (Int32.le_trans h.1 h.2) (by decide)
theorem in14 {a : Int32} (h : 1 ≤ a ∧ a ≤ 4) : a = 1 ∨ a = 2 ∨ a = 3 ∨ a = 4 := by
  have h1 : (1 : Int32).toInt ≤ a.toInt := Int32.le_iff_toInt_le.mp h.1
  have h2 : a.toInt ≤ (4 : Int32).toInt := Int32.le_iff_toInt_le.mp h.2
  have e1 : (1 : Int32).toInt = 1 := rfl
  have e4 : (4 : Int32).toInt = 4 := rfl
  rcases (show a.toInt = (1 : Int32).toInt ∨ a.toInt = (2 : Int32).toInt ∨ a.toInt = (3 : Int32).toInt ∨ a.toInt = (4 : Int32).toInt by
    have e2 : (2 : Int32).toInt = 2 := rfl
    have e3 : (3 : Int32).toInt = 3 := rfl
    omega) with q | q | q | q
  · exact Or.inl (Int32.toInt_inj.mp q)
  · exact Or.inr (Or.inl (Int32.toInt_inj.mp q))
  · exact Or.inr (Or.inr (Or.inl (Int32.toInt_inj.mp q)))
  · exact Or.inr (Or.inr (Or.inr (Int32.toInt_inj.mp q)))
theorem sg37_null {E : mx_Ev} {d : Nat} {h : mx_H} {Q : Option mx_V → mx_H → Prop} {a1 : Int32}
    (H : (((h.2.1 (.inl 90) 0) < 200) → ((vp_in (h.2.1 (.inl 90) 0) 200) ∧ ((vp_in ((mx_uI h (.inl 91) (Int32.toNatClampNeg (h.2.1 (.inl 90) 0)) a1).2.1 (.inl 90) 0) 200) ∧ (mx_fn true (.inl 92) (Int32.toNatClampNeg ((mx_uI h (.inl 91) (Int32.toNatClampNeg (h.2.1 (.inl 90) 0)) a1).2.1 (.inl 90) 0)) = none) ∧ (Q (some (.inl (.int (((mx_uI (mx_uR (mx_uI h (.inl 91) (Int32.toNatClampNeg (h.2.1 (.inl 90) 0)) a1) (.inl 92) (Int32.toNatClampNeg ((mx_uI h (.inl 91) (Int32.toNatClampNeg (h.2.1 (.inl 90) 0)) a1).2.1 (.inl 90) 0)) none) (.inl 90) 0 (((mx_uR (mx_uI h (.inl 91) (Int32.toNatClampNeg (h.2.1 (.inl 90) 0)) a1) (.inl 92) (Int32.toNatClampNeg ((mx_uI h (.inl 91) (Int32.toNatClampNeg (h.2.1 (.inl 90) 0)) a1).2.1 (.inl 90) 0)) none).2.1 (.inl 90) 0) + 1)).2.1 (.inl 90) 0) - 1)))) (mx_uI (mx_uR (mx_uI h (.inl 91) (Int32.toNatClampNeg (h.2.1 (.inl 90) 0)) a1) (.inl 92) (Int32.toNatClampNeg ((mx_uI h (.inl 91) (Int32.toNatClampNeg (h.2.1 (.inl 90) 0)) a1).2.1 (.inl 90) 0)) none) (.inl 90) 0 (((mx_uR (mx_uI h (.inl 91) (Int32.toNatClampNeg (h.2.1 (.inl 90) 0)) a1) (.inl 92) (Int32.toNatClampNeg ((mx_uI h (.inl 91) (Int32.toNatClampNeg (h.2.1 (.inl 90) 0)) a1).2.1 (.inl 90) 0)) none).2.1 (.inl 90) 0) + 1)))))) ∧ (¬ ((h.2.1 (.inl 90) 0) < 200) → (Q (some (.inl (.int (-3)))) h))) :
    mx_T E (mx_fn true) d 0 0 37 0 [(0, .inr (.inl 90)), (1, .inl (.int a1)), (2, .inl .null)] [] h Q := mx_wp_sound (cuts := []) mx_ok37 30 H
set_option maxHeartbeats 2000000 in
theorem fc102 {E : mx_Ev} {d : Nat} {h : mx_H} {Q : Option mx_V → mx_H → Prop} {a1 : Int32} {a2 : Int32} (hF : sp_FR h) (hM : sp_FM h) (hQ : ∀ r h', r = (if (1 ≤ a1 ∧ a1 ≤ 4) then a1 else (-1)) → sp_FM h' → Q (some (.inl (.int r))) h') :
    mx_C E (mx_fn true) (d + 4) 102 [.inr (.inl 0), .inl (.int a1), .inl (.int a2)] h Q := by
  obtain ⟨⟨f0, f3, ft, fp, fw, fh⟩, fd, fs, fr, gE, gT, fra, fdo, fud, fc, frn, gS⟩ := hF
  obtain ⟨⟨m1, m12, m16, m24, m25, m51, m56, m65, m71, m74, m79, m83, m88⟩, nE, nW, nH⟩ := hM
  by_cases g : 1 ≤ a1 ∧ a1 ≤ 4
  · rcases in14 g with rfl | rfl | rfl | rfl <;> refine sg102_0 ?_
    all_goals
      repeat' first
        | exact hQ _ _ (by first | rfl | (simp [f0, f3, ft, fp, fw, fh, fd, fs, fr, fra, fdo, fud, fc, frn, mx_uI, mx_up]; done) | exact gE _ (cl4 (by assumption)) | (rw [if_pos (by assumption)] <;> (first | rfl | (simp [f0, f3, ft, fp, fw, fh, fd, fs, fr, fra, fdo, fud, fc, frn, mx_uI, mx_up]; done) | exact gE _ (cl4 (by assumption)))) | (rw [if_neg (by assumption)] <;> (first | rfl | (simp [f0, f3, ft, fp, fw, fh, fd, fs, fr, fra, fdo, fud, fc, frn, mx_uI, mx_up]; done) | exact gE _ (cl4 (by assumption))))) (by repeat first | assumption | exact sp_FM_ext (by assumption) ⟨⟨m1, m12, m16, m24, m25, m51, m56, m65, m71, m74, m79, m83, m88⟩, nE, nW, nH⟩ | exact ⟨⟨m1, m12, m16, m24, m25, m51, m56, m65, m71, m74, m79, m83, m88⟩, nE, nW, nH⟩ | refine sp_FM_uI rfl ?_ | refine sp_FM_uL ?_ | refine sp_FM_uR ?_)
        | (intro h1; exact absurd h1 (by decide))
        | (intro h1; exfalso; revert h1; simp only [f0, f3, ft, fp, fw, fh, fd, fs, fr, fra, fdo, fud, fc, frn]; first | decide | exact sp_e0 | exact sp_e1)
        | (intro h1; exfalso; revert h1; simp [f0, f3, ft, fp, fw, fh, fd, fs, fr, fra, fdo, fud, fc, frn, mx_uI, mx_up]; done)
        | refine hx_i ?_
        | refine hx_l ?_
        | refine hx_n ?_
        | refine hx_0 ?_
        | refine fz_shapeAt (by assumption) ?_
        | refine fz_planned (by assumption) ?_
        | refine fz_isBody (by assumption) ?_
        | refine fz_was (by assumption) ?_
        | refine sp_wi ?_ ?_
        | refine fz_p sg159_0 ?_ ?_
        | refine fz_p sg160_0 ?_ ?_
        | refine fz_p sg161_0 ?_ ?_
        | refine fz_p sg162_0 ?_ ?_
        | refine sg164_null ?_
        | refine sg165_null ?_
        | refine sg85_0 ?_
        | refine sg85_2 ?_
        | refine And.intro ?_ ?_
        | exact Or.inl rfl
        | exact Or.inr rfl
        | decide
        | exact vi6 (by assumption)
        | exact vi4 (by assumption)
        | (intro h1; exact absurd (gS _ (cl6 (by assumption))) h1)
        | (unfold vp_in; simp [f0, f3, ft, fp, fw, fh, fd, fs, fr, fra, fdo, fud, fc, frn, mx_uI, mx_up]; done)
        | intro _
  · refine sg102_0 (sp_wi (fun q => absurd q g) (fun _ => hx_i ⟨fun h1 => absurd h1 (by decide), fun _ => ?_⟩))
    exact hQ _ _ (by rw [if_neg g]) ⟨⟨m1, m12, m16, m24, m25, m51, m56, m65, m71, m74, m79, m83, m88⟩, nE, nW, nH⟩
set_option maxHeartbeats 2000000 in
theorem fr184 {E : mx_Ev} {d : Nat} {h : mx_H} {Q : Option mx_V → mx_H → Prop} {a1 : Int32} {a2 : Int32} (hM : sp_FM h) (hQ : ∀ r h', r = (if (1 ≤ a1 ∧ a1 ≤ 4) then a1 else (-1)) → Q (some (.inl (.int r))) h') :
    mx_C E (mx_fn true) (d + 4) 184 [.inr (.inl 105), .inl (.int a1), .inl (.int a2)] h Q := by
  obtain ⟨⟨m1, m12, m16, m24, m25, m51, m56, m65, m71, m74, m79, m83, m88⟩, nE, nW, nH⟩ := hM
  by_cases g : 1 ≤ a1 ∧ a1 ≤ 4
  · rcases in14 g with rfl | rfl | rfl | rfl <;> refine sg184_0 ?_
    all_goals
      repeat' first
        | exact hQ _ _ (by first | rfl | (simp [m1, m12, m16, m24, m25, m51, m56, m65, m71, m74, m79, m83, m88, mx_uI, mx_up]; done) | exact nE _ (cl4 (by assumption)) | (rw [if_pos (by assumption)] <;> (first | rfl | (simp [m1, m12, m16, m24, m25, m51, m56, m65, m71, m74, m79, m83, m88, mx_uI, mx_up]; done) | exact nE _ (cl4 (by assumption)))) | (rw [if_neg (by assumption)] <;> (first | rfl | (simp [m1, m12, m16, m24, m25, m51, m56, m65, m71, m74, m79, m83, m88, mx_uI, mx_up]; done) | exact nE _ (cl4 (by assumption)))))
        | (intro h1; exact absurd h1 (by decide))
        | (intro h1; exfalso; revert h1; simp only [m1, m12, m16, m24, m25, m51, m56, m65, m71, m74, m79, m83, m88]; first | decide | exact sp_e0 | exact sp_e1)
        | (intro h1; exfalso; revert h1; simp [m1, m12, m16, m24, m25, m51, m56, m65, m71, m74, m79, m83, m88, mx_uI, mx_up]; done)
        | refine hx_i ?_
        | refine hx_l ?_
        | refine hx_n ?_
        | refine hx_0 ?_
        | refine fz_isShape (by assumption) ?_
        | refine fz_isBodyM (by assumption) ?_
        | refine sp_ini ?_ ?_
        | refine fz_q sg255_0 ?_ ?_
        | refine fz_q sg300_0 ?_ ?_
        | refine sg184_27 ?_
        | refine And.intro ?_ ?_
        | exact Or.inl rfl
        | exact Or.inr rfl
        | decide
        | exact vi6 (by assumption)
        | exact vi4 (by assumption)
        | (intro h1; exact absurd (nH _ (cl6 (by assumption))) h1)
        | (unfold vp_in; simp [m1, m12, m16, m24, m25, m51, m56, m65, m71, m74, m79, m83, m88, mx_uI, mx_up]; done)
        | intro _
  · refine sg184_0 (sp_ini (fun q => absurd q g) (fun _ => hx_i ⟨fun h1 => absurd h1 (by decide), fun _ => ?_⟩))
    exact hQ _ _ (by rw [if_neg g])
set_option maxHeartbeats 2000000 in
theorem fc104 {E : mx_Ev} {d : Nat} {h : mx_H} {Q : Option mx_V → mx_H → Prop} {a1 : Int32} {a2 : Int32} (hF : sp_FR h) (hM : sp_FM h) (hQ : ∀ r h', r = (-2000000000) → sp_FM h' → Q (some (.inl (.int r))) h') :
    mx_C E (mx_fn true) (d + 4) 104 [.inr (.inl 0), .inl (.int a1), .inl (.int a2)] h Q := by
  obtain ⟨⟨f0, f3, ft, fp, fw, fh⟩, fd, fs, fr, gE, gT, fra, fdo, fud, fc, frn, gS⟩ := hF
  obtain ⟨⟨m1, m12, m16, m24, m25, m51, m56, m65, m71, m74, m79, m83, m88⟩, nE, nW, nH⟩ := hM
  refine sg104_0 ?_
  repeat' first
    | exact hQ _ _ (by first | rfl | (simp [f0, f3, ft, fp, fw, fh, fd, fs, fr, fra, fdo, fud, fc, frn, mx_uI, mx_up]; done) | exact gE _ (cl4 (by assumption))) (by repeat first | assumption | exact sp_FM_ext (by assumption) ⟨⟨m1, m12, m16, m24, m25, m51, m56, m65, m71, m74, m79, m83, m88⟩, nE, nW, nH⟩ | exact ⟨⟨m1, m12, m16, m24, m25, m51, m56, m65, m71, m74, m79, m83, m88⟩, nE, nW, nH⟩ | refine sp_FM_uI rfl ?_ | refine sp_FM_uL ?_ | refine sp_FM_uR ?_)
    | (intro h1; exact absurd h1 (by decide))
    | (intro h1; exfalso; revert h1; simp only [f0, f3, ft, fp, fw, fh, fd, fs, fr, fra, fdo, fud, fc, frn]; first | decide | exact sp_e0 | exact sp_e1)
    | (intro h1; exfalso; revert h1; simp [f0, f3, ft, fp, fw, fh, fd, fs, fr, fra, fdo, fud, fc, frn, mx_uI, mx_up]; done)
    | refine hx_i ?_
    | refine hx_l ?_
    | refine hx_n ?_
    | refine hx_0 ?_
    | refine fz_shapeAt (by assumption) ?_
    | refine fz_planned (by assumption) ?_
    | refine fz_isBody (by assumption) ?_
    | refine fz_was (by assumption) ?_
    | refine sp_wi ?_ ?_
    | refine fz_p sg159_0 ?_ ?_
    | refine fz_p sg160_0 ?_ ?_
    | refine fz_p sg161_0 ?_ ?_
    | refine fz_p sg162_0 ?_ ?_
    | refine sg164_null ?_
    | refine sg165_null ?_
    | refine And.intro ?_ ?_
    | exact Or.inl rfl
    | exact Or.inr rfl
    | decide
    | exact vi6 (by assumption)
    | exact vi4 (by assumption)
    | (intro h1; exact absurd (gS _ (cl6 (by assumption))) h1)
    | (unfold vp_in; simp [f0, f3, ft, fp, fw, fh, fd, fs, fr, fra, fdo, fud, fc, frn, mx_uI, mx_up]; done)
    | intro _
set_option maxHeartbeats 2000000 in
theorem fr196 {E : mx_Ev} {d : Nat} {h : mx_H} {Q : Option mx_V → mx_H → Prop} {a1 : Int32} {a2 : Int32} (hM : sp_FM h) (hQ : ∀ r h', r = (-2000000000) → Q (some (.inl (.int r))) h') :
    mx_C E (mx_fn true) (d + 4) 196 [.inr (.inl 105), .inl (.int a1), .inl (.int a2)] h Q := by
  obtain ⟨⟨m1, m12, m16, m24, m25, m51, m56, m65, m71, m74, m79, m83, m88⟩, nE, nW, nH⟩ := hM
  refine sg196_0 ?_
  repeat' first
    | exact hQ _ _ (by first | rfl | (simp [m1, m12, m16, m24, m25, m51, m56, m65, m71, m74, m79, m83, m88, mx_uI, mx_up]; done) | exact nE _ (cl4 (by assumption)))
    | (intro h1; exact absurd h1 (by decide))
    | (intro h1; exfalso; revert h1; simp only [m1, m12, m16, m24, m25, m51, m56, m65, m71, m74, m79, m83, m88]; first | decide | exact sp_e0 | exact sp_e1)
    | (intro h1; exfalso; revert h1; simp [m1, m12, m16, m24, m25, m51, m56, m65, m71, m74, m79, m83, m88, mx_uI, mx_up]; done)
    | refine hx_i ?_
    | refine hx_l ?_
    | refine hx_n ?_
    | refine hx_0 ?_
    | refine fz_isShape (by assumption) ?_
    | refine fz_isBodyM (by assumption) ?_
    | refine sp_ini ?_ ?_
    | refine fz_q sg255_0 ?_ ?_
    | refine fz_q sg300_0 ?_ ?_
    | refine And.intro ?_ ?_
    | exact Or.inl rfl
    | exact Or.inr rfl
    | decide
    | exact vi6 (by assumption)
    | exact vi4 (by assumption)
    | (intro h1; exact absurd (nH _ (cl6 (by assumption))) h1)
    | (unfold vp_in; simp [m1, m12, m16, m24, m25, m51, m56, m65, m71, m74, m79, m83, m88, mx_uI, mx_up]; done)
    | intro _
set_option maxHeartbeats 2000000 in
theorem fc105 {E : mx_Ev} {d : Nat} {h : mx_H} {Q : Option mx_V → mx_H → Prop} {a1 : Int32} {a2 : Int32} {a3 : Int32} {a4 : Int32} (hF : sp_FR h) (hM : sp_FM h) (hQ : ∀ r h', r = (-1) → sp_FM h' → Q (some (.inl (.int r))) h') :
    mx_C E (mx_fn true) (d + 4) 105 [.inr (.inl 0), .inl (.int a1), .inl (.int a2), .inl (.int a3), .inl (.int a4)] h Q := by
  obtain ⟨⟨f0, f3, ft, fp, fw, fh⟩, fd, fs, fr, gE, gT, fra, fdo, fud, fc, frn, gS⟩ := hF
  obtain ⟨⟨m1, m12, m16, m24, m25, m51, m56, m65, m71, m74, m79, m83, m88⟩, nE, nW, nH⟩ := hM
  refine sg105_0 ?_
  repeat' first
    | exact hQ _ _ (by first | rfl | (simp [f0, f3, ft, fp, fw, fh, fd, fs, fr, fra, fdo, fud, fc, frn, mx_uI, mx_up]; done) | exact gE _ (cl4 (by assumption))) (by repeat first | assumption | exact sp_FM_ext (by assumption) ⟨⟨m1, m12, m16, m24, m25, m51, m56, m65, m71, m74, m79, m83, m88⟩, nE, nW, nH⟩ | exact ⟨⟨m1, m12, m16, m24, m25, m51, m56, m65, m71, m74, m79, m83, m88⟩, nE, nW, nH⟩ | refine sp_FM_uI rfl ?_ | refine sp_FM_uL ?_ | refine sp_FM_uR ?_)
    | (intro h1; exact absurd h1 (by decide))
    | (intro h1; exfalso; revert h1; simp only [f0, f3, ft, fp, fw, fh, fd, fs, fr, fra, fdo, fud, fc, frn]; first | decide | exact sp_e0 | exact sp_e1)
    | (intro h1; exfalso; revert h1; simp [f0, f3, ft, fp, fw, fh, fd, fs, fr, fra, fdo, fud, fc, frn, mx_uI, mx_up]; done)
    | refine hx_i ?_
    | refine hx_l ?_
    | refine hx_n ?_
    | refine hx_0 ?_
    | refine fz_shapeAt (by assumption) ?_
    | refine fz_planned (by assumption) ?_
    | refine fz_isBody (by assumption) ?_
    | refine fz_was (by assumption) ?_
    | refine sp_wi ?_ ?_
    | refine fz_p sg159_0 ?_ ?_
    | refine fz_p sg160_0 ?_ ?_
    | refine fz_p sg161_0 ?_ ?_
    | refine fz_p sg162_0 ?_ ?_
    | refine sg164_null ?_
    | refine sg165_null ?_
    | refine And.intro ?_ ?_
    | exact Or.inl rfl
    | exact Or.inr rfl
    | decide
    | exact vi6 (by assumption)
    | exact vi4 (by assumption)
    | (intro h1; exact absurd (gS _ (cl6 (by assumption))) h1)
    | (unfold vp_in; simp [f0, f3, ft, fp, fw, fh, fd, fs, fr, fra, fdo, fud, fc, frn, mx_uI, mx_up]; done)
    | intro _
set_option maxHeartbeats 2000000 in
theorem fr197 {E : mx_Ev} {d : Nat} {h : mx_H} {Q : Option mx_V → mx_H → Prop} {a1 : Int32} {a2 : Int32} {a3 : Int32} {a4 : Int32} (hM : sp_FM h) (hQ : ∀ r h', r = (-1) → Q (some (.inl (.int r))) h') :
    mx_C E (mx_fn true) (d + 4) 197 [.inr (.inl 105), .inl (.int a1), .inl (.int a2), .inl (.int a3), .inl (.int a4)] h Q := by
  obtain ⟨⟨m1, m12, m16, m24, m25, m51, m56, m65, m71, m74, m79, m83, m88⟩, nE, nW, nH⟩ := hM
  refine sg197_0 ?_
  repeat' first
    | exact hQ _ _ (by first | rfl | (simp [m1, m12, m16, m24, m25, m51, m56, m65, m71, m74, m79, m83, m88, mx_uI, mx_up]; done) | exact nE _ (cl4 (by assumption)))
    | (intro h1; exact absurd h1 (by decide))
    | (intro h1; exfalso; revert h1; simp only [m1, m12, m16, m24, m25, m51, m56, m65, m71, m74, m79, m83, m88]; first | decide | exact sp_e0 | exact sp_e1)
    | (intro h1; exfalso; revert h1; simp [m1, m12, m16, m24, m25, m51, m56, m65, m71, m74, m79, m83, m88, mx_uI, mx_up]; done)
    | refine hx_i ?_
    | refine hx_l ?_
    | refine hx_n ?_
    | refine hx_0 ?_
    | refine fz_isShape (by assumption) ?_
    | refine fz_isBodyM (by assumption) ?_
    | refine sp_ini ?_ ?_
    | refine fz_q sg255_0 ?_ ?_
    | refine fz_q sg300_0 ?_ ?_
    | refine And.intro ?_ ?_
    | exact Or.inl rfl
    | exact Or.inr rfl
    | decide
    | exact vi6 (by assumption)
    | exact vi4 (by assumption)
    | (intro h1; exact absurd (nH _ (cl6 (by assumption))) h1)
    | (unfold vp_in; simp [m1, m12, m16, m24, m25, m51, m56, m65, m71, m74, m79, m83, m88, mx_uI, mx_up]; done)
    | intro _
set_option maxHeartbeats 2000000 in
theorem fc106 {E : mx_Ev} {d : Nat} {h : mx_H} {Q : Option mx_V → mx_H → Prop} {a1 : Int32} {a2 : Int32} {a3 : Int32} {a4 : Int32} (hF : sp_FR h) (hM : sp_FM h) (hQ : ∀ r h', r = (-1) → sp_FM h' → Q (some (.inl (.int r))) h') :
    mx_C E (mx_fn true) (d + 4) 106 [.inr (.inl 0), .inl (.int a1), .inl (.int a2), .inl (.int a3), .inl (.int a4)] h Q := by
  obtain ⟨⟨f0, f3, ft, fp, fw, fh⟩, fd, fs, fr, gE, gT, fra, fdo, fud, fc, frn, gS⟩ := hF
  obtain ⟨⟨m1, m12, m16, m24, m25, m51, m56, m65, m71, m74, m79, m83, m88⟩, nE, nW, nH⟩ := hM
  refine sg106_0 ?_
  repeat' first
    | exact hQ _ _ (by first | rfl | (simp [f0, f3, ft, fp, fw, fh, fd, fs, fr, fra, fdo, fud, fc, frn, mx_uI, mx_up]; done) | exact gE _ (cl4 (by assumption))) (by repeat first | assumption | exact sp_FM_ext (by assumption) ⟨⟨m1, m12, m16, m24, m25, m51, m56, m65, m71, m74, m79, m83, m88⟩, nE, nW, nH⟩ | exact ⟨⟨m1, m12, m16, m24, m25, m51, m56, m65, m71, m74, m79, m83, m88⟩, nE, nW, nH⟩ | refine sp_FM_uI rfl ?_ | refine sp_FM_uL ?_ | refine sp_FM_uR ?_)
    | (intro h1; exact absurd h1 (by decide))
    | (intro h1; exfalso; revert h1; simp only [f0, f3, ft, fp, fw, fh, fd, fs, fr, fra, fdo, fud, fc, frn]; first | decide | exact sp_e0 | exact sp_e1)
    | (intro h1; exfalso; revert h1; simp [f0, f3, ft, fp, fw, fh, fd, fs, fr, fra, fdo, fud, fc, frn, mx_uI, mx_up]; done)
    | refine hx_i ?_
    | refine hx_l ?_
    | refine hx_n ?_
    | refine hx_0 ?_
    | refine fz_shapeAt (by assumption) ?_
    | refine fz_planned (by assumption) ?_
    | refine fz_isBody (by assumption) ?_
    | refine fz_was (by assumption) ?_
    | refine sp_wi ?_ ?_
    | refine fz_p sg159_0 ?_ ?_
    | refine fz_p sg160_0 ?_ ?_
    | refine fz_p sg161_0 ?_ ?_
    | refine fz_p sg162_0 ?_ ?_
    | refine sg164_null ?_
    | refine sg165_null ?_
    | refine And.intro ?_ ?_
    | exact Or.inl rfl
    | exact Or.inr rfl
    | decide
    | exact vi6 (by assumption)
    | exact vi4 (by assumption)
    | (intro h1; exact absurd (gS _ (cl6 (by assumption))) h1)
    | (unfold vp_in; simp [f0, f3, ft, fp, fw, fh, fd, fs, fr, fra, fdo, fud, fc, frn, mx_uI, mx_up]; done)
    | intro _
set_option maxHeartbeats 2000000 in
theorem fr201 {E : mx_Ev} {d : Nat} {h : mx_H} {Q : Option mx_V → mx_H → Prop} {a1 : Int32} {a2 : Int32} {a3 : Int32} {a4 : Int32} (hM : sp_FM h) (hQ : ∀ r h', r = (-1) → Q (some (.inl (.int r))) h') :
    mx_C E (mx_fn true) (d + 4) 201 [.inr (.inl 105), .inl (.int a1), .inl (.int a2), .inl (.int a3), .inl (.int a4)] h Q := by
  obtain ⟨⟨m1, m12, m16, m24, m25, m51, m56, m65, m71, m74, m79, m83, m88⟩, nE, nW, nH⟩ := hM
  refine sg201_0 ?_
  repeat' first
    | exact hQ _ _ (by first | rfl | (simp [m1, m12, m16, m24, m25, m51, m56, m65, m71, m74, m79, m83, m88, mx_uI, mx_up]; done) | exact nE _ (cl4 (by assumption)))
    | (intro h1; exact absurd h1 (by decide))
    | (intro h1; exfalso; revert h1; simp only [m1, m12, m16, m24, m25, m51, m56, m65, m71, m74, m79, m83, m88]; first | decide | exact sp_e0 | exact sp_e1)
    | (intro h1; exfalso; revert h1; simp [m1, m12, m16, m24, m25, m51, m56, m65, m71, m74, m79, m83, m88, mx_uI, mx_up]; done)
    | refine hx_i ?_
    | refine hx_l ?_
    | refine hx_n ?_
    | refine hx_0 ?_
    | refine fz_isShape (by assumption) ?_
    | refine fz_isBodyM (by assumption) ?_
    | refine sp_ini ?_ ?_
    | refine fz_q sg255_0 ?_ ?_
    | refine fz_q sg300_0 ?_ ?_
    | refine And.intro ?_ ?_
    | exact Or.inl rfl
    | exact Or.inr rfl
    | decide
    | exact vi6 (by assumption)
    | exact vi4 (by assumption)
    | (intro h1; exact absurd (nH _ (cl6 (by assumption))) h1)
    | (unfold vp_in; simp [m1, m12, m16, m24, m25, m51, m56, m65, m71, m74, m79, m83, m88, mx_uI, mx_up]; done)
    | intro _
set_option maxHeartbeats 2000000 in
theorem fc107 {E : mx_Ev} {d : Nat} {h : mx_H} {Q : Option mx_V → mx_H → Prop} {a1 : Int32} {a2 : Int32} {a3 : Int32} {a4 : Int32} (hF : sp_FR h) (hM : sp_FM h) (hQ : ∀ r h', r = (-1) → sp_FM h' → Q (some (.inl (.int r))) h') :
    mx_C E (mx_fn true) (d + 4) 107 [.inr (.inl 0), .inl (.int a1), .inl (.int a2), .inl (.int a3), .inl (.int a4)] h Q := by
  obtain ⟨⟨f0, f3, ft, fp, fw, fh⟩, fd, fs, fr, gE, gT, fra, fdo, fud, fc, frn, gS⟩ := hF
  obtain ⟨⟨m1, m12, m16, m24, m25, m51, m56, m65, m71, m74, m79, m83, m88⟩, nE, nW, nH⟩ := hM
  refine sg107_0 ?_
  repeat' first
    | exact hQ _ _ (by first | rfl | (simp [f0, f3, ft, fp, fw, fh, fd, fs, fr, fra, fdo, fud, fc, frn, mx_uI, mx_up]; done) | exact gE _ (cl4 (by assumption))) (by repeat first | assumption | exact sp_FM_ext (by assumption) ⟨⟨m1, m12, m16, m24, m25, m51, m56, m65, m71, m74, m79, m83, m88⟩, nE, nW, nH⟩ | exact ⟨⟨m1, m12, m16, m24, m25, m51, m56, m65, m71, m74, m79, m83, m88⟩, nE, nW, nH⟩ | refine sp_FM_uI rfl ?_ | refine sp_FM_uL ?_ | refine sp_FM_uR ?_)
    | (intro h1; exact absurd h1 (by decide))
    | (intro h1; exfalso; revert h1; simp only [f0, f3, ft, fp, fw, fh, fd, fs, fr, fra, fdo, fud, fc, frn]; first | decide | exact sp_e0 | exact sp_e1)
    | (intro h1; exfalso; revert h1; simp [f0, f3, ft, fp, fw, fh, fd, fs, fr, fra, fdo, fud, fc, frn, mx_uI, mx_up]; done)
    | refine hx_i ?_
    | refine hx_l ?_
    | refine hx_n ?_
    | refine hx_0 ?_
    | refine fz_shapeAt (by assumption) ?_
    | refine fz_planned (by assumption) ?_
    | refine fz_isBody (by assumption) ?_
    | refine fz_was (by assumption) ?_
    | refine sp_wi ?_ ?_
    | refine fz_p sg159_0 ?_ ?_
    | refine fz_p sg160_0 ?_ ?_
    | refine fz_p sg161_0 ?_ ?_
    | refine fz_p sg162_0 ?_ ?_
    | refine sg164_null ?_
    | refine sg165_null ?_
    | refine And.intro ?_ ?_
    | exact Or.inl rfl
    | exact Or.inr rfl
    | decide
    | exact vi6 (by assumption)
    | exact vi4 (by assumption)
    | (intro h1; exact absurd (gS _ (cl6 (by assumption))) h1)
    | (unfold vp_in; simp [f0, f3, ft, fp, fw, fh, fd, fs, fr, fra, fdo, fud, fc, frn, mx_uI, mx_up]; done)
    | intro _
set_option maxHeartbeats 2000000 in
theorem fr202 {E : mx_Ev} {d : Nat} {h : mx_H} {Q : Option mx_V → mx_H → Prop} {a1 : Int32} {a2 : Int32} {a3 : Int32} {a4 : Int32} (hM : sp_FM h) (hQ : ∀ r h', r = (-1) → Q (some (.inl (.int r))) h') :
    mx_C E (mx_fn true) (d + 4) 202 [.inr (.inl 105), .inl (.int a1), .inl (.int a2), .inl (.int a3), .inl (.int a4)] h Q := by
  obtain ⟨⟨m1, m12, m16, m24, m25, m51, m56, m65, m71, m74, m79, m83, m88⟩, nE, nW, nH⟩ := hM
  refine sg202_0 ?_
  repeat' first
    | exact hQ _ _ (by first | rfl | (simp [m1, m12, m16, m24, m25, m51, m56, m65, m71, m74, m79, m83, m88, mx_uI, mx_up]; done) | exact nE _ (cl4 (by assumption)))
    | (intro h1; exact absurd h1 (by decide))
    | (intro h1; exfalso; revert h1; simp only [m1, m12, m16, m24, m25, m51, m56, m65, m71, m74, m79, m83, m88]; first | decide | exact sp_e0 | exact sp_e1)
    | (intro h1; exfalso; revert h1; simp [m1, m12, m16, m24, m25, m51, m56, m65, m71, m74, m79, m83, m88, mx_uI, mx_up]; done)
    | refine hx_i ?_
    | refine hx_l ?_
    | refine hx_n ?_
    | refine hx_0 ?_
    | refine fz_isShape (by assumption) ?_
    | refine fz_isBodyM (by assumption) ?_
    | refine sp_ini ?_ ?_
    | refine fz_q sg255_0 ?_ ?_
    | refine fz_q sg300_0 ?_ ?_
    | refine And.intro ?_ ?_
    | exact Or.inl rfl
    | exact Or.inr rfl
    | decide
    | exact vi6 (by assumption)
    | exact vi4 (by assumption)
    | (intro h1; exact absurd (nH _ (cl6 (by assumption))) h1)
    | (unfold vp_in; simp [m1, m12, m16, m24, m25, m51, m56, m65, m71, m74, m79, m83, m88, mx_uI, mx_up]; done)
    | intro _
set_option maxHeartbeats 2000000 in
theorem fc108 {E : mx_Ev} {d : Nat} {h : mx_H} {Q : Option mx_V → mx_H → Prop} {a1 : Int32} {a2 : Int32} {a3 : Int32} (hF : sp_FR h) (hM : sp_FM h) (hQ : ∀ r h', r = (-1) → sp_FM h' → Q (some (.inl (.int r))) h') :
    mx_C E (mx_fn true) (d + 4) 108 [.inr (.inl 0), .inl (.int a1), .inl (.int a2), .inl (.int a3)] h Q := by
  obtain ⟨⟨f0, f3, ft, fp, fw, fh⟩, fd, fs, fr, gE, gT, fra, fdo, fud, fc, frn, gS⟩ := hF
  obtain ⟨⟨m1, m12, m16, m24, m25, m51, m56, m65, m71, m74, m79, m83, m88⟩, nE, nW, nH⟩ := hM
  refine sg108_0 ?_
  repeat' first
    | exact hQ _ _ (by first | rfl | (simp [f0, f3, ft, fp, fw, fh, fd, fs, fr, fra, fdo, fud, fc, frn, mx_uI, mx_up]; done) | exact gE _ (cl4 (by assumption))) (by repeat first | assumption | exact sp_FM_ext (by assumption) ⟨⟨m1, m12, m16, m24, m25, m51, m56, m65, m71, m74, m79, m83, m88⟩, nE, nW, nH⟩ | exact ⟨⟨m1, m12, m16, m24, m25, m51, m56, m65, m71, m74, m79, m83, m88⟩, nE, nW, nH⟩ | refine sp_FM_uI rfl ?_ | refine sp_FM_uL ?_ | refine sp_FM_uR ?_)
    | (intro h1; exact absurd h1 (by decide))
    | (intro h1; exfalso; revert h1; simp only [f0, f3, ft, fp, fw, fh, fd, fs, fr, fra, fdo, fud, fc, frn]; first | decide | exact sp_e0 | exact sp_e1)
    | (intro h1; exfalso; revert h1; simp [f0, f3, ft, fp, fw, fh, fd, fs, fr, fra, fdo, fud, fc, frn, mx_uI, mx_up]; done)
    | refine hx_i ?_
    | refine hx_l ?_
    | refine hx_n ?_
    | refine hx_0 ?_
    | refine fz_shapeAt (by assumption) ?_
    | refine fz_planned (by assumption) ?_
    | refine fz_isBody (by assumption) ?_
    | refine fz_was (by assumption) ?_
    | refine sp_wi ?_ ?_
    | refine fz_p sg159_0 ?_ ?_
    | refine fz_p sg160_0 ?_ ?_
    | refine fz_p sg161_0 ?_ ?_
    | refine fz_p sg162_0 ?_ ?_
    | refine sg164_null ?_
    | refine sg165_null ?_
    | refine And.intro ?_ ?_
    | exact Or.inl rfl
    | exact Or.inr rfl
    | decide
    | exact vi6 (by assumption)
    | exact vi4 (by assumption)
    | (intro h1; exact absurd (gS _ (cl6 (by assumption))) h1)
    | (unfold vp_in; simp [f0, f3, ft, fp, fw, fh, fd, fs, fr, fra, fdo, fud, fc, frn, mx_uI, mx_up]; done)
    | intro _
set_option maxHeartbeats 2000000 in
theorem fr203 {E : mx_Ev} {d : Nat} {h : mx_H} {Q : Option mx_V → mx_H → Prop} {a1 : Int32} {a2 : Int32} {a3 : Int32} (hM : sp_FM h) (hQ : ∀ r h', r = (-1) → Q (some (.inl (.int r))) h') :
    mx_C E (mx_fn true) (d + 4) 203 [.inr (.inl 105), .inl (.int a1), .inl (.int a2), .inl (.int a3)] h Q := by
  obtain ⟨⟨m1, m12, m16, m24, m25, m51, m56, m65, m71, m74, m79, m83, m88⟩, nE, nW, nH⟩ := hM
  refine sg203_0 ?_
  repeat' first
    | exact hQ _ _ (by first | rfl | (simp [m1, m12, m16, m24, m25, m51, m56, m65, m71, m74, m79, m83, m88, mx_uI, mx_up]; done) | exact nE _ (cl4 (by assumption)))
    | (intro h1; exact absurd h1 (by decide))
    | (intro h1; exfalso; revert h1; simp only [m1, m12, m16, m24, m25, m51, m56, m65, m71, m74, m79, m83, m88]; first | decide | exact sp_e0 | exact sp_e1)
    | (intro h1; exfalso; revert h1; simp [m1, m12, m16, m24, m25, m51, m56, m65, m71, m74, m79, m83, m88, mx_uI, mx_up]; done)
    | refine hx_i ?_
    | refine hx_l ?_
    | refine hx_n ?_
    | refine hx_0 ?_
    | refine fz_isShape (by assumption) ?_
    | refine fz_isBodyM (by assumption) ?_
    | refine sp_ini ?_ ?_
    | refine fz_q sg255_0 ?_ ?_
    | refine fz_q sg300_0 ?_ ?_
    | refine And.intro ?_ ?_
    | exact Or.inl rfl
    | exact Or.inr rfl
    | decide
    | exact vi6 (by assumption)
    | exact vi4 (by assumption)
    | (intro h1; exact absurd (nH _ (cl6 (by assumption))) h1)
    | (unfold vp_in; simp [m1, m12, m16, m24, m25, m51, m56, m65, m71, m74, m79, m83, m88, mx_uI, mx_up]; done)
    | intro _
set_option maxHeartbeats 2000000 in
theorem fc109 {E : mx_Ev} {d : Nat} {h : mx_H} {Q : Option mx_V → mx_H → Prop} {a1 : Int32} {a2 : Int32} {a3 : Int32} (hF : sp_FR h) (hM : sp_FM h) (hQ : ∀ r h', r = (-1) → sp_FM h' → Q (some (.inl (.int r))) h') :
    mx_C E (mx_fn true) (d + 4) 109 [.inr (.inl 0), .inl (.int a1), .inl (.int a2), .inl (.int a3)] h Q := by
  obtain ⟨⟨f0, f3, ft, fp, fw, fh⟩, fd, fs, fr, gE, gT, fra, fdo, fud, fc, frn, gS⟩ := hF
  obtain ⟨⟨m1, m12, m16, m24, m25, m51, m56, m65, m71, m74, m79, m83, m88⟩, nE, nW, nH⟩ := hM
  refine sg109_0 ?_
  repeat' first
    | exact hQ _ _ (by first | rfl | (simp [f0, f3, ft, fp, fw, fh, fd, fs, fr, fra, fdo, fud, fc, frn, mx_uI, mx_up]; done) | exact gE _ (cl4 (by assumption))) (by repeat first | assumption | exact sp_FM_ext (by assumption) ⟨⟨m1, m12, m16, m24, m25, m51, m56, m65, m71, m74, m79, m83, m88⟩, nE, nW, nH⟩ | exact ⟨⟨m1, m12, m16, m24, m25, m51, m56, m65, m71, m74, m79, m83, m88⟩, nE, nW, nH⟩ | refine sp_FM_uI rfl ?_ | refine sp_FM_uL ?_ | refine sp_FM_uR ?_)
    | (intro h1; exact absurd h1 (by decide))
    | (intro h1; exfalso; revert h1; simp only [f0, f3, ft, fp, fw, fh, fd, fs, fr, fra, fdo, fud, fc, frn]; first | decide | exact sp_e0 | exact sp_e1)
    | (intro h1; exfalso; revert h1; simp [f0, f3, ft, fp, fw, fh, fd, fs, fr, fra, fdo, fud, fc, frn, mx_uI, mx_up]; done)
    | refine hx_i ?_
    | refine hx_l ?_
    | refine hx_n ?_
    | refine hx_0 ?_
    | refine fz_shapeAt (by assumption) ?_
    | refine fz_planned (by assumption) ?_
    | refine fz_isBody (by assumption) ?_
    | refine fz_was (by assumption) ?_
    | refine sp_wi ?_ ?_
    | refine fz_p sg159_0 ?_ ?_
    | refine fz_p sg160_0 ?_ ?_
    | refine fz_p sg161_0 ?_ ?_
    | refine fz_p sg162_0 ?_ ?_
    | refine sg164_null ?_
    | refine sg165_null ?_
    | refine And.intro ?_ ?_
    | exact Or.inl rfl
    | exact Or.inr rfl
    | decide
    | exact vi6 (by assumption)
    | exact vi4 (by assumption)
    | (intro h1; exact absurd (gS _ (cl6 (by assumption))) h1)
    | (unfold vp_in; simp [f0, f3, ft, fp, fw, fh, fd, fs, fr, fra, fdo, fud, fc, frn, mx_uI, mx_up]; done)
    | intro _
set_option maxHeartbeats 2000000 in
theorem fr216 {E : mx_Ev} {d : Nat} {h : mx_H} {Q : Option mx_V → mx_H → Prop} {a1 : Int32} {a2 : Int32} {a3 : Int32} (hM : sp_FM h) (hQ : ∀ r h', r = (-1) → Q (some (.inl (.int r))) h') :
    mx_C E (mx_fn true) (d + 4) 216 [.inr (.inl 105), .inl (.int a1), .inl (.int a2), .inl (.int a3)] h Q := by
  obtain ⟨⟨m1, m12, m16, m24, m25, m51, m56, m65, m71, m74, m79, m83, m88⟩, nE, nW, nH⟩ := hM
  refine sg216_0 ?_
  repeat' first
    | exact hQ _ _ (by first | rfl | (simp [m1, m12, m16, m24, m25, m51, m56, m65, m71, m74, m79, m83, m88, mx_uI, mx_up]; done) | exact nE _ (cl4 (by assumption)))
    | (intro h1; exact absurd h1 (by decide))
    | (intro h1; exfalso; revert h1; simp only [m1, m12, m16, m24, m25, m51, m56, m65, m71, m74, m79, m83, m88]; first | decide | exact sp_e0 | exact sp_e1)
    | (intro h1; exfalso; revert h1; simp [m1, m12, m16, m24, m25, m51, m56, m65, m71, m74, m79, m83, m88, mx_uI, mx_up]; done)
    | refine hx_i ?_
    | refine hx_l ?_
    | refine hx_n ?_
    | refine hx_0 ?_
    | refine fz_isShape (by assumption) ?_
    | refine fz_isBodyM (by assumption) ?_
    | refine sp_ini ?_ ?_
    | refine fz_q sg255_0 ?_ ?_
    | refine fz_q sg300_0 ?_ ?_
    | refine And.intro ?_ ?_
    | exact Or.inl rfl
    | exact Or.inr rfl
    | decide
    | exact vi6 (by assumption)
    | exact vi4 (by assumption)
    | (intro h1; exact absurd (nH _ (cl6 (by assumption))) h1)
    | (unfold vp_in; simp [m1, m12, m16, m24, m25, m51, m56, m65, m71, m74, m79, m83, m88, mx_uI, mx_up]; done)
    | intro _
set_option maxHeartbeats 2000000 in
theorem fc110 {E : mx_Ev} {d : Nat} {h : mx_H} {Q : Option mx_V → mx_H → Prop} {a1 : Int32} {a2 : Int32} {a3 : Int32} (hF : sp_FR h) (hM : sp_FM h) (hQ : ∀ r h', r = (-9223372036854775808) → sp_FM h' → Q (some (.inl (.long r))) h') :
    mx_C E (mx_fn true) (d + 4) 110 [.inr (.inl 0), .inl (.int a1), .inl (.int a2), .inl (.int a3)] h Q := by
  obtain ⟨⟨f0, f3, ft, fp, fw, fh⟩, fd, fs, fr, gE, gT, fra, fdo, fud, fc, frn, gS⟩ := hF
  obtain ⟨⟨m1, m12, m16, m24, m25, m51, m56, m65, m71, m74, m79, m83, m88⟩, nE, nW, nH⟩ := hM
  refine sg110_0 ?_
  repeat' first
    | exact hQ _ _ rfl (by repeat first | assumption | exact sp_FM_ext (by assumption) ⟨⟨m1, m12, m16, m24, m25, m51, m56, m65, m71, m74, m79, m83, m88⟩, nE, nW, nH⟩ | exact ⟨⟨m1, m12, m16, m24, m25, m51, m56, m65, m71, m74, m79, m83, m88⟩, nE, nW, nH⟩ | refine sp_FM_uI rfl ?_ | refine sp_FM_uL ?_ | refine sp_FM_uR ?_)
    | (intro h1; exact absurd h1 (by decide))
    | (intro h1; exfalso; revert h1; simp only [f0, f3, ft, fp, fw, fh, fd, fs, fr, fra, fdo, fud, fc, frn]; first | decide | exact sp_e0 | exact sp_e1)
    | (intro h1; exfalso; revert h1; simp [f0, f3, ft, fp, fw, fh, fd, fs, fr, fra, fdo, fud, fc, frn, mx_uI, mx_up]; done)
    | refine hx_i ?_
    | refine hx_l ?_
    | refine hx_n ?_
    | refine hx_0 ?_
    | refine fz_shapeAt (by assumption) ?_
    | refine fz_planned (by assumption) ?_
    | refine fz_isBody (by assumption) ?_
    | refine fz_was (by assumption) ?_
    | refine sp_wi ?_ ?_
    | refine fz_p sg159_0 ?_ ?_
    | refine fz_p sg160_0 ?_ ?_
    | refine fz_p sg161_0 ?_ ?_
    | refine fz_p sg162_0 ?_ ?_
    | refine sg164_null ?_
    | refine sg165_null ?_
    | refine And.intro ?_ ?_
    | exact Or.inl rfl
    | exact Or.inr rfl
    | decide
    | exact vi6 (by assumption)
    | exact vi4 (by assumption)
    | (intro h1; exact absurd (gS _ (cl6 (by assumption))) h1)
    | (unfold vp_in; simp [f0, f3, ft, fp, fw, fh, fd, fs, fr, fra, fdo, fud, fc, frn, mx_uI, mx_up]; done)
    | intro _
set_option maxHeartbeats 2000000 in
theorem fr217 {E : mx_Ev} {d : Nat} {h : mx_H} {Q : Option mx_V → mx_H → Prop} {a1 : Int32} {a2 : Int32} {a3 : Int32} (hM : sp_FM h) (hQ : ∀ r h', r = (-9223372036854775808) → Q (some (.inl (.long r))) h') :
    mx_C E (mx_fn true) (d + 4) 217 [.inr (.inl 105), .inl (.int a1), .inl (.int a2), .inl (.int a3)] h Q := by
  obtain ⟨⟨m1, m12, m16, m24, m25, m51, m56, m65, m71, m74, m79, m83, m88⟩, nE, nW, nH⟩ := hM
  refine sg217_0 ?_
  repeat' first
    | exact hQ _ _ rfl
    | (intro h1; exact absurd h1 (by decide))
    | (intro h1; exfalso; revert h1; simp only [m1, m12, m16, m24, m25, m51, m56, m65, m71, m74, m79, m83, m88]; first | decide | exact sp_e0 | exact sp_e1)
    | (intro h1; exfalso; revert h1; simp [m1, m12, m16, m24, m25, m51, m56, m65, m71, m74, m79, m83, m88, mx_uI, mx_up]; done)
    | refine hx_i ?_
    | refine hx_l ?_
    | refine hx_n ?_
    | refine hx_0 ?_
    | refine fz_isShape (by assumption) ?_
    | refine fz_isBodyM (by assumption) ?_
    | refine sp_ini ?_ ?_
    | refine fz_q sg255_0 ?_ ?_
    | refine fz_q sg300_0 ?_ ?_
    | refine And.intro ?_ ?_
    | exact Or.inl rfl
    | exact Or.inr rfl
    | decide
    | exact vi6 (by assumption)
    | exact vi4 (by assumption)
    | (intro h1; exact absurd (nH _ (cl6 (by assumption))) h1)
    | (unfold vp_in; simp [m1, m12, m16, m24, m25, m51, m56, m65, m71, m74, m79, m83, m88, mx_uI, mx_up]; done)
    | intro _
set_option maxHeartbeats 2000000 in
theorem fc111 {E : mx_Ev} {d : Nat} {h : mx_H} {Q : Option mx_V → mx_H → Prop} {a1 : Int32} {a2 : Int32} {a3 : Int32} (hF : sp_FR h) (hM : sp_FM h) (hQ : ∀ r h', r = (-1) → sp_FM h' → Q (some (.inl (.int r))) h') :
    mx_C E (mx_fn true) (d + 4) 111 [.inr (.inl 0), .inl (.int a1), .inl (.int a2), .inl (.int a3)] h Q := by
  obtain ⟨⟨f0, f3, ft, fp, fw, fh⟩, fd, fs, fr, gE, gT, fra, fdo, fud, fc, frn, gS⟩ := hF
  obtain ⟨⟨m1, m12, m16, m24, m25, m51, m56, m65, m71, m74, m79, m83, m88⟩, nE, nW, nH⟩ := hM
  refine sg111_0 ?_
  repeat' first
    | exact hQ _ _ (by first | rfl | (simp [f0, f3, ft, fp, fw, fh, fd, fs, fr, fra, fdo, fud, fc, frn, mx_uI, mx_up]; done) | exact gE _ (cl4 (by assumption))) (by repeat first | assumption | exact sp_FM_ext (by assumption) ⟨⟨m1, m12, m16, m24, m25, m51, m56, m65, m71, m74, m79, m83, m88⟩, nE, nW, nH⟩ | exact ⟨⟨m1, m12, m16, m24, m25, m51, m56, m65, m71, m74, m79, m83, m88⟩, nE, nW, nH⟩ | refine sp_FM_uI rfl ?_ | refine sp_FM_uL ?_ | refine sp_FM_uR ?_)
    | (intro h1; exact absurd h1 (by decide))
    | (intro h1; exfalso; revert h1; simp only [f0, f3, ft, fp, fw, fh, fd, fs, fr, fra, fdo, fud, fc, frn]; first | decide | exact sp_e0 | exact sp_e1)
    | (intro h1; exfalso; revert h1; simp [f0, f3, ft, fp, fw, fh, fd, fs, fr, fra, fdo, fud, fc, frn, mx_uI, mx_up]; done)
    | refine hx_i ?_
    | refine hx_l ?_
    | refine hx_n ?_
    | refine hx_0 ?_
    | refine fz_shapeAt (by assumption) ?_
    | refine fz_planned (by assumption) ?_
    | refine fz_isBody (by assumption) ?_
    | refine fz_was (by assumption) ?_
    | refine sp_wi ?_ ?_
    | refine fz_p sg159_0 ?_ ?_
    | refine fz_p sg160_0 ?_ ?_
    | refine fz_p sg161_0 ?_ ?_
    | refine fz_p sg162_0 ?_ ?_
    | refine sg164_null ?_
    | refine sg165_null ?_
    | refine And.intro ?_ ?_
    | exact Or.inl rfl
    | exact Or.inr rfl
    | decide
    | exact vi6 (by assumption)
    | exact vi4 (by assumption)
    | (intro h1; exact absurd (gS _ (cl6 (by assumption))) h1)
    | (unfold vp_in; simp [f0, f3, ft, fp, fw, fh, fd, fs, fr, fra, fdo, fud, fc, frn, mx_uI, mx_up]; done)
    | intro _
set_option maxHeartbeats 2000000 in
theorem fr221 {E : mx_Ev} {d : Nat} {h : mx_H} {Q : Option mx_V → mx_H → Prop} {a1 : Int32} {a2 : Int32} {a3 : Int32} (hM : sp_FM h) (hQ : ∀ r h', r = (-1) → Q (some (.inl (.int r))) h') :
    mx_C E (mx_fn true) (d + 4) 221 [.inr (.inl 105), .inl (.int a1), .inl (.int a2), .inl (.int a3)] h Q := by
  obtain ⟨⟨m1, m12, m16, m24, m25, m51, m56, m65, m71, m74, m79, m83, m88⟩, nE, nW, nH⟩ := hM
  refine sg221_0 ?_
  repeat' first
    | exact hQ _ _ (by first | rfl | (simp [m1, m12, m16, m24, m25, m51, m56, m65, m71, m74, m79, m83, m88, mx_uI, mx_up]; done) | exact nE _ (cl4 (by assumption)))
    | (intro h1; exact absurd h1 (by decide))
    | (intro h1; exfalso; revert h1; simp only [m1, m12, m16, m24, m25, m51, m56, m65, m71, m74, m79, m83, m88]; first | decide | exact sp_e0 | exact sp_e1)
    | (intro h1; exfalso; revert h1; simp [m1, m12, m16, m24, m25, m51, m56, m65, m71, m74, m79, m83, m88, mx_uI, mx_up]; done)
    | refine hx_i ?_
    | refine hx_l ?_
    | refine hx_n ?_
    | refine hx_0 ?_
    | refine fz_isShape (by assumption) ?_
    | refine fz_isBodyM (by assumption) ?_
    | refine sp_ini ?_ ?_
    | refine fz_q sg255_0 ?_ ?_
    | refine fz_q sg300_0 ?_ ?_
    | refine And.intro ?_ ?_
    | exact Or.inl rfl
    | exact Or.inr rfl
    | decide
    | exact vi6 (by assumption)
    | exact vi4 (by assumption)
    | (intro h1; exact absurd (nH _ (cl6 (by assumption))) h1)
    | (unfold vp_in; simp [m1, m12, m16, m24, m25, m51, m56, m65, m71, m74, m79, m83, m88, mx_uI, mx_up]; done)
    | intro _
set_option maxHeartbeats 2000000 in
theorem fc112 {E : mx_Ev} {d : Nat} {h : mx_H} {Q : Option mx_V → mx_H → Prop} {a1 : Int32} {a2 : Int32} {a3 : Int32} (hF : sp_FR h) (hM : sp_FM h) (hQ : ∀ r h', r = (-1) → sp_FM h' → Q (some (.inl (.int r))) h') :
    mx_C E (mx_fn true) (d + 4) 112 [.inr (.inl 0), .inl (.int a1), .inl (.int a2), .inl (.int a3)] h Q := by
  obtain ⟨⟨f0, f3, ft, fp, fw, fh⟩, fd, fs, fr, gE, gT, fra, fdo, fud, fc, frn, gS⟩ := hF
  obtain ⟨⟨m1, m12, m16, m24, m25, m51, m56, m65, m71, m74, m79, m83, m88⟩, nE, nW, nH⟩ := hM
  refine sg112_0 ?_
  repeat' first
    | exact hQ _ _ (by first | rfl | (simp [f0, f3, ft, fp, fw, fh, fd, fs, fr, fra, fdo, fud, fc, frn, mx_uI, mx_up]; done) | exact gE _ (cl4 (by assumption))) (by repeat first | assumption | exact sp_FM_ext (by assumption) ⟨⟨m1, m12, m16, m24, m25, m51, m56, m65, m71, m74, m79, m83, m88⟩, nE, nW, nH⟩ | exact ⟨⟨m1, m12, m16, m24, m25, m51, m56, m65, m71, m74, m79, m83, m88⟩, nE, nW, nH⟩ | refine sp_FM_uI rfl ?_ | refine sp_FM_uL ?_ | refine sp_FM_uR ?_)
    | (intro h1; exact absurd h1 (by decide))
    | (intro h1; exfalso; revert h1; simp only [f0, f3, ft, fp, fw, fh, fd, fs, fr, fra, fdo, fud, fc, frn]; first | decide | exact sp_e0 | exact sp_e1)
    | (intro h1; exfalso; revert h1; simp [f0, f3, ft, fp, fw, fh, fd, fs, fr, fra, fdo, fud, fc, frn, mx_uI, mx_up]; done)
    | refine hx_i ?_
    | refine hx_l ?_
    | refine hx_n ?_
    | refine hx_0 ?_
    | refine fz_shapeAt (by assumption) ?_
    | refine fz_planned (by assumption) ?_
    | refine fz_isBody (by assumption) ?_
    | refine fz_was (by assumption) ?_
    | refine sp_wi ?_ ?_
    | refine fz_p sg159_0 ?_ ?_
    | refine fz_p sg160_0 ?_ ?_
    | refine fz_p sg161_0 ?_ ?_
    | refine fz_p sg162_0 ?_ ?_
    | refine sg164_null ?_
    | refine sg165_null ?_
    | refine And.intro ?_ ?_
    | exact Or.inl rfl
    | exact Or.inr rfl
    | decide
    | exact vi6 (by assumption)
    | exact vi4 (by assumption)
    | (intro h1; exact absurd (gS _ (cl6 (by assumption))) h1)
    | (unfold vp_in; simp [f0, f3, ft, fp, fw, fh, fd, fs, fr, fra, fdo, fud, fc, frn, mx_uI, mx_up]; done)
    | intro _
set_option maxHeartbeats 2000000 in
theorem fr222 {E : mx_Ev} {d : Nat} {h : mx_H} {Q : Option mx_V → mx_H → Prop} {a1 : Int32} {a2 : Int32} {a3 : Int32} (hM : sp_FM h) (hQ : ∀ r h', r = (-1) → Q (some (.inl (.int r))) h') :
    mx_C E (mx_fn true) (d + 4) 222 [.inr (.inl 105), .inl (.int a1), .inl (.int a2), .inl (.int a3)] h Q := by
  obtain ⟨⟨m1, m12, m16, m24, m25, m51, m56, m65, m71, m74, m79, m83, m88⟩, nE, nW, nH⟩ := hM
  refine sg222_0 ?_
  repeat' first
    | exact hQ _ _ (by first | rfl | (simp [m1, m12, m16, m24, m25, m51, m56, m65, m71, m74, m79, m83, m88, mx_uI, mx_up]; done) | exact nE _ (cl4 (by assumption)))
    | (intro h1; exact absurd h1 (by decide))
    | (intro h1; exfalso; revert h1; simp only [m1, m12, m16, m24, m25, m51, m56, m65, m71, m74, m79, m83, m88]; first | decide | exact sp_e0 | exact sp_e1)
    | (intro h1; exfalso; revert h1; simp [m1, m12, m16, m24, m25, m51, m56, m65, m71, m74, m79, m83, m88, mx_uI, mx_up]; done)
    | refine hx_i ?_
    | refine hx_l ?_
    | refine hx_n ?_
    | refine hx_0 ?_
    | refine fz_isShape (by assumption) ?_
    | refine fz_isBodyM (by assumption) ?_
    | refine sp_ini ?_ ?_
    | refine fz_q sg255_0 ?_ ?_
    | refine fz_q sg300_0 ?_ ?_
    | refine And.intro ?_ ?_
    | exact Or.inl rfl
    | exact Or.inr rfl
    | decide
    | exact vi6 (by assumption)
    | exact vi4 (by assumption)
    | (intro h1; exact absurd (nH _ (cl6 (by assumption))) h1)
    | (unfold vp_in; simp [m1, m12, m16, m24, m25, m51, m56, m65, m71, m74, m79, m83, m88, mx_uI, mx_up]; done)
    | intro _
set_option maxHeartbeats 2000000 in
theorem fc113 {E : mx_Ev} {d : Nat} {h : mx_H} {Q : Option mx_V → mx_H → Prop} {a1 : Int32} {a2 : Int32} {a3 : Int32} {a4 : Int32} (hF : sp_FR h) (hM : sp_FM h) (hQ : ∀ r h', r = (-1) → sp_FM h' → Q (some (.inl (.int r))) h') :
    mx_C E (mx_fn true) (d + 4) 113 [.inr (.inl 0), .inl (.int a1), .inl (.int a2), .inl (.int a3), .inl (.int a4)] h Q := by
  obtain ⟨⟨f0, f3, ft, fp, fw, fh⟩, fd, fs, fr, gE, gT, fra, fdo, fud, fc, frn, gS⟩ := hF
  obtain ⟨⟨m1, m12, m16, m24, m25, m51, m56, m65, m71, m74, m79, m83, m88⟩, nE, nW, nH⟩ := hM
  refine sg113_0 ?_
  repeat' first
    | exact hQ _ _ (by first | rfl | (simp [f0, f3, ft, fp, fw, fh, fd, fs, fr, fra, fdo, fud, fc, frn, mx_uI, mx_up]; done) | exact gE _ (cl4 (by assumption))) (by repeat first | assumption | exact sp_FM_ext (by assumption) ⟨⟨m1, m12, m16, m24, m25, m51, m56, m65, m71, m74, m79, m83, m88⟩, nE, nW, nH⟩ | exact ⟨⟨m1, m12, m16, m24, m25, m51, m56, m65, m71, m74, m79, m83, m88⟩, nE, nW, nH⟩ | refine sp_FM_uI rfl ?_ | refine sp_FM_uL ?_ | refine sp_FM_uR ?_)
    | (intro h1; exact absurd h1 (by decide))
    | (intro h1; exfalso; revert h1; simp only [f0, f3, ft, fp, fw, fh, fd, fs, fr, fra, fdo, fud, fc, frn]; first | decide | exact sp_e0 | exact sp_e1)
    | (intro h1; exfalso; revert h1; simp [f0, f3, ft, fp, fw, fh, fd, fs, fr, fra, fdo, fud, fc, frn, mx_uI, mx_up]; done)
    | refine hx_i ?_
    | refine hx_l ?_
    | refine hx_n ?_
    | refine hx_0 ?_
    | refine fz_shapeAt (by assumption) ?_
    | refine fz_planned (by assumption) ?_
    | refine fz_isBody (by assumption) ?_
    | refine fz_was (by assumption) ?_
    | refine sp_wi ?_ ?_
    | refine fz_p sg159_0 ?_ ?_
    | refine fz_p sg160_0 ?_ ?_
    | refine fz_p sg161_0 ?_ ?_
    | refine fz_p sg162_0 ?_ ?_
    | refine sg164_null ?_
    | refine sg165_null ?_
    | refine And.intro ?_ ?_
    | exact Or.inl rfl
    | exact Or.inr rfl
    | decide
    | exact vi6 (by assumption)
    | exact vi4 (by assumption)
    | (intro h1; exact absurd (gS _ (cl6 (by assumption))) h1)
    | (unfold vp_in; simp [f0, f3, ft, fp, fw, fh, fd, fs, fr, fra, fdo, fud, fc, frn, mx_uI, mx_up]; done)
    | intro _
set_option maxHeartbeats 2000000 in
theorem fr223 {E : mx_Ev} {d : Nat} {h : mx_H} {Q : Option mx_V → mx_H → Prop} {a1 : Int32} {a2 : Int32} {a3 : Int32} {a4 : Int32} (hM : sp_FM h) (hQ : ∀ r h', r = (-1) → Q (some (.inl (.int r))) h') :
    mx_C E (mx_fn true) (d + 4) 223 [.inr (.inl 105), .inl (.int a1), .inl (.int a2), .inl (.int a3), .inl (.int a4)] h Q := by
  obtain ⟨⟨m1, m12, m16, m24, m25, m51, m56, m65, m71, m74, m79, m83, m88⟩, nE, nW, nH⟩ := hM
  refine sg223_0 ?_
  repeat' first
    | exact hQ _ _ (by first | rfl | (simp [m1, m12, m16, m24, m25, m51, m56, m65, m71, m74, m79, m83, m88, mx_uI, mx_up]; done) | exact nE _ (cl4 (by assumption)))
    | (intro h1; exact absurd h1 (by decide))
    | (intro h1; exfalso; revert h1; simp only [m1, m12, m16, m24, m25, m51, m56, m65, m71, m74, m79, m83, m88]; first | decide | exact sp_e0 | exact sp_e1)
    | (intro h1; exfalso; revert h1; simp [m1, m12, m16, m24, m25, m51, m56, m65, m71, m74, m79, m83, m88, mx_uI, mx_up]; done)
    | refine hx_i ?_
    | refine hx_l ?_
    | refine hx_n ?_
    | refine hx_0 ?_
    | refine fz_isShape (by assumption) ?_
    | refine fz_isBodyM (by assumption) ?_
    | refine sp_ini ?_ ?_
    | refine fz_q sg255_0 ?_ ?_
    | refine fz_q sg300_0 ?_ ?_
    | refine And.intro ?_ ?_
    | exact Or.inl rfl
    | exact Or.inr rfl
    | decide
    | exact vi6 (by assumption)
    | exact vi4 (by assumption)
    | (intro h1; exact absurd (nH _ (cl6 (by assumption))) h1)
    | (unfold vp_in; simp [m1, m12, m16, m24, m25, m51, m56, m65, m71, m74, m79, m83, m88, mx_uI, mx_up]; done)
    | intro _
set_option maxHeartbeats 2000000 in
theorem fc114 {E : mx_Ev} {d : Nat} {h : mx_H} {Q : Option mx_V → mx_H → Prop} {a1 : Int32} {a2 : Int32} {a3 : Int32} {a4 : Int32} {a5 : Int32} (hF : sp_FR h) (hM : sp_FM h) (hQ : ∀ r h', r = (-1) → sp_FM h' → Q (some (.inl (.int r))) h') :
    mx_C E (mx_fn true) (d + 4) 114 [.inr (.inl 0), .inl (.int a1), .inl (.int a2), .inl (.int a3), .inl (.int a4), .inl (.int a5)] h Q := by
  obtain ⟨⟨f0, f3, ft, fp, fw, fh⟩, fd, fs, fr, gE, gT, fra, fdo, fud, fc, frn, gS⟩ := hF
  obtain ⟨⟨m1, m12, m16, m24, m25, m51, m56, m65, m71, m74, m79, m83, m88⟩, nE, nW, nH⟩ := hM
  refine sg114_0 ?_
  repeat' first
    | exact hQ _ _ (by first | rfl | (simp [f0, f3, ft, fp, fw, fh, fd, fs, fr, fra, fdo, fud, fc, frn, mx_uI, mx_up]; done) | exact gE _ (cl4 (by assumption))) (by repeat first | assumption | exact sp_FM_ext (by assumption) ⟨⟨m1, m12, m16, m24, m25, m51, m56, m65, m71, m74, m79, m83, m88⟩, nE, nW, nH⟩ | exact ⟨⟨m1, m12, m16, m24, m25, m51, m56, m65, m71, m74, m79, m83, m88⟩, nE, nW, nH⟩ | refine sp_FM_uI rfl ?_ | refine sp_FM_uL ?_ | refine sp_FM_uR ?_)
    | (intro h1; exact absurd h1 (by decide))
    | (intro h1; exfalso; revert h1; simp only [f0, f3, ft, fp, fw, fh, fd, fs, fr, fra, fdo, fud, fc, frn]; first | decide | exact sp_e0 | exact sp_e1)
    | (intro h1; exfalso; revert h1; simp [f0, f3, ft, fp, fw, fh, fd, fs, fr, fra, fdo, fud, fc, frn, mx_uI, mx_up]; done)
    | refine hx_i ?_
    | refine hx_l ?_
    | refine hx_n ?_
    | refine hx_0 ?_
    | refine fz_shapeAt (by assumption) ?_
    | refine fz_planned (by assumption) ?_
    | refine fz_isBody (by assumption) ?_
    | refine fz_was (by assumption) ?_
    | refine sp_wi ?_ ?_
    | refine fz_p sg159_0 ?_ ?_
    | refine fz_p sg160_0 ?_ ?_
    | refine fz_p sg161_0 ?_ ?_
    | refine fz_p sg162_0 ?_ ?_
    | refine sg164_null ?_
    | refine sg165_null ?_
    | refine And.intro ?_ ?_
    | exact Or.inl rfl
    | exact Or.inr rfl
    | decide
    | exact vi6 (by assumption)
    | exact vi4 (by assumption)
    | (intro h1; exact absurd (gS _ (cl6 (by assumption))) h1)
    | (unfold vp_in; simp [f0, f3, ft, fp, fw, fh, fd, fs, fr, fra, fdo, fud, fc, frn, mx_uI, mx_up]; done)
    | intro _
set_option maxHeartbeats 2000000 in
theorem fr224 {E : mx_Ev} {d : Nat} {h : mx_H} {Q : Option mx_V → mx_H → Prop} {a1 : Int32} {a2 : Int32} {a3 : Int32} {a4 : Int32} {a5 : Int32} (hM : sp_FM h) (hQ : ∀ r h', r = (-1) → Q (some (.inl (.int r))) h') :
    mx_C E (mx_fn true) (d + 4) 224 [.inr (.inl 105), .inl (.int a1), .inl (.int a2), .inl (.int a3), .inl (.int a4), .inl (.int a5)] h Q := by
  obtain ⟨⟨m1, m12, m16, m24, m25, m51, m56, m65, m71, m74, m79, m83, m88⟩, nE, nW, nH⟩ := hM
  refine sg224_0 ?_
  repeat' first
    | exact hQ _ _ (by first | rfl | (simp [m1, m12, m16, m24, m25, m51, m56, m65, m71, m74, m79, m83, m88, mx_uI, mx_up]; done) | exact nE _ (cl4 (by assumption)))
    | (intro h1; exact absurd h1 (by decide))
    | (intro h1; exfalso; revert h1; simp only [m1, m12, m16, m24, m25, m51, m56, m65, m71, m74, m79, m83, m88]; first | decide | exact sp_e0 | exact sp_e1)
    | (intro h1; exfalso; revert h1; simp [m1, m12, m16, m24, m25, m51, m56, m65, m71, m74, m79, m83, m88, mx_uI, mx_up]; done)
    | refine hx_i ?_
    | refine hx_l ?_
    | refine hx_n ?_
    | refine hx_0 ?_
    | refine fz_isShape (by assumption) ?_
    | refine fz_isBodyM (by assumption) ?_
    | refine sp_ini ?_ ?_
    | refine fz_q sg255_0 ?_ ?_
    | refine fz_q sg300_0 ?_ ?_
    | refine And.intro ?_ ?_
    | exact Or.inl rfl
    | exact Or.inr rfl
    | decide
    | exact vi6 (by assumption)
    | exact vi4 (by assumption)
    | (intro h1; exact absurd (nH _ (cl6 (by assumption))) h1)
    | (unfold vp_in; simp [m1, m12, m16, m24, m25, m51, m56, m65, m71, m74, m79, m83, m88, mx_uI, mx_up]; done)
    | intro _
set_option maxHeartbeats 2000000 in
theorem fc115 {E : mx_Ev} {d : Nat} {h : mx_H} {Q : Option mx_V → mx_H → Prop} {a1 : Int32} {a2 : Int32} {a3 : Int32} {a4 : Int32} (hF : sp_FR h) (hM : sp_FM h) (hQ : ∀ r h', r = (-1) → sp_FM h' → Q (some (.inl (.int r))) h') :
    mx_C E (mx_fn true) (d + 4) 115 [.inr (.inl 0), .inl (.int a1), .inl (.int a2), .inl (.int a3), .inl (.int a4)] h Q := by
  obtain ⟨⟨f0, f3, ft, fp, fw, fh⟩, fd, fs, fr, gE, gT, fra, fdo, fud, fc, frn, gS⟩ := hF
  obtain ⟨⟨m1, m12, m16, m24, m25, m51, m56, m65, m71, m74, m79, m83, m88⟩, nE, nW, nH⟩ := hM
  refine sg115_0 ?_
  repeat' first
    | exact hQ _ _ (by first | rfl | (simp [f0, f3, ft, fp, fw, fh, fd, fs, fr, fra, fdo, fud, fc, frn, mx_uI, mx_up]; done) | exact gE _ (cl4 (by assumption))) (by repeat first | assumption | exact sp_FM_ext (by assumption) ⟨⟨m1, m12, m16, m24, m25, m51, m56, m65, m71, m74, m79, m83, m88⟩, nE, nW, nH⟩ | exact ⟨⟨m1, m12, m16, m24, m25, m51, m56, m65, m71, m74, m79, m83, m88⟩, nE, nW, nH⟩ | refine sp_FM_uI rfl ?_ | refine sp_FM_uL ?_ | refine sp_FM_uR ?_)
    | (intro h1; exact absurd h1 (by decide))
    | (intro h1; exfalso; revert h1; simp only [f0, f3, ft, fp, fw, fh, fd, fs, fr, fra, fdo, fud, fc, frn]; first | decide | exact sp_e0 | exact sp_e1)
    | (intro h1; exfalso; revert h1; simp [f0, f3, ft, fp, fw, fh, fd, fs, fr, fra, fdo, fud, fc, frn, mx_uI, mx_up]; done)
    | refine hx_i ?_
    | refine hx_l ?_
    | refine hx_n ?_
    | refine hx_0 ?_
    | refine fz_shapeAt (by assumption) ?_
    | refine fz_planned (by assumption) ?_
    | refine fz_isBody (by assumption) ?_
    | refine fz_was (by assumption) ?_
    | refine sp_wi ?_ ?_
    | refine fz_p sg159_0 ?_ ?_
    | refine fz_p sg160_0 ?_ ?_
    | refine fz_p sg161_0 ?_ ?_
    | refine fz_p sg162_0 ?_ ?_
    | refine sg164_null ?_
    | refine sg165_null ?_
    | refine And.intro ?_ ?_
    | exact Or.inl rfl
    | exact Or.inr rfl
    | decide
    | exact vi6 (by assumption)
    | exact vi4 (by assumption)
    | (intro h1; exact absurd (gS _ (cl6 (by assumption))) h1)
    | (unfold vp_in; simp [f0, f3, ft, fp, fw, fh, fd, fs, fr, fra, fdo, fud, fc, frn, mx_uI, mx_up]; done)
    | intro _
set_option maxHeartbeats 2000000 in
theorem fr226 {E : mx_Ev} {d : Nat} {h : mx_H} {Q : Option mx_V → mx_H → Prop} {a1 : Int32} {a2 : Int32} {a3 : Int32} {a4 : Int32} (hM : sp_FM h) (hQ : ∀ r h', r = (-1) → Q (some (.inl (.int r))) h') :
    mx_C E (mx_fn true) (d + 4) 226 [.inr (.inl 105), .inl (.int a1), .inl (.int a2), .inl (.int a3), .inl (.int a4)] h Q := by
  obtain ⟨⟨m1, m12, m16, m24, m25, m51, m56, m65, m71, m74, m79, m83, m88⟩, nE, nW, nH⟩ := hM
  refine sg226_0 ?_
  repeat' first
    | exact hQ _ _ (by first | rfl | (simp [m1, m12, m16, m24, m25, m51, m56, m65, m71, m74, m79, m83, m88, mx_uI, mx_up]; done) | exact nE _ (cl4 (by assumption)))
    | (intro h1; exact absurd h1 (by decide))
    | (intro h1; exfalso; revert h1; simp only [m1, m12, m16, m24, m25, m51, m56, m65, m71, m74, m79, m83, m88]; first | decide | exact sp_e0 | exact sp_e1)
    | (intro h1; exfalso; revert h1; simp [m1, m12, m16, m24, m25, m51, m56, m65, m71, m74, m79, m83, m88, mx_uI, mx_up]; done)
    | refine hx_i ?_
    | refine hx_l ?_
    | refine hx_n ?_
    | refine hx_0 ?_
    | refine fz_isShape (by assumption) ?_
    | refine fz_isBodyM (by assumption) ?_
    | refine sp_ini ?_ ?_
    | refine fz_q sg255_0 ?_ ?_
    | refine fz_q sg300_0 ?_ ?_
    | refine And.intro ?_ ?_
    | exact Or.inl rfl
    | exact Or.inr rfl
    | decide
    | exact vi6 (by assumption)
    | exact vi4 (by assumption)
    | (intro h1; exact absurd (nH _ (cl6 (by assumption))) h1)
    | (unfold vp_in; simp [m1, m12, m16, m24, m25, m51, m56, m65, m71, m74, m79, m83, m88, mx_uI, mx_up]; done)
    | intro _
set_option maxHeartbeats 2000000 in
theorem fc116 {E : mx_Ev} {d : Nat} {h : mx_H} {Q : Option mx_V → mx_H → Prop} {a1 : Int32} (hF : sp_FR h) (hM : sp_FM h) (hQ : ∀ r h', r = (-1) → sp_FM h' → Q (some (.inl (.int r))) h') :
    mx_C E (mx_fn true) (d + 4) 116 [.inr (.inl 0), .inl (.int a1)] h Q := by
  obtain ⟨⟨f0, f3, ft, fp, fw, fh⟩, fd, fs, fr, gE, gT, fra, fdo, fud, fc, frn, gS⟩ := hF
  obtain ⟨⟨m1, m12, m16, m24, m25, m51, m56, m65, m71, m74, m79, m83, m88⟩, nE, nW, nH⟩ := hM
  refine sg116_0 ?_
  repeat' first
    | exact hQ _ _ (by first | rfl | (simp [f0, f3, ft, fp, fw, fh, fd, fs, fr, fra, fdo, fud, fc, frn, mx_uI, mx_up]; done) | exact gE _ (cl4 (by assumption))) (by repeat first | assumption | exact sp_FM_ext (by assumption) ⟨⟨m1, m12, m16, m24, m25, m51, m56, m65, m71, m74, m79, m83, m88⟩, nE, nW, nH⟩ | exact ⟨⟨m1, m12, m16, m24, m25, m51, m56, m65, m71, m74, m79, m83, m88⟩, nE, nW, nH⟩ | refine sp_FM_uI rfl ?_ | refine sp_FM_uL ?_ | refine sp_FM_uR ?_)
    | (intro h1; exact absurd h1 (by decide))
    | (intro h1; exfalso; revert h1; simp only [f0, f3, ft, fp, fw, fh, fd, fs, fr, fra, fdo, fud, fc, frn]; first | decide | exact sp_e0 | exact sp_e1)
    | (intro h1; exfalso; revert h1; simp [f0, f3, ft, fp, fw, fh, fd, fs, fr, fra, fdo, fud, fc, frn, mx_uI, mx_up]; done)
    | refine hx_i ?_
    | refine hx_l ?_
    | refine hx_n ?_
    | refine hx_0 ?_
    | refine fz_shapeAt (by assumption) ?_
    | refine fz_planned (by assumption) ?_
    | refine fz_isBody (by assumption) ?_
    | refine fz_was (by assumption) ?_
    | refine sp_wi ?_ ?_
    | refine fz_p sg159_0 ?_ ?_
    | refine fz_p sg160_0 ?_ ?_
    | refine fz_p sg161_0 ?_ ?_
    | refine fz_p sg162_0 ?_ ?_
    | refine sg164_null ?_
    | refine sg165_null ?_
    | refine And.intro ?_ ?_
    | exact Or.inl rfl
    | exact Or.inr rfl
    | decide
    | exact vi6 (by assumption)
    | exact vi4 (by assumption)
    | (intro h1; exact absurd (gS _ (cl6 (by assumption))) h1)
    | (unfold vp_in; simp [f0, f3, ft, fp, fw, fh, fd, fs, fr, fra, fdo, fud, fc, frn, mx_uI, mx_up]; done)
    | intro _
set_option maxHeartbeats 2000000 in
theorem fr231 {E : mx_Ev} {d : Nat} {h : mx_H} {Q : Option mx_V → mx_H → Prop} {a1 : Int32} (hM : sp_FM h) (hQ : ∀ r h', r = (-1) → Q (some (.inl (.int r))) h') :
    mx_C E (mx_fn true) (d + 4) 231 [.inr (.inl 105), .inl (.int a1)] h Q := by
  obtain ⟨⟨m1, m12, m16, m24, m25, m51, m56, m65, m71, m74, m79, m83, m88⟩, nE, nW, nH⟩ := hM
  refine sg231_0 ?_
  repeat' first
    | exact hQ _ _ (by first | rfl | (simp [m1, m12, m16, m24, m25, m51, m56, m65, m71, m74, m79, m83, m88, mx_uI, mx_up]; done) | exact nE _ (cl4 (by assumption)))
    | (intro h1; exact absurd h1 (by decide))
    | (intro h1; exfalso; revert h1; simp only [m1, m12, m16, m24, m25, m51, m56, m65, m71, m74, m79, m83, m88]; first | decide | exact sp_e0 | exact sp_e1)
    | (intro h1; exfalso; revert h1; simp [m1, m12, m16, m24, m25, m51, m56, m65, m71, m74, m79, m83, m88, mx_uI, mx_up]; done)
    | refine hx_i ?_
    | refine hx_l ?_
    | refine hx_n ?_
    | refine hx_0 ?_
    | refine fz_isShape (by assumption) ?_
    | refine fz_isBodyM (by assumption) ?_
    | refine sp_ini ?_ ?_
    | refine fz_q sg255_0 ?_ ?_
    | refine fz_q sg300_0 ?_ ?_
    | refine And.intro ?_ ?_
    | exact Or.inl rfl
    | exact Or.inr rfl
    | decide
    | exact vi6 (by assumption)
    | exact vi4 (by assumption)
    | (intro h1; exact absurd (nH _ (cl6 (by assumption))) h1)
    | (unfold vp_in; simp [m1, m12, m16, m24, m25, m51, m56, m65, m71, m74, m79, m83, m88, mx_uI, mx_up]; done)
    | intro _
set_option maxHeartbeats 2000000 in
theorem fc117 {E : mx_Ev} {d : Nat} {h : mx_H} {Q : Option mx_V → mx_H → Prop} {a1 : Int32} {a2 : Int32} (hF : sp_FR h) (hM : sp_FM h) (hQ : ∀ r h', r = (-1) → sp_FM h' → Q (some (.inl (.int r))) h') :
    mx_C E (mx_fn true) (d + 4) 117 [.inr (.inl 0), .inl (.int a1), .inl (.int a2)] h Q := by
  obtain ⟨⟨f0, f3, ft, fp, fw, fh⟩, fd, fs, fr, gE, gT, fra, fdo, fud, fc, frn, gS⟩ := hF
  obtain ⟨⟨m1, m12, m16, m24, m25, m51, m56, m65, m71, m74, m79, m83, m88⟩, nE, nW, nH⟩ := hM
  refine sg117_0 ?_
  repeat' first
    | exact hQ _ _ (by first | rfl | (simp [f0, f3, ft, fp, fw, fh, fd, fs, fr, fra, fdo, fud, fc, frn, mx_uI, mx_up]; done) | exact gE _ (cl4 (by assumption))) (by repeat first | assumption | exact sp_FM_ext (by assumption) ⟨⟨m1, m12, m16, m24, m25, m51, m56, m65, m71, m74, m79, m83, m88⟩, nE, nW, nH⟩ | exact ⟨⟨m1, m12, m16, m24, m25, m51, m56, m65, m71, m74, m79, m83, m88⟩, nE, nW, nH⟩ | refine sp_FM_uI rfl ?_ | refine sp_FM_uL ?_ | refine sp_FM_uR ?_)
    | (intro h1; exact absurd h1 (by decide))
    | (intro h1; exfalso; revert h1; simp only [f0, f3, ft, fp, fw, fh, fd, fs, fr, fra, fdo, fud, fc, frn]; first | decide | exact sp_e0 | exact sp_e1)
    | (intro h1; exfalso; revert h1; simp [f0, f3, ft, fp, fw, fh, fd, fs, fr, fra, fdo, fud, fc, frn, mx_uI, mx_up]; done)
    | refine hx_i ?_
    | refine hx_l ?_
    | refine hx_n ?_
    | refine hx_0 ?_
    | refine fz_shapeAt (by assumption) ?_
    | refine fz_planned (by assumption) ?_
    | refine fz_isBody (by assumption) ?_
    | refine fz_was (by assumption) ?_
    | refine sp_wi ?_ ?_
    | refine fz_p sg159_0 ?_ ?_
    | refine fz_p sg160_0 ?_ ?_
    | refine fz_p sg161_0 ?_ ?_
    | refine fz_p sg162_0 ?_ ?_
    | refine sg164_null ?_
    | refine sg165_null ?_
    | refine And.intro ?_ ?_
    | exact Or.inl rfl
    | exact Or.inr rfl
    | decide
    | exact vi6 (by assumption)
    | exact vi4 (by assumption)
    | (intro h1; exact absurd (gS _ (cl6 (by assumption))) h1)
    | (unfold vp_in; simp [f0, f3, ft, fp, fw, fh, fd, fs, fr, fra, fdo, fud, fc, frn, mx_uI, mx_up]; done)
    | intro _
set_option maxHeartbeats 2000000 in
theorem fr232 {E : mx_Ev} {d : Nat} {h : mx_H} {Q : Option mx_V → mx_H → Prop} {a1 : Int32} {a2 : Int32} (hM : sp_FM h) (hQ : ∀ r h', r = (-1) → Q (some (.inl (.int r))) h') :
    mx_C E (mx_fn true) (d + 4) 232 [.inr (.inl 105), .inl (.int a1), .inl (.int a2)] h Q := by
  obtain ⟨⟨m1, m12, m16, m24, m25, m51, m56, m65, m71, m74, m79, m83, m88⟩, nE, nW, nH⟩ := hM
  refine sg232_0 ?_
  repeat' first
    | exact hQ _ _ (by first | rfl | (simp [m1, m12, m16, m24, m25, m51, m56, m65, m71, m74, m79, m83, m88, mx_uI, mx_up]; done) | exact nE _ (cl4 (by assumption)))
    | (intro h1; exact absurd h1 (by decide))
    | (intro h1; exfalso; revert h1; simp only [m1, m12, m16, m24, m25, m51, m56, m65, m71, m74, m79, m83, m88]; first | decide | exact sp_e0 | exact sp_e1)
    | (intro h1; exfalso; revert h1; simp [m1, m12, m16, m24, m25, m51, m56, m65, m71, m74, m79, m83, m88, mx_uI, mx_up]; done)
    | refine hx_i ?_
    | refine hx_l ?_
    | refine hx_n ?_
    | refine hx_0 ?_
    | refine fz_isShape (by assumption) ?_
    | refine fz_isBodyM (by assumption) ?_
    | refine sp_ini ?_ ?_
    | refine fz_q sg255_0 ?_ ?_
    | refine fz_q sg300_0 ?_ ?_
    | refine And.intro ?_ ?_
    | exact Or.inl rfl
    | exact Or.inr rfl
    | decide
    | exact vi6 (by assumption)
    | exact vi4 (by assumption)
    | (intro h1; exact absurd (nH _ (cl6 (by assumption))) h1)
    | (unfold vp_in; simp [m1, m12, m16, m24, m25, m51, m56, m65, m71, m74, m79, m83, m88, mx_uI, mx_up]; done)
    | intro _
set_option maxHeartbeats 2000000 in
theorem fc118 {E : mx_Ev} {d : Nat} {h : mx_H} {Q : Option mx_V → mx_H → Prop} {a1 : Int32} {a2 : Int32} (hF : sp_FR h) (hM : sp_FM h) (hQ : ∀ r h', r = (-1) → sp_FM h' → Q (some (.inl (.int r))) h') :
    mx_C E (mx_fn true) (d + 4) 118 [.inr (.inl 0), .inl (.int a1), .inl (.int a2)] h Q := by
  obtain ⟨⟨f0, f3, ft, fp, fw, fh⟩, fd, fs, fr, gE, gT, fra, fdo, fud, fc, frn, gS⟩ := hF
  obtain ⟨⟨m1, m12, m16, m24, m25, m51, m56, m65, m71, m74, m79, m83, m88⟩, nE, nW, nH⟩ := hM
  refine sg118_0 ?_
  repeat' first
    | exact hQ _ _ (by first | rfl | (simp [f0, f3, ft, fp, fw, fh, fd, fs, fr, fra, fdo, fud, fc, frn, mx_uI, mx_up]; done) | exact gE _ (cl4 (by assumption))) (by repeat first | assumption | exact sp_FM_ext (by assumption) ⟨⟨m1, m12, m16, m24, m25, m51, m56, m65, m71, m74, m79, m83, m88⟩, nE, nW, nH⟩ | exact ⟨⟨m1, m12, m16, m24, m25, m51, m56, m65, m71, m74, m79, m83, m88⟩, nE, nW, nH⟩ | refine sp_FM_uI rfl ?_ | refine sp_FM_uL ?_ | refine sp_FM_uR ?_)
    | (intro h1; exact absurd h1 (by decide))
    | (intro h1; exfalso; revert h1; simp only [f0, f3, ft, fp, fw, fh, fd, fs, fr, fra, fdo, fud, fc, frn]; first | decide | exact sp_e0 | exact sp_e1)
    | (intro h1; exfalso; revert h1; simp [f0, f3, ft, fp, fw, fh, fd, fs, fr, fra, fdo, fud, fc, frn, mx_uI, mx_up]; done)
    | refine hx_i ?_
    | refine hx_l ?_
    | refine hx_n ?_
    | refine hx_0 ?_
    | refine fz_shapeAt (by assumption) ?_
    | refine fz_planned (by assumption) ?_
    | refine fz_isBody (by assumption) ?_
    | refine fz_was (by assumption) ?_
    | refine sp_wi ?_ ?_
    | refine fz_p sg159_0 ?_ ?_
    | refine fz_p sg160_0 ?_ ?_
    | refine fz_p sg161_0 ?_ ?_
    | refine fz_p sg162_0 ?_ ?_
    | refine sg164_null ?_
    | refine sg165_null ?_
    | refine And.intro ?_ ?_
    | exact Or.inl rfl
    | exact Or.inr rfl
    | decide
    | exact vi6 (by assumption)
    | exact vi4 (by assumption)
    | (intro h1; exact absurd (gS _ (cl6 (by assumption))) h1)
    | (unfold vp_in; simp [f0, f3, ft, fp, fw, fh, fd, fs, fr, fra, fdo, fud, fc, frn, mx_uI, mx_up]; done)
    | intro _
set_option maxHeartbeats 2000000 in
theorem fr234 {E : mx_Ev} {d : Nat} {h : mx_H} {Q : Option mx_V → mx_H → Prop} {a1 : Int32} {a2 : Int32} (hM : sp_FM h) (hQ : ∀ r h', r = (-1) → Q (some (.inl (.int r))) h') :
    mx_C E (mx_fn true) (d + 4) 234 [.inr (.inl 105), .inl (.int a1), .inl (.int a2)] h Q := by
  obtain ⟨⟨m1, m12, m16, m24, m25, m51, m56, m65, m71, m74, m79, m83, m88⟩, nE, nW, nH⟩ := hM
  refine sg234_0 ?_
  repeat' first
    | exact hQ _ _ (by first | rfl | (simp [m1, m12, m16, m24, m25, m51, m56, m65, m71, m74, m79, m83, m88, mx_uI, mx_up]; done) | exact nE _ (cl4 (by assumption)))
    | (intro h1; exact absurd h1 (by decide))
    | (intro h1; exfalso; revert h1; simp only [m1, m12, m16, m24, m25, m51, m56, m65, m71, m74, m79, m83, m88]; first | decide | exact sp_e0 | exact sp_e1)
    | (intro h1; exfalso; revert h1; simp [m1, m12, m16, m24, m25, m51, m56, m65, m71, m74, m79, m83, m88, mx_uI, mx_up]; done)
    | refine hx_i ?_
    | refine hx_l ?_
    | refine hx_n ?_
    | refine hx_0 ?_
    | refine fz_isShape (by assumption) ?_
    | refine fz_isBodyM (by assumption) ?_
    | refine sp_ini ?_ ?_
    | refine fz_q sg255_0 ?_ ?_
    | refine fz_q sg300_0 ?_ ?_
    | refine And.intro ?_ ?_
    | exact Or.inl rfl
    | exact Or.inr rfl
    | decide
    | exact vi6 (by assumption)
    | exact vi4 (by assumption)
    | (intro h1; exact absurd (nH _ (cl6 (by assumption))) h1)
    | (unfold vp_in; simp [m1, m12, m16, m24, m25, m51, m56, m65, m71, m74, m79, m83, m88, mx_uI, mx_up]; done)
    | intro _
set_option maxHeartbeats 2000000 in
theorem fc119 {E : mx_Ev} {d : Nat} {h : mx_H} {Q : Option mx_V → mx_H → Prop} {a1 : Int32} {a2 : Int32} {a3 : Int32} (hF : sp_FR h) (hM : sp_FM h) (hQ : ∀ r h', r = (-1) → sp_FM h' → Q (some (.inl (.int r))) h') :
    mx_C E (mx_fn true) (d + 4) 119 [.inr (.inl 0), .inl (.int a1), .inl (.int a2), .inl (.int a3)] h Q := by
  obtain ⟨⟨f0, f3, ft, fp, fw, fh⟩, fd, fs, fr, gE, gT, fra, fdo, fud, fc, frn, gS⟩ := hF
  obtain ⟨⟨m1, m12, m16, m24, m25, m51, m56, m65, m71, m74, m79, m83, m88⟩, nE, nW, nH⟩ := hM
  refine sg119_0 ?_
  repeat' first
    | exact hQ _ _ (by first | rfl | (simp [f0, f3, ft, fp, fw, fh, fd, fs, fr, fra, fdo, fud, fc, frn, mx_uI, mx_up]; done) | exact gE _ (cl4 (by assumption))) (by repeat first | assumption | exact sp_FM_ext (by assumption) ⟨⟨m1, m12, m16, m24, m25, m51, m56, m65, m71, m74, m79, m83, m88⟩, nE, nW, nH⟩ | exact ⟨⟨m1, m12, m16, m24, m25, m51, m56, m65, m71, m74, m79, m83, m88⟩, nE, nW, nH⟩ | refine sp_FM_uI rfl ?_ | refine sp_FM_uL ?_ | refine sp_FM_uR ?_)
    | (intro h1; exact absurd h1 (by decide))
    | (intro h1; exfalso; revert h1; simp only [f0, f3, ft, fp, fw, fh, fd, fs, fr, fra, fdo, fud, fc, frn]; first | decide | exact sp_e0 | exact sp_e1)
    | (intro h1; exfalso; revert h1; simp [f0, f3, ft, fp, fw, fh, fd, fs, fr, fra, fdo, fud, fc, frn, mx_uI, mx_up]; done)
    | refine hx_i ?_
    | refine hx_l ?_
    | refine hx_n ?_
    | refine hx_0 ?_
    | refine fz_shapeAt (by assumption) ?_
    | refine fz_planned (by assumption) ?_
    | refine fz_isBody (by assumption) ?_
    | refine fz_was (by assumption) ?_
    | refine sp_wi ?_ ?_
    | refine fz_p sg159_0 ?_ ?_
    | refine fz_p sg160_0 ?_ ?_
    | refine fz_p sg161_0 ?_ ?_
    | refine fz_p sg162_0 ?_ ?_
    | refine sg164_null ?_
    | refine sg165_null ?_
    | refine And.intro ?_ ?_
    | exact Or.inl rfl
    | exact Or.inr rfl
    | decide
    | exact vi6 (by assumption)
    | exact vi4 (by assumption)
    | (intro h1; exact absurd (gS _ (cl6 (by assumption))) h1)
    | (unfold vp_in; simp [f0, f3, ft, fp, fw, fh, fd, fs, fr, fra, fdo, fud, fc, frn, mx_uI, mx_up]; done)
    | intro _
set_option maxHeartbeats 2000000 in
theorem fr238 {E : mx_Ev} {d : Nat} {h : mx_H} {Q : Option mx_V → mx_H → Prop} {a1 : Int32} {a2 : Int32} {a3 : Int32} (hM : sp_FM h) (hQ : ∀ r h', r = (-1) → Q (some (.inl (.int r))) h') :
    mx_C E (mx_fn true) (d + 4) 238 [.inr (.inl 105), .inl (.int a1), .inl (.int a2), .inl (.int a3)] h Q := by
  obtain ⟨⟨m1, m12, m16, m24, m25, m51, m56, m65, m71, m74, m79, m83, m88⟩, nE, nW, nH⟩ := hM
  refine sg238_0 ?_
  repeat' first
    | exact hQ _ _ (by first | rfl | (simp [m1, m12, m16, m24, m25, m51, m56, m65, m71, m74, m79, m83, m88, mx_uI, mx_up]; done) | exact nE _ (cl4 (by assumption)))
    | (intro h1; exact absurd h1 (by decide))
    | (intro h1; exfalso; revert h1; simp only [m1, m12, m16, m24, m25, m51, m56, m65, m71, m74, m79, m83, m88]; first | decide | exact sp_e0 | exact sp_e1)
    | (intro h1; exfalso; revert h1; simp [m1, m12, m16, m24, m25, m51, m56, m65, m71, m74, m79, m83, m88, mx_uI, mx_up]; done)
    | refine hx_i ?_
    | refine hx_l ?_
    | refine hx_n ?_
    | refine hx_0 ?_
    | refine fz_isShape (by assumption) ?_
    | refine fz_isBodyM (by assumption) ?_
    | refine sp_ini ?_ ?_
    | refine fz_q sg255_0 ?_ ?_
    | refine fz_q sg300_0 ?_ ?_
    | refine And.intro ?_ ?_
    | exact Or.inl rfl
    | exact Or.inr rfl
    | decide
    | exact vi6 (by assumption)
    | exact vi4 (by assumption)
    | (intro h1; exact absurd (nH _ (cl6 (by assumption))) h1)
    | (unfold vp_in; simp [m1, m12, m16, m24, m25, m51, m56, m65, m71, m74, m79, m83, m88, mx_uI, mx_up]; done)
    | intro _
set_option maxHeartbeats 2000000 in
theorem fc120 {E : mx_Ev} {d : Nat} {h : mx_H} {Q : Option mx_V → mx_H → Prop} {a1 : Int32} {a2 : Int32} {a3 : Int32} {a4 : Int32} (hF : sp_FR h) (hM : sp_FM h) (hQ : ∀ r h', r = (-1) → sp_FM h' → Q (some (.inl (.int r))) h') :
    mx_C E (mx_fn true) (d + 4) 120 [.inr (.inl 0), .inl (.int a1), .inl (.int a2), .inl (.int a3), .inl (.int a4)] h Q := by
  obtain ⟨⟨f0, f3, ft, fp, fw, fh⟩, fd, fs, fr, gE, gT, fra, fdo, fud, fc, frn, gS⟩ := hF
  obtain ⟨⟨m1, m12, m16, m24, m25, m51, m56, m65, m71, m74, m79, m83, m88⟩, nE, nW, nH⟩ := hM
  refine sg120_0 ?_
  repeat' first
    | exact hQ _ _ (by first | rfl | (simp [f0, f3, ft, fp, fw, fh, fd, fs, fr, fra, fdo, fud, fc, frn, mx_uI, mx_up]; done) | exact gE _ (cl4 (by assumption))) (by repeat first | assumption | exact sp_FM_ext (by assumption) ⟨⟨m1, m12, m16, m24, m25, m51, m56, m65, m71, m74, m79, m83, m88⟩, nE, nW, nH⟩ | exact ⟨⟨m1, m12, m16, m24, m25, m51, m56, m65, m71, m74, m79, m83, m88⟩, nE, nW, nH⟩ | refine sp_FM_uI rfl ?_ | refine sp_FM_uL ?_ | refine sp_FM_uR ?_)
    | (intro h1; exact absurd h1 (by decide))
    | (intro h1; exfalso; revert h1; simp only [f0, f3, ft, fp, fw, fh, fd, fs, fr, fra, fdo, fud, fc, frn]; first | decide | exact sp_e0 | exact sp_e1)
    | (intro h1; exfalso; revert h1; simp [f0, f3, ft, fp, fw, fh, fd, fs, fr, fra, fdo, fud, fc, frn, mx_uI, mx_up]; done)
    | refine hx_i ?_
    | refine hx_l ?_
    | refine hx_n ?_
    | refine hx_0 ?_
    | refine fz_shapeAt (by assumption) ?_
    | refine fz_planned (by assumption) ?_
    | refine fz_isBody (by assumption) ?_
    | refine fz_was (by assumption) ?_
    | refine sp_wi ?_ ?_
    | refine fz_p sg159_0 ?_ ?_
    | refine fz_p sg160_0 ?_ ?_
    | refine fz_p sg161_0 ?_ ?_
    | refine fz_p sg162_0 ?_ ?_
    | refine sg164_null ?_
    | refine sg165_null ?_
    | refine And.intro ?_ ?_
    | exact Or.inl rfl
    | exact Or.inr rfl
    | decide
    | exact vi6 (by assumption)
    | exact vi4 (by assumption)
    | (intro h1; exact absurd (gS _ (cl6 (by assumption))) h1)
    | (unfold vp_in; simp [f0, f3, ft, fp, fw, fh, fd, fs, fr, fra, fdo, fud, fc, frn, mx_uI, mx_up]; done)
    | intro _
set_option maxHeartbeats 2000000 in
theorem fr239 {E : mx_Ev} {d : Nat} {h : mx_H} {Q : Option mx_V → mx_H → Prop} {a1 : Int32} {a2 : Int32} {a3 : Int32} {a4 : Int32} (hM : sp_FM h) (hQ : ∀ r h', r = (-1) → Q (some (.inl (.int r))) h') :
    mx_C E (mx_fn true) (d + 4) 239 [.inr (.inl 105), .inl (.int a1), .inl (.int a2), .inl (.int a3), .inl (.int a4)] h Q := by
  obtain ⟨⟨m1, m12, m16, m24, m25, m51, m56, m65, m71, m74, m79, m83, m88⟩, nE, nW, nH⟩ := hM
  refine sg239_0 ?_
  repeat' first
    | exact hQ _ _ (by first | rfl | (simp [m1, m12, m16, m24, m25, m51, m56, m65, m71, m74, m79, m83, m88, mx_uI, mx_up]; done) | exact nE _ (cl4 (by assumption)))
    | (intro h1; exact absurd h1 (by decide))
    | (intro h1; exfalso; revert h1; simp only [m1, m12, m16, m24, m25, m51, m56, m65, m71, m74, m79, m83, m88]; first | decide | exact sp_e0 | exact sp_e1)
    | (intro h1; exfalso; revert h1; simp [m1, m12, m16, m24, m25, m51, m56, m65, m71, m74, m79, m83, m88, mx_uI, mx_up]; done)
    | refine hx_i ?_
    | refine hx_l ?_
    | refine hx_n ?_
    | refine hx_0 ?_
    | refine fz_isShape (by assumption) ?_
    | refine fz_isBodyM (by assumption) ?_
    | refine sp_ini ?_ ?_
    | refine fz_q sg255_0 ?_ ?_
    | refine fz_q sg300_0 ?_ ?_
    | refine And.intro ?_ ?_
    | exact Or.inl rfl
    | exact Or.inr rfl
    | decide
    | exact vi6 (by assumption)
    | exact vi4 (by assumption)
    | (intro h1; exact absurd (nH _ (cl6 (by assumption))) h1)
    | (unfold vp_in; simp [m1, m12, m16, m24, m25, m51, m56, m65, m71, m74, m79, m83, m88, mx_uI, mx_up]; done)
    | intro _
set_option maxHeartbeats 2000000 in
theorem fc121 {E : mx_Ev} {d : Nat} {h : mx_H} {Q : Option mx_V → mx_H → Prop} {a1 : Int32} {a2 : Int32} {a3 : Int32} (hF : sp_FR h) (hM : sp_FM h) (hQ : ∀ r h', r = (if (0 ≤ a1 ∧ a1 ≤ 5) ∧ (1 ≤ a2 ∧ a2 ≤ 9) ∧ (0 ≤ a3 ∧ a3 ≤ 99) then (-4) else (-1)) → sp_FM h' → Q (some (.inl (.int r))) h') :
    mx_C E (mx_fn true) (d + 4) 121 [.inr (.inl 0), .inl (.int a1), .inl (.int a2), .inl (.int a3)] h Q := by
  obtain ⟨⟨f0, f3, ft, fp, fw, fh⟩, fd, fs, fr, gE, gT, fra, fdo, fud, fc, frn, gS⟩ := hF
  obtain ⟨⟨m1, m12, m16, m24, m25, m51, m56, m65, m71, m74, m79, m83, m88⟩, nE, nW, nH⟩ := hM
  refine sg121_0 ?_
  repeat' first
    | exact hQ _ _ (by first | rfl | (simp [f0, f3, ft, fp, fw, fh, fd, fs, fr, fra, fdo, fud, fc, frn, mx_uI, mx_up]; done) | exact gE _ (cl4 (by assumption)) | (rw [if_pos ⟨(by assumption), (by assumption), (by assumption)⟩] <;> (first | rfl | (simp [f0, f3, ft, fp, fw, fh, fd, fs, fr, fra, fdo, fud, fc, frn, mx_uI, mx_up]; done) | exact gE _ (cl4 (by assumption)))) | (rw [if_neg (fun q => absurd q.1 (by assumption))] <;> (first | rfl | (simp [f0, f3, ft, fp, fw, fh, fd, fs, fr, fra, fdo, fud, fc, frn, mx_uI, mx_up]; done) | exact gE _ (cl4 (by assumption)))) | (rw [if_neg (fun q => absurd q.2.1 (by assumption))] <;> (first | rfl | (simp [f0, f3, ft, fp, fw, fh, fd, fs, fr, fra, fdo, fud, fc, frn, mx_uI, mx_up]; done) | exact gE _ (cl4 (by assumption)))) | (rw [if_neg (fun q => absurd q.2.2 (by assumption))] <;> (first | rfl | (simp [f0, f3, ft, fp, fw, fh, fd, fs, fr, fra, fdo, fud, fc, frn, mx_uI, mx_up]; done) | exact gE _ (cl4 (by assumption))))) (by repeat first | assumption | exact sp_FM_ext (by assumption) ⟨⟨m1, m12, m16, m24, m25, m51, m56, m65, m71, m74, m79, m83, m88⟩, nE, nW, nH⟩ | exact ⟨⟨m1, m12, m16, m24, m25, m51, m56, m65, m71, m74, m79, m83, m88⟩, nE, nW, nH⟩ | refine sp_FM_uI rfl ?_ | refine sp_FM_uL ?_ | refine sp_FM_uR ?_)
    | (intro h1; exact absurd h1 (by decide))
    | (intro h1; exfalso; revert h1; simp only [f0, f3, ft, fp, fw, fh, fd, fs, fr, fra, fdo, fud, fc, frn]; first | decide | exact sp_e0 | exact sp_e1)
    | (intro h1; exfalso; revert h1; simp [f0, f3, ft, fp, fw, fh, fd, fs, fr, fra, fdo, fud, fc, frn, mx_uI, mx_up]; done)
    | refine hx_i ?_
    | refine hx_l ?_
    | refine hx_n ?_
    | refine hx_0 ?_
    | refine fz_shapeAt (by assumption) ?_
    | refine fz_planned (by assumption) ?_
    | refine fz_isBody (by assumption) ?_
    | refine fz_was (by assumption) ?_
    | refine sp_wi ?_ ?_
    | refine fz_p sg159_0 ?_ ?_
    | refine fz_p sg160_0 ?_ ?_
    | refine fz_p sg161_0 ?_ ?_
    | refine fz_p sg162_0 ?_ ?_
    | refine sg164_null ?_
    | refine sg165_null ?_
    | refine And.intro ?_ ?_
    | exact Or.inl rfl
    | exact Or.inr rfl
    | decide
    | exact vi6 (by assumption)
    | exact vi4 (by assumption)
    | (intro h1; exact absurd (gS _ (cl6 (by assumption))) h1)
    | (unfold vp_in; simp [f0, f3, ft, fp, fw, fh, fd, fs, fr, fra, fdo, fud, fc, frn, mx_uI, mx_up]; done)
    | intro _
set_option maxHeartbeats 2000000 in
theorem fr240 {E : mx_Ev} {d : Nat} {h : mx_H} {Q : Option mx_V → mx_H → Prop} {a1 : Int32} {a2 : Int32} {a3 : Int32} (hM : sp_FM h) (hQ : ∀ r h', r = (if (0 ≤ a1 ∧ a1 ≤ 5) ∧ (1 ≤ a2 ∧ a2 ≤ 9) ∧ (0 ≤ a3 ∧ a3 ≤ 99) then (-4) else (-1)) → Q (some (.inl (.int r))) h') :
    mx_C E (mx_fn true) (d + 4) 240 [.inr (.inl 105), .inl (.int a1), .inl (.int a2), .inl (.int a3)] h Q := by
  obtain ⟨⟨m1, m12, m16, m24, m25, m51, m56, m65, m71, m74, m79, m83, m88⟩, nE, nW, nH⟩ := hM
  refine sg240_0 ?_
  repeat' first
    | exact hQ _ _ (by first | rfl | (simp [m1, m12, m16, m24, m25, m51, m56, m65, m71, m74, m79, m83, m88, mx_uI, mx_up]; done) | exact nE _ (cl4 (by assumption)) | (rw [if_pos ⟨(by assumption), (by assumption), (by assumption)⟩] <;> (first | rfl | (simp [m1, m12, m16, m24, m25, m51, m56, m65, m71, m74, m79, m83, m88, mx_uI, mx_up]; done) | exact nE _ (cl4 (by assumption)))) | (rw [if_neg (fun q => absurd q.1 (by assumption))] <;> (first | rfl | (simp [m1, m12, m16, m24, m25, m51, m56, m65, m71, m74, m79, m83, m88, mx_uI, mx_up]; done) | exact nE _ (cl4 (by assumption)))) | (rw [if_neg (fun q => absurd q.2.1 (by assumption))] <;> (first | rfl | (simp [m1, m12, m16, m24, m25, m51, m56, m65, m71, m74, m79, m83, m88, mx_uI, mx_up]; done) | exact nE _ (cl4 (by assumption)))) | (rw [if_neg (fun q => absurd q.2.2 (by assumption))] <;> (first | rfl | (simp [m1, m12, m16, m24, m25, m51, m56, m65, m71, m74, m79, m83, m88, mx_uI, mx_up]; done) | exact nE _ (cl4 (by assumption)))))
    | (intro h1; exact absurd h1 (by decide))
    | (intro h1; exfalso; revert h1; simp only [m1, m12, m16, m24, m25, m51, m56, m65, m71, m74, m79, m83, m88]; first | decide | exact sp_e0 | exact sp_e1)
    | (intro h1; exfalso; revert h1; simp [m1, m12, m16, m24, m25, m51, m56, m65, m71, m74, m79, m83, m88, mx_uI, mx_up]; done)
    | refine hx_i ?_
    | refine hx_l ?_
    | refine hx_n ?_
    | refine hx_0 ?_
    | refine fz_isShape (by assumption) ?_
    | refine fz_isBodyM (by assumption) ?_
    | refine sp_ini ?_ ?_
    | refine fz_q sg255_0 ?_ ?_
    | refine fz_q sg300_0 ?_ ?_
    | refine And.intro ?_ ?_
    | exact Or.inl rfl
    | exact Or.inr rfl
    | decide
    | exact vi6 (by assumption)
    | exact vi4 (by assumption)
    | (intro h1; exact absurd (nH _ (cl6 (by assumption))) h1)
    | (unfold vp_in; simp [m1, m12, m16, m24, m25, m51, m56, m65, m71, m74, m79, m83, m88, mx_uI, mx_up]; done)
    | intro _
set_option maxHeartbeats 2000000 in
theorem fc122 {E : mx_Ev} {d : Nat} {h : mx_H} {Q : Option mx_V → mx_H → Prop} {a1 : Int32} {a2 : Int32} {a3 : Int32} (hF : sp_FR h) (hM : sp_FM h) (hQ : ∀ r h', r = (-1) → sp_FM h' → Q (some (.inl (.int r))) h') :
    mx_C E (mx_fn true) (d + 4) 122 [.inr (.inl 0), .inl (.int a1), .inl (.int a2), .inl (.int a3)] h Q := by
  obtain ⟨⟨f0, f3, ft, fp, fw, fh⟩, fd, fs, fr, gE, gT, fra, fdo, fud, fc, frn, gS⟩ := hF
  obtain ⟨⟨m1, m12, m16, m24, m25, m51, m56, m65, m71, m74, m79, m83, m88⟩, nE, nW, nH⟩ := hM
  refine sg122_0 ?_
  repeat' first
    | exact hQ _ _ (by first | rfl | (simp [f0, f3, ft, fp, fw, fh, fd, fs, fr, fra, fdo, fud, fc, frn, mx_uI, mx_up]; done) | exact gE _ (cl4 (by assumption))) (by repeat first | assumption | exact sp_FM_ext (by assumption) ⟨⟨m1, m12, m16, m24, m25, m51, m56, m65, m71, m74, m79, m83, m88⟩, nE, nW, nH⟩ | exact ⟨⟨m1, m12, m16, m24, m25, m51, m56, m65, m71, m74, m79, m83, m88⟩, nE, nW, nH⟩ | refine sp_FM_uI rfl ?_ | refine sp_FM_uL ?_ | refine sp_FM_uR ?_)
    | (intro h1; exact absurd h1 (by decide))
    | (intro h1; exfalso; revert h1; simp only [f0, f3, ft, fp, fw, fh, fd, fs, fr, fra, fdo, fud, fc, frn]; first | decide | exact sp_e0 | exact sp_e1)
    | (intro h1; exfalso; revert h1; simp [f0, f3, ft, fp, fw, fh, fd, fs, fr, fra, fdo, fud, fc, frn, mx_uI, mx_up]; done)
    | refine hx_i ?_
    | refine hx_l ?_
    | refine hx_n ?_
    | refine hx_0 ?_
    | refine fz_shapeAt (by assumption) ?_
    | refine fz_planned (by assumption) ?_
    | refine fz_isBody (by assumption) ?_
    | refine fz_was (by assumption) ?_
    | refine sp_wi ?_ ?_
    | refine fz_p sg159_0 ?_ ?_
    | refine fz_p sg160_0 ?_ ?_
    | refine fz_p sg161_0 ?_ ?_
    | refine fz_p sg162_0 ?_ ?_
    | refine sg164_null ?_
    | refine sg165_null ?_
    | refine And.intro ?_ ?_
    | exact Or.inl rfl
    | exact Or.inr rfl
    | decide
    | exact vi6 (by assumption)
    | exact vi4 (by assumption)
    | (intro h1; exact absurd (gS _ (cl6 (by assumption))) h1)
    | (unfold vp_in; simp [f0, f3, ft, fp, fw, fh, fd, fs, fr, fra, fdo, fud, fc, frn, mx_uI, mx_up]; done)
    | intro _
set_option maxHeartbeats 2000000 in
theorem fr242 {E : mx_Ev} {d : Nat} {h : mx_H} {Q : Option mx_V → mx_H → Prop} {a1 : Int32} {a2 : Int32} {a3 : Int32} (hM : sp_FM h) (hQ : ∀ r h', r = (-1) → Q (some (.inl (.int r))) h') :
    mx_C E (mx_fn true) (d + 4) 242 [.inr (.inl 105), .inl (.int a1), .inl (.int a2), .inl (.int a3)] h Q := by
  obtain ⟨⟨m1, m12, m16, m24, m25, m51, m56, m65, m71, m74, m79, m83, m88⟩, nE, nW, nH⟩ := hM
  refine sg242_0 ?_
  repeat' first
    | exact hQ _ _ (by first | rfl | (simp [m1, m12, m16, m24, m25, m51, m56, m65, m71, m74, m79, m83, m88, mx_uI, mx_up]; done) | exact nE _ (cl4 (by assumption)))
    | (intro h1; exact absurd h1 (by decide))
    | (intro h1; exfalso; revert h1; simp only [m1, m12, m16, m24, m25, m51, m56, m65, m71, m74, m79, m83, m88]; first | decide | exact sp_e0 | exact sp_e1)
    | (intro h1; exfalso; revert h1; simp [m1, m12, m16, m24, m25, m51, m56, m65, m71, m74, m79, m83, m88, mx_uI, mx_up]; done)
    | refine hx_i ?_
    | refine hx_l ?_
    | refine hx_n ?_
    | refine hx_0 ?_
    | refine fz_isShape (by assumption) ?_
    | refine fz_isBodyM (by assumption) ?_
    | refine sp_ini ?_ ?_
    | refine fz_q sg255_0 ?_ ?_
    | refine fz_q sg300_0 ?_ ?_
    | refine And.intro ?_ ?_
    | exact Or.inl rfl
    | exact Or.inr rfl
    | decide
    | exact vi6 (by assumption)
    | exact vi4 (by assumption)
    | (intro h1; exact absurd (nH _ (cl6 (by assumption))) h1)
    | (unfold vp_in; simp [m1, m12, m16, m24, m25, m51, m56, m65, m71, m74, m79, m83, m88, mx_uI, mx_up]; done)
    | intro _
set_option maxHeartbeats 2000000 in
theorem fc123 {E : mx_Ev} {d : Nat} {h : mx_H} {Q : Option mx_V → mx_H → Prop} {a1 : Int32} (hF : sp_FR h) (hM : sp_FM h) (hQ : ∀ r h', r = (if (0 ≤ a1 ∧ a1 ≤ 3) then (-4) else (-1)) → sp_FM h' → Q (some (.inl (.int r))) h') :
    mx_C E (mx_fn true) (d + 4) 123 [.inr (.inl 0), .inl (.int a1)] h Q := by
  obtain ⟨⟨f0, f3, ft, fp, fw, fh⟩, fd, fs, fr, gE, gT, fra, fdo, fud, fc, frn, gS⟩ := hF
  obtain ⟨⟨m1, m12, m16, m24, m25, m51, m56, m65, m71, m74, m79, m83, m88⟩, nE, nW, nH⟩ := hM
  refine sg123_0 ?_
  repeat' first
    | exact hQ _ _ (by first | rfl | (simp [f0, f3, ft, fp, fw, fh, fd, fs, fr, fra, fdo, fud, fc, frn, mx_uI, mx_up]; done) | exact gE _ (cl4 (by assumption)) | (rw [if_pos (by assumption)] <;> (first | rfl | (simp [f0, f3, ft, fp, fw, fh, fd, fs, fr, fra, fdo, fud, fc, frn, mx_uI, mx_up]; done) | exact gE _ (cl4 (by assumption)))) | (rw [if_neg (by assumption)] <;> (first | rfl | (simp [f0, f3, ft, fp, fw, fh, fd, fs, fr, fra, fdo, fud, fc, frn, mx_uI, mx_up]; done) | exact gE _ (cl4 (by assumption))))) (by repeat first | assumption | exact sp_FM_ext (by assumption) ⟨⟨m1, m12, m16, m24, m25, m51, m56, m65, m71, m74, m79, m83, m88⟩, nE, nW, nH⟩ | exact ⟨⟨m1, m12, m16, m24, m25, m51, m56, m65, m71, m74, m79, m83, m88⟩, nE, nW, nH⟩ | refine sp_FM_uI rfl ?_ | refine sp_FM_uL ?_ | refine sp_FM_uR ?_)
    | (intro h1; exact absurd h1 (by decide))
    | (intro h1; exfalso; revert h1; simp only [f0, f3, ft, fp, fw, fh, fd, fs, fr, fra, fdo, fud, fc, frn]; first | decide | exact sp_e0 | exact sp_e1)
    | (intro h1; exfalso; revert h1; simp [f0, f3, ft, fp, fw, fh, fd, fs, fr, fra, fdo, fud, fc, frn, mx_uI, mx_up]; done)
    | refine hx_i ?_
    | refine hx_l ?_
    | refine hx_n ?_
    | refine hx_0 ?_
    | refine fz_shapeAt (by assumption) ?_
    | refine fz_planned (by assumption) ?_
    | refine fz_isBody (by assumption) ?_
    | refine fz_was (by assumption) ?_
    | refine sp_wi ?_ ?_
    | refine fz_p sg159_0 ?_ ?_
    | refine fz_p sg160_0 ?_ ?_
    | refine fz_p sg161_0 ?_ ?_
    | refine fz_p sg162_0 ?_ ?_
    | refine sg164_null ?_
    | refine sg165_null ?_
    | refine And.intro ?_ ?_
    | exact Or.inl rfl
    | exact Or.inr rfl
    | decide
    | exact vi6 (by assumption)
    | exact vi4 (by assumption)
    | (intro h1; exact absurd (gS _ (cl6 (by assumption))) h1)
    | (unfold vp_in; simp [f0, f3, ft, fp, fw, fh, fd, fs, fr, fra, fdo, fud, fc, frn, mx_uI, mx_up]; done)
    | intro _
set_option maxHeartbeats 2000000 in
theorem fr246 {E : mx_Ev} {d : Nat} {h : mx_H} {Q : Option mx_V → mx_H → Prop} {a1 : Int32} (hM : sp_FM h) (hQ : ∀ r h', r = (if (0 ≤ a1 ∧ a1 ≤ 3) then (-4) else (-1)) → Q (some (.inl (.int r))) h') :
    mx_C E (mx_fn true) (d + 4) 246 [.inr (.inl 105), .inl (.int a1)] h Q := by
  obtain ⟨⟨m1, m12, m16, m24, m25, m51, m56, m65, m71, m74, m79, m83, m88⟩, nE, nW, nH⟩ := hM
  refine sg246_0 ?_
  repeat' first
    | exact hQ _ _ (by first | rfl | (simp [m1, m12, m16, m24, m25, m51, m56, m65, m71, m74, m79, m83, m88, mx_uI, mx_up]; done) | exact nE _ (cl4 (by assumption)) | (rw [if_pos (by assumption)] <;> (first | rfl | (simp [m1, m12, m16, m24, m25, m51, m56, m65, m71, m74, m79, m83, m88, mx_uI, mx_up]; done) | exact nE _ (cl4 (by assumption)))) | (rw [if_neg (by assumption)] <;> (first | rfl | (simp [m1, m12, m16, m24, m25, m51, m56, m65, m71, m74, m79, m83, m88, mx_uI, mx_up]; done) | exact nE _ (cl4 (by assumption)))))
    | (intro h1; exact absurd h1 (by decide))
    | (intro h1; exfalso; revert h1; simp only [m1, m12, m16, m24, m25, m51, m56, m65, m71, m74, m79, m83, m88]; first | decide | exact sp_e0 | exact sp_e1)
    | (intro h1; exfalso; revert h1; simp [m1, m12, m16, m24, m25, m51, m56, m65, m71, m74, m79, m83, m88, mx_uI, mx_up]; done)
    | refine hx_i ?_
    | refine hx_l ?_
    | refine hx_n ?_
    | refine hx_0 ?_
    | refine fz_isShape (by assumption) ?_
    | refine fz_isBodyM (by assumption) ?_
    | refine sp_ini ?_ ?_
    | refine fz_q sg255_0 ?_ ?_
    | refine fz_q sg300_0 ?_ ?_
    | refine And.intro ?_ ?_
    | exact Or.inl rfl
    | exact Or.inr rfl
    | decide
    | exact vi6 (by assumption)
    | exact vi4 (by assumption)
    | (intro h1; exact absurd (nH _ (cl6 (by assumption))) h1)
    | (unfold vp_in; simp [m1, m12, m16, m24, m25, m51, m56, m65, m71, m74, m79, m83, m88, mx_uI, mx_up]; done)
    | intro _
set_option maxHeartbeats 2000000 in
theorem fc124 {E : mx_Ev} {d : Nat} {h : mx_H} {Q : Option mx_V → mx_H → Prop}  (hF : sp_FR h) (hM : sp_FM h) (hQ : ∀ r h', r = 0 → sp_FM h' → Q (some (.inl (.int r))) h') :
    mx_C E (mx_fn true) (d + 4) 124 [.inr (.inl 0)] h Q := by
  obtain ⟨⟨f0, f3, ft, fp, fw, fh⟩, fd, fs, fr, gE, gT, fra, fdo, fud, fc, frn, gS⟩ := hF
  obtain ⟨⟨m1, m12, m16, m24, m25, m51, m56, m65, m71, m74, m79, m83, m88⟩, nE, nW, nH⟩ := hM
  refine sg124_0 ?_
  repeat' first
    | exact hQ _ _ (by first | rfl | (simp [f0, f3, ft, fp, fw, fh, fd, fs, fr, fra, fdo, fud, fc, frn, mx_uI, mx_up]; done) | exact gE _ (cl4 (by assumption))) (by repeat first | assumption | exact sp_FM_ext (by assumption) ⟨⟨m1, m12, m16, m24, m25, m51, m56, m65, m71, m74, m79, m83, m88⟩, nE, nW, nH⟩ | exact ⟨⟨m1, m12, m16, m24, m25, m51, m56, m65, m71, m74, m79, m83, m88⟩, nE, nW, nH⟩ | refine sp_FM_uI rfl ?_ | refine sp_FM_uL ?_ | refine sp_FM_uR ?_)
    | (intro h1; exact absurd h1 (by decide))
    | (intro h1; exfalso; revert h1; simp only [f0, f3, ft, fp, fw, fh, fd, fs, fr, fra, fdo, fud, fc, frn]; first | decide | exact sp_e0 | exact sp_e1)
    | (intro h1; exfalso; revert h1; simp [f0, f3, ft, fp, fw, fh, fd, fs, fr, fra, fdo, fud, fc, frn, mx_uI, mx_up]; done)
    | refine hx_i ?_
    | refine hx_l ?_
    | refine hx_n ?_
    | refine hx_0 ?_
    | refine fz_shapeAt (by assumption) ?_
    | refine fz_planned (by assumption) ?_
    | refine fz_isBody (by assumption) ?_
    | refine fz_was (by assumption) ?_
    | refine sp_wi ?_ ?_
    | refine fz_p sg159_0 ?_ ?_
    | refine fz_p sg160_0 ?_ ?_
    | refine fz_p sg161_0 ?_ ?_
    | refine fz_p sg162_0 ?_ ?_
    | refine sg164_null ?_
    | refine sg165_null ?_
    | refine And.intro ?_ ?_
    | exact Or.inl rfl
    | exact Or.inr rfl
    | decide
    | exact vi6 (by assumption)
    | exact vi4 (by assumption)
    | (intro h1; exact absurd (gS _ (cl6 (by assumption))) h1)
    | (unfold vp_in; simp [f0, f3, ft, fp, fw, fh, fd, fs, fr, fra, fdo, fud, fc, frn, mx_uI, mx_up]; done)
    | intro _
set_option maxHeartbeats 2000000 in
theorem fr247 {E : mx_Ev} {d : Nat} {h : mx_H} {Q : Option mx_V → mx_H → Prop}  (hM : sp_FM h) (hQ : ∀ r h', r = 0 → Q (some (.inl (.int r))) h') :
    mx_C E (mx_fn true) (d + 4) 247 [.inr (.inl 105)] h Q := by
  obtain ⟨⟨m1, m12, m16, m24, m25, m51, m56, m65, m71, m74, m79, m83, m88⟩, nE, nW, nH⟩ := hM
  refine sg247_0 ?_
  repeat' first
    | exact hQ _ _ (by first | rfl | (simp [m1, m12, m16, m24, m25, m51, m56, m65, m71, m74, m79, m83, m88, mx_uI, mx_up]; done) | exact nE _ (cl4 (by assumption)))
    | (intro h1; exact absurd h1 (by decide))
    | (intro h1; exfalso; revert h1; simp only [m1, m12, m16, m24, m25, m51, m56, m65, m71, m74, m79, m83, m88]; first | decide | exact sp_e0 | exact sp_e1)
    | (intro h1; exfalso; revert h1; simp [m1, m12, m16, m24, m25, m51, m56, m65, m71, m74, m79, m83, m88, mx_uI, mx_up]; done)
    | refine hx_i ?_
    | refine hx_l ?_
    | refine hx_n ?_
    | refine hx_0 ?_
    | refine fz_isShape (by assumption) ?_
    | refine fz_isBodyM (by assumption) ?_
    | refine sp_ini ?_ ?_
    | refine fz_q sg255_0 ?_ ?_
    | refine fz_q sg300_0 ?_ ?_
    | refine And.intro ?_ ?_
    | exact Or.inl rfl
    | exact Or.inr rfl
    | decide
    | exact vi6 (by assumption)
    | exact vi4 (by assumption)
    | (intro h1; exact absurd (nH _ (cl6 (by assumption))) h1)
    | (unfold vp_in; simp [m1, m12, m16, m24, m25, m51, m56, m65, m71, m74, m79, m83, m88, mx_uI, mx_up]; done)
    | intro _
set_option maxHeartbeats 2000000 in
theorem fc125 {E : mx_Ev} {d : Nat} {h : mx_H} {Q : Option mx_V → mx_H → Prop} {a1 : Int32} (hF : sp_FR h) (hM : sp_FM h) (hQ : ∀ r h', r = (if (0 ≤ a1 ∧ a1 ≤ 99) then 1 else (-1)) → sp_FM h' → Q (some (.inl (.int r))) h') :
    mx_C E (mx_fn true) (d + 4) 125 [.inr (.inl 0), .inl (.int a1)] h Q := by
  obtain ⟨⟨f0, f3, ft, fp, fw, fh⟩, fd, fs, fr, gE, gT, fra, fdo, fud, fc, frn, gS⟩ := hF
  obtain ⟨⟨m1, m12, m16, m24, m25, m51, m56, m65, m71, m74, m79, m83, m88⟩, nE, nW, nH⟩ := hM
  refine sg125_0 ?_
  repeat' first
    | exact hQ _ _ (by first | rfl | (simp [f0, f3, ft, fp, fw, fh, fd, fs, fr, fra, fdo, fud, fc, frn, mx_uI, mx_up]; done) | exact gE _ (cl4 (by assumption)) | (rw [if_pos (by assumption)] <;> (first | rfl | (simp [f0, f3, ft, fp, fw, fh, fd, fs, fr, fra, fdo, fud, fc, frn, mx_uI, mx_up]; done) | exact gE _ (cl4 (by assumption)))) | (rw [if_neg (by assumption)] <;> (first | rfl | (simp [f0, f3, ft, fp, fw, fh, fd, fs, fr, fra, fdo, fud, fc, frn, mx_uI, mx_up]; done) | exact gE _ (cl4 (by assumption))))) (by repeat first | assumption | exact sp_FM_ext (by assumption) ⟨⟨m1, m12, m16, m24, m25, m51, m56, m65, m71, m74, m79, m83, m88⟩, nE, nW, nH⟩ | exact ⟨⟨m1, m12, m16, m24, m25, m51, m56, m65, m71, m74, m79, m83, m88⟩, nE, nW, nH⟩ | refine sp_FM_uI rfl ?_ | refine sp_FM_uL ?_ | refine sp_FM_uR ?_)
    | (intro h1; exact absurd h1 (by decide))
    | (intro h1; exfalso; revert h1; simp only [f0, f3, ft, fp, fw, fh, fd, fs, fr, fra, fdo, fud, fc, frn]; first | decide | exact sp_e0 | exact sp_e1)
    | (intro h1; exfalso; revert h1; simp [f0, f3, ft, fp, fw, fh, fd, fs, fr, fra, fdo, fud, fc, frn, mx_uI, mx_up]; done)
    | refine hx_i ?_
    | refine hx_l ?_
    | refine hx_n ?_
    | refine hx_0 ?_
    | refine fz_shapeAt (by assumption) ?_
    | refine fz_planned (by assumption) ?_
    | refine fz_isBody (by assumption) ?_
    | refine fz_was (by assumption) ?_
    | refine sp_wi ?_ ?_
    | refine fz_p sg159_0 ?_ ?_
    | refine fz_p sg160_0 ?_ ?_
    | refine fz_p sg161_0 ?_ ?_
    | refine fz_p sg162_0 ?_ ?_
    | refine sg164_null ?_
    | refine sg165_null ?_
    | refine sg12_0 ?_
    | refine And.intro ?_ ?_
    | exact Or.inl rfl
    | exact Or.inr rfl
    | decide
    | exact vi6 (by assumption)
    | exact vi4 (by assumption)
    | (intro h1; exact absurd (gS _ (cl6 (by assumption))) h1)
    | (unfold vp_in; simp [f0, f3, ft, fp, fw, fh, fd, fs, fr, fra, fdo, fud, fc, frn, mx_uI, mx_up]; done)
    | intro _
set_option maxHeartbeats 2000000 in
theorem fr248 {E : mx_Ev} {d : Nat} {h : mx_H} {Q : Option mx_V → mx_H → Prop} {a1 : Int32} (hM : sp_FM h) (hQ : ∀ r h', r = (if (0 ≤ a1 ∧ a1 ≤ 99) then 1 else (-1)) → Q (some (.inl (.int r))) h') :
    mx_C E (mx_fn true) (d + 4) 248 [.inr (.inl 105), .inl (.int a1)] h Q := by
  obtain ⟨⟨m1, m12, m16, m24, m25, m51, m56, m65, m71, m74, m79, m83, m88⟩, nE, nW, nH⟩ := hM
  refine sg248_0 ?_
  repeat' first
    | exact hQ _ _ (by first | rfl | (simp [m1, m12, m16, m24, m25, m51, m56, m65, m71, m74, m79, m83, m88, mx_uI, mx_up]; done) | exact nE _ (cl4 (by assumption)) | (rw [if_pos (by assumption)] <;> (first | rfl | (simp [m1, m12, m16, m24, m25, m51, m56, m65, m71, m74, m79, m83, m88, mx_uI, mx_up]; done) | exact nE _ (cl4 (by assumption)))) | (rw [if_neg (by assumption)] <;> (first | rfl | (simp [m1, m12, m16, m24, m25, m51, m56, m65, m71, m74, m79, m83, m88, mx_uI, mx_up]; done) | exact nE _ (cl4 (by assumption)))))
    | (intro h1; exact absurd h1 (by decide))
    | (intro h1; exfalso; revert h1; simp only [m1, m12, m16, m24, m25, m51, m56, m65, m71, m74, m79, m83, m88]; first | decide | exact sp_e0 | exact sp_e1)
    | (intro h1; exfalso; revert h1; simp [m1, m12, m16, m24, m25, m51, m56, m65, m71, m74, m79, m83, m88, mx_uI, mx_up]; done)
    | refine hx_i ?_
    | refine hx_l ?_
    | refine hx_n ?_
    | refine hx_0 ?_
    | refine fz_isShape (by assumption) ?_
    | refine fz_isBodyM (by assumption) ?_
    | refine sp_ini ?_ ?_
    | refine fz_q sg255_0 ?_ ?_
    | refine fz_q sg300_0 ?_ ?_
    | refine And.intro ?_ ?_
    | exact Or.inl rfl
    | exact Or.inr rfl
    | decide
    | exact vi6 (by assumption)
    | exact vi4 (by assumption)
    | (intro h1; exact absurd (nH _ (cl6 (by assumption))) h1)
    | (unfold vp_in; simp [m1, m12, m16, m24, m25, m51, m56, m65, m71, m74, m79, m83, m88, mx_uI, mx_up]; done)
    | intro _
set_option maxHeartbeats 2000000 in
theorem fc126 {E : mx_Ev} {d : Nat} {h : mx_H} {Q : Option mx_V → mx_H → Prop} {a1 : Int32} {a2 : Int32} {a3 : Int32} (hF : sp_FR h) (hM : sp_FM h) (hQ : ∀ r h', r = (-1) → sp_FM h' → Q (some (.inl (.int r))) h') :
    mx_C E (mx_fn true) (d + 4) 126 [.inr (.inl 0), .inl (.int a1), .inl (.int a2), .inl (.int a3)] h Q := by
  obtain ⟨⟨f0, f3, ft, fp, fw, fh⟩, fd, fs, fr, gE, gT, fra, fdo, fud, fc, frn, gS⟩ := hF
  obtain ⟨⟨m1, m12, m16, m24, m25, m51, m56, m65, m71, m74, m79, m83, m88⟩, nE, nW, nH⟩ := hM
  refine sg126_0 ?_
  repeat' first
    | exact hQ _ _ (by first | rfl | (simp [f0, f3, ft, fp, fw, fh, fd, fs, fr, fra, fdo, fud, fc, frn, mx_uI, mx_up]; done) | exact gE _ (cl4 (by assumption))) (by repeat first | assumption | exact sp_FM_ext (by assumption) ⟨⟨m1, m12, m16, m24, m25, m51, m56, m65, m71, m74, m79, m83, m88⟩, nE, nW, nH⟩ | exact ⟨⟨m1, m12, m16, m24, m25, m51, m56, m65, m71, m74, m79, m83, m88⟩, nE, nW, nH⟩ | refine sp_FM_uI rfl ?_ | refine sp_FM_uL ?_ | refine sp_FM_uR ?_)
    | (intro h1; exact absurd h1 (by decide))
    | (intro h1; exfalso; revert h1; simp only [f0, f3, ft, fp, fw, fh, fd, fs, fr, fra, fdo, fud, fc, frn]; first | decide | exact sp_e0 | exact sp_e1)
    | (intro h1; exfalso; revert h1; simp [f0, f3, ft, fp, fw, fh, fd, fs, fr, fra, fdo, fud, fc, frn, mx_uI, mx_up]; done)
    | refine hx_i ?_
    | refine hx_l ?_
    | refine hx_n ?_
    | refine hx_0 ?_
    | refine fz_shapeAt (by assumption) ?_
    | refine fz_planned (by assumption) ?_
    | refine fz_isBody (by assumption) ?_
    | refine fz_was (by assumption) ?_
    | refine sp_wi ?_ ?_
    | refine fz_p sg159_0 ?_ ?_
    | refine fz_p sg160_0 ?_ ?_
    | refine fz_p sg161_0 ?_ ?_
    | refine fz_p sg162_0 ?_ ?_
    | refine sg164_null ?_
    | refine sg165_null ?_
    | refine And.intro ?_ ?_
    | exact Or.inl rfl
    | exact Or.inr rfl
    | decide
    | exact vi6 (by assumption)
    | exact vi4 (by assumption)
    | (intro h1; exact absurd (gS _ (cl6 (by assumption))) h1)
    | (unfold vp_in; simp [f0, f3, ft, fp, fw, fh, fd, fs, fr, fra, fdo, fud, fc, frn, mx_uI, mx_up]; done)
    | intro _
set_option maxHeartbeats 2000000 in
theorem fr252 {E : mx_Ev} {d : Nat} {h : mx_H} {Q : Option mx_V → mx_H → Prop} {a1 : Int32} {a2 : Int32} {a3 : Int32} (hM : sp_FM h) (hQ : ∀ r h', r = (-1) → Q (some (.inl (.int r))) h') :
    mx_C E (mx_fn true) (d + 4) 252 [.inr (.inl 105), .inl (.int a1), .inl (.int a2), .inl (.int a3)] h Q := by
  obtain ⟨⟨m1, m12, m16, m24, m25, m51, m56, m65, m71, m74, m79, m83, m88⟩, nE, nW, nH⟩ := hM
  refine sg252_0 ?_
  repeat' first
    | exact hQ _ _ (by first | rfl | (simp [m1, m12, m16, m24, m25, m51, m56, m65, m71, m74, m79, m83, m88, mx_uI, mx_up]; done) | exact nE _ (cl4 (by assumption)))
    | (intro h1; exact absurd h1 (by decide))
    | (intro h1; exfalso; revert h1; simp only [m1, m12, m16, m24, m25, m51, m56, m65, m71, m74, m79, m83, m88]; first | decide | exact sp_e0 | exact sp_e1)
    | (intro h1; exfalso; revert h1; simp [m1, m12, m16, m24, m25, m51, m56, m65, m71, m74, m79, m83, m88, mx_uI, mx_up]; done)
    | refine hx_i ?_
    | refine hx_l ?_
    | refine hx_n ?_
    | refine hx_0 ?_
    | refine fz_isShape (by assumption) ?_
    | refine fz_isBodyM (by assumption) ?_
    | refine sp_ini ?_ ?_
    | refine fz_q sg255_0 ?_ ?_
    | refine fz_q sg300_0 ?_ ?_
    | refine And.intro ?_ ?_
    | exact Or.inl rfl
    | exact Or.inr rfl
    | decide
    | exact vi6 (by assumption)
    | exact vi4 (by assumption)
    | (intro h1; exact absurd (nH _ (cl6 (by assumption))) h1)
    | (unfold vp_in; simp [m1, m12, m16, m24, m25, m51, m56, m65, m71, m74, m79, m83, m88, mx_uI, mx_up]; done)
    | intro _
set_option maxHeartbeats 2000000 in
theorem fc127 {E : mx_Ev} {d : Nat} {h : mx_H} {Q : Option mx_V → mx_H → Prop} {a1 : Int32} {a2 : Int32} (hF : sp_FR h) (hM : sp_FM h) (hQ : ∀ r h', r = (-1) → sp_FM h' → Q (some (.inl (.int r))) h') :
    mx_C E (mx_fn true) (d + 4) 127 [.inr (.inl 0), .inl (.int a1), .inl (.int a2)] h Q := by
  obtain ⟨⟨f0, f3, ft, fp, fw, fh⟩, fd, fs, fr, gE, gT, fra, fdo, fud, fc, frn, gS⟩ := hF
  obtain ⟨⟨m1, m12, m16, m24, m25, m51, m56, m65, m71, m74, m79, m83, m88⟩, nE, nW, nH⟩ := hM
  refine sg127_0 ?_
  repeat' first
    | exact hQ _ _ (by first | rfl | (simp [f0, f3, ft, fp, fw, fh, fd, fs, fr, fra, fdo, fud, fc, frn, mx_uI, mx_up]; done) | exact gE _ (cl4 (by assumption))) (by repeat first | assumption | exact sp_FM_ext (by assumption) ⟨⟨m1, m12, m16, m24, m25, m51, m56, m65, m71, m74, m79, m83, m88⟩, nE, nW, nH⟩ | exact ⟨⟨m1, m12, m16, m24, m25, m51, m56, m65, m71, m74, m79, m83, m88⟩, nE, nW, nH⟩ | refine sp_FM_uI rfl ?_ | refine sp_FM_uL ?_ | refine sp_FM_uR ?_)
    | (intro h1; exact absurd h1 (by decide))
    | (intro h1; exfalso; revert h1; simp only [f0, f3, ft, fp, fw, fh, fd, fs, fr, fra, fdo, fud, fc, frn]; first | decide | exact sp_e0 | exact sp_e1)
    | (intro h1; exfalso; revert h1; simp [f0, f3, ft, fp, fw, fh, fd, fs, fr, fra, fdo, fud, fc, frn, mx_uI, mx_up]; done)
    | refine hx_i ?_
    | refine hx_l ?_
    | refine hx_n ?_
    | refine hx_0 ?_
    | refine fz_shapeAt (by assumption) ?_
    | refine fz_planned (by assumption) ?_
    | refine fz_isBody (by assumption) ?_
    | refine fz_was (by assumption) ?_
    | refine sp_wi ?_ ?_
    | refine fz_p sg159_0 ?_ ?_
    | refine fz_p sg160_0 ?_ ?_
    | refine fz_p sg161_0 ?_ ?_
    | refine fz_p sg162_0 ?_ ?_
    | refine sg164_null ?_
    | refine sg165_null ?_
    | refine And.intro ?_ ?_
    | exact Or.inl rfl
    | exact Or.inr rfl
    | decide
    | exact vi6 (by assumption)
    | exact vi4 (by assumption)
    | (intro h1; exact absurd (gS _ (cl6 (by assumption))) h1)
    | (unfold vp_in; simp [f0, f3, ft, fp, fw, fh, fd, fs, fr, fra, fdo, fud, fc, frn, mx_uI, mx_up]; done)
    | intro _
set_option maxHeartbeats 2000000 in
theorem fr253 {E : mx_Ev} {d : Nat} {h : mx_H} {Q : Option mx_V → mx_H → Prop} {a1 : Int32} {a2 : Int32} (hM : sp_FM h) (hQ : ∀ r h', r = (-1) → Q (some (.inl (.int r))) h') :
    mx_C E (mx_fn true) (d + 4) 253 [.inr (.inl 105), .inl (.int a1), .inl (.int a2)] h Q := by
  obtain ⟨⟨m1, m12, m16, m24, m25, m51, m56, m65, m71, m74, m79, m83, m88⟩, nE, nW, nH⟩ := hM
  refine sg253_0 ?_
  repeat' first
    | exact hQ _ _ (by first | rfl | (simp [m1, m12, m16, m24, m25, m51, m56, m65, m71, m74, m79, m83, m88, mx_uI, mx_up]; done) | exact nE _ (cl4 (by assumption)))
    | (intro h1; exact absurd h1 (by decide))
    | (intro h1; exfalso; revert h1; simp only [m1, m12, m16, m24, m25, m51, m56, m65, m71, m74, m79, m83, m88]; first | decide | exact sp_e0 | exact sp_e1)
    | (intro h1; exfalso; revert h1; simp [m1, m12, m16, m24, m25, m51, m56, m65, m71, m74, m79, m83, m88, mx_uI, mx_up]; done)
    | refine hx_i ?_
    | refine hx_l ?_
    | refine hx_n ?_
    | refine hx_0 ?_
    | refine fz_isShape (by assumption) ?_
    | refine fz_isBodyM (by assumption) ?_
    | refine sp_ini ?_ ?_
    | refine fz_q sg255_0 ?_ ?_
    | refine fz_q sg300_0 ?_ ?_
    | refine And.intro ?_ ?_
    | exact Or.inl rfl
    | exact Or.inr rfl
    | decide
    | exact vi6 (by assumption)
    | exact vi4 (by assumption)
    | (intro h1; exact absurd (nH _ (cl6 (by assumption))) h1)
    | (unfold vp_in; simp [m1, m12, m16, m24, m25, m51, m56, m65, m71, m74, m79, m83, m88, mx_uI, mx_up]; done)
    | intro _
set_option maxHeartbeats 2000000 in
theorem fc128 {E : mx_Ev} {d : Nat} {h : mx_H} {Q : Option mx_V → mx_H → Prop}  (hF : sp_FR h) (hM : sp_FM h) (hQ : ∀ r h', r = 0 → sp_FM h' → Q (some (.inl (.int r))) h') :
    mx_C E (mx_fn true) (d + 4) 128 [.inr (.inl 0)] h Q := by
  obtain ⟨⟨f0, f3, ft, fp, fw, fh⟩, fd, fs, fr, gE, gT, fra, fdo, fud, fc, frn, gS⟩ := hF
  obtain ⟨⟨m1, m12, m16, m24, m25, m51, m56, m65, m71, m74, m79, m83, m88⟩, nE, nW, nH⟩ := hM
  refine sg128_0 ?_
  repeat' first
    | exact hQ _ _ (by first | rfl | (simp [f0, f3, ft, fp, fw, fh, fd, fs, fr, fra, fdo, fud, fc, frn, mx_uI, mx_up]; done) | exact gE _ (cl4 (by assumption))) (by repeat first | assumption | exact sp_FM_ext (by assumption) ⟨⟨m1, m12, m16, m24, m25, m51, m56, m65, m71, m74, m79, m83, m88⟩, nE, nW, nH⟩ | exact ⟨⟨m1, m12, m16, m24, m25, m51, m56, m65, m71, m74, m79, m83, m88⟩, nE, nW, nH⟩ | refine sp_FM_uI rfl ?_ | refine sp_FM_uL ?_ | refine sp_FM_uR ?_)
    | (intro h1; exact absurd h1 (by decide))
    | (intro h1; exfalso; revert h1; simp only [f0, f3, ft, fp, fw, fh, fd, fs, fr, fra, fdo, fud, fc, frn]; first | decide | exact sp_e0 | exact sp_e1)
    | (intro h1; exfalso; revert h1; simp [f0, f3, ft, fp, fw, fh, fd, fs, fr, fra, fdo, fud, fc, frn, mx_uI, mx_up]; done)
    | refine hx_i ?_
    | refine hx_l ?_
    | refine hx_n ?_
    | refine hx_0 ?_
    | refine fz_shapeAt (by assumption) ?_
    | refine fz_planned (by assumption) ?_
    | refine fz_isBody (by assumption) ?_
    | refine fz_was (by assumption) ?_
    | refine sp_wi ?_ ?_
    | refine fz_p sg159_0 ?_ ?_
    | refine fz_p sg160_0 ?_ ?_
    | refine fz_p sg161_0 ?_ ?_
    | refine fz_p sg162_0 ?_ ?_
    | refine sg164_null ?_
    | refine sg165_null ?_
    | refine And.intro ?_ ?_
    | exact Or.inl rfl
    | exact Or.inr rfl
    | decide
    | exact vi6 (by assumption)
    | exact vi4 (by assumption)
    | (intro h1; exact absurd (gS _ (cl6 (by assumption))) h1)
    | (unfold vp_in; simp [f0, f3, ft, fp, fw, fh, fd, fs, fr, fra, fdo, fud, fc, frn, mx_uI, mx_up]; done)
    | intro _
set_option maxHeartbeats 2000000 in
theorem fr249 {E : mx_Ev} {d : Nat} {h : mx_H} {Q : Option mx_V → mx_H → Prop}  (hM : sp_FM h) (hQ : ∀ r h', r = 0 → Q (some (.inl (.int r))) h') :
    mx_C E (mx_fn true) (d + 4) 249 [.inr (.inl 105)] h Q := by
  obtain ⟨⟨m1, m12, m16, m24, m25, m51, m56, m65, m71, m74, m79, m83, m88⟩, nE, nW, nH⟩ := hM
  refine sg249_0 ?_
  repeat' first
    | exact hQ _ _ (by first | rfl | (simp [m1, m12, m16, m24, m25, m51, m56, m65, m71, m74, m79, m83, m88, mx_uI, mx_up]; done) | exact nE _ (cl4 (by assumption)))
    | (intro h1; exact absurd h1 (by decide))
    | (intro h1; exfalso; revert h1; simp only [m1, m12, m16, m24, m25, m51, m56, m65, m71, m74, m79, m83, m88]; first | decide | exact sp_e0 | exact sp_e1)
    | (intro h1; exfalso; revert h1; simp [m1, m12, m16, m24, m25, m51, m56, m65, m71, m74, m79, m83, m88, mx_uI, mx_up]; done)
    | refine hx_i ?_
    | refine hx_l ?_
    | refine hx_n ?_
    | refine hx_0 ?_
    | refine fz_isShape (by assumption) ?_
    | refine fz_isBodyM (by assumption) ?_
    | refine sp_ini ?_ ?_
    | refine fz_q sg255_0 ?_ ?_
    | refine fz_q sg300_0 ?_ ?_
    | refine And.intro ?_ ?_
    | exact Or.inl rfl
    | exact Or.inr rfl
    | decide
    | exact vi6 (by assumption)
    | exact vi4 (by assumption)
    | (intro h1; exact absurd (nH _ (cl6 (by assumption))) h1)
    | (unfold vp_in; simp [m1, m12, m16, m24, m25, m51, m56, m65, m71, m74, m79, m83, m88, mx_uI, mx_up]; done)
    | intro _
