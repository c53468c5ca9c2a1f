/-! ===== every call on a new object, further ===== -/
section FZ3
variable {E : mx_Ev} {d : Nat} {h : mx_H} {Q : Option mx_V → mx_H → Prop}
theorem fz_159 {a : Int32} (h1 : ((-99) ≤ a ∧ a ≤ 99) → Q (some (.inl (.int 1))) h) (h0 : ¬ ((-99) ≤ a ∧ a ≤ 99) → Q (some (.inl (.int 0))) h) : mx_C E (mx_fn true) (d + 1) 159 [.inl (.int a)] h Q :=
  sg159_0 (sp_wi (fun g => hx_i ⟨Or.inr rfl, h1 g⟩) (fun g => hx_i ⟨Or.inl rfl, h0 g⟩))
theorem fz_160 {a : Int32} (h1 : (0 ≤ a ∧ a ≤ 3) → Q (some (.inl (.int 1))) h) (h0 : ¬ (0 ≤ a ∧ a ≤ 3) → Q (some (.inl (.int 0))) h) : mx_C E (mx_fn true) (d + 1) 160 [.inl (.int a)] h Q :=
  sg160_0 (sp_wi (fun g => hx_i ⟨Or.inr rfl, h1 g⟩) (fun g => hx_i ⟨Or.inl rfl, h0 g⟩))
theorem fz_161 {a : Int32} (h1 : (0 ≤ a ∧ a ≤ 5) → Q (some (.inl (.int 1))) h) (h0 : ¬ (0 ≤ a ∧ a ≤ 5) → Q (some (.inl (.int 0))) h) : mx_C E (mx_fn true) (d + 1) 161 [.inl (.int a)] h Q :=
  sg161_0 (sp_wi (fun g => hx_i ⟨Or.inr rfl, h1 g⟩) (fun g => hx_i ⟨Or.inl rfl, h0 g⟩))
theorem fz_162 {a : Int32} (h1 : (0 ≤ a ∧ a ≤ 5) → Q (some (.inl (.int 1))) h) (h0 : ¬ (0 ≤ a ∧ a ≤ 5) → Q (some (.inl (.int 0))) h) : mx_C E (mx_fn true) (d + 1) 162 [.inl (.int a)] h Q :=
  sg162_0 (sp_wi (fun g => hx_i ⟨Or.inr rfl, h1 g⟩) (fun g => hx_i ⟨Or.inl rfl, h0 g⟩))
theorem fz_255 {a : Int32} (h1 : (0 ≤ a ∧ a ≤ 3) → Q (some (.inl (.int 1))) h) (h0 : ¬ (0 ≤ a ∧ a ≤ 3) → Q (some (.inl (.int 0))) h) : mx_C E (mx_fn true) (d + 1) 255 [.inl (.int a)] h Q :=
  sg255_0 (sp_ini (fun g => hx_i ⟨Or.inr rfl, h1 g⟩) (fun g => hx_i ⟨Or.inl rfl, h0 g⟩))
theorem fz_300 {a : Int32} (h1 : (0 ≤ a ∧ a ≤ 5) → Q (some (.inl (.int 1))) h) (h0 : ¬ (0 ≤ a ∧ a ≤ 5) → Q (some (.inl (.int 0))) h) : mx_C E (mx_fn true) (d + 1) 300 [.inl (.int a)] h Q :=
  sg300_0 (sp_ini (fun g => hx_i ⟨Or.inr rfl, h1 g⟩) (fun g => hx_i ⟨Or.inl rfl, h0 g⟩))
theorem cgt {a : Int32} (h : 2 ≤ a ∧ a ≤ 7) : ¬ a ≤ 0 := fun q => absurd (Int32.le_trans h.1 q) (by decide)
end FZ3
set_option maxHeartbeats 2000000 in
theorem fc129 {E : mx_Ev} {d : Nat} {h : mx_H} {Q : Option mx_V → mx_H → Prop} {a1 : Int32} (hF : sp_FR h) (hM : sp_FM h) (hQ : ∀ r h', r = (if (0 ≤ a1 ∧ a1 ≤ 500) then 0 else (-1)) → sp_FM h' → Q (some (.inl (.int r))) h') :
    mx_C E (mx_fn true) (d + 4) 129 [.inr (.inl 0), .inl (.int a1)] h Q := by
  obtain ⟨⟨f0, f3, ft, fp, fw, fh⟩, fd, fs, fr, gE, gT, fra, fdo, fud, fc, frn, gS⟩ := hF
  obtain ⟨⟨m1, m12, m16, m24, m25, m51, m56, m65, m71, m74, m79, m83, m88⟩, nE, nW, nH⟩ := hM
  refine sg129_0 ?_
  repeat' first
    | exact hQ _ _ (by first | rfl | (simp [f0, f3, ft, fp, fw, fh, fd, fs, fr, fra, fdo, fud, fc, frn, mx_uI, mx_uR, mx_up]; done) | exact gE _ (cl4 (by assumption)) | (rw [if_pos (by assumption)] <;> (first | rfl | (simp [f0, f3, ft, fp, fw, fh, fd, fs, fr, fra, fdo, fud, fc, frn, mx_uI, mx_uR, mx_up]; done) | exact gE _ (cl4 (by assumption)))) | (rw [if_neg (by assumption)] <;> (first | rfl | (simp [f0, f3, ft, fp, fw, fh, fd, fs, fr, fra, fdo, fud, fc, frn, mx_uI, mx_uR, mx_up]; done) | exact gE _ (cl4 (by assumption))))) (by repeat first | assumption | exact sp_FM_ext (by assumption) ⟨⟨m1, m12, m16, m24, m25, m51, m56, m65, m71, m74, m79, m83, m88⟩, nE, nW, nH⟩ | exact ⟨⟨m1, m12, m16, m24, m25, m51, m56, m65, m71, m74, m79, m83, m88⟩, nE, nW, nH⟩ | refine sp_FM_uI rfl ?_ | refine sp_FM_uL ?_ | refine sp_FM_uR ?_)
    | (intro h1; exact absurd h1 (by decide))
    | (intro h1; exfalso; revert h1; simp only [f0, f3, ft, fp, fw, fh, fd, fs, fr, fra, fdo, fud, fc, frn]; first | decide | exact sp_e0 | exact sp_e1)
    | (intro h1; exfalso; revert h1; simp [f0, f3, ft, fp, fw, fh, fd, fs, fr, fra, fdo, fud, fc, frn, mx_uI, mx_up]; done)
    | refine hx_i ?_
    | refine hx_l ?_
    | refine hx_n ?_
    | refine hx_0 ?_
    | refine fz_shapeAt (by assumption) ?_
    | refine fz_planned (by assumption) ?_
    | refine fz_isBody (by assumption) ?_
    | refine fz_was (by assumption) ?_
    | refine sp_wi ?_ ?_
    | refine fz_159 ?_ ?_
    | refine fz_160 ?_ ?_
    | refine fz_161 ?_ ?_
    | refine fz_162 ?_ ?_
    | refine sg164_null ?_
    | refine sg165_null ?_
    | refine And.intro ?_ ?_
    | exact Or.inl rfl
    | exact Or.inr rfl
    | decide
    | exact rfl
    | (intro h1; exact absurd h1 (cgt (by assumption)))
    | (intro h1; exfalso; rw [frn] at h1; exact h1 (Int32.not_lt.mp (by assumption)))
    | exact vi6 (by assumption)
    | exact vi4 (by assumption)
    | (intro h1; exact absurd (gS _ (cl6 (by assumption))) h1)
    | (unfold vp_in; simp [f0, f3, ft, fp, fw, fh, fd, fs, fr, fra, fdo, fud, fc, frn, mx_uI, mx_up]; done)
    | refine fun (_ : (_ : Prop)) => ?_
    | refine fun (_ : mx_H) => ?_
set_option maxHeartbeats 2000000 in
theorem fr254 {E : mx_Ev} {d : Nat} {h : mx_H} {Q : Option mx_V → mx_H → Prop} {a1 : Int32} (hM : sp_FM h) (hQ : ∀ r h', r = (if (0 ≤ a1 ∧ a1 ≤ 500) then 0 else (-1)) → Q (some (.inl (.int r))) h') :
    mx_C E (mx_fn true) (d + 4) 254 [.inr (.inl 105), .inl (.int a1)] h Q := by
  obtain ⟨⟨m1, m12, m16, m24, m25, m51, m56, m65, m71, m74, m79, m83, m88⟩, nE, nW, nH⟩ := hM
  refine sg254_0 ?_
  repeat' first
    | exact hQ _ _ (by first | rfl | (simp [m1, m12, m16, m24, m25, m51, m56, m65, m71, m74, m79, m83, m88, mx_uI, mx_uR, mx_up]; done) | exact nE _ (cl4 (by assumption)) | (rw [if_pos (by assumption)] <;> (first | rfl | (simp [m1, m12, m16, m24, m25, m51, m56, m65, m71, m74, m79, m83, m88, mx_uI, mx_uR, mx_up]; done) | exact nE _ (cl4 (by assumption)))) | (rw [if_neg (by assumption)] <;> (first | rfl | (simp [m1, m12, m16, m24, m25, m51, m56, m65, m71, m74, m79, m83, m88, mx_uI, mx_uR, mx_up]; done) | exact nE _ (cl4 (by assumption)))))
    | (intro h1; exact absurd h1 (by decide))
    | (intro h1; exfalso; revert h1; simp only [m1, m12, m16, m24, m25, m51, m56, m65, m71, m74, m79, m83, m88]; first | decide | exact sp_e0 | exact sp_e1)
    | (intro h1; exfalso; revert h1; simp [m1, m12, m16, m24, m25, m51, m56, m65, m71, m74, m79, m83, m88, mx_uI, mx_up]; done)
    | refine hx_i ?_
    | refine hx_l ?_
    | refine hx_n ?_
    | refine hx_0 ?_
    | refine fz_isShape (by assumption) ?_
    | refine fz_isBodyM (by assumption) ?_
    | refine sp_ini ?_ ?_
    | refine fz_255 ?_ ?_
    | refine fz_300 ?_ ?_
    | refine And.intro ?_ ?_
    | exact Or.inl rfl
    | exact Or.inr rfl
    | decide
    | exact rfl
    | (intro h1; exact absurd h1 (cgt (by assumption)))
    | (intro h1; exfalso; rw [m88] at h1; exact h1 (Int32.not_lt.mp (by assumption)))
    | exact vi6 (by assumption)
    | exact vi4 (by assumption)
    | (intro h1; exact absurd (nH _ (cl6 (by assumption))) h1)
    | (unfold vp_in; simp [m1, m12, m16, m24, m25, m51, m56, m65, m71, m74, m79, m83, m88, mx_uI, mx_up]; done)
    | refine fun (_ : (_ : Prop)) => ?_
    | refine fun (_ : mx_H) => ?_
set_option maxHeartbeats 2000000 in
theorem fc130 {E : mx_Ev} {d : Nat} {h : mx_H} {Q : Option mx_V → mx_H → Prop} {a1 : Int32} {a2 : Int32} (hF : sp_FR h) (hM : sp_FM h) (hQ : ∀ r h', r = (if (0 ≤ a1 ∧ a1 ≤ 3) ∧ ((-1) ≤ a2 ∧ a2 ≤ 5) then (-1) else (-2000000000)) → sp_FM h' → Q (some (.inl (.int r))) h') :
    mx_C E (mx_fn true) (d + 4) 130 [.inr (.inl 0), .inl (.int a1), .inl (.int a2)] h Q := by
  obtain ⟨⟨f0, f3, ft, fp, fw, fh⟩, fd, fs, fr, gE, gT, fra, fdo, fud, fc, frn, gS⟩ := hF
  obtain ⟨⟨m1, m12, m16, m24, m25, m51, m56, m65, m71, m74, m79, m83, m88⟩, nE, nW, nH⟩ := hM
  refine sg130_0 ?_
  repeat' first
    | exact hQ _ _ (by first | rfl | (simp [f0, f3, ft, fp, fw, fh, fd, fs, fr, fra, fdo, fud, fc, frn, mx_uI, mx_uR, mx_up]; done) | exact gE _ (cl4 (by assumption)) | (rw [if_pos ⟨(by assumption), (by assumption)⟩] <;> (first | rfl | (simp [f0, f3, ft, fp, fw, fh, fd, fs, fr, fra, fdo, fud, fc, frn, mx_uI, mx_uR, mx_up]; done) | exact gE _ (cl4 (by assumption)))) | (rw [if_neg (fun q => absurd q.1 (by assumption))] <;> (first | rfl | (simp [f0, f3, ft, fp, fw, fh, fd, fs, fr, fra, fdo, fud, fc, frn, mx_uI, mx_uR, mx_up]; done) | exact gE _ (cl4 (by assumption)))) | (rw [if_neg (fun q => absurd q.2 (by assumption))] <;> (first | rfl | (simp [f0, f3, ft, fp, fw, fh, fd, fs, fr, fra, fdo, fud, fc, frn, mx_uI, mx_uR, mx_up]; done) | exact gE _ (cl4 (by assumption))))) (by repeat first | assumption | exact sp_FM_ext (by assumption) ⟨⟨m1, m12, m16, m24, m25, m51, m56, m65, m71, m74, m79, m83, m88⟩, nE, nW, nH⟩ | exact ⟨⟨m1, m12, m16, m24, m25, m51, m56, m65, m71, m74, m79, m83, m88⟩, nE, nW, nH⟩ | refine sp_FM_uI rfl ?_ | refine sp_FM_uL ?_ | refine sp_FM_uR ?_)
    | (intro h1; exact absurd h1 (by decide))
    | (intro h1; exfalso; revert h1; simp only [f0, f3, ft, fp, fw, fh, fd, fs, fr, fra, fdo, fud, fc, frn]; first | decide | exact sp_e0 | exact sp_e1)
    | (intro h1; exfalso; revert h1; simp [f0, f3, ft, fp, fw, fh, fd, fs, fr, fra, fdo, fud, fc, frn, mx_uI, mx_up]; done)
    | refine hx_i ?_
    | refine hx_l ?_
    | refine hx_n ?_
    | refine hx_0 ?_
    | refine fz_shapeAt (by assumption) ?_
    | refine fz_planned (by assumption) ?_
    | refine fz_isBody (by assumption) ?_
    | refine fz_was (by assumption) ?_
    | refine sp_wi ?_ ?_
    | refine fz_159 ?_ ?_
    | refine fz_160 ?_ ?_
    | refine fz_161 ?_ ?_
    | refine fz_162 ?_ ?_
    | refine sg164_null ?_
    | refine sg165_null ?_
    | refine And.intro ?_ ?_
    | exact Or.inl rfl
    | exact Or.inr rfl
    | decide
    | exact rfl
    | (intro h1; exact absurd h1 (cgt (by assumption)))
    | (intro h1; exfalso; rw [frn] at h1; exact h1 (Int32.not_lt.mp (by assumption)))
    | exact vi6 (by assumption)
    | exact vi4 (by assumption)
    | (intro h1; exact absurd (gS _ (cl6 (by assumption))) h1)
    | (unfold vp_in; simp [f0, f3, ft, fp, fw, fh, fd, fs, fr, fra, fdo, fud, fc, frn, mx_uI, mx_up]; done)
    | refine fun (_ : (_ : Prop)) => ?_
    | refine fun (_ : mx_H) => ?_
set_option maxHeartbeats 2000000 in
theorem fr256 {E : mx_Ev} {d : Nat} {h : mx_H} {Q : Option mx_V → mx_H → Prop} {a1 : Int32} {a2 : Int32} (hM : sp_FM h) (hQ : ∀ r h', r = (if (0 ≤ a1 ∧ a1 ≤ 3) ∧ ((-1) ≤ a2 ∧ a2 ≤ 5) then (-1) else (-2000000000)) → Q (some (.inl (.int r))) h') :
    mx_C E (mx_fn true) (d + 4) 256 [.inr (.inl 105), .inl (.int a1), .inl (.int a2)] h Q := by
  obtain ⟨⟨m1, m12, m16, m24, m25, m51, m56, m65, m71, m74, m79, m83, m88⟩, nE, nW, nH⟩ := hM
  refine sg256_0 ?_
  repeat' first
    | exact hQ _ _ (by first | rfl | (simp [m1, m12, m16, m24, m25, m51, m56, m65, m71, m74, m79, m83, m88, mx_uI, mx_uR, mx_up]; done) | exact nE _ (cl4 (by assumption)) | (rw [if_pos ⟨(by assumption), (by assumption)⟩] <;> (first | rfl | (simp [m1, m12, m16, m24, m25, m51, m56, m65, m71, m74, m79, m83, m88, mx_uI, mx_uR, mx_up]; done) | exact nE _ (cl4 (by assumption)))) | (rw [if_neg (fun q => absurd q.1 (by assumption))] <;> (first | rfl | (simp [m1, m12, m16, m24, m25, m51, m56, m65, m71, m74, m79, m83, m88, mx_uI, mx_uR, mx_up]; done) | exact nE _ (cl4 (by assumption)))) | (rw [if_neg (fun q => absurd q.2 (by assumption))] <;> (first | rfl | (simp [m1, m12, m16, m24, m25, m51, m56, m65, m71, m74, m79, m83, m88, mx_uI, mx_uR, mx_up]; done) | exact nE _ (cl4 (by assumption)))))
    | (intro h1; exact absurd h1 (by decide))
    | (intro h1; exfalso; revert h1; simp only [m1, m12, m16, m24, m25, m51, m56, m65, m71, m74, m79, m83, m88]; first | decide | exact sp_e0 | exact sp_e1)
    | (intro h1; exfalso; revert h1; simp [m1, m12, m16, m24, m25, m51, m56, m65, m71, m74, m79, m83, m88, mx_uI, mx_up]; done)
    | refine hx_i ?_
    | refine hx_l ?_
    | refine hx_n ?_
    | refine hx_0 ?_
    | refine fz_isShape (by assumption) ?_
    | refine fz_isBodyM (by assumption) ?_
    | refine sp_ini ?_ ?_
    | refine fz_255 ?_ ?_
    | refine fz_300 ?_ ?_
    | refine And.intro ?_ ?_
    | exact Or.inl rfl
    | exact Or.inr rfl
    | decide
    | exact rfl
    | (intro h1; exact absurd h1 (cgt (by assumption)))
    | (intro h1; exfalso; rw [m88] at h1; exact h1 (Int32.not_lt.mp (by assumption)))
    | exact vi6 (by assumption)
    | exact vi4 (by assumption)
    | (intro h1; exact absurd (nH _ (cl6 (by assumption))) h1)
    | (unfold vp_in; simp [m1, m12, m16, m24, m25, m51, m56, m65, m71, m74, m79, m83, m88, mx_uI, mx_up]; done)
    | refine fun (_ : (_ : Prop)) => ?_
    | refine fun (_ : mx_H) => ?_
set_option maxHeartbeats 2000000 in
theorem fc131 {E : mx_Ev} {d : Nat} {h : mx_H} {Q : Option mx_V → mx_H → Prop} {a1 : Int32} {a2 : Int32} {a3 : Int32} {a4 : Int32} (hF : sp_FR h) (hM : sp_FM h) (hQ : ∀ r h', r = (-1) → sp_FM h' → Q (some (.inl (.int r))) h') :
    mx_C E (mx_fn true) (d + 4) 131 [.inr (.inl 0), .inl (.int a1), .inl (.int a2), .inl (.int a3), .inl (.int a4)] h Q := by
  obtain ⟨⟨f0, f3, ft, fp, fw, fh⟩, fd, fs, fr, gE, gT, fra, fdo, fud, fc, frn, gS⟩ := hF
  obtain ⟨⟨m1, m12, m16, m24, m25, m51, m56, m65, m71, m74, m79, m83, m88⟩, nE, nW, nH⟩ := hM
  refine sg131_0 ?_
  repeat' first
    | exact hQ _ _ (by first | rfl | (simp [f0, f3, ft, fp, fw, fh, fd, fs, fr, fra, fdo, fud, fc, frn, mx_uI, mx_uR, mx_up]; done) | exact gE _ (cl4 (by assumption))) (by repeat first | assumption | exact sp_FM_ext (by assumption) ⟨⟨m1, m12, m16, m24, m25, m51, m56, m65, m71, m74, m79, m83, m88⟩, nE, nW, nH⟩ | exact ⟨⟨m1, m12, m16, m24, m25, m51, m56, m65, m71, m74, m79, m83, m88⟩, nE, nW, nH⟩ | refine sp_FM_uI rfl ?_ | refine sp_FM_uL ?_ | refine sp_FM_uR ?_)
    | (intro h1; exact absurd h1 (by decide))
    | (intro h1; exfalso; revert h1; simp only [f0, f3, ft, fp, fw, fh, fd, fs, fr, fra, fdo, fud, fc, frn]; first | decide | exact sp_e0 | exact sp_e1)
    | (intro h1; exfalso; revert h1; simp [f0, f3, ft, fp, fw, fh, fd, fs, fr, fra, fdo, fud, fc, frn, mx_uI, mx_up]; done)
    | refine hx_i ?_
    | refine hx_l ?_
    | refine hx_n ?_
    | refine hx_0 ?_
    | refine fz_shapeAt (by assumption) ?_
    | refine fz_planned (by assumption) ?_
    | refine fz_isBody (by assumption) ?_
    | refine fz_was (by assumption) ?_
    | refine sp_wi ?_ ?_
    | refine fz_159 ?_ ?_
    | refine fz_160 ?_ ?_
    | refine fz_161 ?_ ?_
    | refine fz_162 ?_ ?_
    | refine sg164_null ?_
    | refine sg165_null ?_
    | refine And.intro ?_ ?_
    | exact Or.inl rfl
    | exact Or.inr rfl
    | decide
    | exact rfl
    | (intro h1; exact absurd h1 (cgt (by assumption)))
    | (intro h1; exfalso; rw [frn] at h1; exact h1 (Int32.not_lt.mp (by assumption)))
    | exact vi6 (by assumption)
    | exact vi4 (by assumption)
    | (intro h1; exact absurd (gS _ (cl6 (by assumption))) h1)
    | (unfold vp_in; simp [f0, f3, ft, fp, fw, fh, fd, fs, fr, fra, fdo, fud, fc, frn, mx_uI, mx_up]; done)
    | refine fun (_ : (_ : Prop)) => ?_
    | refine fun (_ : mx_H) => ?_
set_option maxHeartbeats 2000000 in
theorem fr259 {E : mx_Ev} {d : Nat} {h : mx_H} {Q : Option mx_V → mx_H → Prop} {a1 : Int32} {a2 : Int32} {a3 : Int32} {a4 : Int32} (hM : sp_FM h) (hQ : ∀ r h', r = (-1) → Q (some (.inl (.int r))) h') :
    mx_C E (mx_fn true) (d + 4) 259 [.inr (.inl 105), .inl (.int a1), .inl (.int a2), .inl (.int a3), .inl (.int a4)] h Q := by
  obtain ⟨⟨m1, m12, m16, m24, m25, m51, m56, m65, m71, m74, m79, m83, m88⟩, nE, nW, nH⟩ := hM
  refine sg259_0 ?_
  repeat' first
    | exact hQ _ _ (by first | rfl | (simp [m1, m12, m16, m24, m25, m51, m56, m65, m71, m74, m79, m83, m88, mx_uI, mx_uR, mx_up]; done) | exact nE _ (cl4 (by assumption)))
    | (intro h1; exact absurd h1 (by decide))
    | (intro h1; exfalso; revert h1; simp only [m1, m12, m16, m24, m25, m51, m56, m65, m71, m74, m79, m83, m88]; first | decide | exact sp_e0 | exact sp_e1)
    | (intro h1; exfalso; revert h1; simp [m1, m12, m16, m24, m25, m51, m56, m65, m71, m74, m79, m83, m88, mx_uI, mx_up]; done)
    | refine hx_i ?_
    | refine hx_l ?_
    | refine hx_n ?_
    | refine hx_0 ?_
    | refine fz_isShape (by assumption) ?_
    | refine fz_isBodyM (by assumption) ?_
    | refine sp_ini ?_ ?_
    | refine fz_255 ?_ ?_
    | refine fz_300 ?_ ?_
    | refine And.intro ?_ ?_
    | exact Or.inl rfl
    | exact Or.inr rfl
    | decide
    | exact rfl
    | (intro h1; exact absurd h1 (cgt (by assumption)))
    | (intro h1; exfalso; rw [m88] at h1; exact h1 (Int32.not_lt.mp (by assumption)))
    | exact vi6 (by assumption)
    | exact vi4 (by assumption)
    | (intro h1; exact absurd (nH _ (cl6 (by assumption))) h1)
    | (unfold vp_in; simp [m1, m12, m16, m24, m25, m51, m56, m65, m71, m74, m79, m83, m88, mx_uI, mx_up]; done)
    | refine fun (_ : (_ : Prop)) => ?_
    | refine fun (_ : mx_H) => ?_
set_option maxHeartbeats 2000000 in
theorem fc132 {E : mx_Ev} {d : Nat} {h : mx_H} {Q : Option mx_V → mx_H → Prop} {a1 : Int32} {a2 : Int32} {a3 : Int32} (hF : sp_FR h) (hM : sp_FM h) (hQ : ∀ r h', r = (if (0 ≤ a1 ∧ a1 ≤ 5) ∧ ((-99) ≤ a2 ∧ a2 ≤ 99) ∧ (0 ≤ a3 ∧ a3 ≤ 99) then 1 else (-1)) → sp_FM h' → Q (some (.inl (.int r))) h') :
    mx_C E (mx_fn true) (d + 4) 132 [.inr (.inl 0), .inl (.int a1), .inl (.int a2), .inl (.int a3)] h Q := by
  obtain ⟨⟨f0, f3, ft, fp, fw, fh⟩, fd, fs, fr, gE, gT, fra, fdo, fud, fc, frn, gS⟩ := hF
  obtain ⟨⟨m1, m12, m16, m24, m25, m51, m56, m65, m71, m74, m79, m83, m88⟩, nE, nW, nH⟩ := hM
  refine sg132_0 ?_
  repeat' first
    | exact hQ _ _ (by first | rfl | (simp [f0, f3, ft, fp, fw, fh, fd, fs, fr, fra, fdo, fud, fc, frn, mx_uI, mx_uR, mx_up]; done) | exact gE _ (cl4 (by assumption)) | (rw [if_pos ⟨(by assumption), (by assumption), (by assumption)⟩] <;> (first | rfl | (simp [f0, f3, ft, fp, fw, fh, fd, fs, fr, fra, fdo, fud, fc, frn, mx_uI, mx_uR, mx_up]; done) | exact gE _ (cl4 (by assumption)))) | (rw [if_neg (fun q => absurd q.1 (by assumption))] <;> (first | rfl | (simp [f0, f3, ft, fp, fw, fh, fd, fs, fr, fra, fdo, fud, fc, frn, mx_uI, mx_uR, mx_up]; done) | exact gE _ (cl4 (by assumption)))) | (rw [if_neg (fun q => absurd q.2.1 (by assumption))] <;> (first | rfl | (simp [f0, f3, ft, fp, fw, fh, fd, fs, fr, fra, fdo, fud, fc, frn, mx_uI, mx_uR, mx_up]; done) | exact gE _ (cl4 (by assumption)))) | (rw [if_neg (fun q => absurd q.2.2 (by assumption))] <;> (first | rfl | (simp [f0, f3, ft, fp, fw, fh, fd, fs, fr, fra, fdo, fud, fc, frn, mx_uI, mx_uR, mx_up]; done) | exact gE _ (cl4 (by assumption))))) (by repeat first | assumption | exact sp_FM_ext (by assumption) ⟨⟨m1, m12, m16, m24, m25, m51, m56, m65, m71, m74, m79, m83, m88⟩, nE, nW, nH⟩ | exact ⟨⟨m1, m12, m16, m24, m25, m51, m56, m65, m71, m74, m79, m83, m88⟩, nE, nW, nH⟩ | refine sp_FM_uI rfl ?_ | refine sp_FM_uL ?_ | refine sp_FM_uR ?_)
    | (intro h1; exact absurd h1 (by decide))
    | (intro h1; exfalso; revert h1; simp only [f0, f3, ft, fp, fw, fh, fd, fs, fr, fra, fdo, fud, fc, frn]; first | decide | exact sp_e0 | exact sp_e1)
    | (intro h1; exfalso; revert h1; simp [f0, f3, ft, fp, fw, fh, fd, fs, fr, fra, fdo, fud, fc, frn, mx_uI, mx_up]; done)
    | refine hx_i ?_
    | refine hx_l ?_
    | refine hx_n ?_
    | refine hx_0 ?_
    | refine fz_shapeAt (by assumption) ?_
    | refine fz_planned (by assumption) ?_
    | refine fz_isBody (by assumption) ?_
    | refine fz_was (by assumption) ?_
    | refine sp_wi ?_ ?_
    | refine fz_159 ?_ ?_
    | refine fz_160 ?_ ?_
    | refine fz_161 ?_ ?_
    | refine fz_162 ?_ ?_
    | refine sg164_null ?_
    | refine sg165_null ?_
    | refine sg2_0 ?_
    | refine And.intro ?_ ?_
    | exact Or.inl rfl
    | exact Or.inr rfl
    | decide
    | exact rfl
    | (intro h1; exact absurd h1 (cgt (by assumption)))
    | (intro h1; exfalso; rw [frn] at h1; exact h1 (Int32.not_lt.mp (by assumption)))
    | exact vi6 (by assumption)
    | exact vi4 (by assumption)
    | (intro h1; exact absurd (gS _ (cl6 (by assumption))) h1)
    | (unfold vp_in; simp [f0, f3, ft, fp, fw, fh, fd, fs, fr, fra, fdo, fud, fc, frn, mx_uI, mx_up]; done)
    | refine fun (_ : (_ : Prop)) => ?_
    | refine fun (_ : mx_H) => ?_
set_option maxHeartbeats 2000000 in
theorem fr260 {E : mx_Ev} {d : Nat} {h : mx_H} {Q : Option mx_V → mx_H → Prop} {a1 : Int32} {a2 : Int32} {a3 : Int32} (hM : sp_FM h) (hQ : ∀ r h', r = (if (0 ≤ a1 ∧ a1 ≤ 5) ∧ ((-99) ≤ a2 ∧ a2 ≤ 99) ∧ (0 ≤ a3 ∧ a3 ≤ 99) then 1 else (-1)) → Q (some (.inl (.int r))) h') :
    mx_C E (mx_fn true) (d + 4) 260 [.inr (.inl 105), .inl (.int a1), .inl (.int a2), .inl (.int a3)] h Q := by
  obtain ⟨⟨m1, m12, m16, m24, m25, m51, m56, m65, m71, m74, m79, m83, m88⟩, nE, nW, nH⟩ := hM
  refine sg260_0 ?_
  repeat' first
    | exact hQ _ _ (by first | rfl | (simp [m1, m12, m16, m24, m25, m51, m56, m65, m71, m74, m79, m83, m88, mx_uI, mx_uR, mx_up]; done) | exact nE _ (cl4 (by assumption)) | (rw [if_pos ⟨(by assumption), (by assumption), (by assumption)⟩] <;> (first | rfl | (simp [m1, m12, m16, m24, m25, m51, m56, m65, m71, m74, m79, m83, m88, mx_uI, mx_uR, mx_up]; done) | exact nE _ (cl4 (by assumption)))) | (rw [if_neg (fun q => absurd q.1 (by assumption))] <;> (first | rfl | (simp [m1, m12, m16, m24, m25, m51, m56, m65, m71, m74, m79, m83, m88, mx_uI, mx_uR, mx_up]; done) | exact nE _ (cl4 (by assumption)))) | (rw [if_neg (fun q => absurd q.2.1 (by assumption))] <;> (first | rfl | (simp [m1, m12, m16, m24, m25, m51, m56, m65, m71, m74, m79, m83, m88, mx_uI, mx_uR, mx_up]; done) | exact nE _ (cl4 (by assumption)))) | (rw [if_neg (fun q => absurd q.2.2 (by assumption))] <;> (first | rfl | (simp [m1, m12, m16, m24, m25, m51, m56, m65, m71, m74, m79, m83, m88, mx_uI, mx_uR, mx_up]; done) | exact nE _ (cl4 (by assumption)))))
    | (intro h1; exact absurd h1 (by decide))
    | (intro h1; exfalso; revert h1; simp only [m1, m12, m16, m24, m25, m51, m56, m65, m71, m74, m79, m83, m88]; first | decide | exact sp_e0 | exact sp_e1)
    | (intro h1; exfalso; revert h1; simp [m1, m12, m16, m24, m25, m51, m56, m65, m71, m74, m79, m83, m88, mx_uI, mx_up]; done)
    | refine hx_i ?_
    | refine hx_l ?_
    | refine hx_n ?_
    | refine hx_0 ?_
    | refine fz_isShape (by assumption) ?_
    | refine fz_isBodyM (by assumption) ?_
    | refine sp_ini ?_ ?_
    | refine fz_255 ?_ ?_
    | refine fz_300 ?_ ?_
    | refine And.intro ?_ ?_
    | exact Or.inl rfl
    | exact Or.inr rfl
    | decide
    | exact rfl
    | (intro h1; exact absurd h1 (cgt (by assumption)))
    | (intro h1; exfalso; rw [m88] at h1; exact h1 (Int32.not_lt.mp (by assumption)))
    | exact vi6 (by assumption)
    | exact vi4 (by assumption)
    | (intro h1; exact absurd (nH _ (cl6 (by assumption))) h1)
    | (unfold vp_in; simp [m1, m12, m16, m24, m25, m51, m56, m65, m71, m74, m79, m83, m88, mx_uI, mx_up]; done)
    | refine fun (_ : (_ : Prop)) => ?_
    | refine fun (_ : mx_H) => ?_
set_option maxHeartbeats 2000000 in
theorem fc133 {E : mx_Ev} {d : Nat} {h : mx_H} {Q : Option mx_V → mx_H → Prop} {a1 : Int32} {a2 : Int32} (hF : sp_FR h) (hM : sp_FM h) (hQ : ∀ r h', r = (-1) → sp_FM h' → Q (some (.inl (.int r))) h') :
    mx_C E (mx_fn true) (d + 4) 133 [.inr (.inl 0), .inl (.int a1), .inl (.int a2)] h Q := by
  obtain ⟨⟨f0, f3, ft, fp, fw, fh⟩, fd, fs, fr, gE, gT, fra, fdo, fud, fc, frn, gS⟩ := hF
  obtain ⟨⟨m1, m12, m16, m24, m25, m51, m56, m65, m71, m74, m79, m83, m88⟩, nE, nW, nH⟩ := hM
  refine sg133_0 ?_
  repeat' first
    | exact hQ _ _ (by first | rfl | (simp [f0, f3, ft, fp, fw, fh, fd, fs, fr, fra, fdo, fud, fc, frn, mx_uI, mx_uR, mx_up]; done) | exact gE _ (cl4 (by assumption))) (by repeat first | assumption | exact sp_FM_ext (by assumption) ⟨⟨m1, m12, m16, m24, m25, m51, m56, m65, m71, m74, m79, m83, m88⟩, nE, nW, nH⟩ | exact ⟨⟨m1, m12, m16, m24, m25, m51, m56, m65, m71, m74, m79, m83, m88⟩, nE, nW, nH⟩ | refine sp_FM_uI rfl ?_ | refine sp_FM_uL ?_ | refine sp_FM_uR ?_)
    | (intro h1; exact absurd h1 (by decide))
    | (intro h1; exfalso; revert h1; simp only [f0, f3, ft, fp, fw, fh, fd, fs, fr, fra, fdo, fud, fc, frn]; first | decide | exact sp_e0 | exact sp_e1)
    | (intro h1; exfalso; revert h1; simp [f0, f3, ft, fp, fw, fh, fd, fs, fr, fra, fdo, fud, fc, frn, mx_uI, mx_up]; done)
    | refine hx_i ?_
    | refine hx_l ?_
    | refine hx_n ?_
    | refine hx_0 ?_
    | refine fz_shapeAt (by assumption) ?_
    | refine fz_planned (by assumption) ?_
    | refine fz_isBody (by assumption) ?_
    | refine fz_was (by assumption) ?_
    | refine sp_wi ?_ ?_
    | refine fz_159 ?_ ?_
    | refine fz_160 ?_ ?_
    | refine fz_161 ?_ ?_
    | refine fz_162 ?_ ?_
    | refine sg164_null ?_
    | refine sg165_null ?_
    | refine And.intro ?_ ?_
    | exact Or.inl rfl
    | exact Or.inr rfl
    | decide
    | exact rfl
    | (intro h1; exact absurd h1 (cgt (by assumption)))
    | (intro h1; exfalso; rw [frn] at h1; exact h1 (Int32.not_lt.mp (by assumption)))
    | exact vi6 (by assumption)
    | exact vi4 (by assumption)
    | (intro h1; exact absurd (gS _ (cl6 (by assumption))) h1)
    | (unfold vp_in; simp [f0, f3, ft, fp, fw, fh, fd, fs, fr, fra, fdo, fud, fc, frn, mx_uI, mx_up]; done)
    | refine fun (_ : (_ : Prop)) => ?_
    | refine fun (_ : mx_H) => ?_
set_option maxHeartbeats 2000000 in
theorem fr261 {E : mx_Ev} {d : Nat} {h : mx_H} {Q : Option mx_V → mx_H → Prop} {a1 : Int32} {a2 : Int32} (hM : sp_FM h) (hQ : ∀ r h', r = (-1) → Q (some (.inl (.int r))) h') :
    mx_C E (mx_fn true) (d + 4) 261 [.inr (.inl 105), .inl (.int a1), .inl (.int a2)] h Q := by
  obtain ⟨⟨m1, m12, m16, m24, m25, m51, m56, m65, m71, m74, m79, m83, m88⟩, nE, nW, nH⟩ := hM
  refine sg261_0 ?_
  repeat' first
    | exact hQ _ _ (by first | rfl | (simp [m1, m12, m16, m24, m25, m51, m56, m65, m71, m74, m79, m83, m88, mx_uI, mx_uR, mx_up]; done) | exact nE _ (cl4 (by assumption)))
    | (intro h1; exact absurd h1 (by decide))
    | (intro h1; exfalso; revert h1; simp only [m1, m12, m16, m24, m25, m51, m56, m65, m71, m74, m79, m83, m88]; first | decide | exact sp_e0 | exact sp_e1)
    | (intro h1; exfalso; revert h1; simp [m1, m12, m16, m24, m25, m51, m56, m65, m71, m74, m79, m83, m88, mx_uI, mx_up]; done)
    | refine hx_i ?_
    | refine hx_l ?_
    | refine hx_n ?_
    | refine hx_0 ?_
    | refine fz_isShape (by assumption) ?_
    | refine fz_isBodyM (by assumption) ?_
    | refine sp_ini ?_ ?_
    | refine fz_255 ?_ ?_
    | refine fz_300 ?_ ?_
    | refine And.intro ?_ ?_
    | exact Or.inl rfl
    | exact Or.inr rfl
    | decide
    | exact rfl
    | (intro h1; exact absurd h1 (cgt (by assumption)))
    | (intro h1; exfalso; rw [m88] at h1; exact h1 (Int32.not_lt.mp (by assumption)))
    | exact vi6 (by assumption)
    | exact vi4 (by assumption)
    | (intro h1; exact absurd (nH _ (cl6 (by assumption))) h1)
    | (unfold vp_in; simp [m1, m12, m16, m24, m25, m51, m56, m65, m71, m74, m79, m83, m88, mx_uI, mx_up]; done)
    | refine fun (_ : (_ : Prop)) => ?_
    | refine fun (_ : mx_H) => ?_
set_option maxHeartbeats 2000000 in
theorem fc134 {E : mx_Ev} {d : Nat} {h : mx_H} {Q : Option mx_V → mx_H → Prop} {a1 : Int32} {a2 : Int32} (hF : sp_FR h) (hM : sp_FM h) (hQ : ∀ r h', r = (-2000000000) → sp_FM h' → Q (some (.inl (.int r))) h') :
    mx_C E (mx_fn true) (d + 4) 134 [.inr (.inl 0), .inl (.int a1), .inl (.int a2)] h Q := by
  obtain ⟨⟨f0, f3, ft, fp, fw, fh⟩, fd, fs, fr, gE, gT, fra, fdo, fud, fc, frn, gS⟩ := hF
  obtain ⟨⟨m1, m12, m16, m24, m25, m51, m56, m65, m71, m74, m79, m83, m88⟩, nE, nW, nH⟩ := hM
  refine sg134_0 ?_
  repeat' first
    | exact hQ _ _ (by first | rfl | (simp [f0, f3, ft, fp, fw, fh, fd, fs, fr, fra, fdo, fud, fc, frn, mx_uI, mx_uR, mx_up]; done) | exact gE _ (cl4 (by assumption))) (by repeat first | assumption | exact sp_FM_ext (by assumption) ⟨⟨m1, m12, m16, m24, m25, m51, m56, m65, m71, m74, m79, m83, m88⟩, nE, nW, nH⟩ | exact ⟨⟨m1, m12, m16, m24, m25, m51, m56, m65, m71, m74, m79, m83, m88⟩, nE, nW, nH⟩ | refine sp_FM_uI rfl ?_ | refine sp_FM_uL ?_ | refine sp_FM_uR ?_)
    | (intro h1; exact absurd h1 (by decide))
    | (intro h1; exfalso; revert h1; simp only [f0, f3, ft, fp, fw, fh, fd, fs, fr, fra, fdo, fud, fc, frn]; first | decide | exact sp_e0 | exact sp_e1)
    | (intro h1; exfalso; revert h1; simp [f0, f3, ft, fp, fw, fh, fd, fs, fr, fra, fdo, fud, fc, frn, mx_uI, mx_up]; done)
    | refine hx_i ?_
    | refine hx_l ?_
    | refine hx_n ?_
    | refine hx_0 ?_
    | refine fz_shapeAt (by assumption) ?_
    | refine fz_planned (by assumption) ?_
    | refine fz_isBody (by assumption) ?_
    | refine fz_was (by assumption) ?_
    | refine sp_wi ?_ ?_
    | refine fz_159 ?_ ?_
    | refine fz_160 ?_ ?_
    | refine fz_161 ?_ ?_
    | refine fz_162 ?_ ?_
    | refine sg164_null ?_
    | refine sg165_null ?_
    | refine And.intro ?_ ?_
    | exact Or.inl rfl
    | exact Or.inr rfl
    | decide
    | exact rfl
    | (intro h1; exact absurd h1 (cgt (by assumption)))
    | (intro h1; exfalso; rw [frn] at h1; exact h1 (Int32.not_lt.mp (by assumption)))
    | exact vi6 (by assumption)
    | exact vi4 (by assumption)
    | (intro h1; exact absurd (gS _ (cl6 (by assumption))) h1)
    | (unfold vp_in; simp [f0, f3, ft, fp, fw, fh, fd, fs, fr, fra, fdo, fud, fc, frn, mx_uI, mx_up]; done)
    | refine fun (_ : (_ : Prop)) => ?_
    | refine fun (_ : mx_H) => ?_
set_option maxHeartbeats 2000000 in
theorem fr262 {E : mx_Ev} {d : Nat} {h : mx_H} {Q : Option mx_V → mx_H → Prop} {a1 : Int32} {a2 : Int32} (hM : sp_FM h) (hQ : ∀ r h', r = (-2000000000) → Q (some (.inl (.int r))) h') :
    mx_C E (mx_fn true) (d + 4) 262 [.inr (.inl 105), .inl (.int a1), .inl (.int a2)] h Q := by
  obtain ⟨⟨m1, m12, m16, m24, m25, m51, m56, m65, m71, m74, m79, m83, m88⟩, nE, nW, nH⟩ := hM
  refine sg262_0 ?_
  repeat' first
    | exact hQ _ _ (by first | rfl | (simp [m1, m12, m16, m24, m25, m51, m56, m65, m71, m74, m79, m83, m88, mx_uI, mx_uR, mx_up]; done) | exact nE _ (cl4 (by assumption)))
    | (intro h1; exact absurd h1 (by decide))
    | (intro h1; exfalso; revert h1; simp only [m1, m12, m16, m24, m25, m51, m56, m65, m71, m74, m79, m83, m88]; first | decide | exact sp_e0 | exact sp_e1)
    | (intro h1; exfalso; revert h1; simp [m1, m12, m16, m24, m25, m51, m56, m65, m71, m74, m79, m83, m88, mx_uI, mx_up]; done)
    | refine hx_i ?_
    | refine hx_l ?_
    | refine hx_n ?_
    | refine hx_0 ?_
    | refine fz_isShape (by assumption) ?_
    | refine fz_isBodyM (by assumption) ?_
    | refine sp_ini ?_ ?_
    | refine fz_255 ?_ ?_
    | refine fz_300 ?_ ?_
    | refine And.intro ?_ ?_
    | exact Or.inl rfl
    | exact Or.inr rfl
    | decide
    | exact rfl
    | (intro h1; exact absurd h1 (cgt (by assumption)))
    | (intro h1; exfalso; rw [m88] at h1; exact h1 (Int32.not_lt.mp (by assumption)))
    | exact vi6 (by assumption)
    | exact vi4 (by assumption)
    | (intro h1; exact absurd (nH _ (cl6 (by assumption))) h1)
    | (unfold vp_in; simp [m1, m12, m16, m24, m25, m51, m56, m65, m71, m74, m79, m83, m88, mx_uI, mx_up]; done)
    | refine fun (_ : (_ : Prop)) => ?_
    | refine fun (_ : mx_H) => ?_
set_option maxHeartbeats 2000000 in
theorem fc135 {E : mx_Ev} {d : Nat} {h : mx_H} {Q : Option mx_V → mx_H → Prop} {a1 : Int32} {a2 : Int32} (hF : sp_FR h) (hM : sp_FM h) (hQ : ∀ r h', r = (if (0 ≤ a1 ∧ a1 ≤ 3) ∧ ((-1) ≤ a2) then (-4) else (-1)) → sp_FM h' → Q (some (.inl (.int r))) h') :
    mx_C E (mx_fn true) (d + 4) 135 [.inr (.inl 0), .inl (.int a1), .inl (.int a2)] h Q := by
  obtain ⟨⟨f0, f3, ft, fp, fw, fh⟩, fd, fs, fr, gE, gT, fra, fdo, fud, fc, frn, gS⟩ := hF
  obtain ⟨⟨m1, m12, m16, m24, m25, m51, m56, m65, m71, m74, m79, m83, m88⟩, nE, nW, nH⟩ := hM
  refine sg135_0 ?_
  repeat' first
    | exact hQ _ _ (by first | rfl | (simp [f0, f3, ft, fp, fw, fh, fd, fs, fr, fra, fdo, fud, fc, frn, mx_uI, mx_uR, mx_up]; done) | exact gE _ (cl4 (by assumption)) | (rw [if_pos ⟨(by assumption), (by assumption)⟩] <;> (first | rfl | (simp [f0, f3, ft, fp, fw, fh, fd, fs, fr, fra, fdo, fud, fc, frn, mx_uI, mx_uR, mx_up]; done) | exact gE _ (cl4 (by assumption)))) | (rw [if_neg (fun q => absurd q.1 (by assumption))] <;> (first | rfl | (simp [f0, f3, ft, fp, fw, fh, fd, fs, fr, fra, fdo, fud, fc, frn, mx_uI, mx_uR, mx_up]; done) | exact gE _ (cl4 (by assumption)))) | (rw [if_neg (fun q => absurd q.2 (by assumption))] <;> (first | rfl | (simp [f0, f3, ft, fp, fw, fh, fd, fs, fr, fra, fdo, fud, fc, frn, mx_uI, mx_uR, mx_up]; done) | exact gE _ (cl4 (by assumption))))) (by repeat first | assumption | exact sp_FM_ext (by assumption) ⟨⟨m1, m12, m16, m24, m25, m51, m56, m65, m71, m74, m79, m83, m88⟩, nE, nW, nH⟩ | exact ⟨⟨m1, m12, m16, m24, m25, m51, m56, m65, m71, m74, m79, m83, m88⟩, nE, nW, nH⟩ | refine sp_FM_uI rfl ?_ | refine sp_FM_uL ?_ | refine sp_FM_uR ?_)
    | (intro h1; exact absurd h1 (by decide))
    | (intro h1; exfalso; revert h1; simp only [f0, f3, ft, fp, fw, fh, fd, fs, fr, fra, fdo, fud, fc, frn]; first | decide | exact sp_e0 | exact sp_e1)
    | (intro h1; exfalso; revert h1; simp [f0, f3, ft, fp, fw, fh, fd, fs, fr, fra, fdo, fud, fc, frn, mx_uI, mx_up]; done)
    | refine hx_i ?_
    | refine hx_l ?_
    | refine hx_n ?_
    | refine hx_0 ?_
    | refine fz_shapeAt (by assumption) ?_
    | refine fz_planned (by assumption) ?_
    | refine fz_isBody (by assumption) ?_
    | refine fz_was (by assumption) ?_
    | refine sp_wi ?_ ?_
    | refine fz_159 ?_ ?_
    | refine fz_160 ?_ ?_
    | refine fz_161 ?_ ?_
    | refine fz_162 ?_ ?_
    | refine sg164_null ?_
    | refine sg165_null ?_
    | refine And.intro ?_ ?_
    | exact Or.inl rfl
    | exact Or.inr rfl
    | decide
    | exact rfl
    | (intro h1; exact absurd h1 (cgt (by assumption)))
    | (intro h1; exfalso; rw [frn] at h1; exact h1 (Int32.not_lt.mp (by assumption)))
    | exact vi6 (by assumption)
    | exact vi4 (by assumption)
    | (intro h1; exact absurd (gS _ (cl6 (by assumption))) h1)
    | (unfold vp_in; simp [f0, f3, ft, fp, fw, fh, fd, fs, fr, fra, fdo, fud, fc, frn, mx_uI, mx_up]; done)
    | refine fun (_ : (_ : Prop)) => ?_
    | refine fun (_ : mx_H) => ?_
set_option maxHeartbeats 2000000 in
theorem fr263 {E : mx_Ev} {d : Nat} {h : mx_H} {Q : Option mx_V → mx_H → Prop} {a1 : Int32} {a2 : Int32} (hM : sp_FM h) (hQ : ∀ r h', r = (if (0 ≤ a1 ∧ a1 ≤ 3) ∧ ((-1) ≤ a2) then (-4) else (-1)) → Q (some (.inl (.int r))) h') :
    mx_C E (mx_fn true) (d + 4) 263 [.inr (.inl 105), .inl (.int a1), .inl (.int a2)] h Q := by
  obtain ⟨⟨m1, m12, m16, m24, m25, m51, m56, m65, m71, m74, m79, m83, m88⟩, nE, nW, nH⟩ := hM
  refine sg263_0 ?_
  repeat' first
    | exact hQ _ _ (by first | rfl | (simp [m1, m12, m16, m24, m25, m51, m56, m65, m71, m74, m79, m83, m88, mx_uI, mx_uR, mx_up]; done) | exact nE _ (cl4 (by assumption)) | (rw [if_pos ⟨(by assumption), (by assumption)⟩] <;> (first | rfl | (simp [m1, m12, m16, m24, m25, m51, m56, m65, m71, m74, m79, m83, m88, mx_uI, mx_uR, mx_up]; done) | exact nE _ (cl4 (by assumption)))) | (rw [if_neg (fun q => absurd q.1 (by assumption))] <;> (first | rfl | (simp [m1, m12, m16, m24, m25, m51, m56, m65, m71, m74, m79, m83, m88, mx_uI, mx_uR, mx_up]; done) | exact nE _ (cl4 (by assumption)))) | (rw [if_neg (fun q => absurd q.2 (by assumption))] <;> (first | rfl | (simp [m1, m12, m16, m24, m25, m51, m56, m65, m71, m74, m79, m83, m88, mx_uI, mx_uR, mx_up]; done) | exact nE _ (cl4 (by assumption)))))
    | (intro h1; exact absurd h1 (by decide))
    | (intro h1; exfalso; revert h1; simp only [m1, m12, m16, m24, m25, m51, m56, m65, m71, m74, m79, m83, m88]; first | decide | exact sp_e0 | exact sp_e1)
    | (intro h1; exfalso; revert h1; simp [m1, m12, m16, m24, m25, m51, m56, m65, m71, m74, m79, m83, m88, mx_uI, mx_up]; done)
    | refine hx_i ?_
    | refine hx_l ?_
    | refine hx_n ?_
    | refine hx_0 ?_
    | refine fz_isShape (by assumption) ?_
    | refine fz_isBodyM (by assumption) ?_
    | refine sp_ini ?_ ?_
    | refine fz_255 ?_ ?_
    | refine fz_300 ?_ ?_
    | refine And.intro ?_ ?_
    | exact Or.inl rfl
    | exact Or.inr rfl
    | decide
    | exact rfl
    | (intro h1; exact absurd h1 (cgt (by assumption)))
    | (intro h1; exfalso; rw [m88] at h1; exact h1 (Int32.not_lt.mp (by assumption)))
    | exact vi6 (by assumption)
    | exact vi4 (by assumption)
    | (intro h1; exact absurd (nH _ (cl6 (by assumption))) h1)
    | (unfold vp_in; simp [m1, m12, m16, m24, m25, m51, m56, m65, m71, m74, m79, m83, m88, mx_uI, mx_up]; done)
    | refine fun (_ : (_ : Prop)) => ?_
    | refine fun (_ : mx_H) => ?_
set_option maxHeartbeats 2000000 in
theorem fc136 {E : mx_Ev} {d : Nat} {h : mx_H} {Q : Option mx_V → mx_H → Prop} {a1 : Int32} {a2 : Int32} {a3 : Int32} {a4 : Int32} (hF : sp_FR h) (hM : sp_FM h) (hQ : ∀ r h', r = (if (0 ≤ a1 ∧ a1 ≤ 3) ∧ (0 ≤ a2 ∧ a2 ≤ 5) ∧ (1 ≤ a4 ∧ a4 ≤ 60) then (-4) else (-1)) → sp_FM h' → Q (some (.inl (.int r))) h') :
    mx_C E (mx_fn true) (d + 4) 136 [.inr (.inl 0), .inl (.int a1), .inl (.int a2), .inl (.int a3), .inl (.int a4)] h Q := by
  obtain ⟨⟨f0, f3, ft, fp, fw, fh⟩, fd, fs, fr, gE, gT, fra, fdo, fud, fc, frn, gS⟩ := hF
  obtain ⟨⟨m1, m12, m16, m24, m25, m51, m56, m65, m71, m74, m79, m83, m88⟩, nE, nW, nH⟩ := hM
  refine sg136_0 ?_
  repeat' first
    | exact hQ _ _ (by first | rfl | (simp [f0, f3, ft, fp, fw, fh, fd, fs, fr, fra, fdo, fud, fc, frn, mx_uI, mx_uR, mx_up]; done) | exact gE _ (cl4 (by assumption)) | (rw [if_pos ⟨(by assumption), (by assumption), (by assumption)⟩] <;> (first | rfl | (simp [f0, f3, ft, fp, fw, fh, fd, fs, fr, fra, fdo, fud, fc, frn, mx_uI, mx_uR, mx_up]; done) | exact gE _ (cl4 (by assumption)))) | (rw [if_neg (fun q => absurd q.1 (by assumption))] <;> (first | rfl | (simp [f0, f3, ft, fp, fw, fh, fd, fs, fr, fra, fdo, fud, fc, frn, mx_uI, mx_uR, mx_up]; done) | exact gE _ (cl4 (by assumption)))) | (rw [if_neg (fun q => absurd q.2.1 (by assumption))] <;> (first | rfl | (simp [f0, f3, ft, fp, fw, fh, fd, fs, fr, fra, fdo, fud, fc, frn, mx_uI, mx_uR, mx_up]; done) | exact gE _ (cl4 (by assumption)))) | (rw [if_neg (fun q => absurd q.2.2 (by assumption))] <;> (first | rfl | (simp [f0, f3, ft, fp, fw, fh, fd, fs, fr, fra, fdo, fud, fc, frn, mx_uI, mx_uR, mx_up]; done) | exact gE _ (cl4 (by assumption))))) (by repeat first | assumption | exact sp_FM_ext (by assumption) ⟨⟨m1, m12, m16, m24, m25, m51, m56, m65, m71, m74, m79, m83, m88⟩, nE, nW, nH⟩ | exact ⟨⟨m1, m12, m16, m24, m25, m51, m56, m65, m71, m74, m79, m83, m88⟩, nE, nW, nH⟩ | refine sp_FM_uI rfl ?_ | refine sp_FM_uL ?_ | refine sp_FM_uR ?_)
    | (intro h1; exact absurd h1 (by decide))
    | (intro h1; exfalso; revert h1; simp only [f0, f3, ft, fp, fw, fh, fd, fs, fr, fra, fdo, fud, fc, frn]; first | decide | exact sp_e0 | exact sp_e1)
    | (intro h1; exfalso; revert h1; simp [f0, f3, ft, fp, fw, fh, fd, fs, fr, fra, fdo, fud, fc, frn, mx_uI, mx_up]; done)
    | refine hx_i ?_
    | refine hx_l ?_
    | refine hx_n ?_
    | refine hx_0 ?_
    | refine fz_shapeAt (by assumption) ?_
    | refine fz_planned (by assumption) ?_
    | refine fz_isBody (by assumption) ?_
    | refine fz_was (by assumption) ?_
    | refine sp_wi ?_ ?_
    | refine fz_159 ?_ ?_
    | refine fz_160 ?_ ?_
    | refine fz_161 ?_ ?_
    | refine fz_162 ?_ ?_
    | refine sg164_null ?_
    | refine sg165_null ?_
    | refine And.intro ?_ ?_
    | exact Or.inl rfl
    | exact Or.inr rfl
    | decide
    | exact rfl
    | (intro h1; exact absurd h1 (cgt (by assumption)))
    | (intro h1; exfalso; rw [frn] at h1; exact h1 (Int32.not_lt.mp (by assumption)))
    | exact vi6 (by assumption)
    | exact vi4 (by assumption)
    | (intro h1; exact absurd (gS _ (cl6 (by assumption))) h1)
    | (unfold vp_in; simp [f0, f3, ft, fp, fw, fh, fd, fs, fr, fra, fdo, fud, fc, frn, mx_uI, mx_up]; done)
    | refine fun (_ : (_ : Prop)) => ?_
    | refine fun (_ : mx_H) => ?_
set_option maxHeartbeats 2000000 in
theorem fr266 {E : mx_Ev} {d : Nat} {h : mx_H} {Q : Option mx_V → mx_H → Prop} {a1 : Int32} {a2 : Int32} {a3 : Int32} {a4 : Int32} (hM : sp_FM h) (hQ : ∀ r h', r = (if (0 ≤ a1 ∧ a1 ≤ 3) ∧ (0 ≤ a2 ∧ a2 ≤ 5) ∧ (1 ≤ a4 ∧ a4 ≤ 60) then (-4) else (-1)) → Q (some (.inl (.int r))) h') :
    mx_C E (mx_fn true) (d + 4) 266 [.inr (.inl 105), .inl (.int a1), .inl (.int a2), .inl (.int a3), .inl (.int a4)] h Q := by
  obtain ⟨⟨m1, m12, m16, m24, m25, m51, m56, m65, m71, m74, m79, m83, m88⟩, nE, nW, nH⟩ := hM
  refine sg266_0 ?_
  repeat' first
    | exact hQ _ _ (by first | rfl | (simp [m1, m12, m16, m24, m25, m51, m56, m65, m71, m74, m79, m83, m88, mx_uI, mx_uR, mx_up]; done) | exact nE _ (cl4 (by assumption)) | (rw [if_pos ⟨(by assumption), (by assumption), (by assumption)⟩] <;> (first | rfl | (simp [m1, m12, m16, m24, m25, m51, m56, m65, m71, m74, m79, m83, m88, mx_uI, mx_uR, mx_up]; done) | exact nE _ (cl4 (by assumption)))) | (rw [if_neg (fun q => absurd q.1 (by assumption))] <;> (first | rfl | (simp [m1, m12, m16, m24, m25, m51, m56, m65, m71, m74, m79, m83, m88, mx_uI, mx_uR, mx_up]; done) | exact nE _ (cl4 (by assumption)))) | (rw [if_neg (fun q => absurd q.2.1 (by assumption))] <;> (first | rfl | (simp [m1, m12, m16, m24, m25, m51, m56, m65, m71, m74, m79, m83, m88, mx_uI, mx_uR, mx_up]; done) | exact nE _ (cl4 (by assumption)))) | (rw [if_neg (fun q => absurd q.2.2 (by assumption))] <;> (first | rfl | (simp [m1, m12, m16, m24, m25, m51, m56, m65, m71, m74, m79, m83, m88, mx_uI, mx_uR, mx_up]; done) | exact nE _ (cl4 (by assumption)))))
    | (intro h1; exact absurd h1 (by decide))
    | (intro h1; exfalso; revert h1; simp only [m1, m12, m16, m24, m25, m51, m56, m65, m71, m74, m79, m83, m88]; first | decide | exact sp_e0 | exact sp_e1)
    | (intro h1; exfalso; revert h1; simp [m1, m12, m16, m24, m25, m51, m56, m65, m71, m74, m79, m83, m88, mx_uI, mx_up]; done)
    | refine hx_i ?_
    | refine hx_l ?_
    | refine hx_n ?_
    | refine hx_0 ?_
    | refine fz_isShape (by assumption) ?_
    | refine fz_isBodyM (by assumption) ?_
    | refine sp_ini ?_ ?_
    | refine fz_255 ?_ ?_
    | refine fz_300 ?_ ?_
    | refine And.intro ?_ ?_
    | exact Or.inl rfl
    | exact Or.inr rfl
    | decide
    | exact rfl
    | (intro h1; exact absurd h1 (cgt (by assumption)))
    | (intro h1; exfalso; rw [m88] at h1; exact h1 (Int32.not_lt.mp (by assumption)))
    | exact vi6 (by assumption)
    | exact vi4 (by assumption)
    | (intro h1; exact absurd (nH _ (cl6 (by assumption))) h1)
    | (unfold vp_in; simp [m1, m12, m16, m24, m25, m51, m56, m65, m71, m74, m79, m83, m88, mx_uI, mx_up]; done)
    | refine fun (_ : (_ : Prop)) => ?_
    | refine fun (_ : mx_H) => ?_
set_option maxHeartbeats 2000000 in
theorem fc137 {E : mx_Ev} {d : Nat} {h : mx_H} {Q : Option mx_V → mx_H → Prop} {a1 : Int32} {a2 : Int32} (hF : sp_FR h) (hM : sp_FM h) (hQ : ∀ r h', r = (if (0 ≤ a1 ∧ a1 ≤ 5) ∧ (2 ≤ a2 ∧ a2 ≤ 60) then (-11) else (-1)) → sp_FM h' → Q (some (.inl (.int r))) h') :
    mx_C E (mx_fn true) (d + 4) 137 [.inr (.inl 0), .inl (.int a1), .inl (.int a2)] h Q := by
  obtain ⟨⟨f0, f3, ft, fp, fw, fh⟩, fd, fs, fr, gE, gT, fra, fdo, fud, fc, frn, gS⟩ := hF
  obtain ⟨⟨m1, m12, m16, m24, m25, m51, m56, m65, m71, m74, m79, m83, m88⟩, nE, nW, nH⟩ := hM
  refine sg137_0 ?_
  repeat' first
    | exact hQ _ _ (by first | rfl | (simp [f0, f3, ft, fp, fw, fh, fd, fs, fr, fra, fdo, fud, fc, frn, mx_uI, mx_uR, mx_up]; done) | exact gE _ (cl4 (by assumption)) | (rw [if_pos ⟨(by assumption), (by assumption)⟩] <;> (first | rfl | (simp [f0, f3, ft, fp, fw, fh, fd, fs, fr, fra, fdo, fud, fc, frn, mx_uI, mx_uR, mx_up]; done) | exact gE _ (cl4 (by assumption)))) | (rw [if_neg (fun q => absurd q.1 (by assumption))] <;> (first | rfl | (simp [f0, f3, ft, fp, fw, fh, fd, fs, fr, fra, fdo, fud, fc, frn, mx_uI, mx_uR, mx_up]; done) | exact gE _ (cl4 (by assumption)))) | (rw [if_neg (fun q => absurd q.2 (by assumption))] <;> (first | rfl | (simp [f0, f3, ft, fp, fw, fh, fd, fs, fr, fra, fdo, fud, fc, frn, mx_uI, mx_uR, mx_up]; done) | exact gE _ (cl4 (by assumption))))) (by repeat first | assumption | exact sp_FM_ext (by assumption) ⟨⟨m1, m12, m16, m24, m25, m51, m56, m65, m71, m74, m79, m83, m88⟩, nE, nW, nH⟩ | exact ⟨⟨m1, m12, m16, m24, m25, m51, m56, m65, m71, m74, m79, m83, m88⟩, nE, nW, nH⟩ | refine sp_FM_uI rfl ?_ | refine sp_FM_uL ?_ | refine sp_FM_uR ?_)
    | (intro h1; exact absurd h1 (by decide))
    | (intro h1; exfalso; revert h1; simp only [f0, f3, ft, fp, fw, fh, fd, fs, fr, fra, fdo, fud, fc, frn]; first | decide | exact sp_e0 | exact sp_e1)
    | (intro h1; exfalso; revert h1; simp [f0, f3, ft, fp, fw, fh, fd, fs, fr, fra, fdo, fud, fc, frn, mx_uI, mx_up]; done)
    | refine hx_i ?_
    | refine hx_l ?_
    | refine hx_n ?_
    | refine hx_0 ?_
    | refine fz_shapeAt (by assumption) ?_
    | refine fz_planned (by assumption) ?_
    | refine fz_isBody (by assumption) ?_
    | refine fz_was (by assumption) ?_
    | refine sp_wi ?_ ?_
    | refine fz_159 ?_ ?_
    | refine fz_160 ?_ ?_
    | refine fz_161 ?_ ?_
    | refine fz_162 ?_ ?_
    | refine sg164_null ?_
    | refine sg165_null ?_
    | refine sg73_0 ?_
    | refine And.intro ?_ ?_
    | exact Or.inl rfl
    | exact Or.inr rfl
    | decide
    | exact rfl
    | (intro h1; exact absurd h1 (cgt (by assumption)))
    | (intro h1; exfalso; rw [frn] at h1; exact h1 (Int32.not_lt.mp (by assumption)))
    | exact vi6 (by assumption)
    | exact vi4 (by assumption)
    | (intro h1; exact absurd (gS _ (cl6 (by assumption))) h1)
    | (unfold vp_in; simp [f0, f3, ft, fp, fw, fh, fd, fs, fr, fra, fdo, fud, fc, frn, mx_uI, mx_up]; done)
    | refine fun (_ : (_ : Prop)) => ?_
    | refine fun (_ : mx_H) => ?_
set_option maxHeartbeats 2000000 in
theorem fr271 {E : mx_Ev} {d : Nat} {h : mx_H} {Q : Option mx_V → mx_H → Prop} {a1 : Int32} {a2 : Int32} (hM : sp_FM h) (hQ : ∀ r h', r = (if (0 ≤ a1 ∧ a1 ≤ 5) ∧ (2 ≤ a2 ∧ a2 ≤ 60) then (-11) else (-1)) → Q (some (.inl (.int r))) h') :
    mx_C E (mx_fn true) (d + 4) 271 [.inr (.inl 105), .inl (.int a1), .inl (.int a2)] h Q := by
  obtain ⟨⟨m1, m12, m16, m24, m25, m51, m56, m65, m71, m74, m79, m83, m88⟩, nE, nW, nH⟩ := hM
  refine sg271_0 ?_
  repeat' first
    | exact hQ _ _ (by first | rfl | (simp [m1, m12, m16, m24, m25, m51, m56, m65, m71, m74, m79, m83, m88, mx_uI, mx_uR, mx_up]; done) | exact nE _ (cl4 (by assumption)) | (rw [if_pos ⟨(by assumption), (by assumption)⟩] <;> (first | rfl | (simp [m1, m12, m16, m24, m25, m51, m56, m65, m71, m74, m79, m83, m88, mx_uI, mx_uR, mx_up]; done) | exact nE _ (cl4 (by assumption)))) | (rw [if_neg (fun q => absurd q.1 (by assumption))] <;> (first | rfl | (simp [m1, m12, m16, m24, m25, m51, m56, m65, m71, m74, m79, m83, m88, mx_uI, mx_uR, mx_up]; done) | exact nE _ (cl4 (by assumption)))) | (rw [if_neg (fun q => absurd q.2 (by assumption))] <;> (first | rfl | (simp [m1, m12, m16, m24, m25, m51, m56, m65, m71, m74, m79, m83, m88, mx_uI, mx_uR, mx_up]; done) | exact nE _ (cl4 (by assumption)))))
    | (intro h1; exact absurd h1 (by decide))
    | (intro h1; exfalso; revert h1; simp only [m1, m12, m16, m24, m25, m51, m56, m65, m71, m74, m79, m83, m88]; first | decide | exact sp_e0 | exact sp_e1)
    | (intro h1; exfalso; revert h1; simp [m1, m12, m16, m24, m25, m51, m56, m65, m71, m74, m79, m83, m88, mx_uI, mx_up]; done)
    | refine hx_i ?_
    | refine hx_l ?_
    | refine hx_n ?_
    | refine hx_0 ?_
    | refine fz_isShape (by assumption) ?_
    | refine fz_isBodyM (by assumption) ?_
    | refine sp_ini ?_ ?_
    | refine fz_255 ?_ ?_
    | refine fz_300 ?_ ?_
    | refine sg270_0 ?_
    | refine And.intro ?_ ?_
    | exact Or.inl rfl
    | exact Or.inr rfl
    | decide
    | exact rfl
    | (intro h1; exact absurd h1 (cgt (by assumption)))
    | (intro h1; exfalso; rw [m88] at h1; exact h1 (Int32.not_lt.mp (by assumption)))
    | exact vi6 (by assumption)
    | exact vi4 (by assumption)
    | (intro h1; exact absurd (nH _ (cl6 (by assumption))) h1)
    | (unfold vp_in; simp [m1, m12, m16, m24, m25, m51, m56, m65, m71, m74, m79, m83, m88, mx_uI, mx_up]; done)
    | refine fun (_ : (_ : Prop)) => ?_
    | refine fun (_ : mx_H) => ?_
set_option maxHeartbeats 2000000 in
theorem fc138 {E : mx_Ev} {d : Nat} {h : mx_H} {Q : Option mx_V → mx_H → Prop} {a1 : Int32} (hF : sp_FR h) (hM : sp_FM h) (hQ : ∀ r h', r = (if (0 ≤ a1 ∧ a1 ≤ 5) then (-11) else (-1)) → sp_FM h' → Q (some (.inl (.int r))) h') :
    mx_C E (mx_fn true) (d + 4) 138 [.inr (.inl 0), .inl (.int a1)] h Q := by
  obtain ⟨⟨f0, f3, ft, fp, fw, fh⟩, fd, fs, fr, gE, gT, fra, fdo, fud, fc, frn, gS⟩ := hF
  obtain ⟨⟨m1, m12, m16, m24, m25, m51, m56, m65, m71, m74, m79, m83, m88⟩, nE, nW, nH⟩ := hM
  refine sg138_0 ?_
  repeat' first
    | exact hQ _ _ (by first | rfl | (simp [f0, f3, ft, fp, fw, fh, fd, fs, fr, fra, fdo, fud, fc, frn, mx_uI, mx_uR, mx_up]; done) | exact gE _ (cl4 (by assumption)) | (rw [if_pos (by assumption)] <;> (first | rfl | (simp [f0, f3, ft, fp, fw, fh, fd, fs, fr, fra, fdo, fud, fc, frn, mx_uI, mx_uR, mx_up]; done) | exact gE _ (cl4 (by assumption)))) | (rw [if_neg (by assumption)] <;> (first | rfl | (simp [f0, f3, ft, fp, fw, fh, fd, fs, fr, fra, fdo, fud, fc, frn, mx_uI, mx_uR, mx_up]; done) | exact gE _ (cl4 (by assumption))))) (by repeat first | assumption | exact sp_FM_ext (by assumption) ⟨⟨m1, m12, m16, m24, m25, m51, m56, m65, m71, m74, m79, m83, m88⟩, nE, nW, nH⟩ | exact ⟨⟨m1, m12, m16, m24, m25, m51, m56, m65, m71, m74, m79, m83, m88⟩, nE, nW, nH⟩ | refine sp_FM_uI rfl ?_ | refine sp_FM_uL ?_ | refine sp_FM_uR ?_)
    | (intro h1; exact absurd h1 (by decide))
    | (intro h1; exfalso; revert h1; simp only [f0, f3, ft, fp, fw, fh, fd, fs, fr, fra, fdo, fud, fc, frn]; first | decide | exact sp_e0 | exact sp_e1)
    | (intro h1; exfalso; revert h1; simp [f0, f3, ft, fp, fw, fh, fd, fs, fr, fra, fdo, fud, fc, frn, mx_uI, mx_up]; done)
    | refine hx_i ?_
    | refine hx_l ?_
    | refine hx_n ?_
    | refine hx_0 ?_
    | refine fz_shapeAt (by assumption) ?_
    | refine fz_planned (by assumption) ?_
    | refine fz_isBody (by assumption) ?_
    | refine fz_was (by assumption) ?_
    | refine sp_wi ?_ ?_
    | refine fz_159 ?_ ?_
    | refine fz_160 ?_ ?_
    | refine fz_161 ?_ ?_
    | refine fz_162 ?_ ?_
    | refine sg164_null ?_
    | refine sg165_null ?_
    | refine sg73_0 ?_
    | refine And.intro ?_ ?_
    | exact Or.inl rfl
    | exact Or.inr rfl
    | decide
    | exact rfl
    | (intro h1; exact absurd h1 (cgt (by assumption)))
    | (intro h1; exfalso; rw [frn] at h1; exact h1 (Int32.not_lt.mp (by assumption)))
    | exact vi6 (by assumption)
    | exact vi4 (by assumption)
    | (intro h1; exact absurd (gS _ (cl6 (by assumption))) h1)
    | (unfold vp_in; simp [f0, f3, ft, fp, fw, fh, fd, fs, fr, fra, fdo, fud, fc, frn, mx_uI, mx_up]; done)
    | refine fun (_ : (_ : Prop)) => ?_
    | refine fun (_ : mx_H) => ?_
set_option maxHeartbeats 2000000 in
theorem fr272 {E : mx_Ev} {d : Nat} {h : mx_H} {Q : Option mx_V → mx_H → Prop} {a1 : Int32} (hM : sp_FM h) (hQ : ∀ r h', r = (if (0 ≤ a1 ∧ a1 ≤ 5) then (-11) else (-1)) → Q (some (.inl (.int r))) h') :
    mx_C E (mx_fn true) (d + 4) 272 [.inr (.inl 105), .inl (.int a1)] h Q := by
  obtain ⟨⟨m1, m12, m16, m24, m25, m51, m56, m65, m71, m74, m79, m83, m88⟩, nE, nW, nH⟩ := hM
  refine sg272_0 ?_
  repeat' first
    | exact hQ _ _ (by first | rfl | (simp [m1, m12, m16, m24, m25, m51, m56, m65, m71, m74, m79, m83, m88, mx_uI, mx_uR, mx_up]; done) | exact nE _ (cl4 (by assumption)) | (rw [if_pos (by assumption)] <;> (first | rfl | (simp [m1, m12, m16, m24, m25, m51, m56, m65, m71, m74, m79, m83, m88, mx_uI, mx_uR, mx_up]; done) | exact nE _ (cl4 (by assumption)))) | (rw [if_neg (by assumption)] <;> (first | rfl | (simp [m1, m12, m16, m24, m25, m51, m56, m65, m71, m74, m79, m83, m88, mx_uI, mx_uR, mx_up]; done) | exact nE _ (cl4 (by assumption)))))
    | (intro h1; exact absurd h1 (by decide))
    | (intro h1; exfalso; revert h1; simp only [m1, m12, m16, m24, m25, m51, m56, m65, m71, m74, m79, m83, m88]; first | decide | exact sp_e0 | exact sp_e1)
    | (intro h1; exfalso; revert h1; simp [m1, m12, m16, m24, m25, m51, m56, m65, m71, m74, m79, m83, m88, mx_uI, mx_up]; done)
    | refine hx_i ?_
    | refine hx_l ?_
    | refine hx_n ?_
    | refine hx_0 ?_
    | refine fz_isShape (by assumption) ?_
    | refine fz_isBodyM (by assumption) ?_
    | refine sp_ini ?_ ?_
    | refine fz_255 ?_ ?_
    | refine fz_300 ?_ ?_
    | refine sg270_0 ?_
    | refine And.intro ?_ ?_
    | exact Or.inl rfl
    | exact Or.inr rfl
    | decide
    | exact rfl
    | (intro h1; exact absurd h1 (cgt (by assumption)))
    | (intro h1; exfalso; rw [m88] at h1; exact h1 (Int32.not_lt.mp (by assumption)))
    | exact vi6 (by assumption)
    | exact vi4 (by assumption)
    | (intro h1; exact absurd (nH _ (cl6 (by assumption))) h1)
    | (unfold vp_in; simp [m1, m12, m16, m24, m25, m51, m56, m65, m71, m74, m79, m83, m88, mx_uI, mx_up]; done)
    | refine fun (_ : (_ : Prop)) => ?_
    | refine fun (_ : mx_H) => ?_
set_option maxHeartbeats 2000000 in
theorem fc139 {E : mx_Ev} {d : Nat} {h : mx_H} {Q : Option mx_V → mx_H → Prop} {a1 : Int32} {a2 : Int32} (hF : sp_FR h) (hM : sp_FM h) (hQ : ∀ r h', r = (if (1 ≤ a1 ∧ a1 ≤ 9) ∧ (1 ≤ a2 ∧ a2 ≤ 9) then 1 else (-1)) → sp_FM h' → Q (some (.inl (.int r))) h') :
    mx_C E (mx_fn true) (d + 4) 139 [.inr (.inl 0), .inl (.int a1), .inl (.int a2)] h Q := by
  obtain ⟨⟨f0, f3, ft, fp, fw, fh⟩, fd, fs, fr, gE, gT, fra, fdo, fud, fc, frn, gS⟩ := hF
  obtain ⟨⟨m1, m12, m16, m24, m25, m51, m56, m65, m71, m74, m79, m83, m88⟩, nE, nW, nH⟩ := hM
  refine sg139_0 ?_
  repeat' first
    | exact hQ _ _ (by first | rfl | (simp [f0, f3, ft, fp, fw, fh, fd, fs, fr, fra, fdo, fud, fc, frn, mx_uI, mx_uR, mx_up]; done) | exact gE _ (cl4 (by assumption)) | (rw [if_pos ⟨(by assumption), (by assumption)⟩] <;> (first | rfl | (simp [f0, f3, ft, fp, fw, fh, fd, fs, fr, fra, fdo, fud, fc, frn, mx_uI, mx_uR, mx_up]; done) | exact gE _ (cl4 (by assumption)))) | (rw [if_neg (fun q => absurd q.1 (by assumption))] <;> (first | rfl | (simp [f0, f3, ft, fp, fw, fh, fd, fs, fr, fra, fdo, fud, fc, frn, mx_uI, mx_uR, mx_up]; done) | exact gE _ (cl4 (by assumption)))) | (rw [if_neg (fun q => absurd q.2 (by assumption))] <;> (first | rfl | (simp [f0, f3, ft, fp, fw, fh, fd, fs, fr, fra, fdo, fud, fc, frn, mx_uI, mx_uR, mx_up]; done) | exact gE _ (cl4 (by assumption))))) (by repeat first | assumption | exact sp_FM_ext (by assumption) ⟨⟨m1, m12, m16, m24, m25, m51, m56, m65, m71, m74, m79, m83, m88⟩, nE, nW, nH⟩ | exact ⟨⟨m1, m12, m16, m24, m25, m51, m56, m65, m71, m74, m79, m83, m88⟩, nE, nW, nH⟩ | refine sp_FM_uI rfl ?_ | refine sp_FM_uL ?_ | refine sp_FM_uR ?_)
    | (intro h1; exact absurd h1 (by decide))
    | (intro h1; exfalso; revert h1; simp only [f0, f3, ft, fp, fw, fh, fd, fs, fr, fra, fdo, fud, fc, frn]; first | decide | exact sp_e0 | exact sp_e1)
    | (intro h1; exfalso; revert h1; simp [f0, f3, ft, fp, fw, fh, fd, fs, fr, fra, fdo, fud, fc, frn, mx_uI, mx_up]; done)
    | refine hx_i ?_
    | refine hx_l ?_
    | refine hx_n ?_
    | refine hx_0 ?_
    | refine fz_shapeAt (by assumption) ?_
    | refine fz_planned (by assumption) ?_
    | refine fz_isBody (by assumption) ?_
    | refine fz_was (by assumption) ?_
    | refine sp_wi ?_ ?_
    | refine fz_159 ?_ ?_
    | refine fz_160 ?_ ?_
    | refine fz_161 ?_ ?_
    | refine fz_162 ?_ ?_
    | refine sg164_null ?_
    | refine sg165_null ?_
    | refine sg53_0 ?_
    | refine And.intro ?_ ?_
    | exact Or.inl rfl
    | exact Or.inr rfl
    | decide
    | exact rfl
    | (intro h1; exact absurd h1 (cgt (by assumption)))
    | (intro h1; exfalso; rw [frn] at h1; exact h1 (Int32.not_lt.mp (by assumption)))
    | exact vi6 (by assumption)
    | exact vi4 (by assumption)
    | (intro h1; exact absurd (gS _ (cl6 (by assumption))) h1)
    | (unfold vp_in; simp [f0, f3, ft, fp, fw, fh, fd, fs, fr, fra, fdo, fud, fc, frn, mx_uI, mx_up]; done)
    | refine fun (_ : (_ : Prop)) => ?_
    | refine fun (_ : mx_H) => ?_
set_option maxHeartbeats 2000000 in
theorem fr273 {E : mx_Ev} {d : Nat} {h : mx_H} {Q : Option mx_V → mx_H → Prop} {a1 : Int32} {a2 : Int32} (hM : sp_FM h) (hQ : ∀ r h', r = (if (1 ≤ a1 ∧ a1 ≤ 9) ∧ (1 ≤ a2 ∧ a2 ≤ 9) then 1 else (-1)) → Q (some (.inl (.int r))) h') :
    mx_C E (mx_fn true) (d + 4) 273 [.inr (.inl 105), .inl (.int a1), .inl (.int a2)] h Q := by
  obtain ⟨⟨m1, m12, m16, m24, m25, m51, m56, m65, m71, m74, m79, m83, m88⟩, nE, nW, nH⟩ := hM
  refine sg273_0 ?_
  repeat' first
    | exact hQ _ _ (by first | rfl | (simp [m1, m12, m16, m24, m25, m51, m56, m65, m71, m74, m79, m83, m88, mx_uI, mx_uR, mx_up]; done) | exact nE _ (cl4 (by assumption)) | (rw [if_pos ⟨(by assumption), (by assumption)⟩] <;> (first | rfl | (simp [m1, m12, m16, m24, m25, m51, m56, m65, m71, m74, m79, m83, m88, mx_uI, mx_uR, mx_up]; done) | exact nE _ (cl4 (by assumption)))) | (rw [if_neg (fun q => absurd q.1 (by assumption))] <;> (first | rfl | (simp [m1, m12, m16, m24, m25, m51, m56, m65, m71, m74, m79, m83, m88, mx_uI, mx_uR, mx_up]; done) | exact nE _ (cl4 (by assumption)))) | (rw [if_neg (fun q => absurd q.2 (by assumption))] <;> (first | rfl | (simp [m1, m12, m16, m24, m25, m51, m56, m65, m71, m74, m79, m83, m88, mx_uI, mx_uR, mx_up]; done) | exact nE _ (cl4 (by assumption)))))
    | (intro h1; exact absurd h1 (by decide))
    | (intro h1; exfalso; revert h1; simp only [m1, m12, m16, m24, m25, m51, m56, m65, m71, m74, m79, m83, m88]; first | decide | exact sp_e0 | exact sp_e1)
    | (intro h1; exfalso; revert h1; simp [m1, m12, m16, m24, m25, m51, m56, m65, m71, m74, m79, m83, m88, mx_uI, mx_up]; done)
    | refine hx_i ?_
    | refine hx_l ?_
    | refine hx_n ?_
    | refine hx_0 ?_
    | refine fz_isShape (by assumption) ?_
    | refine fz_isBodyM (by assumption) ?_
    | refine sp_ini ?_ ?_
    | refine fz_255 ?_ ?_
    | refine fz_300 ?_ ?_
    | refine And.intro ?_ ?_
    | exact Or.inl rfl
    | exact Or.inr rfl
    | decide
    | exact rfl
    | (intro h1; exact absurd h1 (cgt (by assumption)))
    | (intro h1; exfalso; rw [m88] at h1; exact h1 (Int32.not_lt.mp (by assumption)))
    | exact vi6 (by assumption)
    | exact vi4 (by assumption)
    | (intro h1; exact absurd (nH _ (cl6 (by assumption))) h1)
    | (unfold vp_in; simp [m1, m12, m16, m24, m25, m51, m56, m65, m71, m74, m79, m83, m88, mx_uI, mx_up]; done)
    | refine fun (_ : (_ : Prop)) => ?_
    | refine fun (_ : mx_H) => ?_
set_option maxHeartbeats 2000000 in
theorem fc140 {E : mx_Ev} {d : Nat} {h : mx_H} {Q : Option mx_V → mx_H → Prop} {a1 : Int32} {a2 : Int32} {a3 : Int32} {a4 : Int32} (hF : sp_FR h) (hM : sp_FM h) (hQ : ∀ r h', r = (-1) → sp_FM h' → Q (some (.inl (.int r))) h') :
    mx_C E (mx_fn true) (d + 4) 140 [.inr (.inl 0), .inl (.int a1), .inl (.int a2), .inl (.int a3), .inl (.int a4)] h Q := by
  obtain ⟨⟨f0, f3, ft, fp, fw, fh⟩, fd, fs, fr, gE, gT, fra, fdo, fud, fc, frn, gS⟩ := hF
  obtain ⟨⟨m1, m12, m16, m24, m25, m51, m56, m65, m71, m74, m79, m83, m88⟩, nE, nW, nH⟩ := hM
  refine sg140_0 ?_
  repeat' first
    | exact hQ _ _ (by first | rfl | (simp [f0, f3, ft, fp, fw, fh, fd, fs, fr, fra, fdo, fud, fc, frn, mx_uI, mx_uR, mx_up]; done) | exact gE _ (cl4 (by assumption))) (by repeat first | assumption | exact sp_FM_ext (by assumption) ⟨⟨m1, m12, m16, m24, m25, m51, m56, m65, m71, m74, m79, m83, m88⟩, nE, nW, nH⟩ | exact ⟨⟨m1, m12, m16, m24, m25, m51, m56, m65, m71, m74, m79, m83, m88⟩, nE, nW, nH⟩ | refine sp_FM_uI rfl ?_ | refine sp_FM_uL ?_ | refine sp_FM_uR ?_)
    | (intro h1; exact absurd h1 (by decide))
    | (intro h1; exfalso; revert h1; simp only [f0, f3, ft, fp, fw, fh, fd, fs, fr, fra, fdo, fud, fc, frn]; first | decide | exact sp_e0 | exact sp_e1)
    | (intro h1; exfalso; revert h1; simp [f0, f3, ft, fp, fw, fh, fd, fs, fr, fra, fdo, fud, fc, frn, mx_uI, mx_up]; done)
    | refine hx_i ?_
    | refine hx_l ?_
    | refine hx_n ?_
    | refine hx_0 ?_
    | refine fz_shapeAt (by assumption) ?_
    | refine fz_planned (by assumption) ?_
    | refine fz_isBody (by assumption) ?_
    | refine fz_was (by assumption) ?_
    | refine sp_wi ?_ ?_
    | refine fz_159 ?_ ?_
    | refine fz_160 ?_ ?_
    | refine fz_161 ?_ ?_
    | refine fz_162 ?_ ?_
    | refine sg164_null ?_
    | refine sg165_null ?_
    | refine sg140_46 ?_
    | refine And.intro ?_ ?_
    | exact Or.inl rfl
    | exact Or.inr rfl
    | decide
    | exact rfl
    | (intro h1; exact absurd h1 (cgt (by assumption)))
    | (intro h1; exfalso; rw [frn] at h1; exact h1 (Int32.not_lt.mp (by assumption)))
    | exact vi6 (by assumption)
    | exact vi4 (by assumption)
    | (intro h1; exact absurd (gS _ (cl6 (by assumption))) h1)
    | (unfold vp_in; simp [f0, f3, ft, fp, fw, fh, fd, fs, fr, fra, fdo, fud, fc, frn, mx_uI, mx_up]; done)
    | refine fun (_ : (_ : Prop)) => ?_
    | refine fun (_ : mx_H) => ?_
set_option maxHeartbeats 2000000 in
theorem fr277 {E : mx_Ev} {d : Nat} {h : mx_H} {Q : Option mx_V → mx_H → Prop} {a1 : Int32} {a2 : Int32} {a3 : Int32} {a4 : Int32} (hM : sp_FM h) (hQ : ∀ r h', r = (-1) → Q (some (.inl (.int r))) h') :
    mx_C E (mx_fn true) (d + 4) 277 [.inr (.inl 105), .inl (.int a1), .inl (.int a2), .inl (.int a3), .inl (.int a4)] h Q := by
  obtain ⟨⟨m1, m12, m16, m24, m25, m51, m56, m65, m71, m74, m79, m83, m88⟩, nE, nW, nH⟩ := hM
  refine sg277_0 ?_
  repeat' first
    | exact hQ _ _ (by first | rfl | (simp [m1, m12, m16, m24, m25, m51, m56, m65, m71, m74, m79, m83, m88, mx_uI, mx_uR, mx_up]; done) | exact nE _ (cl4 (by assumption)))
    | (intro h1; exact absurd h1 (by decide))
    | (intro h1; exfalso; revert h1; simp only [m1, m12, m16, m24, m25, m51, m56, m65, m71, m74, m79, m83, m88]; first | decide | exact sp_e0 | exact sp_e1)
    | (intro h1; exfalso; revert h1; simp [m1, m12, m16, m24, m25, m51, m56, m65, m71, m74, m79, m83, m88, mx_uI, mx_up]; done)
    | refine hx_i ?_
    | refine hx_l ?_
    | refine hx_n ?_
    | refine hx_0 ?_
    | refine fz_isShape (by assumption) ?_
    | refine fz_isBodyM (by assumption) ?_
    | refine sp_ini ?_ ?_
    | refine fz_255 ?_ ?_
    | refine fz_300 ?_ ?_
    | refine sg277_48 ?_
    | refine And.intro ?_ ?_
    | exact Or.inl rfl
    | exact Or.inr rfl
    | decide
    | exact rfl
    | (intro h1; exact absurd h1 (cgt (by assumption)))
    | (intro h1; exfalso; rw [m88] at h1; exact h1 (Int32.not_lt.mp (by assumption)))
    | exact vi6 (by assumption)
    | exact vi4 (by assumption)
    | (intro h1; exact absurd (nH _ (cl6 (by assumption))) h1)
    | (unfold vp_in; simp [m1, m12, m16, m24, m25, m51, m56, m65, m71, m74, m79, m83, m88, mx_uI, mx_up]; done)
    | refine fun (_ : (_ : Prop)) => ?_
    | refine fun (_ : mx_H) => ?_
set_option maxHeartbeats 2000000 in
theorem fc141 {E : mx_Ev} {d : Nat} {h : mx_H} {Q : Option mx_V → mx_H → Prop}  (hF : sp_FR h) (hM : sp_FM h) (hQ : ∀ r h', r = 0 → sp_FM h' → Q (some (.inl (.int r))) h') :
    mx_C E (mx_fn true) (d + 4) 141 [.inr (.inl 0)] h Q := by
  obtain ⟨⟨f0, f3, ft, fp, fw, fh⟩, fd, fs, fr, gE, gT, fra, fdo, fud, fc, frn, gS⟩ := hF
  obtain ⟨⟨m1, m12, m16, m24, m25, m51, m56, m65, m71, m74, m79, m83, m88⟩, nE, nW, nH⟩ := hM
  refine sg141_0 ?_
  repeat' first
    | exact hQ _ _ (by first | rfl | (simp [f0, f3, ft, fp, fw, fh, fd, fs, fr, fra, fdo, fud, fc, frn, mx_uI, mx_uR, mx_up]; done) | exact gE _ (cl4 (by assumption))) (by repeat first | assumption | exact sp_FM_ext (by assumption) ⟨⟨m1, m12, m16, m24, m25, m51, m56, m65, m71, m74, m79, m83, m88⟩, nE, nW, nH⟩ | exact ⟨⟨m1, m12, m16, m24, m25, m51, m56, m65, m71, m74, m79, m83, m88⟩, nE, nW, nH⟩ | refine sp_FM_uI rfl ?_ | refine sp_FM_uL ?_ | refine sp_FM_uR ?_)
    | (intro h1; exact absurd h1 (by decide))
    | (intro h1; exfalso; revert h1; simp only [f0, f3, ft, fp, fw, fh, fd, fs, fr, fra, fdo, fud, fc, frn]; first | decide | exact sp_e0 | exact sp_e1)
    | (intro h1; exfalso; revert h1; simp [f0, f3, ft, fp, fw, fh, fd, fs, fr, fra, fdo, fud, fc, frn, mx_uI, mx_up]; done)
    | refine hx_i ?_
    | refine hx_l ?_
    | refine hx_n ?_
    | refine hx_0 ?_
    | refine fz_shapeAt (by assumption) ?_
    | refine fz_planned (by assumption) ?_
    | refine fz_isBody (by assumption) ?_
    | refine fz_was (by assumption) ?_
    | refine sp_wi ?_ ?_
    | refine fz_159 ?_ ?_
    | refine fz_160 ?_ ?_
    | refine fz_161 ?_ ?_
    | refine fz_162 ?_ ?_
    | refine sg164_null ?_
    | refine sg165_null ?_
    | refine And.intro ?_ ?_
    | exact Or.inl rfl
    | exact Or.inr rfl
    | decide
    | exact rfl
    | (intro h1; exact absurd h1 (cgt (by assumption)))
    | (intro h1; exfalso; rw [frn] at h1; exact h1 (Int32.not_lt.mp (by assumption)))
    | exact vi6 (by assumption)
    | exact vi4 (by assumption)
    | (intro h1; exact absurd (gS _ (cl6 (by assumption))) h1)
    | (unfold vp_in; simp [f0, f3, ft, fp, fw, fh, fd, fs, fr, fra, fdo, fud, fc, frn, mx_uI, mx_up]; done)
    | refine fun (_ : (_ : Prop)) => ?_
    | refine fun (_ : mx_H) => ?_
set_option maxHeartbeats 2000000 in
theorem fr274 {E : mx_Ev} {d : Nat} {h : mx_H} {Q : Option mx_V → mx_H → Prop}  (hM : sp_FM h) (hQ : ∀ r h', r = 0 → Q (some (.inl (.int r))) h') :
    mx_C E (mx_fn true) (d + 4) 274 [.inr (.inl 105)] h Q := by
  obtain ⟨⟨m1, m12, m16, m24, m25, m51, m56, m65, m71, m74, m79, m83, m88⟩, nE, nW, nH⟩ := hM
  refine sg274_0 ?_
  repeat' first
    | exact hQ _ _ (by first | rfl | (simp [m1, m12, m16, m24, m25, m51, m56, m65, m71, m74, m79, m83, m88, mx_uI, mx_uR, mx_up]; done) | exact nE _ (cl4 (by assumption)))
    | (intro h1; exact absurd h1 (by decide))
    | (intro h1; exfalso; revert h1; simp only [m1, m12, m16, m24, m25, m51, m56, m65, m71, m74, m79, m83, m88]; first | decide | exact sp_e0 | exact sp_e1)
    | (intro h1; exfalso; revert h1; simp [m1, m12, m16, m24, m25, m51, m56, m65, m71, m74, m79, m83, m88, mx_uI, mx_up]; done)
    | refine hx_i ?_
    | refine hx_l ?_
    | refine hx_n ?_
    | refine hx_0 ?_
    | refine fz_isShape (by assumption) ?_
    | refine fz_isBodyM (by assumption) ?_
    | refine sp_ini ?_ ?_
    | refine fz_255 ?_ ?_
    | refine fz_300 ?_ ?_
    | refine And.intro ?_ ?_
    | exact Or.inl rfl
    | exact Or.inr rfl
    | decide
    | exact rfl
    | (intro h1; exact absurd h1 (cgt (by assumption)))
    | (intro h1; exfalso; rw [m88] at h1; exact h1 (Int32.not_lt.mp (by assumption)))
    | exact vi6 (by assumption)
    | exact vi4 (by assumption)
    | (intro h1; exact absurd (nH _ (cl6 (by assumption))) h1)
    | (unfold vp_in; simp [m1, m12, m16, m24, m25, m51, m56, m65, m71, m74, m79, m83, m88, mx_uI, mx_up]; done)
    | refine fun (_ : (_ : Prop)) => ?_
    | refine fun (_ : mx_H) => ?_
set_option maxHeartbeats 2000000 in
theorem fc142 {E : mx_Ev} {d : Nat} {h : mx_H} {Q : Option mx_V → mx_H → Prop} {a1 : Int32} {a2 : Int32} {a3 : Int32} {a4 : Int32} (hF : sp_FR h) (hM : sp_FM h) (hQ : ∀ r h', r = (-1) → sp_FM h' → Q (some (.inl (.int r))) h') :
    mx_C E (mx_fn true) (d + 4) 142 [.inr (.inl 0), .inl (.int a1), .inl (.int a2), .inl (.int a3), .inl (.int a4)] h Q := by
  obtain ⟨⟨f0, f3, ft, fp, fw, fh⟩, fd, fs, fr, gE, gT, fra, fdo, fud, fc, frn, gS⟩ := hF
  obtain ⟨⟨m1, m12, m16, m24, m25, m51, m56, m65, m71, m74, m79, m83, m88⟩, nE, nW, nH⟩ := hM
  refine sg142_0 ?_
  repeat' first
    | exact hQ _ _ (by first | rfl | (simp [f0, f3, ft, fp, fw, fh, fd, fs, fr, fra, fdo, fud, fc, frn, mx_uI, mx_uR, mx_up]; done) | exact gE _ (cl4 (by assumption))) (by repeat first | assumption | exact sp_FM_ext (by assumption) ⟨⟨m1, m12, m16, m24, m25, m51, m56, m65, m71, m74, m79, m83, m88⟩, nE, nW, nH⟩ | exact ⟨⟨m1, m12, m16, m24, m25, m51, m56, m65, m71, m74, m79, m83, m88⟩, nE, nW, nH⟩ | refine sp_FM_uI rfl ?_ | refine sp_FM_uL ?_ | refine sp_FM_uR ?_)
    | (intro h1; exact absurd h1 (by decide))
    | (intro h1; exfalso; revert h1; simp only [f0, f3, ft, fp, fw, fh, fd, fs, fr, fra, fdo, fud, fc, frn]; first | decide | exact sp_e0 | exact sp_e1)
    | (intro h1; exfalso; revert h1; simp [f0, f3, ft, fp, fw, fh, fd, fs, fr, fra, fdo, fud, fc, frn, mx_uI, mx_up]; done)
    | refine hx_i ?_
    | refine hx_l ?_
    | refine hx_n ?_
    | refine hx_0 ?_
    | refine fz_shapeAt (by assumption) ?_
    | refine fz_planned (by assumption) ?_
    | refine fz_isBody (by assumption) ?_
    | refine fz_was (by assumption) ?_
    | refine sp_wi ?_ ?_
    | refine fz_159 ?_ ?_
    | refine fz_160 ?_ ?_
    | refine fz_161 ?_ ?_
    | refine fz_162 ?_ ?_
    | refine sg164_null ?_
    | refine sg165_null ?_
    | refine And.intro ?_ ?_
    | exact Or.inl rfl
    | exact Or.inr rfl
    | decide
    | exact rfl
    | (intro h1; exact absurd h1 (cgt (by assumption)))
    | (intro h1; exfalso; rw [frn] at h1; exact h1 (Int32.not_lt.mp (by assumption)))
    | exact vi6 (by assumption)
    | exact vi4 (by assumption)
    | (intro h1; exact absurd (gS _ (cl6 (by assumption))) h1)
    | (unfold vp_in; simp [f0, f3, ft, fp, fw, fh, fd, fs, fr, fra, fdo, fud, fc, frn, mx_uI, mx_up]; done)
    | refine fun (_ : (_ : Prop)) => ?_
    | refine fun (_ : mx_H) => ?_
set_option maxHeartbeats 2000000 in
theorem fr280 {E : mx_Ev} {d : Nat} {h : mx_H} {Q : Option mx_V → mx_H → Prop} {a1 : Int32} {a2 : Int32} {a3 : Int32} {a4 : Int32} (hM : sp_FM h) (hQ : ∀ r h', r = (-1) → Q (some (.inl (.int r))) h') :
    mx_C E (mx_fn true) (d + 4) 280 [.inr (.inl 105), .inl (.int a1), .inl (.int a2), .inl (.int a3), .inl (.int a4)] h Q := by
  obtain ⟨⟨m1, m12, m16, m24, m25, m51, m56, m65, m71, m74, m79, m83, m88⟩, nE, nW, nH⟩ := hM
  refine sg280_0 ?_
  repeat' first
    | exact hQ _ _ (by first | rfl | (simp [m1, m12, m16, m24, m25, m51, m56, m65, m71, m74, m79, m83, m88, mx_uI, mx_uR, mx_up]; done) | exact nE _ (cl4 (by assumption)))
    | (intro h1; exact absurd h1 (by decide))
    | (intro h1; exfalso; revert h1; simp only [m1, m12, m16, m24, m25, m51, m56, m65, m71, m74, m79, m83, m88]; first | decide | exact sp_e0 | exact sp_e1)
    | (intro h1; exfalso; revert h1; simp [m1, m12, m16, m24, m25, m51, m56, m65, m71, m74, m79, m83, m88, mx_uI, mx_up]; done)
    | refine hx_i ?_
    | refine hx_l ?_
    | refine hx_n ?_
    | refine hx_0 ?_
    | refine fz_isShape (by assumption) ?_
    | refine fz_isBodyM (by assumption) ?_
    | refine sp_ini ?_ ?_
    | refine fz_255 ?_ ?_
    | refine fz_300 ?_ ?_
    | refine And.intro ?_ ?_
    | exact Or.inl rfl
    | exact Or.inr rfl
    | decide
    | exact rfl
    | (intro h1; exact absurd h1 (cgt (by assumption)))
    | (intro h1; exfalso; rw [m88] at h1; exact h1 (Int32.not_lt.mp (by assumption)))
    | exact vi6 (by assumption)
    | exact vi4 (by assumption)
    | (intro h1; exact absurd (nH _ (cl6 (by assumption))) h1)
    | (unfold vp_in; simp [m1, m12, m16, m24, m25, m51, m56, m65, m71, m74, m79, m83, m88, mx_uI, mx_up]; done)
    | refine fun (_ : (_ : Prop)) => ?_
    | refine fun (_ : mx_H) => ?_
set_option maxHeartbeats 2000000 in
theorem fc143 {E : mx_Ev} {d : Nat} {h : mx_H} {Q : Option mx_V → mx_H → Prop} {a1 : Int32} {a2 : Int32} (hF : sp_FR h) (hM : sp_FM h) (hQ : ∀ r h', r = (-1) → sp_FM h' → Q (some (.inl (.int r))) h') :
    mx_C E (mx_fn true) (d + 4) 143 [.inr (.inl 0), .inl (.int a1), .inl (.int a2)] h Q := by
  obtain ⟨⟨f0, f3, ft, fp, fw, fh⟩, fd, fs, fr, gE, gT, fra, fdo, fud, fc, frn, gS⟩ := hF
  obtain ⟨⟨m1, m12, m16, m24, m25, m51, m56, m65, m71, m74, m79, m83, m88⟩, nE, nW, nH⟩ := hM
  refine sg143_0 ?_
  repeat' first
    | exact hQ _ _ (by first | rfl | (simp [f0, f3, ft, fp, fw, fh, fd, fs, fr, fra, fdo, fud, fc, frn, mx_uI, mx_uR, mx_up]; done) | exact gE _ (cl4 (by assumption))) (by repeat first | assumption | exact sp_FM_ext (by assumption) ⟨⟨m1, m12, m16, m24, m25, m51, m56, m65, m71, m74, m79, m83, m88⟩, nE, nW, nH⟩ | exact ⟨⟨m1, m12, m16, m24, m25, m51, m56, m65, m71, m74, m79, m83, m88⟩, nE, nW, nH⟩ | refine sp_FM_uI rfl ?_ | refine sp_FM_uL ?_ | refine sp_FM_uR ?_)
    | (intro h1; exact absurd h1 (by decide))
    | (intro h1; exfalso; revert h1; simp only [f0, f3, ft, fp, fw, fh, fd, fs, fr, fra, fdo, fud, fc, frn]; first | decide | exact sp_e0 | exact sp_e1)
    | (intro h1; exfalso; revert h1; simp [f0, f3, ft, fp, fw, fh, fd, fs, fr, fra, fdo, fud, fc, frn, mx_uI, mx_up]; done)
    | refine hx_i ?_
    | refine hx_l ?_
    | refine hx_n ?_
    | refine hx_0 ?_
    | refine fz_shapeAt (by assumption) ?_
    | refine fz_planned (by assumption) ?_
    | refine fz_isBody (by assumption) ?_
    | refine fz_was (by assumption) ?_
    | refine sp_wi ?_ ?_
    | refine fz_159 ?_ ?_
    | refine fz_160 ?_ ?_
    | refine fz_161 ?_ ?_
    | refine fz_162 ?_ ?_
    | refine sg164_null ?_
    | refine sg165_null ?_
    | refine And.intro ?_ ?_
    | exact Or.inl rfl
    | exact Or.inr rfl
    | decide
    | exact rfl
    | (intro h1; exact absurd h1 (cgt (by assumption)))
    | (intro h1; exfalso; rw [frn] at h1; exact h1 (Int32.not_lt.mp (by assumption)))
    | exact vi6 (by assumption)
    | exact vi4 (by assumption)
    | (intro h1; exact absurd (gS _ (cl6 (by assumption))) h1)
    | (unfold vp_in; simp [f0, f3, ft, fp, fw, fh, fd, fs, fr, fra, fdo, fud, fc, frn, mx_uI, mx_up]; done)
    | refine fun (_ : (_ : Prop)) => ?_
    | refine fun (_ : mx_H) => ?_
set_option maxHeartbeats 2000000 in
theorem fr282 {E : mx_Ev} {d : Nat} {h : mx_H} {Q : Option mx_V → mx_H → Prop} {a1 : Int32} {a2 : Int32} (hM : sp_FM h) (hQ : ∀ r h', r = (-1) → Q (some (.inl (.int r))) h') :
    mx_C E (mx_fn true) (d + 4) 282 [.inr (.inl 105), .inl (.int a1), .inl (.int a2)] h Q := by
  obtain ⟨⟨m1, m12, m16, m24, m25, m51, m56, m65, m71, m74, m79, m83, m88⟩, nE, nW, nH⟩ := hM
  refine sg282_0 ?_
  repeat' first
    | exact hQ _ _ (by first | rfl | (simp [m1, m12, m16, m24, m25, m51, m56, m65, m71, m74, m79, m83, m88, mx_uI, mx_uR, mx_up]; done) | exact nE _ (cl4 (by assumption)))
    | (intro h1; exact absurd h1 (by decide))
    | (intro h1; exfalso; revert h1; simp only [m1, m12, m16, m24, m25, m51, m56, m65, m71, m74, m79, m83, m88]; first | decide | exact sp_e0 | exact sp_e1)
    | (intro h1; exfalso; revert h1; simp [m1, m12, m16, m24, m25, m51, m56, m65, m71, m74, m79, m83, m88, mx_uI, mx_up]; done)
    | refine hx_i ?_
    | refine hx_l ?_
    | refine hx_n ?_
    | refine hx_0 ?_
    | refine fz_isShape (by assumption) ?_
    | refine fz_isBodyM (by assumption) ?_
    | refine sp_ini ?_ ?_
    | refine fz_255 ?_ ?_
    | refine fz_300 ?_ ?_
    | refine And.intro ?_ ?_
    | exact Or.inl rfl
    | exact Or.inr rfl
    | decide
    | exact rfl
    | (intro h1; exact absurd h1 (cgt (by assumption)))
    | (intro h1; exfalso; rw [m88] at h1; exact h1 (Int32.not_lt.mp (by assumption)))
    | exact vi6 (by assumption)
    | exact vi4 (by assumption)
    | (intro h1; exact absurd (nH _ (cl6 (by assumption))) h1)
    | (unfold vp_in; simp [m1, m12, m16, m24, m25, m51, m56, m65, m71, m74, m79, m83, m88, mx_uI, mx_up]; done)
    | refine fun (_ : (_ : Prop)) => ?_
    | refine fun (_ : mx_H) => ?_
set_option maxHeartbeats 2000000 in
theorem fc144 {E : mx_Ev} {d : Nat} {h : mx_H} {Q : Option mx_V → mx_H → Prop}  (hF : sp_FR h) (hM : sp_FM h) (hQ : ∀ r h', r = (-4) → sp_FM h' → Q (some (.inl (.int r))) h') :
    mx_C E (mx_fn true) (d + 4) 144 [.inr (.inl 0)] h Q := by
  obtain ⟨⟨f0, f3, ft, fp, fw, fh⟩, fd, fs, fr, gE, gT, fra, fdo, fud, fc, frn, gS⟩ := hF
  obtain ⟨⟨m1, m12, m16, m24, m25, m51, m56, m65, m71, m74, m79, m83, m88⟩, nE, nW, nH⟩ := hM
  refine sg144_0 ?_
  repeat' first
    | exact hQ _ _ (by first | rfl | (simp [f0, f3, ft, fp, fw, fh, fd, fs, fr, fra, fdo, fud, fc, frn, mx_uI, mx_uR, mx_up]; done) | exact gE _ (cl4 (by assumption))) (by repeat first | assumption | exact sp_FM_ext (by assumption) ⟨⟨m1, m12, m16, m24, m25, m51, m56, m65, m71, m74, m79, m83, m88⟩, nE, nW, nH⟩ | exact ⟨⟨m1, m12, m16, m24, m25, m51, m56, m65, m71, m74, m79, m83, m88⟩, nE, nW, nH⟩ | refine sp_FM_uI rfl ?_ | refine sp_FM_uL ?_ | refine sp_FM_uR ?_)
    | (intro h1; exact absurd h1 (by decide))
    | (intro h1; exfalso; revert h1; simp only [f0, f3, ft, fp, fw, fh, fd, fs, fr, fra, fdo, fud, fc, frn]; first | decide | exact sp_e0 | exact sp_e1)
    | (intro h1; exfalso; revert h1; simp [f0, f3, ft, fp, fw, fh, fd, fs, fr, fra, fdo, fud, fc, frn, mx_uI, mx_up]; done)
    | refine hx_i ?_
    | refine hx_l ?_
    | refine hx_n ?_
    | refine hx_0 ?_
    | refine fz_shapeAt (by assumption) ?_
    | refine fz_planned (by assumption) ?_
    | refine fz_isBody (by assumption) ?_
    | refine fz_was (by assumption) ?_
    | refine sp_wi ?_ ?_
    | refine fz_159 ?_ ?_
    | refine fz_160 ?_ ?_
    | refine fz_161 ?_ ?_
    | refine fz_162 ?_ ?_
    | refine sg164_null ?_
    | refine sg165_null ?_
    | refine And.intro ?_ ?_
    | exact Or.inl rfl
    | exact Or.inr rfl
    | decide
    | exact rfl
    | (intro h1; exact absurd h1 (cgt (by assumption)))
    | (intro h1; exfalso; rw [frn] at h1; exact h1 (Int32.not_lt.mp (by assumption)))
    | exact vi6 (by assumption)
    | exact vi4 (by assumption)
    | (intro h1; exact absurd (gS _ (cl6 (by assumption))) h1)
    | (unfold vp_in; simp [f0, f3, ft, fp, fw, fh, fd, fs, fr, fra, fdo, fud, fc, frn, mx_uI, mx_up]; done)
    | refine fun (_ : (_ : Prop)) => ?_
    | refine fun (_ : mx_H) => ?_
set_option maxHeartbeats 2000000 in
theorem fr204 {E : mx_Ev} {d : Nat} {h : mx_H} {Q : Option mx_V → mx_H → Prop}  (hM : sp_FM h) (hQ : ∀ r h', r = (-4) → Q (some (.inl (.int r))) h') :
    mx_C E (mx_fn true) (d + 4) 204 [.inr (.inl 105)] h Q := by
  obtain ⟨⟨m1, m12, m16, m24, m25, m51, m56, m65, m71, m74, m79, m83, m88⟩, nE, nW, nH⟩ := hM
  refine sg204_0 ?_
  repeat' first
    | exact hQ _ _ (by first | rfl | (simp [m1, m12, m16, m24, m25, m51, m56, m65, m71, m74, m79, m83, m88, mx_uI, mx_uR, mx_up]; done) | exact nE _ (cl4 (by assumption)))
    | (intro h1; exact absurd h1 (by decide))
    | (intro h1; exfalso; revert h1; simp only [m1, m12, m16, m24, m25, m51, m56, m65, m71, m74, m79, m83, m88]; first | decide | exact sp_e0 | exact sp_e1)
    | (intro h1; exfalso; revert h1; simp [m1, m12, m16, m24, m25, m51, m56, m65, m71, m74, m79, m83, m88, mx_uI, mx_up]; done)
    | refine hx_i ?_
    | refine hx_l ?_
    | refine hx_n ?_
    | refine hx_0 ?_
    | refine fz_isShape (by assumption) ?_
    | refine fz_isBodyM (by assumption) ?_
    | refine sp_ini ?_ ?_
    | refine fz_255 ?_ ?_
    | refine fz_300 ?_ ?_
    | refine And.intro ?_ ?_
    | exact Or.inl rfl
    | exact Or.inr rfl
    | decide
    | exact rfl
    | (intro h1; exact absurd h1 (cgt (by assumption)))
    | (intro h1; exfalso; rw [m88] at h1; exact h1 (Int32.not_lt.mp (by assumption)))
    | exact vi6 (by assumption)
    | exact vi4 (by assumption)
    | (intro h1; exact absurd (nH _ (cl6 (by assumption))) h1)
    | (unfold vp_in; simp [m1, m12, m16, m24, m25, m51, m56, m65, m71, m74, m79, m83, m88, mx_uI, mx_up]; done)
    | refine fun (_ : (_ : Prop)) => ?_
    | refine fun (_ : mx_H) => ?_
set_option maxHeartbeats 2000000 in
theorem fc145 {E : mx_Ev} {d : Nat} {h : mx_H} {Q : Option mx_V → mx_H → Prop}  (hF : sp_FR h) (hM : sp_FM h) (hQ : ∀ r h', r = (-4) → sp_FM h' → Q (some (.inl (.int r))) h') :
    mx_C E (mx_fn true) (d + 4) 145 [.inr (.inl 0)] h Q := by
  obtain ⟨⟨f0, f3, ft, fp, fw, fh⟩, fd, fs, fr, gE, gT, fra, fdo, fud, fc, frn, gS⟩ := hF
  obtain ⟨⟨m1, m12, m16, m24, m25, m51, m56, m65, m71, m74, m79, m83, m88⟩, nE, nW, nH⟩ := hM
  refine sg145_0 ?_
  repeat' first
    | exact hQ _ _ (by first | rfl | (simp [f0, f3, ft, fp, fw, fh, fd, fs, fr, fra, fdo, fud, fc, frn, mx_uI, mx_uR, mx_up]; done) | exact gE _ (cl4 (by assumption))) (by repeat first | assumption | exact sp_FM_ext (by assumption) ⟨⟨m1, m12, m16, m24, m25, m51, m56, m65, m71, m74, m79, m83, m88⟩, nE, nW, nH⟩ | exact ⟨⟨m1, m12, m16, m24, m25, m51, m56, m65, m71, m74, m79, m83, m88⟩, nE, nW, nH⟩ | refine sp_FM_uI rfl ?_ | refine sp_FM_uL ?_ | refine sp_FM_uR ?_)
    | (intro h1; exact absurd h1 (by decide))
    | (intro h1; exfalso; revert h1; simp only [f0, f3, ft, fp, fw, fh, fd, fs, fr, fra, fdo, fud, fc, frn]; first | decide | exact sp_e0 | exact sp_e1)
    | (intro h1; exfalso; revert h1; simp [f0, f3, ft, fp, fw, fh, fd, fs, fr, fra, fdo, fud, fc, frn, mx_uI, mx_up]; done)
    | refine hx_i ?_
    | refine hx_l ?_
    | refine hx_n ?_
    | refine hx_0 ?_
    | refine fz_shapeAt (by assumption) ?_
    | refine fz_planned (by assumption) ?_
    | refine fz_isBody (by assumption) ?_
    | refine fz_was (by assumption) ?_
    | refine sp_wi ?_ ?_
    | refine fz_159 ?_ ?_
    | refine fz_160 ?_ ?_
    | refine fz_161 ?_ ?_
    | refine fz_162 ?_ ?_
    | refine sg164_null ?_
    | refine sg165_null ?_
    | refine And.intro ?_ ?_
    | exact Or.inl rfl
    | exact Or.inr rfl
    | decide
    | exact rfl
    | (intro h1; exact absurd h1 (cgt (by assumption)))
    | (intro h1; exfalso; rw [frn] at h1; exact h1 (Int32.not_lt.mp (by assumption)))
    | exact vi6 (by assumption)
    | exact vi4 (by assumption)
    | (intro h1; exact absurd (gS _ (cl6 (by assumption))) h1)
    | (unfold vp_in; simp [f0, f3, ft, fp, fw, fh, fd, fs, fr, fra, fdo, fud, fc, frn, mx_uI, mx_up]; done)
    | refine fun (_ : (_ : Prop)) => ?_
    | refine fun (_ : mx_H) => ?_
set_option maxHeartbeats 2000000 in
theorem fr205 {E : mx_Ev} {d : Nat} {h : mx_H} {Q : Option mx_V → mx_H → Prop}  (hM : sp_FM h) (hQ : ∀ r h', r = (-4) → Q (some (.inl (.int r))) h') :
    mx_C E (mx_fn true) (d + 4) 205 [.inr (.inl 105)] h Q := by
  obtain ⟨⟨m1, m12, m16, m24, m25, m51, m56, m65, m71, m74, m79, m83, m88⟩, nE, nW, nH⟩ := hM
  refine sg205_0 ?_
  repeat' first
    | exact hQ _ _ (by first | rfl | (simp [m1, m12, m16, m24, m25, m51, m56, m65, m71, m74, m79, m83, m88, mx_uI, mx_uR, mx_up]; done) | exact nE _ (cl4 (by assumption)))
    | (intro h1; exact absurd h1 (by decide))
    | (intro h1; exfalso; revert h1; simp only [m1, m12, m16, m24, m25, m51, m56, m65, m71, m74, m79, m83, m88]; first | decide | exact sp_e0 | exact sp_e1)
    | (intro h1; exfalso; revert h1; simp [m1, m12, m16, m24, m25, m51, m56, m65, m71, m74, m79, m83, m88, mx_uI, mx_up]; done)
    | refine hx_i ?_
    | refine hx_l ?_
    | refine hx_n ?_
    | refine hx_0 ?_
    | refine fz_isShape (by assumption) ?_
    | refine fz_isBodyM (by assumption) ?_
    | refine sp_ini ?_ ?_
    | refine fz_255 ?_ ?_
    | refine fz_300 ?_ ?_
    | refine And.intro ?_ ?_
    | exact Or.inl rfl
    | exact Or.inr rfl
    | decide
    | exact rfl
    | (intro h1; exact absurd h1 (cgt (by assumption)))
    | (intro h1; exfalso; rw [m88] at h1; exact h1 (Int32.not_lt.mp (by assumption)))
    | exact vi6 (by assumption)
    | exact vi4 (by assumption)
    | (intro h1; exact absurd (nH _ (cl6 (by assumption))) h1)
    | (unfold vp_in; simp [m1, m12, m16, m24, m25, m51, m56, m65, m71, m74, m79, m83, m88, mx_uI, mx_up]; done)
    | refine fun (_ : (_ : Prop)) => ?_
    | refine fun (_ : mx_H) => ?_
set_option maxHeartbeats 2000000 in
theorem fc146 {E : mx_Ev} {d : Nat} {h : mx_H} {Q : Option mx_V → mx_H → Prop}  (hF : sp_FR h) (hM : sp_FM h) (hQ : ∀ r h', r = 7 → sp_FM h' → Q (some (.inl (.int r))) h') :
    mx_C E (mx_fn true) (d + 4) 146 [.inr (.inl 0)] h Q := by
  obtain ⟨⟨f0, f3, ft, fp, fw, fh⟩, fd, fs, fr, gE, gT, fra, fdo, fud, fc, frn, gS⟩ := hF
  obtain ⟨⟨m1, m12, m16, m24, m25, m51, m56, m65, m71, m74, m79, m83, m88⟩, nE, nW, nH⟩ := hM
  refine sg146_0 ?_
  repeat' first
    | exact hQ _ _ (by first | rfl | (simp [f0, f3, ft, fp, fw, fh, fd, fs, fr, fra, fdo, fud, fc, frn, mx_uI, mx_uR, mx_up]; done) | exact gE _ (cl4 (by assumption))) (by repeat first | assumption | exact sp_FM_ext (by assumption) ⟨⟨m1, m12, m16, m24, m25, m51, m56, m65, m71, m74, m79, m83, m88⟩, nE, nW, nH⟩ | exact ⟨⟨m1, m12, m16, m24, m25, m51, m56, m65, m71, m74, m79, m83, m88⟩, nE, nW, nH⟩ | refine sp_FM_uI rfl ?_ | refine sp_FM_uL ?_ | refine sp_FM_uR ?_)
    | (intro h1; exact absurd h1 (by decide))
    | (intro h1; exfalso; revert h1; simp only [f0, f3, ft, fp, fw, fh, fd, fs, fr, fra, fdo, fud, fc, frn]; first | decide | exact sp_e0 | exact sp_e1)
    | (intro h1; exfalso; revert h1; simp [f0, f3, ft, fp, fw, fh, fd, fs, fr, fra, fdo, fud, fc, frn, mx_uI, mx_up]; done)
    | refine hx_i ?_
    | refine hx_l ?_
    | refine hx_n ?_
    | refine hx_0 ?_
    | refine fz_shapeAt (by assumption) ?_
    | refine fz_planned (by assumption) ?_
    | refine fz_isBody (by assumption) ?_
    | refine fz_was (by assumption) ?_
    | refine sp_wi ?_ ?_
    | refine fz_159 ?_ ?_
    | refine fz_160 ?_ ?_
    | refine fz_161 ?_ ?_
    | refine fz_162 ?_ ?_
    | refine sg164_null ?_
    | refine sg165_null ?_
    | refine sg146_5 ?_
    | refine And.intro ?_ ?_
    | exact Or.inl rfl
    | exact Or.inr rfl
    | decide
    | exact rfl
    | (intro h1; exact absurd h1 (cgt (by assumption)))
    | (intro h1; exfalso; rw [frn] at h1; exact h1 (Int32.not_lt.mp (by assumption)))
    | exact vi6 (by assumption)
    | exact vi4 (by assumption)
    | (intro h1; exact absurd (gS _ (cl6 (by assumption))) h1)
    | (unfold vp_in; simp [f0, f3, ft, fp, fw, fh, fd, fs, fr, fra, fdo, fud, fc, frn, mx_uI, mx_up]; done)
    | refine fun (_ : (_ : Prop)) => ?_
    | refine fun (_ : mx_H) => ?_
set_option maxHeartbeats 2000000 in
theorem fr206 {E : mx_Ev} {d : Nat} {h : mx_H} {Q : Option mx_V → mx_H → Prop}  (hM : sp_FM h) (hQ : ∀ r h', r = 7 → Q (some (.inl (.int r))) h') :
    mx_C E (mx_fn true) (d + 4) 206 [.inr (.inl 105)] h Q := by
  obtain ⟨⟨m1, m12, m16, m24, m25, m51, m56, m65, m71, m74, m79, m83, m88⟩, nE, nW, nH⟩ := hM
  refine sg206_0 ?_
  repeat' first
    | exact hQ _ _ (by first | rfl | (simp [m1, m12, m16, m24, m25, m51, m56, m65, m71, m74, m79, m83, m88, mx_uI, mx_uR, mx_up]; done) | exact nE _ (cl4 (by assumption)))
    | (intro h1; exact absurd h1 (by decide))
    | (intro h1; exfalso; revert h1; simp only [m1, m12, m16, m24, m25, m51, m56, m65, m71, m74, m79, m83, m88]; first | decide | exact sp_e0 | exact sp_e1)
    | (intro h1; exfalso; revert h1; simp [m1, m12, m16, m24, m25, m51, m56, m65, m71, m74, m79, m83, m88, mx_uI, mx_up]; done)
    | refine hx_i ?_
    | refine hx_l ?_
    | refine hx_n ?_
    | refine hx_0 ?_
    | refine fz_isShape (by assumption) ?_
    | refine fz_isBodyM (by assumption) ?_
    | refine sp_ini ?_ ?_
    | refine fz_255 ?_ ?_
    | refine fz_300 ?_ ?_
    | refine sg206_5 ?_
    | refine And.intro ?_ ?_
    | exact Or.inl rfl
    | exact Or.inr rfl
    | decide
    | exact rfl
    | (intro h1; exact absurd h1 (cgt (by assumption)))
    | (intro h1; exfalso; rw [m88] at h1; exact h1 (Int32.not_lt.mp (by assumption)))
    | exact vi6 (by assumption)
    | exact vi4 (by assumption)
    | (intro h1; exact absurd (nH _ (cl6 (by assumption))) h1)
    | (unfold vp_in; simp [m1, m12, m16, m24, m25, m51, m56, m65, m71, m74, m79, m83, m88, mx_uI, mx_up]; done)
    | refine fun (_ : (_ : Prop)) => ?_
    | refine fun (_ : mx_H) => ?_
set_option maxHeartbeats 2000000 in
theorem fc147 {E : mx_Ev} {d : Nat} {h : mx_H} {Q : Option mx_V → mx_H → Prop} {a1 : Int32} (hF : sp_FR h) (hM : sp_FM h) (hQ : ∀ r h', r = (if (0 ≤ a1 ∧ a1 ≤ 5) then 0 else (-1)) → sp_FM h' → Q (some (.inl (.int r))) h') :
    mx_C E (mx_fn true) (d + 4) 147 [.inr (.inl 0), .inl (.int a1)] h Q := by
  obtain ⟨⟨f0, f3, ft, fp, fw, fh⟩, fd, fs, fr, gE, gT, fra, fdo, fud, fc, frn, gS⟩ := hF
  obtain ⟨⟨m1, m12, m16, m24, m25, m51, m56, m65, m71, m74, m79, m83, m88⟩, nE, nW, nH⟩ := hM
  refine sg147_0 ?_
  repeat' first
    | exact hQ _ _ (by first | rfl | (simp [f0, f3, ft, fp, fw, fh, fd, fs, fr, fra, fdo, fud, fc, frn, mx_uI, mx_uR, mx_up]; done) | exact gE _ (cl4 (by assumption)) | (rw [if_pos (by assumption)] <;> (first | rfl | (simp [f0, f3, ft, fp, fw, fh, fd, fs, fr, fra, fdo, fud, fc, frn, mx_uI, mx_uR, mx_up]; done) | exact gE _ (cl4 (by assumption)))) | (rw [if_neg (by assumption)] <;> (first | rfl | (simp [f0, f3, ft, fp, fw, fh, fd, fs, fr, fra, fdo, fud, fc, frn, mx_uI, mx_uR, mx_up]; done) | exact gE _ (cl4 (by assumption))))) (by repeat first | assumption | exact sp_FM_ext (by assumption) ⟨⟨m1, m12, m16, m24, m25, m51, m56, m65, m71, m74, m79, m83, m88⟩, nE, nW, nH⟩ | exact ⟨⟨m1, m12, m16, m24, m25, m51, m56, m65, m71, m74, m79, m83, m88⟩, nE, nW, nH⟩ | refine sp_FM_uI rfl ?_ | refine sp_FM_uL ?_ | refine sp_FM_uR ?_)
    | (intro h1; exact absurd h1 (by decide))
    | (intro h1; exfalso; revert h1; simp only [f0, f3, ft, fp, fw, fh, fd, fs, fr, fra, fdo, fud, fc, frn]; first | decide | exact sp_e0 | exact sp_e1)
    | (intro h1; exfalso; revert h1; simp [f0, f3, ft, fp, fw, fh, fd, fs, fr, fra, fdo, fud, fc, frn, mx_uI, mx_up]; done)
    | refine hx_i ?_
    | refine hx_l ?_
    | refine hx_n ?_
    | refine hx_0 ?_
    | refine fz_shapeAt (by assumption) ?_
    | refine fz_planned (by assumption) ?_
    | refine fz_isBody (by assumption) ?_
    | refine fz_was (by assumption) ?_
    | refine sp_wi ?_ ?_
    | refine fz_159 ?_ ?_
    | refine fz_160 ?_ ?_
    | refine fz_161 ?_ ?_
    | refine fz_162 ?_ ?_
    | refine sg164_null ?_
    | refine sg165_null ?_
    | refine sg37_null ?_
    | refine And.intro ?_ ?_
    | exact Or.inl rfl
    | exact Or.inr rfl
    | decide
    | exact rfl
    | (intro h1; exact absurd h1 (cgt (by assumption)))
    | (intro h1; exfalso; rw [frn] at h1; exact h1 (Int32.not_lt.mp (by assumption)))
    | exact vi6 (by assumption)
    | exact vi4 (by assumption)
    | (intro h1; exact absurd (gS _ (cl6 (by assumption))) h1)
    | (unfold vp_in; simp [f0, f3, ft, fp, fw, fh, fd, fs, fr, fra, fdo, fud, fc, frn, mx_uI, mx_up]; done)
    | refine fun (_ : (_ : Prop)) => ?_
    | refine fun (_ : mx_H) => ?_
set_option maxHeartbeats 2000000 in
theorem fr285 {E : mx_Ev} {d : Nat} {h : mx_H} {Q : Option mx_V → mx_H → Prop} {a1 : Int32} (hM : sp_FM h) (hQ : ∀ r h', r = (if (0 ≤ a1 ∧ a1 ≤ 5) then 0 else (-1)) → Q (some (.inl (.int r))) h') :
    mx_C E (mx_fn true) (d + 4) 285 [.inr (.inl 105), .inl (.int a1)] h Q := by
  obtain ⟨⟨m1, m12, m16, m24, m25, m51, m56, m65, m71, m74, m79, m83, m88⟩, nE, nW, nH⟩ := hM
  refine sg285_0 ?_
  repeat' first
    | exact hQ _ _ (by first | rfl | (simp [m1, m12, m16, m24, m25, m51, m56, m65, m71, m74, m79, m83, m88, mx_uI, mx_uR, mx_up]; done) | exact nE _ (cl4 (by assumption)) | (rw [if_pos (by assumption)] <;> (first | rfl | (simp [m1, m12, m16, m24, m25, m51, m56, m65, m71, m74, m79, m83, m88, mx_uI, mx_uR, mx_up]; done) | exact nE _ (cl4 (by assumption)))) | (rw [if_neg (by assumption)] <;> (first | rfl | (simp [m1, m12, m16, m24, m25, m51, m56, m65, m71, m74, m79, m83, m88, mx_uI, mx_uR, mx_up]; done) | exact nE _ (cl4 (by assumption)))))
    | (intro h1; exact absurd h1 (by decide))
    | (intro h1; exfalso; revert h1; simp only [m1, m12, m16, m24, m25, m51, m56, m65, m71, m74, m79, m83, m88]; first | decide | exact sp_e0 | exact sp_e1)
    | (intro h1; exfalso; revert h1; simp [m1, m12, m16, m24, m25, m51, m56, m65, m71, m74, m79, m83, m88, mx_uI, mx_up]; done)
    | refine hx_i ?_
    | refine hx_l ?_
    | refine hx_n ?_
    | refine hx_0 ?_
    | refine fz_isShape (by assumption) ?_
    | refine fz_isBodyM (by assumption) ?_
    | refine sp_ini ?_ ?_
    | refine fz_255 ?_ ?_
    | refine fz_300 ?_ ?_
    | refine And.intro ?_ ?_
    | exact Or.inl rfl
    | exact Or.inr rfl
    | decide
    | exact rfl
    | (intro h1; exact absurd h1 (cgt (by assumption)))
    | (intro h1; exfalso; rw [m88] at h1; exact h1 (Int32.not_lt.mp (by assumption)))
    | exact vi6 (by assumption)
    | exact vi4 (by assumption)
    | (intro h1; exact absurd (nH _ (cl6 (by assumption))) h1)
    | (unfold vp_in; simp [m1, m12, m16, m24, m25, m51, m56, m65, m71, m74, m79, m83, m88, mx_uI, mx_up]; done)
    | refine fun (_ : (_ : Prop)) => ?_
    | refine fun (_ : mx_H) => ?_
set_option maxHeartbeats 2000000 in
theorem fc148 {E : mx_Ev} {d : Nat} {h : mx_H} {Q : Option mx_V → mx_H → Prop} {a1 : Int32} {a2 : Int32} {a3 : Int32} (hF : sp_FR h) (hM : sp_FM h) (hQ : ∀ r h', r = 0 → sp_FM h' → Q (some (.inl (.int r))) h') :
    mx_C E (mx_fn true) (d + 4) 148 [.inr (.inl 0), .inl (.int a1), .inl (.int a2), .inl (.int a3)] h Q := by
  obtain ⟨⟨f0, f3, ft, fp, fw, fh⟩, fd, fs, fr, gE, gT, fra, fdo, fud, fc, frn, gS⟩ := hF
  obtain ⟨⟨m1, m12, m16, m24, m25, m51, m56, m65, m71, m74, m79, m83, m88⟩, nE, nW, nH⟩ := hM
  refine sg148_0 ?_
  repeat' first
    | exact hQ _ _ (by first | rfl | (simp [f0, f3, ft, fp, fw, fh, fd, fs, fr, fra, fdo, fud, fc, frn, mx_uI, mx_uR, mx_up]; done) | exact gE _ (cl4 (by assumption))) (by repeat first | assumption | exact sp_FM_ext (by assumption) ⟨⟨m1, m12, m16, m24, m25, m51, m56, m65, m71, m74, m79, m83, m88⟩, nE, nW, nH⟩ | exact ⟨⟨m1, m12, m16, m24, m25, m51, m56, m65, m71, m74, m79, m83, m88⟩, nE, nW, nH⟩ | refine sp_FM_uI rfl ?_ | refine sp_FM_uL ?_ | refine sp_FM_uR ?_)
    | (intro h1; exact absurd h1 (by decide))
    | (intro h1; exfalso; revert h1; simp only [f0, f3, ft, fp, fw, fh, fd, fs, fr, fra, fdo, fud, fc, frn]; first | decide | exact sp_e0 | exact sp_e1)
    | (intro h1; exfalso; revert h1; simp [f0, f3, ft, fp, fw, fh, fd, fs, fr, fra, fdo, fud, fc, frn, mx_uI, mx_up]; done)
    | refine hx_i ?_
    | refine hx_l ?_
    | refine hx_n ?_
    | refine hx_0 ?_
    | refine fz_shapeAt (by assumption) ?_
    | refine fz_planned (by assumption) ?_
    | refine fz_isBody (by assumption) ?_
    | refine fz_was (by assumption) ?_
    | refine sp_wi ?_ ?_
    | refine fz_159 ?_ ?_
    | refine fz_160 ?_ ?_
    | refine fz_161 ?_ ?_
    | refine fz_162 ?_ ?_
    | refine sg164_null ?_
    | refine sg165_null ?_
    | refine And.intro ?_ ?_
    | exact Or.inl rfl
    | exact Or.inr rfl
    | decide
    | exact rfl
    | (intro h1; exact absurd h1 (cgt (by assumption)))
    | (intro h1; exfalso; rw [frn] at h1; exact h1 (Int32.not_lt.mp (by assumption)))
    | exact vi6 (by assumption)
    | exact vi4 (by assumption)
    | (intro h1; exact absurd (gS _ (cl6 (by assumption))) h1)
    | (unfold vp_in; simp [f0, f3, ft, fp, fw, fh, fd, fs, fr, fra, fdo, fud, fc, frn, mx_uI, mx_up]; done)
    | refine fun (_ : (_ : Prop)) => ?_
    | refine fun (_ : mx_H) => ?_
set_option maxHeartbeats 2000000 in
theorem fr297 {E : mx_Ev} {d : Nat} {h : mx_H} {Q : Option mx_V → mx_H → Prop} {a1 : Int32} {a2 : Int32} {a3 : Int32} (hM : sp_FM h) (hQ : ∀ r h', r = 0 → Q (some (.inl (.int r))) h') :
    mx_C E (mx_fn true) (d + 4) 297 [.inr (.inl 105), .inl (.int a1), .inl (.int a2), .inl (.int a3)] h Q := by
  obtain ⟨⟨m1, m12, m16, m24, m25, m51, m56, m65, m71, m74, m79, m83, m88⟩, nE, nW, nH⟩ := hM
  refine sg297_0 ?_
  repeat' first
    | exact hQ _ _ (by first | rfl | (simp [m1, m12, m16, m24, m25, m51, m56, m65, m71, m74, m79, m83, m88, mx_uI, mx_uR, mx_up]; done) | exact nE _ (cl4 (by assumption)))
    | (intro h1; exact absurd h1 (by decide))
    | (intro h1; exfalso; revert h1; simp only [m1, m12, m16, m24, m25, m51, m56, m65, m71, m74, m79, m83, m88]; first | decide | exact sp_e0 | exact sp_e1)
    | (intro h1; exfalso; revert h1; simp [m1, m12, m16, m24, m25, m51, m56, m65, m71, m74, m79, m83, m88, mx_uI, mx_up]; done)
    | refine hx_i ?_
    | refine hx_l ?_
    | refine hx_n ?_
    | refine hx_0 ?_
    | refine fz_isShape (by assumption) ?_
    | refine fz_isBodyM (by assumption) ?_
    | refine sp_ini ?_ ?_
    | refine fz_255 ?_ ?_
    | refine fz_300 ?_ ?_
    | refine And.intro ?_ ?_
    | exact Or.inl rfl
    | exact Or.inr rfl
    | decide
    | exact rfl
    | (intro h1; exact absurd h1 (cgt (by assumption)))
    | (intro h1; exfalso; rw [m88] at h1; exact h1 (Int32.not_lt.mp (by assumption)))
    | exact vi6 (by assumption)
    | exact vi4 (by assumption)
    | (intro h1; exact absurd (nH _ (cl6 (by assumption))) h1)
    | (unfold vp_in; simp [m1, m12, m16, m24, m25, m51, m56, m65, m71, m74, m79, m83, m88, mx_uI, mx_up]; done)
    | refine fun (_ : (_ : Prop)) => ?_
    | refine fun (_ : mx_H) => ?_
set_option maxHeartbeats 2000000 in
theorem fc149 {E : mx_Ev} {d : Nat} {h : mx_H} {Q : Option mx_V → mx_H → Prop} {a1 : Int32} (hF : sp_FR h) (hM : sp_FM h) (hQ : ∀ r h', r = (-1) → sp_FM h' → Q (some (.inl (.int r))) h') :
    mx_C E (mx_fn true) (d + 4) 149 [.inr (.inl 0), .inl (.int a1)] h Q := by
  obtain ⟨⟨f0, f3, ft, fp, fw, fh⟩, fd, fs, fr, gE, gT, fra, fdo, fud, fc, frn, gS⟩ := hF
  obtain ⟨⟨m1, m12, m16, m24, m25, m51, m56, m65, m71, m74, m79, m83, m88⟩, nE, nW, nH⟩ := hM
  refine sg149_0 ?_
  repeat' first
    | exact hQ _ _ (by first | rfl | (simp [f0, f3, ft, fp, fw, fh, fd, fs, fr, fra, fdo, fud, fc, frn, mx_uI, mx_uR, mx_up]; done) | exact gE _ (cl4 (by assumption))) (by repeat first | assumption | exact sp_FM_ext (by assumption) ⟨⟨m1, m12, m16, m24, m25, m51, m56, m65, m71, m74, m79, m83, m88⟩, nE, nW, nH⟩ | exact ⟨⟨m1, m12, m16, m24, m25, m51, m56, m65, m71, m74, m79, m83, m88⟩, nE, nW, nH⟩ | refine sp_FM_uI rfl ?_ | refine sp_FM_uL ?_ | refine sp_FM_uR ?_)
    | (intro h1; exact absurd h1 (by decide))
    | (intro h1; exfalso; revert h1; simp only [f0, f3, ft, fp, fw, fh, fd, fs, fr, fra, fdo, fud, fc, frn]; first | decide | exact sp_e0 | exact sp_e1)
    | (intro h1; exfalso; revert h1; simp [f0, f3, ft, fp, fw, fh, fd, fs, fr, fra, fdo, fud, fc, frn, mx_uI, mx_up]; done)
    | refine hx_i ?_
    | refine hx_l ?_
    | refine hx_n ?_
    | refine hx_0 ?_
    | refine fz_shapeAt (by assumption) ?_
    | refine fz_planned (by assumption) ?_
    | refine fz_isBody (by assumption) ?_
    | refine fz_was (by assumption) ?_
    | refine sp_wi ?_ ?_
    | refine fz_159 ?_ ?_
    | refine fz_160 ?_ ?_
    | refine fz_161 ?_ ?_
    | refine fz_162 ?_ ?_
    | refine sg164_null ?_
    | refine sg165_null ?_
    | refine And.intro ?_ ?_
    | exact Or.inl rfl
    | exact Or.inr rfl
    | decide
    | exact rfl
    | (intro h1; exact absurd h1 (cgt (by assumption)))
    | (intro h1; exfalso; rw [frn] at h1; exact h1 (Int32.not_lt.mp (by assumption)))
    | exact vi6 (by assumption)
    | exact vi4 (by assumption)
    | (intro h1; exact absurd (gS _ (cl6 (by assumption))) h1)
    | (unfold vp_in; simp [f0, f3, ft, fp, fw, fh, fd, fs, fr, fra, fdo, fud, fc, frn, mx_uI, mx_up]; done)
    | refine fun (_ : (_ : Prop)) => ?_
    | refine fun (_ : mx_H) => ?_
set_option maxHeartbeats 2000000 in
theorem fr298 {E : mx_Ev} {d : Nat} {h : mx_H} {Q : Option mx_V → mx_H → Prop} {a1 : Int32} (hM : sp_FM h) (hQ : ∀ r h', r = (-1) → Q (some (.inl (.int r))) h') :
    mx_C E (mx_fn true) (d + 4) 298 [.inr (.inl 105), .inl (.int a1)] h Q := by
  obtain ⟨⟨m1, m12, m16, m24, m25, m51, m56, m65, m71, m74, m79, m83, m88⟩, nE, nW, nH⟩ := hM
  refine sg298_0 ?_
  repeat' first
    | exact hQ _ _ (by first | rfl | (simp [m1, m12, m16, m24, m25, m51, m56, m65, m71, m74, m79, m83, m88, mx_uI, mx_uR, mx_up]; done) | exact nE _ (cl4 (by assumption)))
    | (intro h1; exact absurd h1 (by decide))
    | (intro h1; exfalso; revert h1; simp only [m1, m12, m16, m24, m25, m51, m56, m65, m71, m74, m79, m83, m88]; first | decide | exact sp_e0 | exact sp_e1)
    | (intro h1; exfalso; revert h1; simp [m1, m12, m16, m24, m25, m51, m56, m65, m71, m74, m79, m83, m88, mx_uI, mx_up]; done)
    | refine hx_i ?_
    | refine hx_l ?_
    | refine hx_n ?_
    | refine hx_0 ?_
    | refine fz_isShape (by assumption) ?_
    | refine fz_isBodyM (by assumption) ?_
    | refine sp_ini ?_ ?_
    | refine fz_255 ?_ ?_
    | refine fz_300 ?_ ?_
    | refine And.intro ?_ ?_
    | exact Or.inl rfl
    | exact Or.inr rfl
    | decide
    | exact rfl
    | (intro h1; exact absurd h1 (cgt (by assumption)))
    | (intro h1; exfalso; rw [m88] at h1; exact h1 (Int32.not_lt.mp (by assumption)))
    | exact vi6 (by assumption)
    | exact vi4 (by assumption)
    | (intro h1; exact absurd (nH _ (cl6 (by assumption))) h1)
    | (unfold vp_in; simp [m1, m12, m16, m24, m25, m51, m56, m65, m71, m74, m79, m83, m88, mx_uI, mx_up]; done)
    | refine fun (_ : (_ : Prop)) => ?_
    | refine fun (_ : mx_H) => ?_
set_option maxHeartbeats 2000000 in
theorem fc150 {E : mx_Ev} {d : Nat} {h : mx_H} {Q : Option mx_V → mx_H → Prop} {a1 : Int32} {a2 : Int32} (hF : sp_FR h) (hM : sp_FM h) (hQ : ∀ r h', r = (if (0 ≤ a1 ∧ a1 ≤ 5) ∧ (a2 = (-1)) then 1 else (-1)) → sp_FM h' → Q (some (.inl (.int r))) h') :
    mx_C E (mx_fn true) (d + 4) 150 [.inr (.inl 0), .inl (.int a1), .inl (.int a2)] h Q := by
  obtain ⟨⟨f0, f3, ft, fp, fw, fh⟩, fd, fs, fr, gE, gT, fra, fdo, fud, fc, frn, gS⟩ := hF
  obtain ⟨⟨m1, m12, m16, m24, m25, m51, m56, m65, m71, m74, m79, m83, m88⟩, nE, nW, nH⟩ := hM
  refine sg150_0 ?_
  repeat' first
    | exact hQ _ _ (by first | rfl | (simp [f0, f3, ft, fp, fw, fh, fd, fs, fr, fra, fdo, fud, fc, frn, mx_uI, mx_uR, mx_up]; done) | exact gE _ (cl4 (by assumption)) | (rw [if_pos ⟨(by assumption), (by assumption)⟩] <;> (first | rfl | (simp [f0, f3, ft, fp, fw, fh, fd, fs, fr, fra, fdo, fud, fc, frn, mx_uI, mx_uR, mx_up]; done) | exact gE _ (cl4 (by assumption)))) | (rw [if_neg (fun q => absurd q.1 (by assumption))] <;> (first | rfl | (simp [f0, f3, ft, fp, fw, fh, fd, fs, fr, fra, fdo, fud, fc, frn, mx_uI, mx_uR, mx_up]; done) | exact gE _ (cl4 (by assumption)))) | (rw [if_neg (fun q => absurd q.2 (by assumption))] <;> (first | rfl | (simp [f0, f3, ft, fp, fw, fh, fd, fs, fr, fra, fdo, fud, fc, frn, mx_uI, mx_uR, mx_up]; done) | exact gE _ (cl4 (by assumption))))) (by repeat first | assumption | exact sp_FM_ext (by assumption) ⟨⟨m1, m12, m16, m24, m25, m51, m56, m65, m71, m74, m79, m83, m88⟩, nE, nW, nH⟩ | exact ⟨⟨m1, m12, m16, m24, m25, m51, m56, m65, m71, m74, m79, m83, m88⟩, nE, nW, nH⟩ | refine sp_FM_uI rfl ?_ | refine sp_FM_uL ?_ | refine sp_FM_uR ?_)
    | (intro h1; exact absurd h1 (by decide))
    | (intro h1; exfalso; revert h1; simp only [f0, f3, ft, fp, fw, fh, fd, fs, fr, fra, fdo, fud, fc, frn]; first | decide | exact sp_e0 | exact sp_e1)
    | (intro h1; exfalso; revert h1; simp [f0, f3, ft, fp, fw, fh, fd, fs, fr, fra, fdo, fud, fc, frn, mx_uI, mx_up]; done)
    | refine hx_i ?_
    | refine hx_l ?_
    | refine hx_n ?_
    | refine hx_0 ?_
    | refine fz_shapeAt (by assumption) ?_
    | refine fz_planned (by assumption) ?_
    | refine fz_isBody (by assumption) ?_
    | refine fz_was (by assumption) ?_
    | refine sp_wi ?_ ?_
    | refine fz_159 ?_ ?_
    | refine fz_160 ?_ ?_
    | refine fz_161 ?_ ?_
    | refine fz_162 ?_ ?_
    | refine sg164_null ?_
    | refine sg165_null ?_
    | refine sg70_0 ?_
    | refine And.intro ?_ ?_
    | exact Or.inl rfl
    | exact Or.inr rfl
    | decide
    | exact rfl
    | (intro h1; exact absurd h1 (cgt (by assumption)))
    | (intro h1; exfalso; rw [frn] at h1; exact h1 (Int32.not_lt.mp (by assumption)))
    | exact vi6 (by assumption)
    | exact vi4 (by assumption)
    | (intro h1; exact absurd (gS _ (cl6 (by assumption))) h1)
    | (unfold vp_in; simp [f0, f3, ft, fp, fw, fh, fd, fs, fr, fra, fdo, fud, fc, frn, mx_uI, mx_up]; done)
    | refine fun (_ : (_ : Prop)) => ?_
    | refine fun (_ : mx_H) => ?_
set_option maxHeartbeats 2000000 in
theorem fr301 {E : mx_Ev} {d : Nat} {h : mx_H} {Q : Option mx_V → mx_H → Prop} {a1 : Int32} {a2 : Int32} (hM : sp_FM h) (hQ : ∀ r h', r = (if (0 ≤ a1 ∧ a1 ≤ 5) ∧ (a2 = (-1)) then 1 else (-1)) → Q (some (.inl (.int r))) h') :
    mx_C E (mx_fn true) (d + 4) 301 [.inr (.inl 105), .inl (.int a1), .inl (.int a2)] h Q := by
  obtain ⟨⟨m1, m12, m16, m24, m25, m51, m56, m65, m71, m74, m79, m83, m88⟩, nE, nW, nH⟩ := hM
  refine sg301_0 ?_
  repeat' first
    | exact hQ _ _ (by first | rfl | (simp [m1, m12, m16, m24, m25, m51, m56, m65, m71, m74, m79, m83, m88, mx_uI, mx_uR, mx_up]; done) | exact nE _ (cl4 (by assumption)) | (rw [if_pos ⟨(by assumption), (by assumption)⟩] <;> (first | rfl | (simp [m1, m12, m16, m24, m25, m51, m56, m65, m71, m74, m79, m83, m88, mx_uI, mx_uR, mx_up]; done) | exact nE _ (cl4 (by assumption)))) | (rw [if_neg (fun q => absurd q.1 (by assumption))] <;> (first | rfl | (simp [m1, m12, m16, m24, m25, m51, m56, m65, m71, m74, m79, m83, m88, mx_uI, mx_uR, mx_up]; done) | exact nE _ (cl4 (by assumption)))) | (rw [if_neg (fun q => absurd q.2 (by assumption))] <;> (first | rfl | (simp [m1, m12, m16, m24, m25, m51, m56, m65, m71, m74, m79, m83, m88, mx_uI, mx_uR, mx_up]; done) | exact nE _ (cl4 (by assumption)))))
    | (intro h1; exact absurd h1 (by decide))
    | (intro h1; exfalso; revert h1; simp only [m1, m12, m16, m24, m25, m51, m56, m65, m71, m74, m79, m83, m88]; first | decide | exact sp_e0 | exact sp_e1)
    | (intro h1; exfalso; revert h1; simp [m1, m12, m16, m24, m25, m51, m56, m65, m71, m74, m79, m83, m88, mx_uI, mx_up]; done)
    | refine hx_i ?_
    | refine hx_l ?_
    | refine hx_n ?_
    | refine hx_0 ?_
    | refine fz_isShape (by assumption) ?_
    | refine fz_isBodyM (by assumption) ?_
    | refine sp_ini ?_ ?_
    | refine fz_255 ?_ ?_
    | refine fz_300 ?_ ?_
    | refine And.intro ?_ ?_
    | exact Or.inl rfl
    | exact Or.inr rfl
    | decide
    | exact rfl
    | (intro h1; exact absurd h1 (cgt (by assumption)))
    | (intro h1; exfalso; rw [m88] at h1; exact h1 (Int32.not_lt.mp (by assumption)))
    | exact vi6 (by assumption)
    | exact vi4 (by assumption)
    | (intro h1; exact absurd (nH _ (cl6 (by assumption))) h1)
    | (unfold vp_in; simp [m1, m12, m16, m24, m25, m51, m56, m65, m71, m74, m79, m83, m88, mx_uI, mx_up]; done)
    | refine fun (_ : (_ : Prop)) => ?_
    | refine fun (_ : mx_H) => ?_
set_option maxHeartbeats 2000000 in
theorem fc152 {E : mx_Ev} {d : Nat} {h : mx_H} {Q : Option mx_V → mx_H → Prop} {a1 : Int32} {a2 : Int32} {a3 : Int64} (hF : sp_FR h) (hM : sp_FM h) (hQ : ∀ r h', r = (if (0 ≤ a1 ∧ a1 ≤ 5) then (-11) else (-1)) → sp_FM h' → Q (some (.inl (.int r))) h') :
    mx_C E (mx_fn true) (d + 4) 152 [.inr (.inl 0), .inl (.int a1), .inl (.int a2), .inl (.long a3)] h Q := by
  obtain ⟨⟨f0, f3, ft, fp, fw, fh⟩, fd, fs, fr, gE, gT, fra, fdo, fud, fc, frn, gS⟩ := hF
  obtain ⟨⟨m1, m12, m16, m24, m25, m51, m56, m65, m71, m74, m79, m83, m88⟩, nE, nW, nH⟩ := hM
  refine sg152_0 ?_
  repeat' first
    | exact hQ _ _ (by first | rfl | (simp [f0, f3, ft, fp, fw, fh, fd, fs, fr, fra, fdo, fud, fc, frn, mx_uI, mx_uR, mx_up]; done) | exact gE _ (cl4 (by assumption)) | (rw [if_pos (by assumption)] <;> (first | rfl | (simp [f0, f3, ft, fp, fw, fh, fd, fs, fr, fra, fdo, fud, fc, frn, mx_uI, mx_uR, mx_up]; done) | exact gE _ (cl4 (by assumption)))) | (rw [if_neg (by assumption)] <;> (first | rfl | (simp [f0, f3, ft, fp, fw, fh, fd, fs, fr, fra, fdo, fud, fc, frn, mx_uI, mx_uR, mx_up]; done) | exact gE _ (cl4 (by assumption))))) (by repeat first | assumption | exact sp_FM_ext (by assumption) ⟨⟨m1, m12, m16, m24, m25, m51, m56, m65, m71, m74, m79, m83, m88⟩, nE, nW, nH⟩ | exact ⟨⟨m1, m12, m16, m24, m25, m51, m56, m65, m71, m74, m79, m83, m88⟩, nE, nW, nH⟩ | refine sp_FM_uI rfl ?_ | refine sp_FM_uL ?_ | refine sp_FM_uR ?_)
    | (intro h1; exact absurd h1 (by decide))
    | (intro h1; exfalso; revert h1; simp only [f0, f3, ft, fp, fw, fh, fd, fs, fr, fra, fdo, fud, fc, frn]; first | decide | exact sp_e0 | exact sp_e1)
    | (intro h1; exfalso; revert h1; simp [f0, f3, ft, fp, fw, fh, fd, fs, fr, fra, fdo, fud, fc, frn, mx_uI, mx_up]; done)
    | refine hx_i ?_
    | refine hx_l ?_
    | refine hx_n ?_
    | refine hx_0 ?_
    | refine fz_shapeAt (by assumption) ?_
    | refine fz_planned (by assumption) ?_
    | refine fz_isBody (by assumption) ?_
    | refine fz_was (by assumption) ?_
    | refine sp_wi ?_ ?_
    | refine fz_159 ?_ ?_
    | refine fz_160 ?_ ?_
    | refine fz_161 ?_ ?_
    | refine fz_162 ?_ ?_
    | refine sg164_null ?_
    | refine sg165_null ?_
    | refine sg72_0 ?_
    | refine And.intro ?_ ?_
    | exact Or.inl rfl
    | exact Or.inr rfl
    | decide
    | exact rfl
    | (intro h1; exact absurd h1 (cgt (by assumption)))
    | (intro h1; exfalso; rw [frn] at h1; exact h1 (Int32.not_lt.mp (by assumption)))
    | exact vi6 (by assumption)
    | exact vi4 (by assumption)
    | (intro h1; exact absurd (gS _ (cl6 (by assumption))) h1)
    | (unfold vp_in; simp [f0, f3, ft, fp, fw, fh, fd, fs, fr, fra, fdo, fud, fc, frn, mx_uI, mx_up]; done)
    | refine fun (_ : (_ : Prop)) => ?_
    | refine fun (_ : mx_H) => ?_
set_option maxHeartbeats 2000000 in
theorem fr304 {E : mx_Ev} {d : Nat} {h : mx_H} {Q : Option mx_V → mx_H → Prop} {a1 : Int32} {a2 : Int32} {a3 : Int64} (hM : sp_FM h) (hQ : ∀ r h', r = (if (0 ≤ a1 ∧ a1 ≤ 5) then (-11) else (-1)) → Q (some (.inl (.int r))) h') :
    mx_C E (mx_fn true) (d + 4) 304 [.inr (.inl 105), .inl (.int a1), .inl (.int a2), .inl (.long a3)] h Q := by
  obtain ⟨⟨m1, m12, m16, m24, m25, m51, m56, m65, m71, m74, m79, m83, m88⟩, nE, nW, nH⟩ := hM
  refine sg304_0 ?_
  repeat' first
    | exact hQ _ _ (by first | rfl | (simp [m1, m12, m16, m24, m25, m51, m56, m65, m71, m74, m79, m83, m88, mx_uI, mx_uR, mx_up]; done) | exact nE _ (cl4 (by assumption)) | (rw [if_pos (by assumption)] <;> (first | rfl | (simp [m1, m12, m16, m24, m25, m51, m56, m65, m71, m74, m79, m83, m88, mx_uI, mx_uR, mx_up]; done) | exact nE _ (cl4 (by assumption)))) | (rw [if_neg (by assumption)] <;> (first | rfl | (simp [m1, m12, m16, m24, m25, m51, m56, m65, m71, m74, m79, m83, m88, mx_uI, mx_uR, mx_up]; done) | exact nE _ (cl4 (by assumption)))))
    | (intro h1; exact absurd h1 (by decide))
    | (intro h1; exfalso; revert h1; simp only [m1, m12, m16, m24, m25, m51, m56, m65, m71, m74, m79, m83, m88]; first | decide | exact sp_e0 | exact sp_e1)
    | (intro h1; exfalso; revert h1; simp [m1, m12, m16, m24, m25, m51, m56, m65, m71, m74, m79, m83, m88, mx_uI, mx_up]; done)
    | refine hx_i ?_
    | refine hx_l ?_
    | refine hx_n ?_
    | refine hx_0 ?_
    | refine fz_isShape (by assumption) ?_
    | refine fz_isBodyM (by assumption) ?_
    | refine sp_ini ?_ ?_
    | refine fz_255 ?_ ?_
    | refine fz_300 ?_ ?_
    | refine sg303_0 ?_
    | refine And.intro ?_ ?_
    | exact Or.inl rfl
    | exact Or.inr rfl
    | decide
    | exact rfl
    | (intro h1; exact absurd h1 (cgt (by assumption)))
    | (intro h1; exfalso; rw [m88] at h1; exact h1 (Int32.not_lt.mp (by assumption)))
    | exact vi6 (by assumption)
    | exact vi4 (by assumption)
    | (intro h1; exact absurd (nH _ (cl6 (by assumption))) h1)
    | (unfold vp_in; simp [m1, m12, m16, m24, m25, m51, m56, m65, m71, m74, m79, m83, m88, mx_uI, mx_up]; done)
    | refine fun (_ : (_ : Prop)) => ?_
    | refine fun (_ : mx_H) => ?_
set_option maxHeartbeats 2000000 in
theorem fc153 {E : mx_Ev} {d : Nat} {h : mx_H} {Q : Option mx_V → mx_H → Prop} {a1 : Int32} {a2 : Int32} (hF : sp_FR h) (hM : sp_FM h) (hQ : ∀ r h', r = (-9223372036854775808) → sp_FM h' → Q (some (.inl (.long r))) h') :
    mx_C E (mx_fn true) (d + 4) 153 [.inr (.inl 0), .inl (.int a1), .inl (.int a2)] h Q := by
  obtain ⟨⟨f0, f3, ft, fp, fw, fh⟩, fd, fs, fr, gE, gT, fra, fdo, fud, fc, frn, gS⟩ := hF
  obtain ⟨⟨m1, m12, m16, m24, m25, m51, m56, m65, m71, m74, m79, m83, m88⟩, nE, nW, nH⟩ := hM
  refine sg153_0 ?_
  repeat' first
    | exact hQ _ _ rfl (by repeat first | assumption | exact sp_FM_ext (by assumption) ⟨⟨m1, m12, m16, m24, m25, m51, m56, m65, m71, m74, m79, m83, m88⟩, nE, nW, nH⟩ | exact ⟨⟨m1, m12, m16, m24, m25, m51, m56, m65, m71, m74, m79, m83, m88⟩, nE, nW, nH⟩ | refine sp_FM_uI rfl ?_ | refine sp_FM_uL ?_ | refine sp_FM_uR ?_)
    | (intro h1; exact absurd h1 (by decide))
    | (intro h1; exfalso; revert h1; simp only [f0, f3, ft, fp, fw, fh, fd, fs, fr, fra, fdo, fud, fc, frn]; first | decide | exact sp_e0 | exact sp_e1)
    | (intro h1; exfalso; revert h1; simp [f0, f3, ft, fp, fw, fh, fd, fs, fr, fra, fdo, fud, fc, frn, mx_uI, mx_up]; done)
    | refine hx_i ?_
    | refine hx_l ?_
    | refine hx_n ?_
    | refine hx_0 ?_
    | refine fz_shapeAt (by assumption) ?_
    | refine fz_planned (by assumption) ?_
    | refine fz_isBody (by assumption) ?_
    | refine fz_was (by assumption) ?_
    | refine sp_wi ?_ ?_
    | refine fz_159 ?_ ?_
    | refine fz_160 ?_ ?_
    | refine fz_161 ?_ ?_
    | refine fz_162 ?_ ?_
    | refine sg164_null ?_
    | refine sg165_null ?_
    | refine sg72_0 ?_
    | refine And.intro ?_ ?_
    | exact Or.inl rfl
    | exact Or.inr rfl
    | decide
    | exact rfl
    | (intro h1; exact absurd h1 (cgt (by assumption)))
    | (intro h1; exfalso; rw [frn] at h1; exact h1 (Int32.not_lt.mp (by assumption)))
    | exact vi6 (by assumption)
    | exact vi4 (by assumption)
    | (intro h1; exact absurd (gS _ (cl6 (by assumption))) h1)
    | (unfold vp_in; simp [f0, f3, ft, fp, fw, fh, fd, fs, fr, fra, fdo, fud, fc, frn, mx_uI, mx_up]; done)
    | refine fun (_ : (_ : Prop)) => ?_
    | refine fun (_ : mx_H) => ?_
set_option maxHeartbeats 2000000 in
theorem fr305 {E : mx_Ev} {d : Nat} {h : mx_H} {Q : Option mx_V → mx_H → Prop} {a1 : Int32} {a2 : Int32} (hM : sp_FM h) (hQ : ∀ r h', r = (-9223372036854775808) → Q (some (.inl (.long r))) h') :
    mx_C E (mx_fn true) (d + 4) 305 [.inr (.inl 105), .inl (.int a1), .inl (.int a2)] h Q := by
  obtain ⟨⟨m1, m12, m16, m24, m25, m51, m56, m65, m71, m74, m79, m83, m88⟩, nE, nW, nH⟩ := hM
  refine sg305_0 ?_
  repeat' first
    | exact hQ _ _ rfl
    | (intro h1; exact absurd h1 (by decide))
    | (intro h1; exfalso; revert h1; simp only [m1, m12, m16, m24, m25, m51, m56, m65, m71, m74, m79, m83, m88]; first | decide | exact sp_e0 | exact sp_e1)
    | (intro h1; exfalso; revert h1; simp [m1, m12, m16, m24, m25, m51, m56, m65, m71, m74, m79, m83, m88, mx_uI, mx_up]; done)
    | refine hx_i ?_
    | refine hx_l ?_
    | refine hx_n ?_
    | refine hx_0 ?_
    | refine fz_isShape (by assumption) ?_
    | refine fz_isBodyM (by assumption) ?_
    | refine sp_ini ?_ ?_
    | refine fz_255 ?_ ?_
    | refine fz_300 ?_ ?_
    | refine sg303_0 ?_
    | refine And.intro ?_ ?_
    | exact Or.inl rfl
    | exact Or.inr rfl
    | decide
    | exact rfl
    | (intro h1; exact absurd h1 (cgt (by assumption)))
    | (intro h1; exfalso; rw [m88] at h1; exact h1 (Int32.not_lt.mp (by assumption)))
    | exact vi6 (by assumption)
    | exact vi4 (by assumption)
    | (intro h1; exact absurd (nH _ (cl6 (by assumption))) h1)
    | (unfold vp_in; simp [m1, m12, m16, m24, m25, m51, m56, m65, m71, m74, m79, m83, m88, mx_uI, mx_up]; done)
    | refine fun (_ : (_ : Prop)) => ?_
    | refine fun (_ : mx_H) => ?_
set_option maxHeartbeats 2000000 in
theorem fc154 {E : mx_Ev} {d : Nat} {h : mx_H} {Q : Option mx_V → mx_H → Prop} {a1 : Int32} {a2 : Int32} {a3 : Int32} {a4 : Int32} {a5 : Int32} (hF : sp_FR h) (hM : sp_FM h) (hQ : ∀ r h', r = (if (0 ≤ a1 ∧ a1 ≤ 5) ∧ (0 ≤ a3 ∧ a3 ≤ 5) then (-11) else (-1)) → sp_FM h' → Q (some (.inl (.int r))) h') :
    mx_C E (mx_fn true) (d + 4) 154 [.inr (.inl 0), .inl (.int a1), .inl (.int a2), .inl (.int a3), .inl (.int a4), .inl (.int a5)] h Q := by
  obtain ⟨⟨f0, f3, ft, fp, fw, fh⟩, fd, fs, fr, gE, gT, fra, fdo, fud, fc, frn, gS⟩ := hF
  obtain ⟨⟨m1, m12, m16, m24, m25, m51, m56, m65, m71, m74, m79, m83, m88⟩, nE, nW, nH⟩ := hM
  refine sg154_0 ?_
  repeat' first
    | exact hQ _ _ (by first | rfl | (simp [f0, f3, ft, fp, fw, fh, fd, fs, fr, fra, fdo, fud, fc, frn, mx_uI, mx_uR, mx_up]; done) | exact gE _ (cl4 (by assumption)) | (rw [if_pos ⟨(by assumption), (by assumption)⟩] <;> (first | rfl | (simp [f0, f3, ft, fp, fw, fh, fd, fs, fr, fra, fdo, fud, fc, frn, mx_uI, mx_uR, mx_up]; done) | exact gE _ (cl4 (by assumption)))) | (rw [if_neg (fun q => absurd q.1 (by assumption))] <;> (first | rfl | (simp [f0, f3, ft, fp, fw, fh, fd, fs, fr, fra, fdo, fud, fc, frn, mx_uI, mx_uR, mx_up]; done) | exact gE _ (cl4 (by assumption)))) | (rw [if_neg (fun q => absurd q.2 (by assumption))] <;> (first | rfl | (simp [f0, f3, ft, fp, fw, fh, fd, fs, fr, fra, fdo, fud, fc, frn, mx_uI, mx_uR, mx_up]; done) | exact gE _ (cl4 (by assumption))))) (by repeat first | assumption | exact sp_FM_ext (by assumption) ⟨⟨m1, m12, m16, m24, m25, m51, m56, m65, m71, m74, m79, m83, m88⟩, nE, nW, nH⟩ | exact ⟨⟨m1, m12, m16, m24, m25, m51, m56, m65, m71, m74, m79, m83, m88⟩, nE, nW, nH⟩ | refine sp_FM_uI rfl ?_ | refine sp_FM_uL ?_ | refine sp_FM_uR ?_)
    | (intro h1; exact absurd h1 (by decide))
    | (intro h1; exfalso; revert h1; simp only [f0, f3, ft, fp, fw, fh, fd, fs, fr, fra, fdo, fud, fc, frn]; first | decide | exact sp_e0 | exact sp_e1)
    | (intro h1; exfalso; revert h1; simp [f0, f3, ft, fp, fw, fh, fd, fs, fr, fra, fdo, fud, fc, frn, mx_uI, mx_up]; done)
    | refine hx_i ?_
    | refine hx_l ?_
    | refine hx_n ?_
    | refine hx_0 ?_
    | refine fz_shapeAt (by assumption) ?_
    | refine fz_planned (by assumption) ?_
    | refine fz_isBody (by assumption) ?_
    | refine fz_was (by assumption) ?_
    | refine sp_wi ?_ ?_
    | refine fz_159 ?_ ?_
    | refine fz_160 ?_ ?_
    | refine fz_161 ?_ ?_
    | refine fz_162 ?_ ?_
    | refine sg164_null ?_
    | refine sg165_null ?_
    | refine And.intro ?_ ?_
    | exact Or.inl rfl
    | exact Or.inr rfl
    | decide
    | exact rfl
    | (intro h1; exact absurd h1 (cgt (by assumption)))
    | (intro h1; exfalso; rw [frn] at h1; exact h1 (Int32.not_lt.mp (by assumption)))
    | exact vi6 (by assumption)
    | exact vi4 (by assumption)
    | (intro h1; exact absurd (gS _ (cl6 (by assumption))) h1)
    | (unfold vp_in; simp [f0, f3, ft, fp, fw, fh, fd, fs, fr, fra, fdo, fud, fc, frn, mx_uI, mx_up]; done)
    | refine fun (_ : (_ : Prop)) => ?_
    | refine fun (_ : mx_H) => ?_
set_option maxHeartbeats 2000000 in
theorem fr306 {E : mx_Ev} {d : Nat} {h : mx_H} {Q : Option mx_V → mx_H → Prop} {a1 : Int32} {a2 : Int32} {a3 : Int32} {a4 : Int32} {a5 : Int32} (hM : sp_FM h) (hQ : ∀ r h', r = (if (0 ≤ a1 ∧ a1 ≤ 5) ∧ (0 ≤ a3 ∧ a3 ≤ 5) then (-11) else (-1)) → Q (some (.inl (.int r))) h') :
    mx_C E (mx_fn true) (d + 4) 306 [.inr (.inl 105), .inl (.int a1), .inl (.int a2), .inl (.int a3), .inl (.int a4), .inl (.int a5)] h Q := by
  obtain ⟨⟨m1, m12, m16, m24, m25, m51, m56, m65, m71, m74, m79, m83, m88⟩, nE, nW, nH⟩ := hM
  refine sg306_0 ?_
  repeat' first
    | exact hQ _ _ (by first | rfl | (simp [m1, m12, m16, m24, m25, m51, m56, m65, m71, m74, m79, m83, m88, mx_uI, mx_uR, mx_up]; done) | exact nE _ (cl4 (by assumption)) | (rw [if_pos ⟨(by assumption), (by assumption)⟩] <;> (first | rfl | (simp [m1, m12, m16, m24, m25, m51, m56, m65, m71, m74, m79, m83, m88, mx_uI, mx_uR, mx_up]; done) | exact nE _ (cl4 (by assumption)))) | (rw [if_neg (fun q => absurd q.1 (by assumption))] <;> (first | rfl | (simp [m1, m12, m16, m24, m25, m51, m56, m65, m71, m74, m79, m83, m88, mx_uI, mx_uR, mx_up]; done) | exact nE _ (cl4 (by assumption)))) | (rw [if_neg (fun q => absurd q.2 (by assumption))] <;> (first | rfl | (simp [m1, m12, m16, m24, m25, m51, m56, m65, m71, m74, m79, m83, m88, mx_uI, mx_uR, mx_up]; done) | exact nE _ (cl4 (by assumption)))))
    | (intro h1; exact absurd h1 (by decide))
    | (intro h1; exfalso; revert h1; simp only [m1, m12, m16, m24, m25, m51, m56, m65, m71, m74, m79, m83, m88]; first | decide | exact sp_e0 | exact sp_e1)
    | (intro h1; exfalso; revert h1; simp [m1, m12, m16, m24, m25, m51, m56, m65, m71, m74, m79, m83, m88, mx_uI, mx_up]; done)
    | refine hx_i ?_
    | refine hx_l ?_
    | refine hx_n ?_
    | refine hx_0 ?_
    | refine fz_isShape (by assumption) ?_
    | refine fz_isBodyM (by assumption) ?_
    | refine sp_ini ?_ ?_
    | refine fz_255 ?_ ?_
    | refine fz_300 ?_ ?_
    | refine And.intro ?_ ?_
    | exact Or.inl rfl
    | exact Or.inr rfl
    | decide
    | exact rfl
    | (intro h1; exact absurd h1 (cgt (by assumption)))
    | (intro h1; exfalso; rw [m88] at h1; exact h1 (Int32.not_lt.mp (by assumption)))
    | exact vi6 (by assumption)
    | exact vi4 (by assumption)
    | (intro h1; exact absurd (nH _ (cl6 (by assumption))) h1)
    | (unfold vp_in; simp [m1, m12, m16, m24, m25, m51, m56, m65, m71, m74, m79, m83, m88, mx_uI, mx_up]; done)
    | refine fun (_ : (_ : Prop)) => ?_
    | refine fun (_ : mx_H) => ?_
set_option maxHeartbeats 2000000 in
theorem fc155 {E : mx_Ev} {d : Nat} {h : mx_H} {Q : Option mx_V → mx_H → Prop} {a1 : Int32} {a2 : Int32} (hF : sp_FR h) (hM : sp_FM h) (hQ : ∀ r h', r = (if (0 ≤ a1 ∧ a1 ≤ 5) ∧ (0 ≤ a2 ∧ a2 ≤ 5) then (-11) else (-1)) → sp_FM h' → Q (some (.inl (.int r))) h') :
    mx_C E (mx_fn true) (d + 4) 155 [.inr (.inl 0), .inl (.int a1), .inl (.int a2)] h Q := by
  obtain ⟨⟨f0, f3, ft, fp, fw, fh⟩, fd, fs, fr, gE, gT, fra, fdo, fud, fc, frn, gS⟩ := hF
  obtain ⟨⟨m1, m12, m16, m24, m25, m51, m56, m65, m71, m74, m79, m83, m88⟩, nE, nW, nH⟩ := hM
  refine sg155_0 ?_
  repeat' first
    | exact hQ _ _ (by first | rfl | (simp [f0, f3, ft, fp, fw, fh, fd, fs, fr, fra, fdo, fud, fc, frn, mx_uI, mx_uR, mx_up]; done) | exact gE _ (cl4 (by assumption)) | (rw [if_pos ⟨(by assumption), (by assumption)⟩] <;> (first | rfl | (simp [f0, f3, ft, fp, fw, fh, fd, fs, fr, fra, fdo, fud, fc, frn, mx_uI, mx_uR, mx_up]; done) | exact gE _ (cl4 (by assumption)))) | (rw [if_neg (fun q => absurd q.1 (by assumption))] <;> (first | rfl | (simp [f0, f3, ft, fp, fw, fh, fd, fs, fr, fra, fdo, fud, fc, frn, mx_uI, mx_uR, mx_up]; done) | exact gE _ (cl4 (by assumption)))) | (rw [if_neg (fun q => absurd q.2 (by assumption))] <;> (first | rfl | (simp [f0, f3, ft, fp, fw, fh, fd, fs, fr, fra, fdo, fud, fc, frn, mx_uI, mx_uR, mx_up]; done) | exact gE _ (cl4 (by assumption))))) (by repeat first | assumption | exact sp_FM_ext (by assumption) ⟨⟨m1, m12, m16, m24, m25, m51, m56, m65, m71, m74, m79, m83, m88⟩, nE, nW, nH⟩ | exact ⟨⟨m1, m12, m16, m24, m25, m51, m56, m65, m71, m74, m79, m83, m88⟩, nE, nW, nH⟩ | refine sp_FM_uI rfl ?_ | refine sp_FM_uL ?_ | refine sp_FM_uR ?_)
    | (intro h1; exact absurd h1 (by decide))
    | (intro h1; exfalso; revert h1; simp only [f0, f3, ft, fp, fw, fh, fd, fs, fr, fra, fdo, fud, fc, frn]; first | decide | exact sp_e0 | exact sp_e1)
    | (intro h1; exfalso; revert h1; simp [f0, f3, ft, fp, fw, fh, fd, fs, fr, fra, fdo, fud, fc, frn, mx_uI, mx_up]; done)
    | refine hx_i ?_
    | refine hx_l ?_
    | refine hx_n ?_
    | refine hx_0 ?_
    | refine fz_shapeAt (by assumption) ?_
    | refine fz_planned (by assumption) ?_
    | refine fz_isBody (by assumption) ?_
    | refine fz_was (by assumption) ?_
    | refine sp_wi ?_ ?_
    | refine fz_159 ?_ ?_
    | refine fz_160 ?_ ?_
    | refine fz_161 ?_ ?_
    | refine fz_162 ?_ ?_
    | refine sg164_null ?_
    | refine sg165_null ?_
    | refine And.intro ?_ ?_
    | exact Or.inl rfl
    | exact Or.inr rfl
    | decide
    | exact rfl
    | (intro h1; exact absurd h1 (cgt (by assumption)))
    | (intro h1; exfalso; rw [frn] at h1; exact h1 (Int32.not_lt.mp (by assumption)))
    | exact vi6 (by assumption)
    | exact vi4 (by assumption)
    | (intro h1; exact absurd (gS _ (cl6 (by assumption))) h1)
    | (unfold vp_in; simp [f0, f3, ft, fp, fw, fh, fd, fs, fr, fra, fdo, fud, fc, frn, mx_uI, mx_up]; done)
    | refine fun (_ : (_ : Prop)) => ?_
    | refine fun (_ : mx_H) => ?_
set_option maxHeartbeats 2000000 in
theorem fr307 {E : mx_Ev} {d : Nat} {h : mx_H} {Q : Option mx_V → mx_H → Prop} {a1 : Int32} {a2 : Int32} (hM : sp_FM h) (hQ : ∀ r h', r = (if (0 ≤ a1 ∧ a1 ≤ 5) ∧ (0 ≤ a2 ∧ a2 ≤ 5) then (-11) else (-1)) → Q (some (.inl (.int r))) h') :
    mx_C E (mx_fn true) (d + 4) 307 [.inr (.inl 105), .inl (.int a1), .inl (.int a2)] h Q := by
  obtain ⟨⟨m1, m12, m16, m24, m25, m51, m56, m65, m71, m74, m79, m83, m88⟩, nE, nW, nH⟩ := hM
  refine sg307_0 ?_
  repeat' first
    | exact hQ _ _ (by first | rfl | (simp [m1, m12, m16, m24, m25, m51, m56, m65, m71, m74, m79, m83, m88, mx_uI, mx_uR, mx_up]; done) | exact nE _ (cl4 (by assumption)) | (rw [if_pos ⟨(by assumption), (by assumption)⟩] <;> (first | rfl | (simp [m1, m12, m16, m24, m25, m51, m56, m65, m71, m74, m79, m83, m88, mx_uI, mx_uR, mx_up]; done) | exact nE _ (cl4 (by assumption)))) | (rw [if_neg (fun q => absurd q.1 (by assumption))] <;> (first | rfl | (simp [m1, m12, m16, m24, m25, m51, m56, m65, m71, m74, m79, m83, m88, mx_uI, mx_uR, mx_up]; done) | exact nE _ (cl4 (by assumption)))) | (rw [if_neg (fun q => absurd q.2 (by assumption))] <;> (first | rfl | (simp [m1, m12, m16, m24, m25, m51, m56, m65, m71, m74, m79, m83, m88, mx_uI, mx_uR, mx_up]; done) | exact nE _ (cl4 (by assumption)))))
    | (intro h1; exact absurd h1 (by decide))
    | (intro h1; exfalso; revert h1; simp only [m1, m12, m16, m24, m25, m51, m56, m65, m71, m74, m79, m83, m88]; first | decide | exact sp_e0 | exact sp_e1)
    | (intro h1; exfalso; revert h1; simp [m1, m12, m16, m24, m25, m51, m56, m65, m71, m74, m79, m83, m88, mx_uI, mx_up]; done)
    | refine hx_i ?_
    | refine hx_l ?_
    | refine hx_n ?_
    | refine hx_0 ?_
    | refine fz_isShape (by assumption) ?_
    | refine fz_isBodyM (by assumption) ?_
    | refine sp_ini ?_ ?_
    | refine fz_255 ?_ ?_
    | refine fz_300 ?_ ?_
    | refine And.intro ?_ ?_
    | exact Or.inl rfl
    | exact Or.inr rfl
    | decide
    | exact rfl
    | (intro h1; exact absurd h1 (cgt (by assumption)))
    | (intro h1; exfalso; rw [m88] at h1; exact h1 (Int32.not_lt.mp (by assumption)))
    | exact vi6 (by assumption)
    | exact vi4 (by assumption)
    | (intro h1; exact absurd (nH _ (cl6 (by assumption))) h1)
    | (unfold vp_in; simp [m1, m12, m16, m24, m25, m51, m56, m65, m71, m74, m79, m83, m88, mx_uI, mx_up]; done)
    | refine fun (_ : (_ : Prop)) => ?_
    | refine fun (_ : mx_H) => ?_
