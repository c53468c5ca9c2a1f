/-! ===== Math's own methods ===== -/
def mx_if (b : Bool) (P : Prop) : Prop := match b with
  | true => P
  | false => False
theorem mx_if_t {b : Bool} {P : Prop} (h : mx_if b P) : b = true ∧ P := by
  cases b
  · exact h.elim
  · exact ⟨rfl, h⟩
section MXM
variable {E : mx_Ev} {fin : mx_A → Nat → Option mx_A} {d bc bs mid pc : Nat} {lv : mx_Lv} {st : List mx_V} {h : mx_H} {Q : Option mx_V → mx_H → Prop}
/-- a call that answers at once -/
theorem mx_quick {u : List mx_V} {v : mx_V} (hv : mx_wf h.1 v) (hst : (st.map mx_cat).sum ≤ 8)
    (hstep : ∀ (p : Program) (e : Env) (R : Room) (s : State) (m : MethodId) (args : Array Value) (below : List Frame) (meth : Method) (c : Code) (H : Heap) (locs : List Loc) (cells slots : Nat) (Qw : State → Prop) (ls : Array Slot),
      mx_S E (d + 1) mid p R s m args meth c → c.maxLocals = ls.size → 1 ≤ R.frames → ((st.map (mx_sh E)).map fun v => v.category).sum + 15 ≤ R.locals → cells ≤ R.cells → slots ≤ R.slots →
      W p E.1 e R s m args below meth c H locs cells slots Qw (F0 m (pc + 3) ls (mx_sh E v :: st.map (mx_sh E))) → W p E.1 e R s m args below meth c H locs cells slots Qw (F0 m pc ls ((u ++ st).map (mx_sh E))))
    (hk : mx_T0 E fin (d + 1) bc bs mid (pc + 3) lv (v :: st) h Q) : mx_T0 E fin (d + 1) bc bs mid pc lv (u ++ st) h Q :=
  fun p e R s m args below meth c H locs cells slots Qw ls hS hD q1 q2 q3 q4 q5 q6 => by
    have h1 := hS.2.2.2.2.2.2.2.2.2.1
    have h2 := hS.2.2.2.2.2.2.2.2.2.2
    have h3 := mx_room_sum (E := E) hst
    exact hstep p e R s m args below meth c H locs cells slots Qw ls hS (hS.2.2.1.trans q5.1.symm) (by omega) (by omega) (by omega) (by omega)
      (hk p e R s m args below meth c H locs cells slots Qw ls hS hD q1 q2 q3 (fun x hx => (List.mem_cons.mp hx).elim (fun e => e ▸ hv) (fun hx => q4 x (List.mem_append_right _ hx))) q5 q6)
theorem mx_mabs {x : Int32} {i : Nat} (hd : decode (mx_by mid) pc = .ok (.invokestatic i, 3)) (hw : mx_MW (mx_me mid).1 i Lib.Math.abs.name Lib.Math.abs.code 1 (some .int)) (hst : (st.map mx_cat).sum ≤ 8) (hk : mx_T0 E fin (d + 1) bc bs mid (pc + 3) lv (.inl (.int (if 0 ≤ x then x else 0 - x)) :: st) h Q) : mx_T0 E fin (d + 1) bc bs mid pc lv (.inl (.int x) :: st) h Q :=
  mx_quick (v := .inl (.int (if 0 ≤ x then x else 0 - x))) (u := [.inl (.int x)]) (by exact True.intro) hst (fun _ _ _ _ _ _ _ _ _ _ _ _ _ _ _ hS hml hfr hlo hc hs k => va_mabs hS.1 hS.2.1 hml hS.2.2.2.2.2.1 (hS.2.2.2.2.2.2.1 _ hw.1) (hS.2.2.2.2.2.2.1 _ hw.2.1) (hS.2.2.2.2.2.2.1 _ hw.2.2.1) (hS.2.2.2.2.2.2.1 _ hw.2.2.2) hfr (by show ((st.map (mx_sh E)).map fun v => v.category).sum + _ ≤ _; omega) hc hs hd k) hk
theorem mx_mabsl {x : Int64} {i : Nat} (hd : decode (mx_by mid) pc = .ok (.invokestatic i, 3)) (hw : mx_MW (mx_me mid).1 i Lib.MathLoose.abs_long.x Lib.MathLoose.abs_long.code 2 (some .long)) (hst : (st.map mx_cat).sum ≤ 8) (hk : mx_T0 E fin (d + 1) bc bs mid (pc + 3) lv (.inl (.long (if 0 < x then x else -x)) :: st) h Q) : mx_T0 E fin (d + 1) bc bs mid pc lv (.inl (.long x) :: st) h Q :=
  mx_quick (v := .inl (.long (if 0 < x then x else -x))) (u := [.inl (.long x)]) (by exact True.intro) hst (fun _ _ _ _ _ _ _ _ _ _ _ _ _ _ _ hS hml hfr hlo hc hs k => va_mabs_long hS.1 hS.2.1 hml hS.2.2.2.2.2.1 (hS.2.2.2.2.2.2.1 _ hw.1) (hS.2.2.2.2.2.2.1 _ hw.2.1) (hS.2.2.2.2.2.2.1 _ hw.2.2.1) (hS.2.2.2.2.2.2.1 _ hw.2.2.2) hfr (by show ((st.map (mx_sh E)).map fun v => v.category).sum + _ ≤ _; omega) hc hs hd k) hk
theorem mx_mmax {x y : Int32} {i : Nat} (hd : decode (mx_by mid) pc = .ok (.invokestatic i, 3)) (hw : mx_MW (mx_me mid).1 i Lib.Math.max.name Lib.Math.max.code 2 (some .int)) (hst : (st.map mx_cat).sum ≤ 8) (hk : mx_T0 E fin (d + 1) bc bs mid (pc + 3) lv (.inl (.int (if x < y then y else x)) :: st) h Q) : mx_T0 E fin (d + 1) bc bs mid pc lv (.inl (.int y) :: .inl (.int x) :: st) h Q :=
  mx_quick (v := .inl (.int (if x < y then y else x))) (u := [.inl (.int y), .inl (.int x)]) (by exact True.intro) hst (fun _ _ _ _ _ _ _ _ _ _ _ _ _ _ _ hS hml hfr hlo hc hs k => va_mmax hS.1 hS.2.1 hml hS.2.2.2.2.2.1 (hS.2.2.2.2.2.2.1 _ hw.1) (hS.2.2.2.2.2.2.1 _ hw.2.1) (hS.2.2.2.2.2.2.1 _ hw.2.2.1) (hS.2.2.2.2.2.2.1 _ hw.2.2.2) hfr (by show ((st.map (mx_sh E)).map fun v => v.category).sum + _ ≤ _; omega) hc hs hd k) hk
theorem mx_mmaxl {x y : Int64} {i : Nat} (hd : decode (mx_by mid) pc = .ok (.invokestatic i, 3)) (hw : mx_MW (mx_me mid).1 i Lib.MathLoose.max_long.x Lib.MathLoose.max_long.code 4 (some .long)) (hst : (st.map mx_cat).sum ≤ 8) (hk : mx_T0 E fin (d + 1) bc bs mid (pc + 3) lv (.inl (.long (if y < x then x else y)) :: st) h Q) : mx_T0 E fin (d + 1) bc bs mid pc lv (.inl (.long y) :: .inl (.long x) :: st) h Q :=
  mx_quick (v := .inl (.long (if y < x then x else y))) (u := [.inl (.long y), .inl (.long x)]) (by exact True.intro) hst (fun _ _ _ _ _ _ _ _ _ _ _ _ _ _ _ hS hml hfr hlo hc hs k => va_mmax_long hS.1 hS.2.1 hml hS.2.2.2.2.2.1 (hS.2.2.2.2.2.2.1 _ hw.1) (hS.2.2.2.2.2.2.1 _ hw.2.1) (hS.2.2.2.2.2.2.1 _ hw.2.2.1) (hS.2.2.2.2.2.2.1 _ hw.2.2.2) hfr (by show ((st.map (mx_sh E)).map fun v => v.category).sum + _ ≤ _; omega) hc hs hd k) hk
theorem mx_mmin {x y : Int32} {i : Nat} (hd : decode (mx_by mid) pc = .ok (.invokestatic i, 3)) (hw : mx_MW (mx_me mid).1 i Lib.Math.min.name Lib.Math.min.code 2 (some .int)) (hst : (st.map mx_cat).sum ≤ 8) (hk : mx_T0 E fin (d + 1) bc bs mid (pc + 3) lv (.inl (.int (if y < x then y else x)) :: st) h Q) : mx_T0 E fin (d + 1) bc bs mid pc lv (.inl (.int y) :: .inl (.int x) :: st) h Q :=
  mx_quick (v := .inl (.int (if y < x then y else x))) (u := [.inl (.int y), .inl (.int x)]) (by exact True.intro) hst (fun _ _ _ _ _ _ _ _ _ _ _ _ _ _ _ hS hml hfr hlo hc hs k => va_mmin hS.1 hS.2.1 hml hS.2.2.2.2.2.1 (hS.2.2.2.2.2.2.1 _ hw.1) (hS.2.2.2.2.2.2.1 _ hw.2.1) (hS.2.2.2.2.2.2.1 _ hw.2.2.1) (hS.2.2.2.2.2.2.1 _ hw.2.2.2) hfr (by show ((st.map (mx_sh E)).map fun v => v.category).sum + _ ≤ _; omega) hc hs hd k) hk
theorem mx_mminl {x y : Int64} {i : Nat} (hd : decode (mx_by mid) pc = .ok (.invokestatic i, 3)) (hw : mx_MW (mx_me mid).1 i Lib.MathLoose.min_long.x Lib.MathLoose.min_long.code 4 (some .long)) (hst : (st.map mx_cat).sum ≤ 8) (hk : mx_T0 E fin (d + 1) bc bs mid (pc + 3) lv (.inl (.long (if y < x then y else x)) :: st) h Q) : mx_T0 E fin (d + 1) bc bs mid pc lv (.inl (.long y) :: .inl (.long x) :: st) h Q :=
  mx_quick (v := .inl (.long (if y < x then y else x))) (u := [.inl (.long y), .inl (.long x)]) (by exact True.intro) hst (fun _ _ _ _ _ _ _ _ _ _ _ _ _ _ _ hS hml hfr hlo hc hs k => va_mmin_long hS.1 hS.2.1 hml hS.2.2.2.2.2.1 (hS.2.2.2.2.2.2.1 _ hw.1) (hS.2.2.2.2.2.2.1 _ hw.2.1) (hS.2.2.2.2.2.2.1 _ hw.2.2.1) (hS.2.2.2.2.2.2.1 _ hw.2.2.2) hfr (by show ((st.map (mx_sh E)).map fun v => v.category).sum + _ ≤ _; omega) hc hs hd k) hk
end MXM
def mx_mth (a : Nat) (st : List mx_V) (κ : List mx_V → Prop) : Prop := match a, st with
  | 0, .inl (.int x) :: r => mx_if (Nat.ble ((r.map mx_cat).sum) 8) (κ (.inl (.int (if 0 ≤ x then x else 0 - x)) :: r))
  | 1, .inl (.long x) :: r => mx_if (Nat.ble ((r.map mx_cat).sum) 8) (κ (.inl (.long (if 0 < x then x else -x)) :: r))
  | 2, .inl (.int y) :: .inl (.int x) :: r => mx_if (Nat.ble ((r.map mx_cat).sum) 8) (κ (.inl (.int (if x < y then y else x)) :: r))
  | 3, .inl (.long y) :: .inl (.long x) :: r => mx_if (Nat.ble ((r.map mx_cat).sum) 8) (κ (.inl (.long (if y < x then x else y)) :: r))
  | 4, .inl (.int y) :: .inl (.int x) :: r => mx_if (Nat.ble ((r.map mx_cat).sum) 8) (κ (.inl (.int (if y < x then y else x)) :: r))
  | 5, .inl (.long y) :: .inl (.long x) :: r => mx_if (Nat.ble ((r.map mx_cat).sum) 8) (κ (.inl (.long (if y < x then y else x)) :: r))
  | _, _ => False
theorem mx_mth_s {E : mx_Ev} {fin : mx_A → Nat → Option mx_A} {d bc bs mid pc : Nat} {lv : mx_Lv} {st : List mx_V} {h : mx_H} {Q : Option mx_V → mx_H → Prop} {i a : Nat} {κ : List mx_V → Prop} (hd : decode (mx_by mid) pc = .ok (.invokestatic i, 3)) (hw : mx_mw (mx_me mid).1 i a) (kk : ∀ r, κ r → mx_T0 E fin (d + 1) bc bs mid (pc + 3) lv r h Q) (hk : mx_mth a st κ) : mx_T0 E fin (d + 1) bc bs mid pc lv st h Q := by
  unfold mx_mth at hk
  unfold mx_mw at hw
  split at hk
  · obtain ⟨q1, q2⟩ := mx_if_t hk; exact mx_mabs hd hw (Nat.le_of_ble_eq_true q1) (kk _ q2)
  · obtain ⟨q1, q2⟩ := mx_if_t hk; exact mx_mabsl hd hw (Nat.le_of_ble_eq_true q1) (kk _ q2)
  · obtain ⟨q1, q2⟩ := mx_if_t hk; exact mx_mmax hd hw (Nat.le_of_ble_eq_true q1) (kk _ q2)
  · obtain ⟨q1, q2⟩ := mx_if_t hk; exact mx_mmaxl hd hw (Nat.le_of_ble_eq_true q1) (kk _ q2)
  · obtain ⟨q1, q2⟩ := mx_if_t hk; exact mx_mmin hd hw (Nat.le_of_ble_eq_true q1) (kk _ q2)
  · obtain ⟨q1, q2⟩ := mx_if_t hk; exact mx_mminl hd hw (Nat.le_of_ble_eq_true q1) (kk _ q2)
  · exact hk.elim
