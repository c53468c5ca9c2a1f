/-! ===== calls: a method's judgement as a contract, and a call by it ===== -/
theorem mx_nest_m {w : Cond} (h : w ∈ mx_nest) : ∃ a i x o, w = .methodLinkNest a i x o := by
  have h2 := (List.mem_filter.mp h).2
  cases w with
  | methodLinkNest a i x o => exact ⟨a, i, x, o, rfl⟩
  | _ => simp at h2
theorem mx_AO_moved {u U : State} (hvm : u.vm.Alike U.vm) (h : (Cond.arrayOver (.array .long)).before #[] u = true) : (Cond.arrayOver (.array .long)).before #[] U = true := by
  have h2 := Cond.arrayOver_setVmC (args := #[]) (s := u) (vm' := U.vm) hvm (.array .long)
  rw [h] at h2
  exact h2
theorem mx_Nv.moved {E : mx_Ev} {u U : State} {H H1 : Heap} (h : mx_Nv E u H) (hvm : u.vm.Alike U.vm) (hw : ∀ a i x o, va_Nw (.methodLinkNest a i x o) u → va_Nw (.methodLinkNest a i x o) U) (hz : H.size ≤ H1.size) (hq : ∀ q : Nat, q < H.size → q < mx_B E → H1[q]? = H[q]?) : mx_Nv E U H1 := by
  obtain ⟨k, n, ao, aa, z0, z1, x0, x1, x2, l0, l1, l2, hn, hB⟩ := h
  have hk : ∀ a : Nat, a < H.size → ¬ mx_ra E a → H1[a]? = H[a]? := fun a h1 h2 => hq a h1 (Nat.not_le.mp h2)
  have hl : ∀ a : Nat, a < mx_B E → H1[a]? = H[a]? := fun a ha => hq a (Nat.lt_of_lt_of_le ha hB) ha
  refine ⟨k.moved hvm, fun w hm => ?_, ao.moved hvm, mx_AO_moved hvm aa, (z0.moved hvm).kept hk, (z1.moved hvm).kept hk, (x0.moved hvm).kept (hl _ l0), (x1.moved hvm).kept (hl _ l1), (x2.moved hvm).kept (hl _ l2), l0, l1, l2, hn, Nat.le_trans hB hz⟩
  obtain ⟨a, i, x, o, rfl⟩ := mx_nest_m hm
  exact hw a i x o (n _ hm)
/-- the heap's part of mx_D -/
def mx_HF (E : mx_Ev) (fin : mx_A → Nat → Option mx_A) (h : mx_H) (H : Heap) : Prop :=
  va_P (mx_G E) vwCl (mx_W E h) H ∧ va_D (mx_ra E) (mx_W E h) ∧ H.size = mx_B E + h.1 ∧ (∀ a k b, h.2.2.2 a k = some b → mx_wfa h.1 b) ∧ (∀ a k b, fin a k = some b → mx_wfa h.1 a → h.2.2.2 a k = some b)
def mx_Qc (E : mx_Ev) (fin : mx_A → Nat → Option mx_A) (h : mx_H) (Q : Option mx_V → mx_H → Prop) : Array Value → State → Outcome → State → Prop := fun _ st oc t =>
  ∃ (v : Option mx_V) (h' : mx_H), oc = .returned (v.map (mx_sh E)) ∧ Q v h' ∧ h.1 ≤ h'.1 ∧ (∀ x, v = some x → mx_wf h'.1 x) ∧ mx_HF E fin h' t.heap ∧ va_F (mx_ra E) st t
def mx_Pc (E : mx_Ev) (fin : mx_A → Nat → Option mx_A) (h : mx_H) (av : List mx_V) : Array Value → State → Prop := fun a U => a = (av.map (mx_sh E)).toArray ∧ mx_Nv E U U.heap ∧ mx_HF E fin h U.heap
abbrev mx_rm (d mid : Nat) : Room := { frames := d, cells := (mx_bu mid).1, slots := (mx_bu mid).2, locals := 40 * d }
abbrev mx_wm (mid : Nat) : List Cond := Cond.code (mx_y mid) (mx_by mid) (mx_nL mid) (mx_rt mid) :: mx_ws
theorem mx_ent_map (E : mx_Ev) : ∀ (i : Nat) (av : List mx_V), (mx_ent i av).map (mx_shl E) = lv_args i (av.map (mx_sh E))
  | _, [] => rfl
  | i, v :: r => by
    show (i, mx_sh E v) :: (mx_ent (i + mx_cat v) r).map (mx_shl E) = (i, mx_sh E v) :: lv_args _ _
    rw [mx_ent_map E _ r]
    congr 2
    rw [mx_cat_sh]
    rcases v with v | a
    · cases v <;> rfl
    · rfl
theorem mx_ent_wf {n : Nat} : ∀ {i : Nat} {av : List mx_V}, (∀ v ∈ av, mx_wf n v) → ∀ q ∈ mx_ent i av, mx_wf n q.2
  | _, [], _ => fun q hq => by cases hq
  | i, v :: r, h => fun q hq => by
    rcases List.mem_cons.mp hq with rfl | hq
    · exact h v List.mem_cons_self
    · exact mx_ent_wf (fun v hv => h v (List.mem_cons_of_mem _ hv)) q hq
theorem mx_sl_len (E : mx_Ev) : ∀ av : List mx_V, (lg_sl (av.map (mx_sh E))).length = (av.map mx_cat).sum
  | [] => rfl
  | v :: r => by
    have h : lg_sl ((v :: r).map (mx_sh E)) = (if (mx_sh E v).category = 2 then [.val (mx_sh E v), .second] else [.val (mx_sh E v)]) ++ lg_sl (r.map (mx_sh E)) := rfl
    rw [h, List.length_append, mx_sl_len E r, List.map_cons, List.sum_cons, mx_cat_sh]
    congr 1
    rcases v with v | a
    · cases v <;> rfl
    · rfl
set_option maxHeartbeats 4000000 in
theorem mx_met {E : mx_Ev} {fin : mx_A → Nat → Option mx_A} {d mid : Nat} {av : List mx_V} {h : mx_H} {Q : Option mx_V → mx_H → Prop} (hy : plainName (mx_y mid).cls = true) (hcn : (mx_y mid).cls = mx_ow mid) (hlen : (av.map mx_cat).sum ≤ mx_nL mid) (hwf : ∀ v ∈ av, mx_wf h.1 v) (hC : mx_C0 E fin d mid av h Q) :
    Met E.1 (mx_y mid) (mx_wm mid) (mx_rm d mid) (mx_Pc E fin h av) (mx_Qc E fin h Q) (mx_bu mid).1 (mx_bu mid).2 (mx_ra E) := by
  refine Met.ofW (cc := mx_by mid) (maxL := mx_nL mid) (ret := mx_rt mid) hy rfl ?_
  intro p e s m args below meth c s₁ B hml hv
  obtain ⟨rfl, hN, hP, hD, hz, hr, hf⟩ := hv
  have hts := atoms_spec (ws := mx_wm mid) B.pre
  have hS : mx_S E d mid p (headSpec (mx_wm mid) (mx_rm d mid)).room s m ((av.map (mx_sh E)).toArray) meth c :=
    ⟨B.exec, B.bytes, hml, B.returns, B.notSynchronized, by rw [← hcn]; exact findClass_of_methodNamed B.named, fun w hw => hts w (List.mem_cons_of_mem _ hw), fun hi => (name_of_methodNamed B.named B.method).1.trans hi, hN, Nat.le_refl _, Nat.le_refl _⟩
  have hl := lv_entry (av.map (mx_sh E)) (n := mx_nL mid) (by rw [mx_sl_len]; exact hlen)
  rw [lg_entry_eq]
  generalize (lg_sl (av.map (mx_sh E)) ++ List.replicate (mx_nL mid - (lg_sl (av.map (mx_sh E))).length) Slot.unset).toArray = ls at hl ⊢
  rw [← mx_ent_map] at hl
  refine hC p e _ s m _ below meth c s.heap [] 0 0 _ ls hS ⟨hP, hD, va_S.rf, hz, hr, hf⟩ (Nat.le_of_eq (Nat.zero_add _)) (Nat.le_of_eq (Nat.zero_add _)) (mx_ent_wf hwf) (fun v hv => by cases hv) hl ?_
  intro v h' H' locs' cells' slots' pc' ls' ins hQ hD' hm hc' hs' hwv hd hrk
  refine W.widen (k := (mx_bu mid).1) (n := (mx_bu mid).2) (by omega) (by omega) ?_
  have hq : ∀ t : State, t.heap = H' → s.WarmedH t.vm → mx_Qc E fin h Q (av.map (mx_sh E)).toArray s (.returned (v.map (mx_sh E))) t := fun t ht _ =>
    ⟨v, h', rfl, hQ, hm, hwv, by rw [ht]; exact ⟨hD'.1, hD'.2.1, hD'.2.2.2.1, hD'.2.2.2.2.1, hD'.2.2.2.2.2⟩, hD'.2.2.1.F ht⟩
  have hlk := hS.2.2.2.2.1
  rcases hrk with ⟨rfl, rfl, hr1⟩ | ⟨x, rfl, rfl, hr1⟩ | ⟨x, rfl, rfl, hr1⟩ | ⟨rfl, hv, hr1⟩
  · exact W.vret hS.1 hS.2.1 (hS.2.2.2.1.trans hr1) hq hD'.2.2.1.2.2 hd
  · rcases hr1 with hr1 | ⟨hr1, hn⟩
    · exact W.iret hS.1 hS.2.1 (hS.2.2.2.1.trans hr1) hq hD'.2.2.1.2.2 hd
    · exact W.zret hS.1 hS.2.1 (hS.2.2.2.1.trans hr1) hn hq hD'.2.2.1.2.2 hd
  · exact W.lret hS.1 hS.2.1 (hS.2.2.2.1.trans hr1) hq hD'.2.2.1.2.2 hd
  · rcases hv with rfl | ⟨a, rfl⟩
    · exact W.aret hS.1 hS.2.1 (hS.2.2.2.1.trans hr1) (Or.inl ⟨_, rfl⟩) (Or.inl rfl) hq hD'.2.2.1.2.2 hd
    · exact W.aret hS.1 hS.2.1 (hS.2.2.2.1.trans hr1) (Or.inl ⟨_, rfl⟩) (Or.inr ⟨_, rfl⟩) hq hD'.2.2.1.2.2 hd
/-! a method's own words -/
theorem mx_ws_warm {args : Array Value} {s : State} (h : ∀ w ∈ mx_ws, w.before args s = true) {w : Cond} (hw : w ∈ mx_ws) (a' : Array Value) (U : State) (hW : s.WarmedH U.vm) : w.before a' U = true :=
  word_at hW (good_of_word (List.mem_filter.mp hw).2) (h w hw)
theorem mx_FB (E : mx_Ev) (fin : mx_A → Nat → Option mx_A) (h : mx_H) (av : List mx_V) : FrameBlind (mx_Pc E fin h av) := fun a U g mk ⟨h1, h2, h3⟩ =>
  ⟨h1, h2.moved (U := U.calling g mk a) (Vm.Alike.refl U.vm) (fun _ _ _ _ hw => va_Nw.same rfl rfl hw) (Nat.le_refl _) (fun _ _ _ => rfl), h3⟩
theorem mx_PU {E : mx_Ev} {fin : mx_A → Nat → Option mx_A} {h : mx_H} {av : List mx_V} {s : State} {H : Heap} {locs : List Loc} (hN : mx_Nv E s s.heap) (hD : mx_D E fin h s H locs) (U : State) (hU : U.heap = H) (hW : s.WarmedH U.vm) : mx_Pc E fin h av (av.map (mx_sh E)).toArray U := by
  refine ⟨rfl, ?_, ?_⟩
  · rw [hU]
    exact hN.moved hW.alike (fun _ _ _ _ hw => hw.warmM hW) hD.2.2.1.1 (fun q h1 h2 => hD.2.2.1.2.1 q h1 (Nat.not_le.mpr h2))
  · rw [hU]
    exact ⟨hD.1, hD.2.1, hD.2.2.2.1, hD.2.2.2.2.1, hD.2.2.2.2.2⟩
section MXC
variable {E : mx_Ev} {fin : mx_A → Nat → Option mx_A} {d bc bs mid pc : Nat} {lv : mx_Lv} {st : List mx_V} {h : mx_H} {Q : Option mx_V → mx_H → Prop}
theorem mx_goes {p : Program} {e : Env} {R : Room} {s : State} {m : MethodId} {args : Array Value} {below : List Frame} {meth : Method} {c : Code} {H : Heap} {locs : List Loc} {cells slots : Nat} {Qw : State → Prop} {ls : Array Slot} {callee : Nat} {av : List mx_V} {st0 : List Value} {a : Array Value}
    (hr : va_Run p E.1 e R s m args below meth c H locs cells slots (mx_bu callee).1 (mx_bu callee).2 (F0 m pc ls st0) (st.map (mx_sh E)) (mx_Qc E fin h (fun v h' => mx_T0 E fin (d + 1) (bc - (mx_bu callee).1) (bs - (mx_bu callee).2) mid (pc + 3) lv (v.toList ++ st) h' Q) a) (mx_ra E))
    (hb1 : (mx_bu callee).1 ≤ bc) (hb2 : (mx_bu callee).2 ≤ bs) (hS : mx_S E (d + 1) mid p R s m args meth c) (hD : mx_D E fin h s H locs) (q1 : cells + bc ≤ R.cells) (q2 : slots + bs ≤ R.slots) (q3 : ∀ q ∈ lv, mx_wf h.1 q.2) (q4 : ∀ v ∈ st, mx_wf h.1 v) (q5 : lv_has ls (mx_nL mid) (lv.map (mx_shl E)))
    (q6 : ∀ (v : Option mx_V) (h' : mx_H) (H' : Heap) (locs' : List Loc) (cells' slots' pc' : Nat) (ls' : Array Slot) (ins : Instr), Q v h' → mx_D E fin h' s H' locs' → h.1 ≤ h'.1 → cells' ≤ cells + bc → slots' ≤ slots + bs →
      (∀ x, v = some x → mx_wf h'.1 x) → decode (mx_by mid) pc' = .ok (ins, 1) → mx_rk (mx_rt mid) ins v → W p E.1 e R s m args below meth c H' locs' cells' slots' Qw (F0 m pc' ls' (v.toList.map (mx_sh E)))) :
    W p E.1 e R s m args below meth c H locs cells slots Qw (F0 m pc ls st0) := by
  intro T hT X
  obtain ⟨v, st₀, t, T', L, h0, X', hL, e1, e2, ⟨v', h', hv, hQ, hm, hwv, hHF, hF⟩, stp⟩ := hr T hT X
  cases hv
  have hD' : mx_D E fin h' s t.heap (locs ++ L) := by
    refine ⟨hHF.1, hHF.2.1, ⟨?_, ?_, ?_⟩, hHF.2.2.1, hHF.2.2.2.1, hHF.2.2.2.2⟩
    · exact Nat.le_trans hD.2.2.1.1 (by rw [← h0]; exact hF.1)
    · intro q hq hA
      rw [hF.2 q (by rw [h0]; exact Nat.lt_of_lt_of_le hq hD.2.2.1.1) hA, h0]
      exact hD.2.2.1.2.1 q hq hA
    · intro x hx
      rcases List.mem_append.mp hx with hx | hx
      · exact hD.2.2.1.2.2 x hx
      · exact hL x hx
  have K := hQ p e R s m args below meth c t.heap (locs ++ L) (cells + (mx_bu callee).1) (slots + (mx_bu callee).2) Qw ls hS hD' (by omega) (by omega) (fun q hq => (q3 q hq).mono hm) (fun x hx => by
      rcases List.mem_append.mp hx with hx | hx
      · cases v' with
        | none => cases hx
        | some y => exact hwv x (by rw [show x = y by simpa using hx])
      · exact (q4 x hx).mono hm) q5
    (fun v h2 H' locs' cells' slots' pc' ls' ins a1 a2 a3 a4 a5 a6 a7 a8 => q6 v h2 H' locs' cells' slots' pc' ls' ins a1 a2 (Nat.le_trans hm a3) (by omega) (by omega) a6 a7 a8)
  obtain ⟨t2, b1, b2⟩ := K T' e1 X'
  refine ⟨t2, stp t2 ?_, b2⟩
  have e3 : (v'.map (mx_sh E)).toList ++ st.map (mx_sh E) = (v'.toList ++ st).map (mx_sh E) := by cases v' <;> rfl
  show Steps _ _ _ (T'.setTop (F0 m (pc + 3) ls ((v'.map (mx_sh E)).toList ++ st.map (mx_sh E)))) t2
  rw [e3]
  exact b1
theorem mx_room_sum {E : mx_Ev} : ∀ {st : List mx_V}, (st.map mx_cat).sum ≤ 8 → ((st.map (mx_sh E)).map fun v => v.category).sum ≤ 8 := by
  intro st h
  rw [List.map_map]
  have e : (fun v : Value => v.category) ∘ mx_sh E = mx_cat := funext fun v => mx_cat_sh E v
  rw [e]
  exact h
set_option maxHeartbeats 4000000 in
theorem mx_calls {idx callee n : Nat} {nest : Bool} {av : List mx_V} (hd : decode (mx_by mid) pc = .ok (.invokestatic idx, 3)) (hM : mx_MK callee) (hL : mx_LK mid idx callee n 0 nest) (hn : av.length = n) (hlen : (av.map mx_cat).sum ≤ mx_nL callee) (hst : (st.map mx_cat).sum ≤ 8) (hb1 : (mx_bu callee).1 ≤ bc) (hb2 : (mx_bu callee).2 ≤ bs)
    (hC : mx_C0 E fin d callee av h (fun v h' => mx_T0 E fin (d + 1) (bc - (mx_bu callee).1) (bs - (mx_bu callee).2) mid (pc + 3) lv (v.toList ++ st) h' Q)) : mx_T0 E fin (d + 1) bc bs mid pc lv (av.reverse ++ st) h Q := by
  intro p e R s m args below meth c H locs cells slots Qw ls hS hD q1 q2 q3 q4 q5 q6
  obtain ⟨m1, m2, m3, m4, m5, m6⟩ := hM
  obtain ⟨l1, l2, l3⟩ := hL
  rw [if_pos rfl] at l3
  have hts := hS.2.2.2.2.2.2.1
  have hwa : ∀ v ∈ av, mx_wf h.1 v := fun v hv => q4 v (List.mem_append_left _ (List.mem_reverse.mpr hv))
  have hMet := mx_met m1 m2 hlen hwa hC
  have hfr := hS.2.2.2.2.2.2.2.2.2.1
  have hlo := hS.2.2.2.2.2.2.2.2.2.2
  have hsig : ∀ sig, parseMethodDescriptor (mx_y callee).desc = some sig → n = sig.parameters.length := fun sig hs => by rw [hs] at l1; exact (Option.some.inj l1).symm
  have hpre : PreS s H (mx_Pc E fin h av) (av.map (mx_sh E)) := ⟨mx_FB E fin h av, mx_PU hS.2.2.2.2.2.2.2.2.1 hD⟩
  have hstk : (F0 m pc ls ((av.reverse ++ st).map (mx_sh E))).stack = (av.map (mx_sh E)).reverse ++ st.map (mx_sh E) := by
    show (av.reverse ++ st).map (mx_sh E) = _
    rw [List.map_append, List.map_reverse]
  have hrm := lv_room (m := m) (pc := pc) (ls := ls) (rest := (av.reverse ++ st).map (mx_sh E)) (mx_room_sum (E := E) hst)
  refine mx_goes (callee := callee) (av := av) (a := (av.map (mx_sh E)).toArray) ?_ hb1 hb2 hS hD q1 q2 q3 (fun v hv => q4 v (List.mem_append_right _ hv)) q5 q6
  cases nest with
  | false =>
    exact va_runS ⟨hS.1, hS.2.1, hS.2.2.1, hS.2.2.2.2.2.1, hts⟩ hMet ⟨⟨rfl, rfl, hfr, by show 8 + (mx_nL callee + 11) + 40 * d ≤ _; omega, fun w hw a' U hW => (List.mem_cons.mp hw).elim (fun e => e ▸ mx_ws_warm hts m3 a' U hW) (fun hw => mx_ws_warm hts hw a' U hW), List.mem_cons_self, hts _ m3, hts _ m4, m5, hsig, hts _ l2⟩, hts _ l3⟩ hpre rfl (by rw [List.length_map]; exact hn) q5.1 hstk hrm hd ⟨by omega, by omega⟩
  | true =>
    obtain ⟨host, l2⟩ := l2
    exact va_runSN ⟨hS.1, hS.2.1, hS.2.2.1, hS.2.2.2.2.2.1, hts⟩ hMet ⟨⟨⟨rfl, rfl, hfr, by show 8 + (mx_nL callee + 11) + 40 * d ≤ _; omega, fun w hw a' U hW => (List.mem_cons.mp hw).elim (fun e => e ▸ mx_ws_warm hts m3 a' U hW) (fun hw => mx_ws_warm hts hw a' U hW), List.mem_cons_self⟩, hts _ m3, hts _ m4, m5, hsig, va_Nw.use rfl (hS.2.2.2.2.2.2.2.2.1.2.1 _ l2)⟩, hts _ l3, trivial⟩ hpre rfl (by rw [List.length_map]; exact hn) q5.1 hstk hrm hd ⟨by omega, by omega⟩
set_option maxHeartbeats 4000000 in
theorem mx_callv {idx callee n ci : Nat} {av : List mx_V} {r : mx_A} (hd : decode (mx_by mid) pc = .ok (.invokevirtual idx, 3)) (hM : mx_MK callee) (hL : mx_LK mid idx callee n 1 false) (hci : ci < 13) (hlo : mx_lo r = (ci, (mx_cr ci).2.2)) (hcl : (mx_y callee).cls = (mx_cr ci).1) (hn : av.length = n) (hlen : 1 + (av.map mx_cat).sum ≤ mx_nL callee) (hst : (st.map mx_cat).sum ≤ 8) (hb1 : (mx_bu callee).1 ≤ bc) (hb2 : (mx_bu callee).2 ≤ bs)
    (hC : mx_C0 E fin d callee (.inr r :: av) h (fun v h' => mx_T0 E fin (d + 1) (bc - (mx_bu callee).1) (bs - (mx_bu callee).2) mid (pc + 3) lv (v.toList ++ st) h' Q)) : mx_T0 E fin (d + 1) bc bs mid pc lv (av.reverse ++ .inr r :: st) h Q := by
  intro p e R s m args below meth c H locs cells slots Qw ls hS hD q1 q2 q3 q4 q5 q6
  obtain ⟨m1, m2, m3, m4, m5, m6⟩ := hM
  obtain ⟨l1, l2, l3⟩ := hL
  rw [if_neg (by decide), if_pos rfl] at l3
  have hts := hS.2.2.2.2.2.2.1
  have hwr : mx_wf h.1 (.inr r) := q4 _ (List.mem_append_right _ List.mem_cons_self)
  have hwa : ∀ v ∈ (Sum.inr r :: av : List mx_V), mx_wf h.1 v := fun v hv => (List.mem_cons.mp hv).elim (fun e => e ▸ hwr) (fun hv => q4 v (List.mem_append_left _ (List.mem_reverse.mpr hv)))
  have hMet := mx_met m1 m2 (by rw [List.map_cons, List.sum_cons]; exact hlen) hwa hC
  have hfr := hS.2.2.2.2.2.2.2.2.2.1
  have hlo2 := hS.2.2.2.2.2.2.2.2.2.2
  have hsig : ∀ sig, parseMethodDescriptor (mx_y callee).desc = some sig → n = sig.parameters.length := fun sig hs => by rw [hs] at l1; exact (Option.some.inj l1).symm
  obtain ⟨c1, c2, c3, c4⟩ := mx_ck hci
  have e0 := mx_W_get (E := E) (h := h) hwr
  rw [mx_cell_o (ci := ci) (by rw [hlo]) (by omega)] at e0
  have hrc := va_recv hS.2.2.2.2.2.2.2.2.1.1 hD.1 c1 e0
  rw [← hcl] at hrc
  have hpre : PreV s H (mx_y callee).cls (mx_ad E r) (mx_Pc E fin h (.inr r :: av)) (av.map (mx_sh E)) := ⟨mx_FB E fin h _, hrc, mx_PU hS.2.2.2.2.2.2.2.2.1 hD⟩
  have hstk : (F0 m pc ls ((av.reverse ++ .inr r :: st).map (mx_sh E))).stack = (av.map (mx_sh E)).reverse ++ .ref (mx_ad E r) :: st.map (mx_sh E) := by
    show (av.reverse ++ .inr r :: st).map (mx_sh E) = _
    rw [List.map_append, List.map_reverse]
    rfl
  have hrm := lv_room (m := m) (pc := pc) (ls := ls) (rest := (av.reverse ++ .inr r :: st).map (mx_sh E)) (mx_room_sum (E := E) hst)
  refine mx_goes (callee := callee) (av := .inr r :: av) (a := ((Sum.inr r :: av : List mx_V).map (mx_sh E)).toArray) ?_ hb1 hb2 hS hD q1 q2 q3 (fun v hv => q4 v (List.mem_append_right _ (List.mem_cons_of_mem _ hv))) q5 q6
  exact va_runV ⟨hS.1, hS.2.1, hS.2.2.1, hS.2.2.2.2.2.1, hts⟩ hMet ⟨⟨rfl, rfl, hfr, by show 8 + (mx_nL callee + 11) + 40 * d ≤ _; omega, fun w hw a' U hW => (List.mem_cons.mp hw).elim (fun e => e ▸ mx_ws_warm hts m3 a' U hW) (fun hw => mx_ws_warm hts hw a' U hW), List.mem_cons_self, hts _ m3, hts _ m4, m5, hsig, hts _ l2⟩, hts _ l3.1, hts _ l3.2⟩ hpre rfl (by rw [List.length_map]; exact hn) q5.1 hstk hrm hd ⟨by omega, by omega⟩
end MXC
