/-! THE CLAIM OUT OF ONE WALK OF THE LAW'S BODY. Your part is whole_start (and what it stands on); all else here is the same for every law, but numbers. -/
def R_law : String := "PlatesSingLaw"
def lw_P (b : Addr) (xs : List Int32) (args : Array Value) (s : State) : Prop := args = #[.ref b] ∧ s.IntsAt b xs ∧ xs.length ≤ 384 ∧ (Jvm.Cond.and given_1 narrow_1).before args s = true
def lw_Q (_ : Array Value) (s : State) (o : Outcome) (t : State) : Prop := o = .returned (some (.int 1)) ∧ Framed s o t [] 600000 7302250
def lw_Z (below : List Frame) (a : Array Value) (s : State) : State → Prop := fun t => ∃ o, t.status = .running ∧ Ended t below o ∧ lw_Q a s o t
/-- the law's own end, with 1 on the stack, nothing written that was there before, its room as the claim has it -/
theorem lw_ret {p : Program} {l : Launch} {e : Env} {s : State} {m : MethodId} {below : List Frame} {meth : Method} {c : Code} {b : Nat} (hx : p.tables.exec = Jvm.exec) (hb : c.code = code) (hr : meth.sig.returnType = ret) (hlocks : meth.locks = false) {pc : Nat} {H : Heap} {ls : Array Slot} (hdg : decode code pc = .ok (.ireturn, 1)) : W p l e room_1 s m #[Value.ref b] below meth c H [] 600000 7302250 (lw_Z below #[Value.ref b] s) (F0 m pc ls [.int 1]) := by
  intro T hT X
  obtain ⟨fs, hret, hrun, hended, hW, hframe⟩ := X.leave (v := some (.int 1)) (hlocks := hlocks) (fun h => by rw [hr] at h; cases h)
  have hmeth' : T.vm.method? m = some meth := X.method'
  refine ⟨T.setFrames fs, ?_, .returned (some (.int 1)), hrun, hended, rfl, ⟨_, rfl⟩, hW, hframe⟩
  jvm_step X.here [X.here.top, hx, hb, hdg, hmeth', hr, ret, narrow_b1]
  (try refine ⟨rfl, ?_⟩); (try refine ⟨rfl, ?_⟩)
  first | (intro acts; rw [hret _ acts rfl rfl rfl]) | rw [hret _ _ rfl rfl rfl]
  exact Steps.refl _
/-- what holds at the law's entry: the machine, the code, the tables' words (any of lw_tbl by 'hts w (by decide +kernel)'), the script of L ints xs at the cell b, what the Statement gives of the start (any of its parts by flat_of_before) -/
def lw_At (p : Program) (s : State) (m : MethodId) (meth : Method) (c : Code) (b L : Nat) (xs : Nat → Int32) : Prop :=
  p.tables.exec = Jvm.exec ∧ c.code = code ∧ meth.sig.returnType = ret ∧ c.maxLocals = 4 ∧ s.vm.findClass R_law = some m.cls ∧ (∀ w ∈ lw_tbl, w.before #[Value.ref b] s = true) ∧ va_X b L xs s s.heap ∧ b < s.heap.size ∧ meth.locks = false ∧ (Jvm.Cond.and given_1 narrow_1).before #[Value.ref b] s = true
/-! ===== the start: what the Statement gives, as the mini machine's state ===== -/
theorem mx_Xof {args : Array Value} {s : State} {tm : Term} {N : Nat} {f : Nat → Int32} (hN : N < 2 ^ 31) (harr : (Cond.arrayOf tm .int).before args s = true) (hlen : (Term.length tm).eval args s none [] s = some (.int (Int32.ofNat N))) (hel : ∀ j : Nat, j < N → (Term.elem tm (.int (Int32.ofNat j))).eval args s none [] s = some (.int (f j))) :
    ∃ t : Nat, tm.eval args s none [] s = some (.ref t) ∧ t < s.heap.size ∧ va_X t N f s s.heap := by
  obtain ⟨t, ht, cell, h1, h2, h3, h4, h5, h6, -⟩ := va_Tof (A := fun _ => False) (f := fun j => .int (f j)) hN harr hlen hel (fun _ _ q => q)
  obtain ⟨b, cell2, ht2, hat, -⟩ := Term.length_spec hlen
  cases ht.symm.trans ht2
  have hsz : cell2.slots.size < 2 ^ 31 := by
    simp only [Term.eval, ht, hat, Option.bind_eq_bind, Option.bind_some] at hlen
    by_cases hlt : cell2.slots.size < 2147483648
    · exact hlt
    · simp [hlt] at hlen
  obtain ⟨hcell, -, -, -⟩ := State.arrayAt?_spec hat
  cases h1.symm.trans hcell
  have hs : cell.slots.size = N := by
    have e := congrArg Int32.toNatClampNeg h5
    rw [show cell.slots.size.toInt32 = Int32.ofNat cell.slots.size from rfl, Int32.toNatClampNeg_ofNat_of_lt hsz, Int32.toNatClampNeg_ofNat_of_lt hN] at e
    exact e
  exact ⟨t, ht, (Array.getElem?_eq_some_iff.mp h1).1, cell, h1, h2, h3, hs, h6⟩
theorem mx_AA_spec {args : Array Value} {s : State} (h : (Cond.arrayOver (.array .long)).before args s = true) : ∃ comp c k, s.vm.classes[c]? = some k ∧ k.kind = .array comp (.array .long) ∧ s.vm.findClass ("[" ++ (FieldType.array .long).toString) = some c := by
  simp only [Cond.before, Cond.holds, Cond.value, beq_iff_eq] at h
  cases hc : s.vm.findClass (FieldType.array .long).toString with
  | none => simp [hc] at h
  | some comp =>
    simp only [hc, Option.bind_some, Option.bind_eq_some_iff, Option.map_eq_some_iff] at h
    obtain ⟨c, hi, k, hk, hb⟩ := h
    cases hkind : k.kind with
    | array component ty =>
      rw [hkind] at hb
      simp at hb
      exact ⟨component, c, k, hk, by rw [hkind, hb.1], hb.2⟩
    | _ => rw [hkind] at hb; simp at hb
set_option maxHeartbeats 4000000 in
set_option maxRecDepth 100000 in
theorem mx_env {p : Program} {s : State} {m : MethodId} {meth : Method} {c : Code} (l : Launch) {b L : Nat} {xs : Nat → Int32} (hL : L ≤ 384) (C0 : lw_At p s m meth c b L xs) :
    ∃ E : mx_Ev, E.1 = l ∧ mx_B E = s.heap.size ∧ mx_sn E = L ∧ mx_sx E = xs ∧ mx_sa E 2 = b ∧ mx_S E 1000 0 p room_1 s m #[Value.ref b] meth c ∧ mx_D E (fun _ _ => none) (0, fun _ _ => 0, fun _ _ => 0, fun _ _ => none) s s.heap [] := by
  obtain ⟨hx, hb, hr, hml, hown, hts, hX, hbl, hlocks, hgv⟩ := id C0
  have hfl := flat_of_before _ hgv
  have hA : ∀ a : Nat, a < s.heap.size → ¬ (fun q : Nat => s.heap.size ≤ q) a := fun a ha => Nat.not_le.mpr ha
  obtain ⟨c0, i0, hKn0⟩ := u_known (C := RX0) (T := TX0) (N := 11) (n := 11) hts inX0 (hts (.instantiable RX0 11) (List.mem_of_getElem? (i := 398) (by decide +kernel)))
  obtain ⟨c1, i1, hKn1⟩ := u_known (C := RX1) (T := TX1) (N := 6) (n := 6) hts inX1 (hts (.instantiable RX1 6) (List.mem_of_getElem? (i := 369) (by decide +kernel)))
  obtain ⟨c2, i2, hKn2⟩ := u_known (C := RX2) (T := TX2) (N := 7) (n := 7) hts inX2 (hts (.instantiable RX2 7) (List.mem_of_getElem? (i := 463) (by decide +kernel)))
  obtain ⟨c3, i3, hKn3⟩ := u_known (C := RX3) (T := TX3) (N := 12) (n := 12) hts inX3 (hts (.instantiable RX3 12) (List.mem_of_getElem? (i := 237) (by decide +kernel)))
  obtain ⟨c4, i4, hKn4⟩ := u_known (C := RX4) (T := TX4) (N := 5) (n := 5) hts inX4 (hts (.instantiable RX4 5) (List.mem_of_getElem? (i := 494) (by decide +kernel)))
  obtain ⟨c5, i5, hKn5⟩ := u_known (C := RX5) (T := TX5) (N := 13) (n := 13) hts inX5 (hts (.instantiable RX5 13) (List.mem_of_getElem? (i := 317) (by decide +kernel)))
  obtain ⟨c6, i6, hKn6⟩ := u_known (C := RX6) (T := TX6) (N := 4) (n := 4) hts inX6 (hts (.instantiable RX6 4) (List.mem_of_getElem? (i := 442) (by decide +kernel)))
  obtain ⟨c7, i7, hKn7⟩ := u_known (C := RX7) (T := TX7) (N := 13) (n := 13) hts inX7 (hts (.instantiable RX7 13) (List.mem_of_getElem? (i := 145) (by decide +kernel)))
  obtain ⟨c8, i8, hKn8⟩ := u_known (C := RX8) (T := TX8) (N := 4) (n := 4) hts inX8 (hts (.instantiable RX8 4) (List.mem_of_getElem? (i := 521) (by decide +kernel)))
  obtain ⟨c9, i9, hKn9⟩ := u_known (C := RX9) (T := TX9) (N := 3) (n := 3) hts inX9 (hts (.instantiable RX9 3) (List.mem_of_getElem? (i := 126) (by decide +kernel)))
  obtain ⟨c10, i10, hKn10⟩ := u_known (C := RX10) (T := TX10) (N := 6) (n := 6) hts inX10 (hts (.instantiable RX10 6) (List.mem_of_getElem? (i := 287) (by decide +kernel)))
  obtain ⟨c11, i11, hKn11⟩ := u_known (C := RX11) (T := TX11) (N := 14) (n := 14) hts inX11 (hts (.instantiable RX11 14) (List.mem_of_getElem? (i := 118) (by decide +kernel)))
  obtain ⟨c12, i12, hKn12⟩ := u_known (C := RX12) (T := TX12) (N := 94) (n := 94) hts inX12 (hts (.instantiable RX12 94) (List.mem_of_getElem? (i := 1309) (by decide +kernel)))
  obtain ⟨a0, k0, m0, f0, g0, q0⟩ := Cond.arrayClass_spec (hts (.arrayClass .int) (List.mem_of_getElem? (i := 142) (by decide +kernel)))
  obtain ⟨a1, k1, m1, f1, g1, q1⟩ := Cond.arrayClass_spec (hts (.arrayClass .long) (List.mem_of_getElem? (i := 285) (by decide +kernel)))
  obtain ⟨a2, k2, m2, f2, g2, q2⟩ := Cond.arrayClass_spec (hts (.arrayClass .byte) (List.mem_of_getElem? (i := 1597) (by decide +kernel)))
  obtain ⟨a3, k3, m3, f3, g3, q3⟩ := Cond.arrayClass_spec (hts (.arrayClass .boolean) (List.mem_of_getElem? (i := 1596) (by decide +kernel)))
  have hov : (Cond.arrayOver (.object RX7)).before #[Value.ref b] s = true := hts _ (List.mem_of_getElem? (i := 144) (by decide +kernel))
  have hoa : (Cond.arrayOver (.array .long)).before #[Value.ref b] s = true := hts _ (List.mem_of_getElem? (i := 527) (by decide +kernel))
  obtain ⟨m4, a4, k4, e4, -, g4, q4, f4⟩ := Cond.arrayOver_spec hov
  obtain ⟨m5, a5, k5, g5, q5, f5⟩ := mx_AA_spec hoa
  have hel0 : ∀ j : Nat, j < 6 → (Term.elem (.static RX4 "KIND_ABOVE" "[I") (.int (Int32.ofNat j))).eval #[Value.ref b] s none [] s = some (.int (mx_k0 j)) := by
    intro j hj
    rcases (show j = 0 ∨ j = 1 ∨ j = 2 ∨ j = 3 ∨ j = 4 ∨ j = 5 by omega) with rfl | rfl | rfl | rfl | rfl | rfl
    · exact va_eqt (z := (-1)) (hfl _ (by decide +kernel))
    · exact va_eqt (z := 0) (hfl _ (by decide +kernel))
    · exact va_eqt (z := 1) (hfl _ (by decide +kernel))
    · exact va_eqt (z := 0) (hfl _ (by decide +kernel))
    · exact va_eqt (z := 1) (hfl _ (by decide +kernel))
    · exact va_eqt (z := 4) (hfl _ (by decide +kernel))
  have hel1 : ∀ j : Nat, j < 24 → (Term.elem (.static RX4 "ACTS" "[I") (.int (Int32.ofNat j))).eval #[Value.ref b] s none [] s = some (.int (mx_k1 j)) := by
    intro j hj
    rcases (show j = 0 ∨ j = 1 ∨ j = 2 ∨ j = 3 ∨ j = 4 ∨ j = 5 ∨ j = 6 ∨ j = 7 ∨ j = 8 ∨ j = 9 ∨ j = 10 ∨ j = 11 ∨ j = 12 ∨ j = 13 ∨ j = 14 ∨ j = 15 ∨ j = 16 ∨ j = 17 ∨ j = 18 ∨ j = 19 ∨ j = 20 ∨ j = 21 ∨ j = 22 ∨ j = 23 by omega) with rfl | rfl | rfl | rfl | rfl | rfl | rfl | rfl | rfl | rfl | rfl | rfl | rfl | rfl | rfl | rfl | rfl | rfl | rfl | rfl | rfl | rfl | rfl | rfl
    · exact va_eqt (z := 1) (hfl _ (by decide +kernel))
    · exact va_eqt (z := 10) (hfl _ (by decide +kernel))
    · exact va_eqt (z := 11) (hfl _ (by decide +kernel))
    · exact va_eqt (z := 2) (hfl _ (by decide +kernel))
    · exact va_eqt (z := 20) (hfl _ (by decide +kernel))
    · exact va_eqt (z := 0) (hfl _ (by decide +kernel))
    · exact va_eqt (z := 0) (hfl _ (by decide +kernel))
    · exact va_eqt (z := 0) (hfl _ (by decide +kernel))
    · exact va_eqt (z := 0) (hfl _ (by decide +kernel))
    · exact va_eqt (z := 31) (hfl _ (by decide +kernel))
    · exact va_eqt (z := 30) (hfl _ (by decide +kernel))
    · exact va_eqt (z := 0) (hfl _ (by decide +kernel))
    · exact va_eqt (z := 0) (hfl _ (by decide +kernel))
    · exact va_eqt (z := 40) (hfl _ (by decide +kernel))
    · exact va_eqt (z := 0) (hfl _ (by decide +kernel))
    · exact va_eqt (z := 0) (hfl _ (by decide +kernel))
    · exact va_eqt (z := 50) (hfl _ (by decide +kernel))
    · exact va_eqt (z := 0) (hfl _ (by decide +kernel))
    · exact va_eqt (z := 0) (hfl _ (by decide +kernel))
    · exact va_eqt (z := 51) (hfl _ (by decide +kernel))
    · exact va_eqt (z := 0) (hfl _ (by decide +kernel))
    · exact va_eqt (z := 0) (hfl _ (by decide +kernel))
    · exact va_eqt (z := 60) (hfl _ (by decide +kernel))
    · exact va_eqt (z := 61) (hfl _ (by decide +kernel))
  obtain ⟨t0, z0, l0, x0⟩ := mx_Xof (tm := .static RX4 "KIND_ABOVE" "[I") (f := mx_k0) (N := 6) (by decide +kernel) (hfl _ (by decide +kernel)) (va_eqt (z := 6) (hfl _ (by decide +kernel))) hel0
  have hZ0 := va_Zref (A := fun q : Nat => s.heap.size ≤ q) (hts (.laysStatic RX4 "KIND_ABOVE" "[I") (List.mem_of_getElem? (i := 1232) (by decide +kernel))) (hts (.initialized RX4) (List.mem_of_getElem? (i := 110) (by decide +kernel))) z0 hA
  obtain ⟨t1, z1, l1, x1⟩ := mx_Xof (tm := .static RX4 "ACTS" "[I") (f := mx_k1) (N := 24) (by decide +kernel) (hfl _ (by decide +kernel)) (va_eqt (z := 24) (hfl _ (by decide +kernel))) hel1
  have hZ1 := va_Zref (A := fun q : Nat => s.heap.size ≤ q) (hts (.laysStatic RX4 "ACTS" "[I") (List.mem_of_getElem? (i := 1234) (by decide +kernel))) (hts (.initialized RX4) (List.mem_of_getElem? (i := 110) (by decide +kernel))) z1 hA
  refine ⟨(l, s.heap.size, (fun k => [c0, c1, c2, c3, c4, c5, c6, c7, c8, c9, c10, c11, c12].getD k c0, fun k => [i0, i1, i2, i3, i4, i5, i6, i7, i8, i9, i10, i11, i12].getD k i0), (fun k => [a0, a1, a2, a3, a4, a5].getD k a0), (fun k => [t0, t1, b].getD k b), L, xs), rfl, rfl, rfl, rfl, rfl, ?_, ?_⟩
  · refine ⟨hx, hb, hml, hr, hlocks, hown, fun w hw => hts w (List.mem_filter.mp hw).1, fun h => absurd h (by decide +kernel), ⟨⟨?_, ?_⟩, ?_, va_AO.of hov, hoa, hZ0, hZ1, x0, x1, hX, l0, l1, hbl, Nat.lt_of_le_of_lt hL (by decide +kernel), Nat.le_refl _⟩, by decide +kernel, by decide +kernel⟩
    · intro k q hq
      match k, hq with
      | 0, hq => cases hq; exact hKn0
      | 1, hq => cases hq; exact hKn1
      | 2, hq => cases hq; exact hKn2
      | 3, hq => cases hq; exact hKn3
      | 4, hq => cases hq; exact hKn4
      | 5, hq => cases hq; exact hKn5
      | 6, hq => cases hq; exact hKn6
      | 7, hq => cases hq; exact hKn7
      | 8, hq => cases hq; exact hKn8
      | 9, hq => cases hq; exact hKn9
      | 10, hq => cases hq; exact hKn10
      | 11, hq => cases hq; exact hKn11
      | 12, hq => cases hq; exact hKn12
      | k + 13, hq => simp [vwCl] at hq
    · intro k q hq
      match k, hq with
      | 0, hq => cases hq; exact ⟨fun n z => ⟨fun k h => (by cases h), k0, g0, m0, q0⟩, f0⟩
      | 1, hq => cases hq; exact ⟨fun n z => ⟨fun k h => (by cases h), k1, g1, m1, q1⟩, f1⟩
      | 2, hq => cases hq; exact ⟨fun n z => ⟨fun k h => (by cases h), k2, g2, m2, q2⟩, f2⟩
      | 3, hq => cases hq; exact ⟨fun n z => ⟨fun k h => (by cases h), k3, g3, m3, q3⟩, f3⟩
      | 4, hq => cases hq; exact ⟨fun n z => ⟨fun k h => (by cases h), k4, g4, m4, q4⟩, k4, m4, g4, q4, e4, f4⟩
      | 5, hq => cases hq; exact ⟨fun n z => ⟨fun k h => (by cases h), k5, g5, m5, q5⟩, f5⟩
      | k + 6, hq => simp [mx_tys] at hq
    · intro w hw
      obtain ⟨a, i, x, o, rfl⟩ := mx_nest_m hw
      exact va_Nw.of rfl (hts _ (List.mem_append_right _ (List.mem_filter.mp hw).1))
  · exact ⟨fun k q h => (by have h : ([] : va_W)[k]? = some q := h; simp at h), ⟨fun i j p q h => (by have h : ([] : va_W)[i]? = some p := h; simp at h), fun k q h => (by have h : ([] : va_W)[k]? = some q := h; simp at h)⟩, va_S.rf, rfl, fun a k b h => (by cases h), fun a k b h => (by cases h)⟩
/-- THE CLAIM, if the mini machine's law answers 1 (open: that is what is left) -/
theorem whole_start_open (hlaw : ∀ E : mx_Ev, mx_sn E ≤ 384 → ∃ bc bs : Nat, bc ≤ 600000 ∧ bs ≤ 7302250 ∧ mx_T0 E (fun _ _ => none) 1000 bc bs 0 0 [(0, .inl (.float 2))] [] (0, fun _ _ => 0, fun _ _ => 0, fun _ _ => none) (fun v _ => v = some (.inl (.int 1))))
    {p : Program} {e : Env} {s : State} {m : MethodId} {below : List Frame} {meth : Method} {c : Code} (l : Launch) {b L : Nat} {xs : Nat → Int32} (hL : L ≤ 384) (C0 : lw_At p s m meth c b L xs) : W p l e room_1 s m #[Value.ref b] below meth c s.heap [] 0 0 (lw_Z below #[Value.ref b] s) (entryFrame m ([Value.ref b] : List Value).toArray 4) := by
  obtain ⟨E, rfl, hB, hn, -, hsa, hS, hD⟩ := mx_env l hL C0
  obtain ⟨bc, bs, hbc, hbs, hT⟩ := hlaw E (by rw [hn]; exact hL)
  have hl := lv_entry ([.ref b]) (n := 4) (Nat.le_of_ble_eq_true rfl)
  rw [lg_entry_eq]
  generalize (lg_sl ([.ref b]) ++ List.replicate (4 - (lg_sl ([.ref b])).length) Slot.unset).toArray = ls at hl ⊢
  refine hT p e room_1 s m _ below meth c s.heap [] 0 0 _ ls hS hD (by show 0 + bc ≤ 600000; omega) (by show 0 + bs ≤ 7302250; omega) (fun q hq => ?_) (fun v hv => by cases hv) ?_ ?_
  · rcases List.mem_cons.mp hq with rfl | hq
    · exact True.intro
    · cases hq
  · rw [show ([(0, .inl (.float 2))] : mx_Lv).map (mx_shl E) = [(0, .ref (mx_sa E 2))] from rfl, hsa]
    exact hl
  · intro v h' H' locs' cells' slots' pc' ls' ins hQ hD' _ hc' hs' _ hd hrk
    subst hQ
    have hi : ins = .ireturn := by
      rcases hrk with ⟨-, q, -⟩ | ⟨x, q, -, -⟩ | ⟨x, -, q, -⟩ | ⟨-, q, -⟩
      · cases q
      · exact q
      · cases q
      · rcases q with q | ⟨a, q⟩ <;> cases q
    subst hi
    refine va_forget (fun q hq => ?_) ?_
    · rw [← hB]
      exact hD'.2.2.1.2.2 q hq
    · refine W.widen (k := 600000) (n := 7302250) (by omega) (by omega) ?_
      exact lw_ret hS.1 hS.2.1 hS.2.2.2.1 hS.2.2.2.2.1 hd
