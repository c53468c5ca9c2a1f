/-! ===== cells made; constructors called ===== -/
def mx_z {α : Type} (f : mx_A → Nat → α) (a : mx_A) (v : α) : mx_A → Nat → α := fun b j => if b = a then v else f b j
/-- a new cell a, empty -/
def mx_nw (h : mx_H) (a : mx_A) : mx_H := (h.1 + 1, mx_z h.2.1 a 0, mx_z h.2.2.1 a 0, mx_z h.2.2.2 a none)
theorem mx_z_ne {α : Type} {f : mx_A → Nat → α} {a b : mx_A} {v : α} (h : b ≠ a) : mx_z f a v b = f b := by
  funext j
  exact if_neg h
theorem mx_z_eq {α : Type} {f : mx_A → Nat → α} {a : mx_A} {v : α} : mx_z f a v a = fun _ => v := by
  funext j
  exact if_pos rfl
theorem mx_cell_nw {E : mx_Ev} {h : mx_H} {a b : mx_A} (hb : b ≠ a) : mx_cell E (mx_nw h a) b = mx_cell E h b := by
  have h1 : mx_fv E (mx_nw h a) b = mx_fv E h b := by
    funext ci j
    simp only [mx_fv, mx_nw, mx_z_ne hb]
  have h2 : mx_ar E (mx_nw h a) b = mx_ar E h b := by
    funext kd
    simp only [mx_ar, mx_nw, mx_z_ne hb]
  unfold mx_cell
  rw [h1, h2]
theorem mx_D_push {E : mx_Ev} {fin : mx_A → Nat → Option mx_A} {h : mx_H} {s : State} {H H1 : Heap} {locs : List Loc} {a : mx_A} (hD : mx_D E fin h s H locs) (hp : mx_pos a = h.1) (hv : mx_va a) (hfa : ∀ k, fin a k = none)
    (hc : va_at (mx_G E) vwCl (mx_ad E a, mx_cell E (mx_nw h a) a) H1) (hz : H1.size = H.size + 1) (oq : ∀ q : Nat, q < H.size → H1[q]? = H[q]?) : mx_D E fin (mx_nw h a) s H1 locs := by
  obtain ⟨hP, hA, hS, hZ, hr, hf⟩ := hD
  have hW := mx_W_push (E := E) (h' := mx_nw h a) hp hv rfl (fun b _ hb => mx_cell_nw hb)
  have had : mx_ad E a = H.size := by rw [hZ, ← hp]; rfl
  have hmono : ∀ b, mx_wfa h.1 b → mx_wfa (h.1 + 1) b := fun b hb => ⟨hb.1, Nat.lt_succ_of_lt hb.2⟩
  refine ⟨?_, ?_, ⟨Nat.le_trans hS.1 (by omega), fun q h1 h2 => (oq q (Nat.lt_of_lt_of_le h1 hS.1)).trans (hS.2.1 q h1 h2), hS.2.2⟩, by rw [hz, hZ]; rfl, ?_, ?_⟩
  · rw [hW]
    refine (hP.kept (fun k x hx => oq x.1 ((hP k x hx).lt))).app (fun k x hx => ?_)
    have hk : k < 1 := (List.getElem?_eq_some_iff.mp hx).1
    rw [show k = 0 by omega] at hx
    cases hx
    exact hc
  · rw [hW]
    exact hA.push hP had (Nat.le_add_right _ _)
  · intro c k b hb
    by_cases e : c = a
    · subst e
      rw [show (mx_nw h c).2.2.2 c k = none from congrFun mx_z_eq k] at hb
      cases hb
    · exact hmono b (hr c k b (by rw [← hb]; exact (congrFun (mx_z_ne e) k).symm))
  · intro c k b hb hw
    by_cases e : c = a
    · subst e
      rw [hfa k] at hb
      cases hb
    · have hlt : mx_pos c < h.1 := by
        have h1 : mx_pos c < h.1 + 1 := hw.2
        have h2 : mx_pos c ≠ h.1 := fun q => e (mx_pos_inj hw.1 hv (q.trans hp.symm))
        omega
      rw [show (mx_nw h a).2.2.2 c k = h.2.2.2 c k from congrFun (mx_z_ne e) k]
      exact hf c k b hb ⟨hw.1, hlt⟩
section MXN
variable {E : mx_Ev} {fin : mx_A → Nat → Option mx_A} {d bc bs mid pc : Nat} {lv : mx_Lv} {st : List mx_V} {h : mx_H} {Q : Option mx_V → mx_H → Prop}
theorem mx_mk {a : mx_A} {k N : Nat} {u : List mx_V} (hp : mx_pos a = h.1) (hv : mx_va a) (hb1 : 1 ≤ bc) (hb2 : N ≤ bs)
    (hstep : ∀ (p : Program) (e : Env) (R : Room) (s : State) (m : MethodId) (args : Array Value) (below : List Frame) (meth : Method) (c : Code) (H : Heap) (locs : List Loc) (cells slots : Nat) (Qw : State → Prop) (ls : Array Slot),
      mx_S E d mid p R s m args meth c → mx_D E fin h s H locs → cells + 1 ≤ R.cells → slots + N ≤ R.slots →
      (∀ H1 : Heap, mx_D E fin (mx_nw h a) s H1 locs → W p E.1 e R s m args below meth c H1 locs (cells + 1) (slots + N) Qw (F0 m (pc + k) ls (.ref (mx_ad E a) :: st.map (mx_sh E)))) → W p E.1 e R s m args below meth c H locs cells slots Qw (F0 m pc ls ((u ++ st).map (mx_sh E))))
    (hk : mx_T0 E fin d (bc - 1) (bs - N) mid (pc + k) lv (.inr a :: st) (mx_nw h a) Q) : mx_T0 E fin d bc bs mid pc lv (u ++ st) h Q := by
  intro p e R s m args below meth c H locs cells slots Qw ls hS hD q1 q2 q3 q4 q5 q6
  refine hstep p e R s m args below meth c H locs cells slots Qw ls hS hD (by omega) (by omega) (fun H1 hD1 => ?_)
  refine hk p e R s m args below meth c H1 locs (cells + 1) (slots + N) Qw ls hS hD1 (by omega) (by omega) (fun q hq => (q3 q hq).mono (Nat.le_succ _)) (fun x hx => ?_) q5
    (fun v h2 H' locs' cells' slots' pc' ls' ins a1 a2 a3 a4 a5 a6 a7 a8 => q6 v h2 H' locs' cells' slots' pc' ls' ins a1 a2 (Nat.le_trans (Nat.le_succ _) a3) (by omega) (by omega) a6 a7 a8)
  rcases List.mem_cons.mp hx with rfl | hx
  · exact ⟨hv, by show mx_pos a < h.1 + 1; omega⟩
  · exact (q4 x (List.mem_append_right _ hx)).mono (Nat.le_succ _)
theorem mx_fok_d {ci j : Nat} (h : mx_fok ci j) : defaultValue (mx_ty ci j) = if mx_ff ci j = 2 then .null else .int 0 := by
  rcases h with ⟨h1, h2⟩ | ⟨h1, h2⟩ | ⟨h1, n, h2⟩ | ⟨h1, n, h2⟩ <;> rw [h1, h2] <;> rfl
theorem mx_new {a : mx_A} {ci idx : Nat} (hd : decode (mx_by mid) pc = .ok (.new idx, 3)) (hci : ci < 13) (hl : mx_lo a = (ci, (mx_cr ci).2.2)) (hfo : ∀ j, j < (mx_cr ci).2.2 → mx_fok ci j) (hlk : Cond.classLink (mx_ow mid) idx (mx_cr ci).1 ∈ mx_ws) (hin : Cond.instantiable (mx_cr ci).1 (mx_cr ci).2.2 ∈ mx_ws) (hini : Cond.initialized (mx_cr ci).1 ∈ mx_ws)
    (hfa : ∀ k, fin a k = none) (hp : mx_pos a = h.1) (hv : mx_va a) (hb1 : 1 ≤ bc) (hb2 : (mx_cr ci).2.2 ≤ bs) (hk : mx_T0 E fin d (bc - 1) (bs - (mx_cr ci).2.2) mid (pc + 3) lv (.inr a :: st) (mx_nw h a) Q) : mx_T0 E fin d bc bs mid pc lv st h Q := by
  obtain ⟨c1, c2, c3, c4⟩ := mx_ck hci
  refine mx_mk (u := []) hp hv hb1 hb2 (fun p e R s m args below meth c H locs cells slots Qw ls hS hD r1 r2 k9 => ?_) hk
  have hts := hS.2.2.2.2.2.2.1
  have hK := hS.2.2.2.2.2.2.2.2.1.1
  have hKn := hK.1 ci _ c1
  have had : mx_ad E a = H.size := by rw [hD.2.2.2.1, ← hp]; rfl
  refine W.newcK hS.1 hS.2.1 hS.2.2.2.2.2.1 (hts _ hlk) (hts _ hin) (hts _ hini) rfl hd r1 r2 hKn.2.1 rfl fun H1 kC hkC e1 z1 o1 => ?_
  have K := k9 H1 (mx_D_push hD hp hv hfa ?_ z1 o1)
  · rw [had] at K
    exact K
  · rw [mx_cell_o (ci := ci) (by rw [hl]) (by omega), hl, had]
    refine ⟨_, c1, (u_born (mx_ty ci) hts c2 hKn hkC e1 c3).to (fun j hj => ?_)⟩
    unfold vp_V
    rw [List.getD_eq_getElem?_getD, List.getElem?_map, List.getElem?_range hj]
    simp only [Option.map_some, Option.getD_some, mx_fv, mx_nw, mx_z_eq]
    rw [mx_fok_d (hfo j hj)]
    split <;> rfl
theorem mx_newarr {a : mx_A} {at' : ArrayType} {n : Int32} (hd : decode (mx_by mid) pc = .ok (.newarray at', 2)) (hak : mx_ak at' ≤ 3) (hl : mx_lo a = (100 + mx_ak at', n.toNatClampNeg)) (hn : ¬ n < 0) (hn2 : n.toNatClampNeg ≤ 60000) (hw : Cond.arrayClass (newarray.typeOf at') ∈ mx_ws)
    (hfa : ∀ k, fin a k = none) (hp : mx_pos a = h.1) (hv : mx_va a) (hb1 : 1 ≤ bc) (hb2 : n.toNatClampNeg ≤ bs) (hk : mx_T0 E fin d (bc - 1) (bs - n.toNatClampNeg) mid (pc + 2) lv (.inr a :: st) (mx_nw h a) Q) : mx_T0 E fin d bc bs mid pc lv (.inl (.int n) :: st) h Q := by
  refine mx_mk (u := [.inl (.int n)]) hp hv hb1 hb2 (fun p e R s m args below meth c H locs cells slots Qw ls hS hD r1 r2 k9 => ?_) hk
  have hts := hS.2.2.2.2.2.2.1
  have hK := hS.2.2.2.2.2.2.2.2.1.1
  have had : mx_ad E a = H.size := by rw [hD.2.2.2.1, ← hp]; rfl
  refine va_newaK hS.1 hS.2.1 (hts _ hw) rfl hd rfl hn rfl ?_ r1 r2 rfl fun H1 cA e1 z1 o1 hAr hNm => ?_
  · have : componentBytes (newarray.typeOf at') ≤ 8 := by cases at' <;> decide
    exact Nat.le_trans (Nat.mul_le_mul hn2 this) (by decide)
  · have K := k9 H1 (mx_D_push hD hp hv hfa ?_ z1 o1)
    · rw [had] at K
      exact K
    · rw [had]
      cases at' with
      | int =>
        have hcA : cA = mx_aC E 0 := Option.some.inj (hNm.symm.trans (hK.2 0 _ rfl).2)
        rw [mx_cell_i (kd := 100) (by rw [hl]; rfl) (by simp), hl, ← hcA]
        exact e1.trans (by simp only [mx_nw, mx_z_eq]; rfl)
      | long =>
        have hcA : cA = mx_aC E 1 := Option.some.inj (hNm.symm.trans (hK.2 1 _ rfl).2)
        rw [mx_cell_l (by rw [hl]; rfl), hl, ← hcA]
        exact e1.trans (by simp only [mx_nw, mx_z_eq]; rfl)
      | byte =>
        have hcA : cA = mx_aC E 2 := Option.some.inj (hNm.symm.trans (hK.2 2 _ rfl).2)
        rw [mx_cell_i (kd := 102) (by rw [hl]; rfl) (by simp), hl, ← hcA]
        exact e1.trans (by simp only [mx_nw, mx_z_eq]; rfl)
      | boolean =>
        have hcA : cA = mx_aC E 3 := Option.some.inj (hNm.symm.trans (hK.2 3 _ rfl).2)
        rw [mx_cell_i (kd := 103) (by rw [hl]; rfl) (by simp), hl, ← hcA]
        exact e1.trans (by simp only [mx_nw, mx_z_eq]; rfl)
      | _ => exact absurd hak (by decide)
theorem mx_anew {a : mx_A} {idx : Nat} {n : Int32} (hd : decode (mx_by mid) pc = .ok (.anewarray idx, 3)) (hl : mx_lo a = (104, n.toNatClampNeg)) (hn : ¬ n < 0) (hn2 : n.toNatClampNeg ≤ 60000) (hw : Cond.classLink (mx_ow mid) idx RX7 ∈ mx_ws)
    (hfa : ∀ k, fin a k = none) (hp : mx_pos a = h.1) (hv : mx_va a) (hb1 : 1 ≤ bc) (hb2 : n.toNatClampNeg ≤ bs) (hk : mx_T0 E fin d (bc - 1) (bs - n.toNatClampNeg) mid (pc + 3) lv (.inr a :: st) (mx_nw h a) Q) : mx_T0 E fin d bc bs mid pc lv (.inl (.int n) :: st) h Q := by
  refine mx_mk (u := [.inl (.int n)]) hp hv hb1 hb2 (fun p e R s m args below meth c H locs cells slots Qw ls hS hD r1 r2 k9 => ?_) hk
  have hts := hS.2.2.2.2.2.2.1
  have hK := hS.2.2.2.2.2.2.2.2.1.1
  have had : mx_ad E a = H.size := by rw [hD.2.2.2.1, ← hp]; rfl
  refine W.anew hS.1 hS.2.1 hS.2.2.2.2.2.1 (hts _ hw) (va_AO.use hS.2.2.2.2.2.2.2.2.1.2.2.1) rfl hd rfl hn (by omega) r1 r2 fun cA kA comp f1 f2 f3 f4 => ?_
  have hcA : cA = mx_aC E 4 := by
    obtain ⟨kA', comp', g1, g2, g3, g4⟩ := (hK.2 4 _ rfl).2
    exact Option.some.inj (f1.symm.trans g4)
  have K := k9 (H.push ({ cls := cA, slots := Array.replicate n.toNatClampNeg .null, vm := .none } : Cell)) (mx_D_push hD hp hv hfa ?_ (by rw [Array.size_push]) (fun q hq => by rw [Array.getElem?_push, if_neg (Nat.ne_of_lt hq)]))
  · rw [had] at K
    exact K
  · rw [had, mx_cell_q (kd := 104) (by rw [hl]) (by simp), hl, ← hcA]
    show (Array.push H _)[H.size]? = some (vp_cell _ _)
    rw [Array.getElem?_push_size, vp_cell_q, arrV_new]
    simp only [mx_nw, mx_z_eq]
    rfl
/-- the super constructor's call -/
theorem mx_objinit {a : mx_A} {idx : Nat} (hd : decode (mx_by mid) pc = .ok (.invokespecial idx, 3)) (hlk : Cond.methodLink (mx_ow mid) idx Lib.objectInit ∈ mx_ws) (hst : (st.map mx_cat).sum ≤ 8) (h1 : Cond.instanceMethod Lib.objectInit ∈ mx_ws) (h2 : Cond.code Lib.objectInit ⟨#[0xb1]⟩ 1 none ∈ mx_ws)
    (hk : mx_T0 E fin (d + 1) bc bs mid (pc + 3) lv st h Q) : mx_T0 E fin (d + 1) bc bs mid pc lv (.inr a :: st) h Q := by
  refine mx_go (fun h1 h2 => ⟨h1, fun x hx => h2 x (List.mem_cons_of_mem _ hx)⟩) (fun p e R s m args below meth c H locs cells slots Qw ls hS hD hl kk => ?_) hk
  have hts := hS.2.2.2.2.2.2.1
  have hfr := hS.2.2.2.2.2.2.2.2.2.1
  have hlo := hS.2.2.2.2.2.2.2.2.2.2
  have hrm := lv_room (m := m) (pc := pc) (ls := ls) (rest := (Sum.inr a :: st).map (mx_sh E)) (mx_room_sum (E := E) hst)
  exact W.objInit hS.1 hS.2.1 hS.2.2.2.2.2.1 (hts _ hlk) (hts _ h1) (hts _ h2) rfl (hl.1.trans hS.2.2.1.symm) rfl hd (by omega) (by omega) (kk ls hl)
set_option maxHeartbeats 4000000 in
theorem mx_calli {idx callee n : Nat} {nest : Bool} {av : List mx_V} {r : mx_A} (hd : decode (mx_by mid) pc = .ok (.invokespecial idx, 3)) (hM : mx_MK callee) (hL : mx_LK mid idx callee n 2 nest) (hn : av.length = n) (hlen : 1 + (av.map mx_cat).sum ≤ mx_nL callee) (hst : (st.map mx_cat).sum ≤ 8) (hb1 : (mx_bu callee).1 ≤ bc) (hb2 : (mx_bu callee).2 ≤ bs)
    (hC : mx_C0 E fin d callee (.inr r :: av) h (fun v h' => mx_T0 E fin (d + 1) (bc - (mx_bu callee).1) (bs - (mx_bu callee).2) mid (pc + 3) lv (v.toList ++ st) h' Q)) : mx_T0 E fin (d + 1) bc bs mid pc lv (av.reverse ++ .inr r :: st) h Q := by
  intro p e R s m args below meth c H locs cells slots Qw ls hS hD q1 q2 q3 q4 q5 q6
  obtain ⟨m1, m2, m3, m4, m5, m6⟩ := hM
  obtain ⟨l1, l2, l3⟩ := hL
  rw [if_neg (by decide), if_neg (by decide)] at l3
  have hts := hS.2.2.2.2.2.2.1
  have hwr : mx_wf h.1 (.inr r) := q4 _ (List.mem_append_right _ List.mem_cons_self)
  have hwa : ∀ v ∈ (Sum.inr r :: av : List mx_V), mx_wf h.1 v := fun v hv => (List.mem_cons.mp hv).elim (fun e => e ▸ hwr) (fun hv => q4 v (List.mem_append_left _ (List.mem_reverse.mpr hv)))
  have hMet := mx_met m1 m2 (by rw [List.map_cons, List.sum_cons]; exact hlen) hwa hC
  have hfr := hS.2.2.2.2.2.2.2.2.2.1
  have hlo2 := hS.2.2.2.2.2.2.2.2.2.2
  have hsig : ∀ sig, parseMethodDescriptor (mx_y callee).desc = some sig → n = sig.parameters.length := fun sig hs => by rw [hs] at l1; exact (Option.some.inj l1).symm
  have hpre : PreS s H (mx_Pc E fin h (.inr r :: av)) (.ref (mx_ad E r) :: av.map (mx_sh E)) := ⟨mx_FB E fin h _, mx_PU hS.2.2.2.2.2.2.2.2.1 hD⟩
  have hstk : (F0 m pc ls ((av.reverse ++ .inr r :: st).map (mx_sh E))).stack = (av.map (mx_sh E)).reverse ++ .ref (mx_ad E r) :: st.map (mx_sh E) := by
    show (av.reverse ++ .inr r :: st).map (mx_sh E) = _
    rw [List.map_append, List.map_reverse]
    rfl
  have hrm := lv_room (m := m) (pc := pc) (ls := ls) (rest := (av.reverse ++ .inr r :: st).map (mx_sh E)) (mx_room_sum (E := E) hst)
  have m3' := m3
  rw [l3.2.2] at m3'
  have hMet' : Met E.1 (mx_y callee) (Cond.code (mx_y callee) (mx_by callee) (mx_nL callee) none :: mx_ws) (mx_rm d callee) (mx_Pc E fin h (.inr r :: av)) (mx_Qc E fin h (fun v h' => mx_T0 E fin (d + 1) (bc - (mx_bu callee).1) (bs - (mx_bu callee).2) mid (pc + 3) lv (v.toList ++ st) h' Q)) (mx_bu callee).1 (mx_bu callee).2 (mx_ra E) := by
    rw [show mx_wm callee = Cond.code (mx_y callee) (mx_by callee) (mx_nL callee) none :: mx_ws by unfold mx_wm; rw [l3.2.2]] at hMet
    exact hMet
  refine mx_goes (callee := callee) (av := .inr r :: av) (a := ((Sum.inr r :: av : List mx_V).map (mx_sh E)).toArray) ?_ hb1 hb2 hS hD q1 q2 q3 (fun v hv => q4 v (List.mem_append_right _ (List.mem_cons_of_mem _ hv))) q5 q6
  cases nest with
  | false =>
    exact va_runI ⟨hS.1, hS.2.1, hS.2.2.1, hS.2.2.2.2.2.1, hts⟩ hMet' ⟨⟨rfl, rfl, hfr, by show 8 + (mx_nL callee + 11) + 40 * d ≤ _; omega, fun w hw a' U hW => (List.mem_cons.mp hw).elim (fun e => e ▸ mx_ws_warm hts m3' a' U hW) (fun hw => mx_ws_warm hts hw a' U hW), List.mem_cons_self, hts _ m3', hts _ m4, m5, hsig, hts _ l2⟩, l3.2.1, hts _ l3.1⟩ hpre rfl (by rw [List.length_map]; exact hn) q5.1 hstk hrm hd ⟨by omega, by omega⟩
  | true =>
    obtain ⟨host, l2⟩ := l2
    exact va_runIN ⟨hS.1, hS.2.1, hS.2.2.1, hS.2.2.2.2.2.1, hts⟩ hMet' ⟨⟨⟨rfl, rfl, hfr, by show 8 + (mx_nL callee + 11) + 40 * d ≤ _; omega, fun w hw a' U hW => (List.mem_cons.mp hw).elim (fun e => e ▸ mx_ws_warm hts m3' a' U hW) (fun hw => mx_ws_warm hts hw a' U hW), List.mem_cons_self⟩, hts _ m3', hts _ m4, m5, hsig, va_Nw.use rfl (hS.2.2.2.2.2.2.2.2.1.2.1 _ l2)⟩, l3.2.1, hts _ l3.1⟩ hpre rfl (by rw [List.length_map]; exact hn) q5.1 hstk hrm hd ⟨by omega, by omega⟩
end MXN
