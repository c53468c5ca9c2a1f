/-! ===== new long[6][60]; System.arraycopy of longs ===== -/
theorem mx_WD (E : mx_Ev) (h : mx_H) : va_D (mx_ra E) (mx_W E h) := by
  have key : ∀ (k : Nat) (q : Nat × va_E), (mx_W E h)[k]? = some q → q.1 = mx_B E + k := by
    intro k q hq
    unfold mx_W at hq
    rw [List.getElem?_map] at hq
    by_cases hk : k < h.1
    · rw [List.getElem?_range hk] at hq
      cases hq
      rfl
    · rw [List.getElem?_eq_none (by simpa using hk)] at hq
      cases hq
  refine ⟨fun i j x y hi hj e => ?_, fun k q hk => ?_⟩
  · have h1 := key i x hi
    have h2 := key j y hj
    omega
  · show mx_B E ≤ q.1
    rw [key k q hk]
    exact Nat.le_add_right _ _
def mx_i98 : mx_A → Bool
  | .inl k => Nat.beq k 98
  | _ => false
def mx_isw : mx_A → Bool
  | .inr (_, o) => Nat.beq o 20
  | _ => false
/-- the heap behind new long[6][60] at cell 98 -/
def mx_mnh (h : mx_H) : mx_H := (h.1 + 7, h.2.1, fun a j => bif mx_isw a then 0 else h.2.2.1 a j, fun a j => bif mx_i98 a then (bif Nat.blt j 6 then some (.inr (j, 20)) else none) else h.2.2.2 a j)
theorem mx_mnh_cell {E : mx_Ev} {h : mx_H} {b : mx_A} (h1 : mx_i98 b = false) (h2 : mx_isw b = false) : mx_cell E (mx_mnh h) b = mx_cell E h b := by
  have e1 : mx_fv E (mx_mnh h) b = mx_fv E h b := by
    funext ci j
    simp only [mx_fv, mx_mnh, h1, cond_false]
  have e2 : mx_ar E (mx_mnh h) b = mx_ar E h b := by
    funext kd
    simp only [mx_ar, mx_mnh, h1, h2, cond_false]
  unfold mx_cell
  rw [e1, e2]
theorem mx_adr_lt {k : Nat} (hk : k < 98) : mx_i98 (mx_adr k) = false ∧ mx_isw (mx_adr k) = false := by
  have hp := mx_pos_adr k
  have hv := mx_va_adr k
  cases ha : mx_adr k with
  | inl n =>
    rw [ha] at hp
    have hn : n = k := hp
    refine ⟨?_, rfl⟩
    show Nat.beq n 98 = false
    cases hb : Nat.beq n 98 with
    | false => rfl
    | true => have := Nat.eq_of_beq_eq_true hb; omega
  | inr q =>
    obtain ⟨j, o⟩ := q
    rw [ha] at hp
    refine ⟨rfl, ?_⟩
    show Nat.beq o 20 = false
    cases hb : Nat.beq o 20 with
    | false => rfl
    | true =>
      have ho := Nat.eq_of_beq_eq_true hb
      subst ho
      rw [mx_pos_r] at hp
      omega
theorem mx_outer (c : ClassId) (N h0 : Nat) : ∀ i : Nat, Jvm.Free.Multi.outerC c N h0 i = arrV c N (fun j => va_rf (if j < i then some (h0 + 1 + j) else none))
  | 0 => by
    show ({ cls := c, slots := Array.replicate N .null, vm := .none } : Cell) = _
    rw [arrV_new]
    refine congrArg (arrV c N) (funext fun j => ?_)
    simp [va_rf]
  | i + 1 => by
    show (Jvm.Free.Multi.outerC c N h0 i).setSlot i (.ref (h0 + 1 + i)) = _
    rw [mx_outer c N h0 i, arrV_store]
    refine congrArg (arrV c N) (funext fun j => ?_)
    by_cases e : j = i
    · subst e
      simp [updV, va_rf]
    · by_cases h : j < i
      · simp [updV, e, h, Nat.lt_succ_of_lt h]
      · simp [updV, e, h, show ¬ j < i + 1 by omega]
set_option maxHeartbeats 4000000 in
theorem mx_mna {E : mx_Ev} {d bc bs mid pc idx : Nat} {lv : mx_Lv} {st : List mx_V} {h : mx_H} {Q : Option mx_V → mx_H → Prop} (hd : decode (mx_by mid) pc = .ok (.multianewarray idx 2, 4)) (hlk : Cond.classLink (mx_ow mid) idx ("[" ++ (FieldType.array .long).toString) ∈ mx_ws) (hac : Cond.arrayClass .long ∈ mx_ws)
    (hp : h.1 = 98) (hb1 : 7 ≤ bc) (hb2 : 366 ≤ bs) (hk : mx_T0 E (fun _ _ => none) d (bc - 7) (bs - 366) mid (pc + 4) lv (.inr (.inl 98) :: st) (mx_mnh h) Q) : mx_T0 E (fun _ _ => none) d bc bs mid pc lv (.inl (.int 60) :: .inl (.int 6) :: st) h Q := by
  intro p e R s m args below meth c H locs cells slots Qw ls hS hD q1 q2 q3 q4 q5 q6
  have hts := hS.2.2.2.2.2.2.1
  have hN := hS.2.2.2.2.2.2.2.2.1
  have hK := hN.1
  have hcy : s.vm.findClass (FieldType.array .long).toString = some (mx_aC E 1) := (hK.2 1 _ rfl).2
  intro T hT X
  obtain ⟨vm₁, cA, comp, -, fA, fC, hO, -, X', step⟩ := X.multianewarray2F hS.1 hS.2.2.2.2.2.1 (hts _ hlk) hN.2.2.2.1 (hts _ hac) (g := F0 m pc ls ((Sum.inl (.int 60) :: Sum.inl (.int 6) :: st : List mx_V).map (mx_sh E))) (n := 6) (k := 60) rfl (by rw [hS.2.1]; exact hd) rfl (by decide) (by decide) (by decide) (by decide) (by decide) rfl rfl (by show cells + (1 + 6) ≤ _; omega) (by show slots + (6 + 6 * 60) ≤ _; omega)
  have ec : some (mx_aC E 1) = some comp := hcy.symm.trans fC
  cases ec
  have eA : cA = mx_aC E 5 := Option.some.inj (fA.symm.trans (hK.2 5 _ rfl).2)
  subst eA
  have hTh : (T.setVm vm₁).heap = H := hT
  have hZ := hD.2.2.2.1
  obtain ⟨f1, f2, -, -⟩ := Jvm.Free.Multi.fill_facts (T.setVm vm₁) (mx_aC E 5) (mx_aC E 1) 6 60 (defaultValue .long) 6
  have hold : ∀ x : Nat, x < H.size → (Jvm.Free.Multi.fill (T.setVm vm₁) (mx_aC E 5) (mx_aC E 1) 6 60 (defaultValue .long) 6).heap[x]? = H[x]? := fun x hx => by
    have h9 := Jvm.Free.Multi.fill_old (T.setVm vm₁) (mx_aC E 5) (mx_aC E 1) 6 60 (defaultValue .long) (a := x) (by rw [hTh]; exact hx) 6
    rw [hTh] at h9
    exact h9
  have hrow : ∀ j : Nat, j < 6 → (Jvm.Free.Multi.fill (T.setVm vm₁) (mx_aC E 5) (mx_aC E 1) 6 60 (defaultValue .long) 6).heap[H.size + 1 + j]? = some (Jvm.Free.Multi.innerC (mx_aC E 1) 60 (defaultValue .long)) := fun j hj => by
    have h9 := Jvm.Free.Multi.fill_inner (T.setVm vm₁) (mx_aC E 5) (mx_aC E 1) 6 60 (defaultValue .long) 6 j hj
    rw [hTh] at h9
    exact h9
  rw [hTh] at f1 f2
  generalize hF : Jvm.Free.Multi.fill (T.setVm vm₁) (mx_aC E 5) (mx_aC E 1) 6 60 (defaultValue .long) 6 = F at f1 f2 hold hrow
  have X'' : Stand p E.1 e R s m args below meth c F locs (cells + 1 + 6) (slots + 6 + 6 * 60) := by rw [← hF]; exact X'
  have hsz : H.size = mx_B E + 98 := by rw [hZ, hp]
  have hD' : mx_D E (fun _ _ => none) (mx_mnh h) s F.heap locs := by
    refine ⟨?_, mx_WD E _, ⟨?_, ?_, hD.2.2.1.2.2⟩, ?_, ?_, fun a k b hb => by cases hb⟩
    · intro k q hq
      unfold mx_W at hq
      rw [List.getElem?_map, show (mx_mnh h).1 = h.1 + 7 from rfl] at hq
      by_cases hk9 : k < h.1 + 7
      · rw [List.getElem?_range hk9] at hq
        cases hq
        show va_at (mx_G E) vwCl (mx_B E + k, mx_cell E (mx_mnh h) (mx_adr k)) F.heap
        by_cases h98 : k < 98
        · have e0 := hD.1 k (mx_B E + k, mx_cell E h (mx_adr k)) (by unfold mx_W; rw [List.getElem?_map, List.getElem?_range (by omega)]; rfl)
          rw [mx_mnh_cell (mx_adr_lt h98).1 (mx_adr_lt h98).2]
          exact e0.kept (hold _ (by show mx_B E + k < H.size; omega))
        · by_cases h99 : k = 98
          · subst h99
            rw [show mx_adr 98 = .inl 98 from rfl, mx_cell_q (kd := 105) rfl (by simp)]
            show F.heap[mx_B E + 98]? = some (vp_cell _ _)
            rw [← hsz, f2, mx_outer, vp_cell_q]
            refine congrArg some (congrArg (arrV (mx_aC E 5) 6) (funext fun j => congrArg va_rf ?_))
            by_cases hj : j < 6
            · rw [if_pos hj]
              show some (H.size + 1 + j) = ((bif Nat.blt j 6 then some (.inr (j, 20)) else none : Option mx_A)).map (mx_ad E)
              rw [show Nat.blt j 6 = true from by simpa using hj, cond_true]
              show some (H.size + 1 + j) = some (mx_B E + (99 + j))
              rw [hsz]
              congr 1
              omega
            · rw [if_neg hj]
              show none = ((bif Nat.blt j 6 then some (.inr (j, 20)) else none : Option mx_A)).map (mx_ad E)
              rw [show Nat.blt j 6 = false from by cases hb : Nat.blt j 6 with | false => rfl | true => exact absurd (by simpa using hb) hj, cond_false]
              rfl
          · obtain ⟨j, hj, rfl⟩ : ∃ j, j < 6 ∧ k = 99 + j := ⟨k - 99, by omega, by omega⟩
            have ea : mx_adr (99 + j) = .inr (j, 20) := by
              have := mx_adr_pos (a := .inr (j, 20)) (Or.inr (Or.inl ⟨rfl, hj⟩))
              rw [mx_pos_r] at this
              exact this
            rw [ea, mx_cell_l rfl]
            show F.heap[mx_B E + (99 + j)]? = some (vp_cell _ _)
            rw [show mx_B E + (99 + j) = H.size + 1 + j by omega, hrow j hj, vp_cell_l]
            refine congrArg some ?_
            show ({ cls := mx_aC E 1, slots := Array.replicate 60 (defaultValue .long), vm := .none } : Cell) = arrV _ _ _
            rw [arrV_new]
            rfl
      · rw [List.getElem?_eq_none (by simpa using hk9)] at hq
        cases hq
    · rw [f1]
      exact Nat.le_trans hD.2.2.1.1 (by omega)
    · intro q g1 g2
      rw [hold q (Nat.lt_of_lt_of_le g1 hD.2.2.1.1)]
      exact hD.2.2.1.2.1 q g1 g2
    · rw [f1, hZ]
      show _ = mx_B E + (h.1 + 7)
      omega
    · intro a k b hb
      show mx_wfa (h.1 + 7) b
      have hb : (bif mx_i98 a then (bif Nat.blt k 6 then some (.inr (k, 20)) else none) else h.2.2.2 a k) = some b := hb
      cases h8 : mx_i98 a with
      | true =>
        rw [h8, cond_true] at hb
        cases h6 : Nat.blt k 6 with
        | true =>
          rw [h6, cond_true] at hb
          cases hb
          have hk6 : k < 6 := by simpa using h6
          exact ⟨Or.inr (Or.inl ⟨rfl, hk6⟩), by rw [mx_pos_r]; omega⟩
        | false => rw [h6, cond_false] at hb; cases hb
      | false =>
        rw [h8, cond_false] at hb
        have hw := hD.2.2.2.2.1 a k b hb
        exact ⟨hw.1, by have := hw.2; omega⟩
  have K := hk p e R s m args below meth c F.heap locs (cells + 1 + 6) (slots + 6 + 6 * 60) Qw ls hS hD' (by omega) (by omega) (fun q hq => (q3 q hq).mono (Nat.le_add_right _ _)) (fun x hx => by
      rcases List.mem_cons.mp hx with rfl | hx
      · exact ⟨Or.inr (Or.inr (Or.inl ⟨by decide, by decide⟩)), by show 98 < h.1 + 7; omega⟩
      · exact (q4 x (List.mem_cons_of_mem _ (List.mem_cons_of_mem _ hx))).mono (Nat.le_add_right _ _)) q5
    (fun v h2 H' locs' cells' slots' pc' ls' ins a1 a2 a3 a4 a5 a6 a7 a8 => q6 v h2 H' locs' cells' slots' pc' ls' ins a1 a2 (Nat.le_trans (Nat.le_add_right _ _) a3) (by omega) (by omega) a6 a7 a8)
  obtain ⟨t, b1, b2⟩ := K F rfl X''
  refine ⟨t, step t ?_, b2⟩
  show Steps _ _ _ ((Jvm.Free.Multi.fill (T.setVm vm₁) (mx_aC E 5) (mx_aC E 1) 6 60 (defaultValue .long) 6).setTop (F0 m (pc + 4) ls (.ref T.heap.size :: st.map (mx_sh E)))) t
  rw [hF, hT]
  have ead : mx_sh E (.inr (.inl 98)) = .ref H.size := by
    show Value.ref (mx_B E + 98) = _
    rw [hsz]
  show Steps _ _ _ (F.setTop (F0 m (pc + 4) ls (.ref H.size :: st.map (mx_sh E)))) t
  rw [← ead]
  exact b1
/-! ===== System.arraycopy between rows of longs ===== -/
theorem mx_cph_cell {E : mx_Ev} {h : mx_H} {a b c : mx_A} {sp dp n : Nat} (hc : c ≠ b) : mx_cell E (mx_cph h a b sp dp n) c = mx_cell E h c := by
  have e2 : mx_ar E (mx_cph h a b sp dp n) c = mx_ar E h c := by
    funext kd
    simp only [mx_ar, mx_cph, if_neg hc]
  have e1 : mx_fv E (mx_cph h a b sp dp n) c = mx_fv E h c := rfl
  unfold mx_cell
  rw [e1, e2]
theorem mx_nnI (z : Int32) (hz : ¬ z < 0) : z.toInt = (z.toNatClampNeg : Int) := by
  have hz0 : (0 : Int) ≤ z.toInt := by
    have := Int32.not_lt.mp hz
    simpa using Int32.le_iff_toInt_le.mp this
  show z.toInt = ((z.toInt.toNat : Nat) : Int)
  omega
set_option maxHeartbeats 4000000 in
theorem mx_copy {E : mx_Ev} {fin : mx_A → Nat → Option mx_A} {d bc bs mid pc idx : Nat} {lv : mx_Lv} {st : List mx_V} {h : mx_H} {Q : Option mx_V → mx_H → Prop} {a b : mx_A} {sp dp n : Int32} (hd : decode (mx_by mid) pc = .ok (.invokestatic idx, 3))
    (w1 : Cond.methodLink (mx_ow mid) idx arraycopyName ∈ mx_ws) (w2 : Cond.native arraycopyName ∈ mx_ws) (w3 : Cond.static arraycopyName ∈ mx_ws) (w4 : Cond.initialized "java/lang/System" ∈ mx_ws)
    (hla : mx_lo a = (101, 60)) (hlb : mx_lo b = (101, 60)) (h1 : ¬ sp < 0) (h2 : ¬ dp < 0) (h3 : ¬ n < 0) (h4 : sp.toNatClampNeg + n.toNatClampNeg ≤ 60) (h5 : dp.toNatClampNeg + n.toNatClampNeg ≤ 60) (hst : (st.map mx_cat).sum ≤ 8)
    (hk : mx_T0 E fin (d + 1) bc bs mid (pc + 3) lv st (mx_cph h a b sp.toNatClampNeg dp.toNatClampNeg n.toNatClampNeg) Q) : mx_T0 E fin (d + 1) bc bs mid pc lv (.inl (.int n) :: .inl (.int dp) :: .inr b :: .inl (.int sp) :: .inr a :: st) h Q := by
  intro p e R s m args below meth c H locs cells slots Qw ls hS hD q1 q2 q3 q4 q5 q6
  have hts := hS.2.2.2.2.2.2.1
  have hK := hS.2.2.2.2.2.2.2.2.1.1
  have hfr := hS.2.2.2.2.2.2.2.2.2.1
  have hlo := hS.2.2.2.2.2.2.2.2.2.2
  have hwa : mx_wfa h.1 a := q4 (.inr a) (by simp)
  have hwb : mx_wfa h.1 b := q4 (.inr b) (by simp)
  have hca := hD.1 (mx_pos a) _ (mx_W_get hwa)
  have hcb := hD.1 (mx_pos b) _ (mx_W_get hwb)
  rw [mx_cell_l (by rw [hla]), hla] at hca
  rw [mx_cell_l (by rw [hlb]), hlb] at hcb
  have hc0 : H[mx_ad E a]? = some (vp_cell (mx_aC E 1) (60, .inr (.inl (h.2.2.1 a)))) := hca
  have hc1 : H[mx_ad E b]? = some (vp_cell (mx_aC E 1) (60, .inr (.inl (h.2.2.1 b)))) := hcb
  obtain ⟨-, k0, hk0, cm0, hkk0⟩ := (hK.2 1 _ rfl).1 60 (fun j => .long (h.2.2.1 a j))
  have hrm := mx_room_sum (E := E) hst
  intro T hT X
  obtain ⟨vm', X', step⟩ := X.arraycopy hS.1 hS.2.2.2.2.2.1 (hts _ w1) (hts _ w2) (hts _ w3) (hts _ w4) (src := mx_ad E a) (dst := mx_ad E b) (cs := vp_cell (mx_aC E 1) (60, .inr (.inl (h.2.2.1 a)))) (cd := vp_cell (mx_aC E 1) (60, .inr (.inl (h.2.2.1 b)))) (srcPos := sp) (destPos := dp) (n := n) (by rw [hT]; exact hc0) (by rw [hT]; exact hc1)
    (fun _ h => by cases h) (fun _ h => by cases h) (fun h => by cases h) (fun h => by cases h) hk0 hk0 hkk0 hkk0 (by simp [refKind]) h1 h2 h3
    (by rw [mx_nnI sp h1, mx_nnI n h3]; show ¬ _ > ((arrV _ 60 (fun j => .long (h.2.2.1 a j))).slots.size : Int); rw [arrV_size]; omega)
    (by rw [mx_nnI dp h2, mx_nnI n h3]; show ¬ _ > ((arrV _ 60 (fun j => .long (h.2.2.1 b j))).slots.size : Int); rw [arrV_size]; omega)
    (fun vm₁ _ i hi => by
      have e : (vp_cell (mx_aC E 1) (60, .inr (.inl (h.2.2.1 a)))).slots.getD (sp.toNatClampNeg + i) .null = .long (h.2.2.1 a (sp.toNatClampNeg + i)) := by
        show (arrV _ 60 (fun j => .long (h.2.2.1 a j))).slots.getD _ _ = _
        rw [Array.getD_eq_getD_getElem?, arrV_read _ _ (by omega)]
        rfl
      exact ⟨by rw [e]; rfl, by rw [e]; exact trivial⟩)
    (g := F0 m pc ls ((Sum.inl (.int n) :: Sum.inl (.int dp) :: Sum.inr b :: Sum.inl (.int sp) :: Sum.inr a :: st : List mx_V).map (mx_sh E))) rfl (q5.1.trans hS.2.2.1.symm) (rest := st.map (mx_sh E)) rfl (by rw [hS.2.1]; exact hd) (by omega) (by
      have e : nativeFrameWords "java/lang/System" "arraycopy" 5 ≤ 20 := by decide +kernel
      show 2 * 0 + _ + _ ≤ _
      omega)
  have e1 : copied (vp_cell (mx_aC E 1) (60, .inr (.inl (h.2.2.1 a)))) (vp_cell (mx_aC E 1) (60, .inr (.inl (h.2.2.1 b)))) sp dp n = vp_cell (mx_aC E 1) (60, .inr (.inl (va_cpy (h.2.2.1 a) (h.2.2.1 b) sp.toNatClampNeg dp.toNatClampNeg n.toNatClampNeg))) := va_copied (fun z => .long z) (mx_aC E 1) (mx_aC E 1) (h.2.2.1 a) (h.2.2.1 b) h4
  rw [e1] at X' step
  have hl : mx_ad E b < H.size := (Array.getElem?_eq_some_iff.mp hc1).1
  generalize hcell : vp_cell (mx_aC E 1) (60, .inr (.inl (va_cpy (h.2.2.1 a) (h.2.2.1 b) sp.toNatClampNeg dp.toNatClampNeg n.toNatClampNeg))) = cell at X' step
  have hheap : ((T.setVm vm').setCell (mx_ad E b) cell).heap = H.setIfInBounds (mx_ad E b) cell := by rw [← hT]; rfl
  have oq : ∀ q : Nat, q ≠ mx_ad E b → (H.setIfInBounds (mx_ad E b) cell)[q]? = H[q]? := fun q hq => by simp [Array.getElem?_setIfInBounds, Ne.symm hq]
  have hD0 := mx_D_set (a := b) (k := 0) (H1 := H.setIfInBounds (mx_ad E b) cell) (h' := mx_cph h a b sp.toNatClampNeg dp.toNatClampNeg n.toNatClampNeg) hD rfl hwb (fun c _ hc => mx_cph_cell hc) (by
    rw [mx_cell_l (by rw [hlb]), hlb]
    show (H.setIfInBounds (mx_ad E b) cell)[mx_ad E b]? = some _
    rw [show (H.setIfInBounds (mx_ad E b) cell)[mx_ad E b]? = some cell by simp [Array.getElem?_setIfInBounds, hl], ← hcell]
    simp only [mx_cph, if_true]) (by simp) oq hD.2.2.2.2.1 hD.2.2.2.2.2
  have K := fun L9 (hL9 : ∀ x ∈ L9, mx_ra E x.base) => hk p e R s m args below meth c (H.setIfInBounds (mx_ad E b) cell) (locs ++ L9) cells slots Qw ls hS ⟨hD0.1, hD0.2.1, ⟨hD0.2.2.1.1, hD0.2.2.1.2.1, fun x hx => (List.mem_append.mp hx).elim (fun hx => hD.2.2.1.2.2 x hx) (hL9 x)⟩, hD0.2.2.2⟩ q1 q2 q3 (fun x hx => q4 x (by simp [hx])) q5 q6
  obtain ⟨t, b1, b2⟩ := K _ (fun x hx => by
    obtain ⟨z, -, hz⟩ := List.mem_map.mp hx
    rw [← hz]
    exact Nat.le_add_right _ _) _ hheap X'
  exact ⟨t, step t b1, b2⟩
/-- the same, at its one place, for the judgement that takes along what holds of every run -/
theorem mx_copyT {E : mx_Ev} {fin : mx_A → Nat → Option mx_A} {d bc bs : Nat} {lv : mx_Lv} {st : List mx_V} {h : mx_H} {Q : Option mx_V → mx_H → Prop} {a b : mx_A} {sp dp n : Int32} {idx : Nat} (hd : decode (mx_by 154) 129 = .ok (.invokestatic idx, 3))
    (w1 : Cond.methodLink (mx_ow 154) idx arraycopyName ∈ mx_ws) (w2 : Cond.native arraycopyName ∈ mx_ws) (w3 : Cond.static arraycopyName ∈ mx_ws) (w4 : Cond.initialized "java/lang/System" ∈ mx_ws)
    (hla : mx_lo a = (101, 60)) (hlb : mx_lo b = (101, 60)) (h1 : ¬ sp < 0) (h2 : ¬ dp < 0) (h3 : ¬ n < 0) (h4 : sp.toNatClampNeg + n.toNatClampNeg ≤ 60) (h5 : dp.toNatClampNeg + n.toNatClampNeg ≤ 60) (hst : (st.map mx_cat).sum ≤ 8)
    (hk : mx_T E fin (d + 1) bc bs 154 132 lv st (mx_cph h a b sp.toNatClampNeg dp.toNatClampNeg n.toNatClampNeg) Q) : mx_T E fin (d + 1) bc bs 154 129 lv (.inl (.int n) :: .inl (.int dp) :: .inr b :: .inl (.int sp) :: .inr a :: st) h Q := by
  have s : ∀ f, mx_sr E 154 129 f (.inl (.int n) :: .inl (.int dp) :: .inr b :: .inl (.int sp) :: .inr a :: st) h (.inl (132, f, st, mx_cph h a b sp.toNatClampNeg dp.toNatClampNeg n.toNatClampNeg)) := fun f => Or.inr ⟨rfl, rfl, rfl, n, dp, sp, a, b, st, rfl, rfl⟩
  refine mx_T.mk ⟨fun f hf P hP => ?_, fun f hf m v h' e => ?_⟩
  · exact mx_copy (pc := 129) hd w1 w2 w3 w4 hla hlb h1 h2 h3 h4 h5 hst (hk.up.1 f hf P (fun m v h' e => hP (m + 1) v h' (ml_evs (s f) e)))
  · cases m with
    | zero => exact False.elim e
    | succ m =>
      obtain ⟨o, s, e⟩ := ml_evo e
      rcases s with ⟨en, q, -⟩ | ⟨-, -, -, n', dp', sp', a', b', r', e1, e2⟩
      · rw [show mx_ft (mx_tb 154) 129 = none from rfl] at q
        cases q
      · subst e2
        cases e1
        exact hk.up.2 f hf m v h' e
/-! ===== constants' mode: in and out; the words of arraycopy and of new long[6][60] ===== -/
theorem mx_acw : Cond.methodLink (mx_cn 11) 473 arraycopyName ∈ mx_ws ∧ Cond.native arraycopyName ∈ mx_ws ∧ Cond.static arraycopyName ∈ mx_ws ∧ Cond.initialized "java/lang/System" ∈ mx_ws :=
  ⟨mx_hw_s (p := 5235) (by decide +kernel), mx_hw_s (p := 5237) (by decide +kernel), mx_hw_s (p := 5236) (by decide +kernel), mx_hw_s (p := 1017) (by decide +kernel)⟩
theorem mx_mnw : Cond.classLink (mx_cn 8) 21 ("[" ++ (FieldType.array .long).toString) ∈ mx_ws ∧ Cond.arrayClass .long ∈ mx_ws :=
  ⟨mx_hw_s (p := 2187) (by decide +kernel), mx_ARok .long (by decide)⟩
section MXX
variable {E : mx_Ev} {d bc bs mid pc : Nat} {lv : mx_Lv} {st : List mx_V} {h : mx_H} {Q : Option mx_V → mx_H → Prop}
/-- the constant references hold -/
def mx_Fi (h : mx_H) : Prop := ∀ a k b, mx_fn true a k = some b → mx_wfa h.1 a → h.2.2.2 a k = some b
theorem mx_T0.enter (hf : mx_Fi h) (hT : mx_T0 E (mx_fn true) d bc bs mid pc lv st h Q) : mx_T0 E (mx_fn false) d bc bs mid pc lv st h Q :=
  fun p e R s m args below meth c H locs cells slots Qw ls hS hD h1 h2 h3 h4 h5 h6 => hT p e R s m args below meth c H locs cells slots Qw ls hS ⟨hD.1, hD.2.1, hD.2.2.1, hD.2.2.2.1, hD.2.2.2.2.1, hf⟩ h1 h2 h3 h4 h5
    (fun v h' H' locs' cells' slots' pc' ls' ins q a1 a2 a3 a4 a5 a6 a7 => h6 v h' H' locs' cells' slots' pc' ls' ins q ⟨a1.1, a1.2.1, a1.2.2.1, a1.2.2.2.1, a1.2.2.2.2.1, fun a k b hb => by cases hb⟩ a2 a3 a4 a5 a6 a7)
theorem mx_T0.leave (hT : mx_T0 E (mx_fn false) d bc bs mid pc lv st h (fun v h' => Q v h' ∧ mx_Fi h')) : mx_T0 E (mx_fn true) d bc bs mid pc lv st h Q :=
  fun p e R s m args below meth c H locs cells slots Qw ls hS hD h1 h2 h3 h4 h5 h6 => hT p e R s m args below meth c H locs cells slots Qw ls hS ⟨hD.1, hD.2.1, hD.2.2.1, hD.2.2.2.1, hD.2.2.2.2.1, fun a k b hb => by cases hb⟩ h1 h2 h3 h4 h5
    (fun v h' H' locs' cells' slots' pc' ls' ins q a1 a2 a3 a4 a5 a6 a7 => h6 v h' H' locs' cells' slots' pc' ls' ins q.1 ⟨a1.1, a1.2.1, a1.2.2.1, a1.2.2.2.1, a1.2.2.2.2.1, q.2⟩ a2 a3 a4 a5 a6 a7)
end MXX
