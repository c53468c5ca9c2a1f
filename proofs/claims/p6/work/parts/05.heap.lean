/-! ===== one instruction at a time: the heap ===== -/
def mx_up {α : Type} (f : mx_A → Nat → α) (a : mx_A) (i : Nat) (v : α) : mx_A → Nat → α := fun b j => if b = a ∧ j = i then v else f b j
def mx_uI (h : mx_H) (a : mx_A) (i : Nat) (v : Int32) : mx_H := (h.1, mx_up h.2.1 a i v, h.2.2.1, h.2.2.2)
def mx_uL (h : mx_H) (a : mx_A) (i : Nat) (v : Int64) : mx_H := (h.1, h.2.1, mx_up h.2.2.1 a i v, h.2.2.2)
def mx_uR (h : mx_H) (a : mx_A) (i : Nat) (v : Option mx_A) : mx_H := (h.1, h.2.1, h.2.2.1, mx_up h.2.2.2 a i v)
theorem mx_up_ne {α : Type} {f : mx_A → Nat → α} {a b : mx_A} {i : Nat} {v : α} (h : b ≠ a) : mx_up f a i v b = f b := by
  funext j
  exact if_neg (fun q => h q.1)
theorem mx_up_eq {α : Type} {f : mx_A → Nat → α} {a : mx_A} {i : Nat} {v : α} : mx_up f a i v a = fun j => if j = i then v else f a j := by
  funext j
  unfold mx_up
  by_cases e : j = i
  · rw [if_pos ⟨rfl, e⟩, if_pos e]
  · rw [if_neg (fun q => e q.2), if_neg e]
theorem mx_fv_uI {E : mx_Ev} {h : mx_H} {a b : mx_A} {i : Nat} {v : Int32} (hb : b ≠ a) : mx_fv E (mx_uI h a i v) b = mx_fv E h b := by
  funext ci j
  simp only [mx_fv, mx_uI, mx_up_ne hb]
theorem mx_ar_uI {E : mx_Ev} {h : mx_H} {a b : mx_A} {i : Nat} {v : Int32} (hb : b ≠ a) : mx_ar E (mx_uI h a i v) b = mx_ar E h b := by
  funext kd
  simp only [mx_ar, mx_uI, mx_up_ne hb]
theorem mx_cell_uI {E : mx_Ev} {h : mx_H} {a b : mx_A} {i : Nat} {v : Int32} (hb : b ≠ a) : mx_cell E (mx_uI h a i v) b = mx_cell E h b := by
  unfold mx_cell
  rw [mx_fv_uI hb, mx_ar_uI hb]
theorem mx_fv_uL {E : mx_Ev} {h : mx_H} {a b : mx_A} {i : Nat} {v : Int64} (hb : b ≠ a) : mx_fv E (mx_uL h a i v) b = mx_fv E h b := by
  funext ci j
  simp only [mx_fv, mx_uL, mx_up_ne hb]
theorem mx_ar_uL {E : mx_Ev} {h : mx_H} {a b : mx_A} {i : Nat} {v : Int64} (hb : b ≠ a) : mx_ar E (mx_uL h a i v) b = mx_ar E h b := by
  funext kd
  simp only [mx_ar, mx_uL, mx_up_ne hb]
theorem mx_cell_uL {E : mx_Ev} {h : mx_H} {a b : mx_A} {i : Nat} {v : Int64} (hb : b ≠ a) : mx_cell E (mx_uL h a i v) b = mx_cell E h b := by
  unfold mx_cell
  rw [mx_fv_uL hb, mx_ar_uL hb]
theorem mx_fv_uR {E : mx_Ev} {h : mx_H} {a b : mx_A} {i : Nat} {v : Option mx_A} (hb : b ≠ a) : mx_fv E (mx_uR h a i v) b = mx_fv E h b := by
  funext ci j
  simp only [mx_fv, mx_uR, mx_up_ne hb]
theorem mx_ar_uR {E : mx_Ev} {h : mx_H} {a b : mx_A} {i : Nat} {v : Option mx_A} (hb : b ≠ a) : mx_ar E (mx_uR h a i v) b = mx_ar E h b := by
  funext kd
  simp only [mx_ar, mx_uR, mx_up_ne hb]
theorem mx_cell_uR {E : mx_Ev} {h : mx_H} {a b : mx_A} {i : Nat} {v : Option mx_A} (hb : b ≠ a) : mx_cell E (mx_uR h a i v) b = mx_cell E h b := by
  unfold mx_cell
  rw [mx_fv_uR hb, mx_ar_uR hb]
theorem mx_cell_i {E : mx_Ev} {h : mx_H} {a : mx_A} {kd : Nat} (hl : (mx_lo a).1 = kd) (hk : kd = 100 ∨ kd = 102 ∨ kd = 103) : mx_cell E h a = .inl (mx_aC E (kd - 100), (mx_lo a).2, .inl (h.2.1 a)) := by
  unfold mx_cell mx_ar
  rw [hl]
  rcases hk with rfl | rfl | rfl <;> rfl
theorem mx_cell_l {E : mx_Ev} {h : mx_H} {a : mx_A} (hl : (mx_lo a).1 = 101) : mx_cell E h a = .inl (mx_aC E 1, (mx_lo a).2, .inr (.inl (h.2.2.1 a))) := by
  unfold mx_cell mx_ar
  rw [hl]
  rfl
theorem mx_cell_q {E : mx_Ev} {h : mx_H} {a : mx_A} {kd : Nat} (hl : (mx_lo a).1 = kd) (hk : kd = 104 ∨ kd = 105) : mx_cell E h a = .inl (mx_aC E (kd - 100), (mx_lo a).2, .inr (.inr (.inr (.inr (fun j => (h.2.2.2 a j).map (mx_ad E)))))) := by
  unfold mx_cell mx_ar
  rw [hl]
  rcases hk with rfl | rfl <;> rfl
theorem mx_cell_o {E : mx_Ev} {h : mx_H} {a : mx_A} {ci : Nat} (hl : (mx_lo a).1 = ci) (hc : ci < 100) : mx_cell E h a = .inr (ci, (List.range (mx_lo a).2).map (mx_fv E h a ci)) := by
  unfold mx_cell
  rw [hl, if_pos hc]
theorem mx_D_set {E : mx_Ev} {fin : mx_A → Nat → Option mx_A} {h h' : mx_H} {s : State} {H H1 : Heap} {locs : List Loc} {a : mx_A} {k : Nat} (hD : mx_D E fin h s H locs) (hn : h'.1 = h.1) (ha : mx_wfa h.1 a) (hs : ∀ b, mx_va b → b ≠ a → mx_cell E h' b = mx_cell E h b)
    (hc : va_at (mx_G E) vwCl (mx_ad E a, mx_cell E h' a) H1) (hz : H1.size = H.size) (oq : ∀ q : Nat, q ≠ mx_ad E a → H1[q]? = H[q]?) (hr : ∀ a k b, h'.2.2.2 a k = some b → mx_wfa h.1 b) (hf : ∀ a k b, fin a k = some b → mx_wfa h.1 a → h'.2.2.2 a k = some b) :
    mx_D E fin h' s H1 (locs ++ [⟨mx_ad E a, k⟩]) := by
  obtain ⟨hP, hA, hS, hZ, -, -⟩ := hD
  have hg := mx_W_get (E := E) ha
  refine ⟨?_, ?_, hS.put hz oq (Nat.le_add_right _ _), by rw [hz, hZ, hn], by rw [hn]; exact hr, by rw [hn]; exact hf⟩
  · rw [mx_W_ext hn ha hs]
    exact hP.set hA hg hc oq
  · rw [mx_W_ext hn ha hs]
    exact hA.set hg
theorem mx_old {E : mx_Ev} {fin : mx_A → Nat → Option mx_A} {h : mx_H} {s : State} {H : Heap} {locs : List Loc} (hD : mx_D E fin h s H locs) (hB : mx_B E ≤ s.heap.size) {q : Nat} (hq : q < mx_B E) : H[q]? = s.heap[q]? :=
  hD.2.2.1.2.1 q (Nat.lt_of_lt_of_le hq hB) (fun z => absurd z (Nat.not_le.mpr hq))
section MXH
variable {E : mx_Ev} {fin : mx_A → Nat → Option mx_A} {d bc bs mid pc : Nat} {lv : mx_Lv} {st : List mx_V} {h : mx_H} {Q : Option mx_V → mx_H → Prop}
/-- a value read from the heap takes the place of the topmost -/
theorem mx_read {u : List mx_V} {v : mx_V} {k : Nat} (hv : ∀ (s : State) (H : Heap) (locs : List Loc), mx_D E fin h s H locs → mx_wf h.1 v)
    (hstep : ∀ (p : Program) (e : Env) (R : Room) (s : State) (m : MethodId) (args : Array Value) (below : List Frame) (meth : Method) (c : Code) (H : Heap) (locs : List Loc) (cells slots : Nat) (Qw : State → Prop) (ls : Array Slot),
      mx_S E d mid p R s m args meth c → mx_D E fin h s H locs → (∀ x ∈ u, mx_wf h.1 x) → W p E.1 e R s m args below meth c H locs cells slots Qw (F0 m (pc + k) ls (mx_sh E v :: st.map (mx_sh E))) → W p E.1 e R s m args below meth c H locs cells slots Qw (F0 m pc ls ((u ++ st).map (mx_sh E))))
    (hk : mx_T0 E fin d bc bs mid (pc + k) lv (v :: st) h Q) : mx_T0 E fin d bc bs mid pc lv (u ++ st) h Q :=
  fun p e R s m args below meth c H locs cells slots Qw ls hS hD q1 q2 q3 q4 q5 q6 =>
    hstep p e R s m args below meth c H locs cells slots Qw ls hS hD (fun x hx => q4 x (List.mem_append_left _ hx))
      (hk p e R s m args below meth c H locs cells slots Qw ls hS hD q1 q2 q3 (fun x hx => (List.mem_cons.mp hx).elim (fun e => e ▸ hv s H locs hD) (fun hx => q4 x (List.mem_append_right _ hx))) q5 q6)
theorem mx_iaload {a : mx_A} {i : Int32} (hd : decode (mx_by mid) pc = .ok (.iaload, 1)) (hl : (mx_lo a).1 = 100) (hin : vp_in i (mx_lo a).2) (hk : mx_T0 E fin d bc bs mid (pc + 1) lv (.inl (.int (h.2.1 a i.toNatClampNeg)) :: st) h Q) : mx_T0 E fin d bc bs mid pc lv (.inl (.int i) :: .inr a :: st) h Q :=
  mx_read (u := [.inl (.int i), .inr a]) (fun _ _ _ _ => by exact True.intro) (fun _ _ _ _ _ _ _ _ _ _ _ _ _ _ _ hS hD hw k => va_iald hS.1 hS.2.1 hS.2.2.2.2.2.2.2.2.1.1 hD.1 (mx_pos a) 0 (by rw [mx_W_get (hw (.inr a) (by simp)), mx_cell_i hl (by simp)]) rfl hin hd k) hk
theorem mx_baload {a : mx_A} {i : Int32} (hd : decode (mx_by mid) pc = .ok (.baload, 1)) (hl : (mx_lo a).1 = 102) (hin : vp_in i (mx_lo a).2) (hk : mx_T0 E fin d bc bs mid (pc + 1) lv (.inl (.int (h.2.1 a i.toNatClampNeg)) :: st) h Q) : mx_T0 E fin d bc bs mid pc lv (.inl (.int i) :: .inr a :: st) h Q :=
  mx_read (u := [.inl (.int i), .inr a]) (fun _ _ _ _ => by exact True.intro) (fun _ _ _ _ _ _ _ _ _ _ _ _ _ _ _ hS hD hw k => va_bald hS.1 hS.2.1 hS.2.2.2.2.2.2.2.2.1.1 hD.1 (mx_pos a) 2 (by rw [mx_W_get (hw (.inr a) (by simp)), mx_cell_i hl (by simp)]) rfl hin hd k) hk
theorem mx_zaload {a : mx_A} {i : Int32} (hd : decode (mx_by mid) pc = .ok (.baload, 1)) (hl : (mx_lo a).1 = 103) (hin : vp_in i (mx_lo a).2) (hk : mx_T0 E fin d bc bs mid (pc + 1) lv (.inl (.int (h.2.1 a i.toNatClampNeg)) :: st) h Q) : mx_T0 E fin d bc bs mid pc lv (.inl (.int i) :: .inr a :: st) h Q :=
  mx_read (u := [.inl (.int i), .inr a]) (fun _ _ _ _ => by exact True.intro) (fun _ _ _ _ _ _ _ _ _ _ _ _ _ _ _ hS hD hw k => va_zald hS.1 hS.2.1 hS.2.2.2.2.2.2.2.2.1.1 hD.1 (mx_pos a) 3 (by rw [mx_W_get (hw (.inr a) (by simp)), mx_cell_i hl (by simp)]) rfl hin hd k) hk
theorem mx_laload {a : mx_A} {i : Int32} (hd : decode (mx_by mid) pc = .ok (.laload, 1)) (hl : (mx_lo a).1 = 101) (hin : vp_in i (mx_lo a).2) (hk : mx_T0 E fin d bc bs mid (pc + 1) lv (.inl (.long (h.2.2.1 a i.toNatClampNeg)) :: st) h Q) : mx_T0 E fin d bc bs mid pc lv (.inl (.int i) :: .inr a :: st) h Q :=
  mx_read (u := [.inl (.int i), .inr a]) (fun _ _ _ _ => by exact True.intro) (fun _ _ _ _ _ _ _ _ _ _ _ _ _ _ _ hS hD hw k => va_lald hS.1 hS.2.1 hS.2.2.2.2.2.2.2.2.1.1 hD.1 (mx_pos a) 1 (by rw [mx_W_get (hw (.inr a) (by simp)), mx_cell_l hl]) rfl hin hd k) hk
/-- a reference read: the cell's number, or null -/
def mx_ov : Option mx_A → mx_V
  | some a => .inr a
  | none => .inl .null
theorem mx_ov_sh (E : mx_Ev) (o : Option mx_A) : mx_sh E (mx_ov o) = va_rf (o.map (mx_ad E)) := by cases o <;> rfl
theorem mx_ov_wf {s : State} {H : Heap} {locs : List Loc} {a : mx_A} {k : Nat} (hD : mx_D E fin h s H locs) : mx_wf h.1 (mx_ov (h.2.2.2 a k)) := by
  cases hr : h.2.2.2 a k with
  | none => exact True.intro
  | some b => exact hD.2.2.2.2.1 a k b hr
theorem mx_aaload {a : mx_A} {i : Int32} (hd : decode (mx_by mid) pc = .ok (.aaload, 1)) (hl : (mx_lo a).1 = 104) (hin : vp_in i (mx_lo a).2) (hk : mx_T0 E fin d bc bs mid (pc + 1) lv (mx_ov (h.2.2.2 a i.toNatClampNeg) :: st) h Q) : mx_T0 E fin d bc bs mid pc lv (.inl (.int i) :: .inr a :: st) h Q :=
  mx_read (u := [.inl (.int i), .inr a]) (fun _ _ _ hD => mx_ov_wf hD) (fun _ _ _ _ _ _ _ _ _ _ _ _ _ _ _ hS hD hw k => va_aldq hS.1 hS.2.1 hS.2.2.2.2.2.2.2.2.1.1 hD.1 (mx_pos a) 4 (by rw [mx_W_get (hw (.inr a) (by simp)), mx_cell_q hl (by simp)]) rfl hin hd (by rw [mx_ov_sh] at k; exact k)) hk
theorem mx_aaload5 {a b : mx_A} {i : Int32} (hd : decode (mx_by mid) pc = .ok (.aaload, 1)) (hl : (mx_lo a).1 = 105) (hin : vp_in i (mx_lo a).2) (hfin : fin a i.toNatClampNeg = some b) (hk : mx_T0 E fin d bc bs mid (pc + 1) lv (.inr b :: st) h Q) : mx_T0 E fin d bc bs mid pc lv (.inl (.int i) :: .inr a :: st) h Q := by
  intro p e R s m args below meth c H locs cells slots Qw ls hS hD q1 q2 q3 q4 q5 q6
  have hwa : mx_wfa h.1 a := q4 (.inr a) (by simp)
  have hr : h.2.2.2 a i.toNatClampNeg = some b := hD.2.2.2.2.2 a _ b hfin hwa
  have kk := hk p e R s m args below meth c H locs cells slots Qw ls hS hD q1 q2 q3 (fun x hx => (List.mem_cons.mp hx).elim (fun e => e ▸ hD.2.2.2.2.1 a _ b hr) (fun hx => q4 x (List.mem_cons_of_mem _ (List.mem_cons_of_mem _ hx)))) q5 q6
  have hlt : i.toNatClampNeg < (mx_lo a).2 := Nat.not_le.mp fun q => hin (Or.inr q)
  have hc0 := hD.1 (mx_pos a) _ (mx_W_get hwa)
  rw [mx_cell_q hl (by simp)] at hc0
  have hc : H[mx_ad E a]? = some (arrV (mx_aC E 5) (mx_lo a).2 (fun j => va_rf ((h.2.2.2 a j).map (mx_ad E)))) := hc0
  refine W.aald hS.1 hS.2.1 hc ((hS.2.2.2.2.2.2.2.2.1.1.2 5 _ rfl).1 _ _) rfl (fun q => by cases q) (by rw [arrV_size]; exact hin) (arrV_read _ _ hlt) rfl rfl hd ?_
  rw [hr]
  exact kk
/-- arrays that stand still: the script, and the two of Parts -/
def mx_slen (E : mx_Ev) (u : UInt32) : Nat := if u = 0 then 6 else if u = 1 then 24 else mx_sn E
def mx_sval (E : mx_Ev) (u : UInt32) : Nat → Int32 := if u = 0 then mx_k0 else if u = 1 then mx_k1 else mx_sx E
theorem mx_sX {s : State} {H : Heap} {locs : List Loc} {u : UInt32} (hu : u = 0 ∨ u = 1 ∨ u = 2) (hN : mx_Nv E s s.heap) (hD : mx_D E fin h s H locs) : va_X (mx_sa E u.toNat) (mx_slen E u) (mx_sval E u) s H := by
  obtain ⟨-, -, -, -, -, -, x0, x1, x2, l0, l1, l2, -, hB⟩ := hN
  rcases hu with rfl | rfl | rfl
  · exact x0.kept (mx_old hD hB l0)
  · exact x1.kept (mx_old hD hB l1)
  · exact x2.kept (mx_old hD hB l2)
theorem mx_siald {u : UInt32} {i : Int32} (hu : u = 0 ∨ u = 1 ∨ u = 2) (hd : decode (mx_by mid) pc = .ok (.iaload, 1)) (hin : vp_in i (mx_slen E u)) (hk : mx_T0 E fin d bc bs mid (pc + 1) lv (.inl (.int (mx_sval E u i.toNatClampNeg)) :: st) h Q) : mx_T0 E fin d bc bs mid pc lv (.inl (.int i) :: .inl (.float u) :: st) h Q :=
  mx_read (u := [.inl (.int i), .inl (.float u)]) (fun _ _ _ _ => by exact True.intro) (fun _ _ _ _ _ _ _ _ _ _ _ _ _ _ _ hS hD hw k => by
    obtain ⟨scr, x1, x2, x3, x4, x5⟩ := mx_sX hu hS.2.2.2.2.2.2.2.2.1 hD
    exact W.iald hS.1 hS.2.1 x1 x2 x3 (by rw [x4]; exact hin) (x5 _ (Nat.not_le.mp fun q => hin (Or.inr q))) rfl rfl hd k) hk
theorem mx_salen {u : UInt32} (hu : u = 0 ∨ u = 1 ∨ u = 2) (hd : decode (mx_by mid) pc = .ok (.arraylength, 1)) (hk : mx_T0 E fin d bc bs mid (pc + 1) lv (.inl (.int (Int32.ofNat (mx_slen E u))) :: st) h Q) : mx_T0 E fin d bc bs mid pc lv (.inl (.float u) :: st) h Q :=
  mx_read (u := [.inl (.float u)]) (fun _ _ _ _ => by exact True.intro) (fun _ _ _ _ _ _ _ _ _ _ _ _ _ _ _ hS hD hw k => by
    obtain ⟨scr, x1, x2, x3, x4, x5⟩ := mx_sX hu hS.2.2.2.2.2.2.2.2.1 hD
    exact W.alen hS.1 hS.2.1 x1 x2 (by rw [x4]) rfl rfl hd k) hk
theorem mx_alen {a : mx_A} (hd : decode (mx_by mid) pc = .ok (.arraylength, 1)) (hl : (mx_lo a).1 = 100 ∨ (mx_lo a).1 = 101) (hk : mx_T0 E fin d bc bs mid (pc + 1) lv (.inl (.int (Int32.ofNat (mx_lo a).2)) :: st) h Q) : mx_T0 E fin d bc bs mid pc lv (.inr a :: st) h Q :=
  mx_read (u := [.inr a]) (fun _ _ _ _ => by exact True.intro) (fun _ _ _ _ _ _ _ _ _ _ _ _ _ _ _ hS hD hw k => by
    rcases hl with hl | hl
    · exact va_alen (x := ((mx_lo a).2, Sum.inl (h.2.1 a))) hS.1 hS.2.1 hS.2.2.2.2.2.2.2.2.1.1 hD.1 (mx_pos a) 0 (by rw [mx_W_get (hw (.inr a) (by simp)), mx_cell_i hl (by simp)]) rfl rfl hd k
    · exact va_alen (x := ((mx_lo a).2, Sum.inr (Sum.inl (h.2.2.1 a)))) hS.1 hS.2.1 hS.2.2.2.2.2.2.2.2.1.1 hD.1 (mx_pos a) 1 (by rw [mx_W_get (hw (.inr a) (by simp)), mx_cell_l hl]) rfl rfl hd k) hk
/-- a store: the heap changes in one cell -/
theorem mx_write {u : List mx_V} {a : mx_A} {h' : mx_H} {k : Nat} (hn : h'.1 = h.1)
    (hstep : ∀ (p : Program) (e : Env) (R : Room) (s : State) (m : MethodId) (args : Array Value) (below : List Frame) (meth : Method) (c : Code) (H : Heap) (locs : List Loc) (cells slots : Nat) (Qw : State → Prop) (ls : Array Slot),
      mx_S E d mid p R s m args meth c → mx_D E fin h s H locs → (∀ x ∈ u, mx_wf h.1 x) → (∀ (H1 : Heap) (locs1 : List Loc), mx_D E fin h' s H1 locs1 → W p E.1 e R s m args below meth c H1 locs1 cells slots Qw (F0 m (pc + k) ls (st.map (mx_sh E)))) → W p E.1 e R s m args below meth c H locs cells slots Qw (F0 m pc ls ((u ++ st).map (mx_sh E))))
    (hk : mx_T0 E fin d bc bs mid (pc + k) lv st h' Q) : mx_T0 E fin d bc bs mid pc lv (u ++ st) h Q :=
  fun p e R s m args below meth c H locs cells slots Qw ls hS hD q1 q2 q3 q4 q5 q6 =>
    hstep p e R s m args below meth c H locs cells slots Qw ls hS hD (fun x hx => q4 x (List.mem_append_left _ hx)) (fun H1 locs1 hD1 =>
      hk p e R s m args below meth c H1 locs1 cells slots Qw ls hS hD1 q1 q2 (by rw [hn]; exact q3) (by rw [hn]; exact fun x hx => q4 x (List.mem_append_right _ hx)) q5 (by rw [hn]; exact q6))
theorem mx_iastore {a : mx_A} {i : Int32} {x : Int32} (hd : decode (mx_by mid) pc = .ok (.iastore, 1)) (hl : (mx_lo a).1 = 100) (hin : vp_in i (mx_lo a).2) (hk : mx_T0 E fin d bc bs mid (pc + 1) lv st (mx_uI h a i.toNatClampNeg x) Q) : mx_T0 E fin d bc bs mid pc lv (.inl (.int x) :: .inl (.int i) :: .inr a :: st) h Q :=
  mx_write (h' := mx_uI h a i.toNatClampNeg x) (u := [.inl (.int x), .inl (.int i), .inr a]) (a := a) rfl (fun _ _ _ _ _ _ _ _ _ H _ _ _ _ _ hS hD hw k => by
    have hwa : mx_wfa h.1 a := hw (.inr a) (by simp)
    have hc0 := hD.1 (mx_pos a) _ (mx_W_get hwa)
    rw [mx_cell_i hl (by simp)] at hc0
    have hc : H[mx_ad E a]? = some (arrV (mx_aC E 0) (mx_lo a).2 (fun j => Value.int (h.2.1 a j))) := hc0
    refine W.iast hS.1 hS.2.1 hc ((hS.2.2.2.2.2.2.2.2.1.1.2 0 _ rfl).1 _ _) (fun q => by cases q) (by rw [arrV_size]; exact hin) rfl rfl hd fun H1 e z oq => ?_
    refine k H1 _ (mx_D_set (a := a) hD rfl hwa (fun b _ hb => mx_cell_uI hb) ?_ z oq hD.2.2.2.2.1 hD.2.2.2.2.2)
    rw [mx_cell_i hl (by simp)]
    show H1[mx_ad E a]? = some (vp_cell _ _)
    rw [e, vp_cell_i, arrV_store]
    refine congrArg some (congrArg (arrV _ _) (funext fun j => ?_))
    show updV _ _ _ j = Value.int (mx_up h.2.1 a _ x a j)
    rw [mx_up_eq]
    dsimp only [updV]
    split <;> rfl) hk
theorem mx_bastore {a : mx_A} {i : Int32} {x : Int32} (hd : decode (mx_by mid) pc = .ok (.bastore, 1)) (hl : (mx_lo a).1 = 102) (hin : vp_in i (mx_lo a).2) (hk : mx_T0 E fin d bc bs mid (pc + 1) lv st (mx_uI h a i.toNatClampNeg (vp_nar .byte x)) Q) : mx_T0 E fin d bc bs mid pc lv (.inl (.int x) :: .inl (.int i) :: .inr a :: st) h Q :=
  mx_write (h' := mx_uI h a i.toNatClampNeg (vp_nar .byte x)) (u := [.inl (.int x), .inl (.int i), .inr a]) (a := a) rfl (fun _ _ _ _ _ _ _ _ _ H _ _ _ _ _ hS hD hw k => by
    have hwa : mx_wfa h.1 a := hw (.inr a) (by simp)
    have hc0 := hD.1 (mx_pos a) _ (mx_W_get hwa)
    rw [mx_cell_i hl (by simp)] at hc0
    have hc : H[mx_ad E a]? = some (arrV (mx_aC E 2) (mx_lo a).2 (fun j => Value.int (h.2.1 a j))) := hc0
    refine W.bast hS.1 hS.2.1 hc ((hS.2.2.2.2.2.2.2.2.1.1.2 2 _ rfl).1 _ _) (fun q => by cases q) (by rw [arrV_size]; exact hin) rfl rfl hd fun H1 e z oq => ?_
    refine k H1 _ (mx_D_set (a := a) hD rfl hwa (fun b _ hb => mx_cell_uI hb) ?_ z oq hD.2.2.2.2.1 hD.2.2.2.2.2)
    rw [mx_cell_i hl (by simp)]
    show H1[mx_ad E a]? = some (vp_cell _ _)
    rw [e, vp_cell_i, arrV_store]
    refine congrArg some (congrArg (arrV _ _) (funext fun j => ?_))
    show updV _ _ _ j = Value.int (mx_up h.2.1 a _ (vp_nar .byte x) a j)
    rw [mx_up_eq]
    dsimp only [updV]
    split <;> rfl) hk
theorem mx_zastore {a : mx_A} {i : Int32} {x : Int32} (hd : decode (mx_by mid) pc = .ok (.bastore, 1)) (hl : (mx_lo a).1 = 103) (hin : vp_in i (mx_lo a).2) (hk : mx_T0 E fin d bc bs mid (pc + 1) lv st (mx_uI h a i.toNatClampNeg (vp_nar .boolean x)) Q) : mx_T0 E fin d bc bs mid pc lv (.inl (.int x) :: .inl (.int i) :: .inr a :: st) h Q :=
  mx_write (h' := mx_uI h a i.toNatClampNeg (vp_nar .boolean x)) (u := [.inl (.int x), .inl (.int i), .inr a]) (a := a) rfl (fun _ _ _ _ _ _ _ _ _ H _ _ _ _ _ hS hD hw k => by
    have hwa : mx_wfa h.1 a := hw (.inr a) (by simp)
    have hc0 := hD.1 (mx_pos a) _ (mx_W_get hwa)
    rw [mx_cell_i hl (by simp)] at hc0
    have hc : H[mx_ad E a]? = some (arrV (mx_aC E 3) (mx_lo a).2 (fun j => Value.int (h.2.1 a j))) := hc0
    refine W.zast hS.1 hS.2.1 hc ((hS.2.2.2.2.2.2.2.2.1.1.2 3 _ rfl).1 _ _) (fun q => by cases q) (by rw [arrV_size]; exact hin) rfl rfl hd fun H1 e z oq => ?_
    refine k H1 _ (mx_D_set (a := a) hD rfl hwa (fun b _ hb => mx_cell_uI hb) ?_ z oq hD.2.2.2.2.1 hD.2.2.2.2.2)
    rw [mx_cell_i hl (by simp)]
    show H1[mx_ad E a]? = some (vp_cell _ _)
    rw [e, vp_cell_i, arrV_store]
    refine congrArg some (congrArg (arrV _ _) (funext fun j => ?_))
    show updV _ _ _ j = Value.int (mx_up h.2.1 a _ (vp_nar .boolean x) a j)
    rw [mx_up_eq]
    dsimp only [updV]
    split <;> rfl) hk
theorem mx_lastore {a : mx_A} {i : Int32} {x : Int64} (hd : decode (mx_by mid) pc = .ok (.lastore, 1)) (hl : (mx_lo a).1 = 101) (hin : vp_in i (mx_lo a).2) (hk : mx_T0 E fin d bc bs mid (pc + 1) lv st (mx_uL h a i.toNatClampNeg x) Q) : mx_T0 E fin d bc bs mid pc lv (.inl (.long x) :: .inl (.int i) :: .inr a :: st) h Q :=
  mx_write (h' := mx_uL h a i.toNatClampNeg x) (u := [.inl (.long x), .inl (.int i), .inr a]) (a := a) rfl (fun _ _ _ _ _ _ _ _ _ H _ _ _ _ _ hS hD hw k => by
    have hwa : mx_wfa h.1 a := hw (.inr a) (by simp)
    have hc0 := hD.1 (mx_pos a) _ (mx_W_get hwa)
    rw [mx_cell_l hl] at hc0
    have hc : H[mx_ad E a]? = some (arrV (mx_aC E 1) (mx_lo a).2 (fun j => Value.long (h.2.2.1 a j))) := hc0
    refine W.last hS.1 hS.2.1 hc ((hS.2.2.2.2.2.2.2.2.1.1.2 1 _ rfl).1 _ _) (fun q => by cases q) (by rw [arrV_size]; exact hin) rfl rfl hd fun H1 e z oq => ?_
    refine k H1 _ (mx_D_set (a := a) hD rfl hwa (fun b _ hb => mx_cell_uL hb) ?_ z oq hD.2.2.2.2.1 hD.2.2.2.2.2)
    rw [mx_cell_l hl]
    show H1[mx_ad E a]? = some (vp_cell _ _)
    rw [e, vp_cell_l, arrV_store]
    refine congrArg some (congrArg (arrV _ _) (funext fun j => ?_))
    show updV _ _ _ j = Value.long (mx_up h.2.2.1 a _ x a j)
    rw [mx_up_eq]
    dsimp only [updV]
    split <;> rfl) hk
theorem mx_uR_r {s : State} {H : Heap} {locs : List Loc} {a : mx_A} {i : Nat} {t : Option mx_A} (hD : mx_D E fin h s H locs) (ht : ∀ b, t = some b → mx_wfa h.1 b) : ∀ c k b, (mx_uR h a i t).2.2.2 c k = some b → mx_wfa h.1 b := by
  intro c k b hb
  by_cases e : c = a ∧ k = i
  · exact ht b (by rw [← hb]; exact (if_pos e).symm)
  · exact hD.2.2.2.2.1 c k b (by rw [← hb]; exact (if_neg e).symm)
theorem mx_uR_f {s : State} {H : Heap} {locs : List Loc} {a : mx_A} {i : Nat} {t : Option mx_A} (hD : mx_D E fin h s H locs) (hf : fin a i = none) : ∀ c k b, fin c k = some b → mx_wfa h.1 c → (mx_uR h a i t).2.2.2 c k = some b := by
  intro c k b hb hw
  have hne : ¬ (c = a ∧ k = i) := fun e => by rw [e.1, e.2, hf] at hb; cases hb
  rw [← hD.2.2.2.2.2 c k b hb hw]
  exact if_neg hne
/-- a shape into an array of shapes -/
theorem mx_aastore {a t : mx_A} {i : Int32} (hd : decode (mx_by mid) pc = .ok (.aastore, 1)) (hl : (mx_lo a).1 = 104) (ht : (mx_lo t).1 = 7) (hf : fin a i.toNatClampNeg = none) (hin : vp_in i (mx_lo a).2) (hk : mx_T0 E fin d bc bs mid (pc + 1) lv st (mx_uR h a i.toNatClampNeg (some t)) Q) : mx_T0 E fin d bc bs mid pc lv (.inr t :: .inl (.int i) :: .inr a :: st) h Q :=
  mx_write (h' := mx_uR h a i.toNatClampNeg (some t)) (u := [.inr t, .inl (.int i), .inr a]) (a := a) rfl (fun _ _ _ _ _ _ _ _ _ H _ _ _ _ _ hS hD hw k => by
    have hwa : mx_wfa h.1 a := hw (.inr a) (by simp)
    have hwt : mx_wfa h.1 t := hw (.inr t) (by simp)
    have hlt : i.toNatClampNeg < (mx_lo a).2 := Nat.not_le.mp fun q => hin (Or.inr q)
    have hc0 := hD.1 (mx_pos a) _ (mx_W_get hwa)
    rw [mx_cell_q hl (by simp)] at hc0
    have hc : H[mx_ad E a]? = some (arrV (mx_aC E 4) (mx_lo a).2 (fun j => va_rf ((h.2.2.2 a j).map (mx_ad E)))) := hc0
    have hv0 := hD.1 (mx_pos t) _ (mx_W_get hwt)
    rw [mx_cell_o ht (by decide)] at hv0
    obtain ⟨r, r1, cv, r2, r3, r4, -⟩ := hv0
    obtain rfl : (RX7, TX7, 13) = r := Option.some.inj r1
    obtain ⟨-, hfc, kv, hkv, hkd⟩ := hS.2.2.2.2.2.2.2.2.1.1.1 7 _ rfl
    obtain ⟨kA, comp, g1, g2, g3, g4⟩ := (hS.2.2.2.2.2.2.2.2.1.1.2 4 _ rfl).2
    have hcc : comp = (mx_G E).1 7 := Option.some.inj (g3.symm.trans hfc)
    subst hcc
    refine W.aast (cv := cv) (k := kA) (kv := kv) (kcomp := kv) hS.1 hS.2.1 hc (fun q z => by cases z) (fun q => by cases q) g1 g2 rfl hkv ⟨fun z => hin (Or.inl z), by rw [arrV_size]; exact hlt⟩ r2 (fun q z => by rw [r4] at z; cases z) (by rw [r3]; exact hkv) (by rw [r3]; exact va_assign ⟨hfc, kv, hkv, hkd⟩) rfl rfl hd fun H1 e z oq => ?_
    refine k H1 _ (mx_D_set (a := a) hD rfl hwa (fun b _ hb => mx_cell_uR hb) ?_ z oq (mx_uR_r hD (fun b e => by cases e; exact hwt)) (mx_uR_f hD hf))
    rw [mx_cell_q hl (by simp)]
    show H1[mx_ad E a]? = some (vp_cell _ _)
    rw [e, vp_cell_q, arrV_store]
    refine congrArg some (congrArg (arrV _ _) (funext fun j => ?_))
    show updV _ _ _ j = va_rf ((mx_up h.2.2.2 a _ (some t) a j).map (mx_ad E))
    rw [mx_up_eq]
    dsimp only [updV]
    split <;> rfl) hk
/-- null into an array of shapes -/
theorem mx_aastoreN {a : mx_A} {i : Int32} (hd : decode (mx_by mid) pc = .ok (.aastore, 1)) (hl : (mx_lo a).1 = 104) (hf : fin a i.toNatClampNeg = none) (hin : vp_in i (mx_lo a).2) (hk : mx_T0 E fin d bc bs mid (pc + 1) lv st (mx_uR h a i.toNatClampNeg none) Q) : mx_T0 E fin d bc bs mid pc lv (.inl .null :: .inl (.int i) :: .inr a :: st) h Q :=
  mx_write (h' := mx_uR h a i.toNatClampNeg none) (u := [.inl .null, .inl (.int i), .inr a]) (a := a) rfl (fun _ _ _ _ _ _ _ _ _ H _ _ _ _ _ hS hD hw k => by
    have hwa : mx_wfa h.1 a := hw (.inr a) (by simp)
    have hc0 := hD.1 (mx_pos a) _ (mx_W_get hwa)
    rw [mx_cell_q hl (by simp)] at hc0
    have hc : H[mx_ad E a]? = some (arrV (mx_aC E 4) (mx_lo a).2 (fun j => va_rf ((h.2.2.2 a j).map (mx_ad E)))) := hc0
    refine va_WaastN (C := RX7) hS.1 hS.2.1 hc ((hS.2.2.2.2.2.2.2.2.1.1.2 4 _ rfl).1 _ _) (fun q => by cases q) (by rw [arrV_size]; exact hin) rfl rfl hd fun H1 e z oq => ?_
    refine k H1 _ (mx_D_set (a := a) hD rfl hwa (fun b _ hb => mx_cell_uR hb) ?_ z oq (mx_uR_r hD (fun b e => by cases e)) (mx_uR_f hD hf))
    rw [mx_cell_q hl (by simp)]
    show H1[mx_ad E a]? = some (vp_cell _ _)
    rw [e, vp_cell_q, arrV_store]
    refine congrArg some (congrArg (arrV _ _) (funext fun j => ?_))
    show updV _ _ _ j = va_rf ((mx_up h.2.2.2 a _ none a j).map (mx_ad E))
    rw [mx_up_eq]
    dsimp only [updV]
    split <;> rfl) hk
end MXH
/-! the classes' rows -/
/-- what is known of class ci -/
def mx_CK (ci : Nat) : Prop := vwCl[ci]? = some (mx_cr ci) ∧ (∀ w ∈ u_ws (mx_cr ci).1 (mx_cr ci).2.1 (mx_cr ci).2.2, w ∈ mx_ws) ∧ (∀ k, k < (mx_cr ci).2.2 → parseFieldDescriptor ((mx_cr ci).2.1 k).2.2.1 = some (mx_ty ci k)) ∧
  (∀ a, a < (mx_cr ci).2.2 → ∀ b, b < (mx_cr ci).2.2 → a ≠ b → ((mx_cr ci).2.1 a).2.1 ≠ ((mx_cr ci).2.1 b).2.1)
theorem mx_in_ws {ws : List Cond} (h : ∀ w ∈ ws, w ∈ lw_tbl) (hg : ws.all goodWord = true) : ∀ w ∈ ws, w ∈ mx_ws := fun w hw => List.mem_filter.mpr ⟨h w hw, List.all_eq_true.mp hg w hw⟩
theorem mx_ck0 : mx_CK 0 := ⟨rfl, mx_in_ws inX0 (by decide +kernel), tyX0_ok, nmX0⟩
theorem mx_ck1 : mx_CK 1 := ⟨rfl, mx_in_ws inX1 (by decide +kernel), tyX1_ok, nmX1⟩
theorem mx_ck2 : mx_CK 2 := ⟨rfl, mx_in_ws inX2 (by decide +kernel), tyX2_ok, nmX2⟩
theorem mx_ck3 : mx_CK 3 := ⟨rfl, mx_in_ws inX3 (by decide +kernel), tyX3_ok, nmX3⟩
theorem mx_ck4 : mx_CK 4 := ⟨rfl, mx_in_ws inX4 (by decide +kernel), tyX4_ok, nmX4⟩
theorem mx_ck5 : mx_CK 5 := ⟨rfl, mx_in_ws inX5 (by decide +kernel), tyX5_ok, nmX5⟩
theorem mx_ck6 : mx_CK 6 := ⟨rfl, mx_in_ws inX6 (by decide +kernel), tyX6_ok, nmX6⟩
theorem mx_ck7 : mx_CK 7 := ⟨rfl, mx_in_ws inX7 (by decide +kernel), tyX7_ok, nmX7⟩
theorem mx_ck8 : mx_CK 8 := ⟨rfl, mx_in_ws inX8 (by decide +kernel), tyX8_ok, nmX8⟩
theorem mx_ck9 : mx_CK 9 := ⟨rfl, mx_in_ws inX9 (by decide +kernel), tyX9_ok, nmX9⟩
theorem mx_ck10 : mx_CK 10 := ⟨rfl, mx_in_ws inX10 (by decide +kernel), tyX10_ok, nmX10⟩
theorem mx_ck11 : mx_CK 11 := ⟨rfl, mx_in_ws inX11 (by decide +kernel), tyX11_ok, nmX11⟩
theorem mx_ck12 : mx_CK 12 := ⟨rfl, mx_in_ws inX12 (by decide +kernel), tyX12_ok, nmX12⟩
theorem mx_ck {ci : Nat} (h : ci < 13) : mx_CK ci := by
  rcases (show ci = 0 ∨ ci = 1 ∨ ci = 2 ∨ ci = 3 ∨ ci = 4 ∨ ci = 5 ∨ ci = 6 ∨ ci = 7 ∨ ci = 8 ∨ ci = 9 ∨ ci = 10 ∨ ci = 11 ∨ ci = 12 by omega) with rfl | rfl | rfl | rfl | rfl | rfl | rfl | rfl | rfl | rfl | rfl | rfl | rfl
  · exact mx_ck0
  · exact mx_ck1
  · exact mx_ck2
  · exact mx_ck3
  · exact mx_ck4
  · exact mx_ck5
  · exact mx_ck6
  · exact mx_ck7
  · exact mx_ck8
  · exact mx_ck9
  · exact mx_ck10
  · exact mx_ck11
  · exact mx_ck12
/-- a field's value as the mini machine reads it -/
def mx_fw (h : mx_H) (a : mx_A) (ci k : Nat) : mx_V := if mx_ff ci k = 2 then mx_ov (h.2.2.2 a k) else .inl (.int (h.2.1 a k))
section MXF
variable {E : mx_Ev} {fin : mx_A → Nat → Option mx_A} {d bc bs mid pc : Nat} {lv : mx_Lv} {st : List mx_V} {h : mx_H} {Q : Option mx_V → mx_H → Prop}
theorem mx_getfield {a : mx_A} {ci k idx : Nat} (hd : decode (mx_by mid) pc = .ok (.getfield idx, 3)) (hci : ci < 13) (hl : mx_lo a = (ci, (mx_cr ci).2.2)) (hkN : k < (mx_cr ci).2.2) (hlk : Cond.fieldLink (mx_ow mid) idx (mx_fT ci k).1 (mx_fT ci k).2.1 (mx_fT ci k).2.2.1 ∈ mx_ws)
    (hk : mx_T0 E fin d bc bs mid (pc + 3) lv (mx_fw h a ci k :: st) h Q) : mx_T0 E fin d bc bs mid pc lv (.inr a :: st) h Q := by
  obtain ⟨c1, c2, c3, c4⟩ := mx_ck hci
  refine mx_read (u := [.inr a]) (fun s H locs hD => ?_) (fun _ _ _ _ _ _ _ _ _ _ _ _ _ _ _ hS hD hw k9 => ?_) hk
  · unfold mx_fw
    split
    · exact mx_ov_wf hD
    · exact True.intro
  · have hwa : mx_wfa h.1 a := hw (.inr a) (by simp)
    have e0 := mx_W_get (E := E) hwa
    rw [mx_cell_o (ci := ci) (by rw [hl]) (by omega)] at e0
    refine va_get hS.1 hS.2.1 hS.2.2.2.2.2.2.1 c2 hS.2.2.2.2.2.1 hS.2.2.2.2.2.2.2.2.1.1 hD.1 (mx_pos a) e0 c1 k hkN (hS.2.2.2.2.2.2.1 _ hlk) (fun x hx => hx) (v := mx_fv E h a ci k) ?_ hd ?_
    · rw [hl, List.getElem?_map, List.getElem?_range hkN]
      rfl
    · have e : mx_fv E h a ci k = mx_sh E (mx_fw h a ci k) := by
        unfold mx_fv mx_fw
        split
        · rw [mx_ov_sh]
        · rfl
      rw [e]
      exact k9
/-- what a store of v into field k of class ci does to the mini heap -/
def mx_pf (h : mx_H) (a : mx_A) (k : Nat) : mx_V → mx_H
  | .inl (.int x) => mx_uI h a k x
  | .inr t => mx_uR h a k (some t)
  | _ => mx_uR h a k none
/-- v is of the field's kind -/
def mx_pk (ci k : Nat) : mx_V → Prop
  | .inl (.int x) => mx_ty ci k = .int ∨ (mx_ty ci k = .boolean ∧ (x = 0 ∨ x = 1))
  | .inr _ => (∃ n, mx_ty ci k = .object n) ∨ ∃ t, mx_ty ci k = .array t
  | .inl .null => (∃ n, mx_ty ci k = .object n) ∨ ∃ t, mx_ty ci k = .array t
  | _ => False
theorem mx_pk_n {E : mx_Ev} {ci k : Nat} {v : mx_V} (hv : mx_pk ci k v) : narrow (mx_ty ci k) (mx_sh E v) = mx_sh E v ∧ fits (mx_ty ci k) (mx_sh E v) = true := by
  rcases v with v | a
  · cases v with
    | int x =>
      rcases hv with hv | ⟨hv, hn⟩
      · rw [hv]; exact ⟨rfl, rfl⟩
      · rw [hv]
        rcases hn with rfl | rfl <;> exact ⟨rfl, rfl⟩
    | null => rcases hv with ⟨n, hv⟩ | ⟨n, hv⟩ <;> rw [hv] <;> exact ⟨rfl, rfl⟩
    | _ => exact hv.elim
  · rcases hv with ⟨n, hv⟩ | ⟨n, hv⟩ <;> rw [hv] <;> exact ⟨rfl, rfl⟩
end MXF
