/-! ===== one instruction at a time: stack and locals ===== -/
def mx_get (lv : mx_Lv) (i : Nat) : Option mx_V := (lv.find? (fun q => q.1 == i)).map (fun q => q.2)
def mx_set1 (lv : mx_Lv) (i : Nat) (v : mx_V) : mx_Lv := (i, v) :: lv.filter (fun q => !(q.1 == i) && !(q.1 + 1 == i && mx_cat q.2 == 2))
def mx_set2 (lv : mx_Lv) (i : Nat) (v : mx_V) : mx_Lv := (i, v) :: lv.filter (fun q => !(q.1 == i) && (!(q.1 == i + 1) && !(q.1 + 1 == i && mx_cat q.2 == 2)))
theorem mx_get_mem {lv : mx_Lv} {i : Nat} {v : mx_V} (h : mx_get lv i = some v) : (i, v) ∈ lv := by
  unfold mx_get at h
  cases hf : lv.find? (fun q => q.1 == i) with
  | none => rw [hf] at h; cases h
  | some q =>
    rw [hf] at h
    have h1 := List.mem_of_find?_eq_some hf
    have h2 := List.find?_some hf
    cases h
    have h3 : q.1 = i := by simpa using h2
    subst h3
    exact h1
theorem mx_has {E : mx_Ev} {ls : Array Slot} {n i : Nat} {lv : mx_Lv} {v : mx_V} (hl : lv_has ls n (lv.map (mx_shl E))) (h : mx_get lv i = some v) : ls[i]? = some (.val (mx_sh E v)) :=
  hl.2.2 (i, mx_sh E v) (List.mem_map.mpr ⟨(i, v), mx_get_mem h, rfl⟩)
theorem mx_set1_map (E : mx_Ev) (lv : mx_Lv) (i : Nat) (v : mx_V) : (i, mx_sh E v) :: (lv.map (mx_shl E)).filter (fun q => !(q.1 == i) && !(q.1 + 1 == i && q.2.category == 2)) = (mx_set1 lv i v).map (mx_shl E) := by
  unfold mx_set1
  rw [List.map_cons, List.filter_map]
  congr 2
  apply List.filter_congr
  intro q _
  simp only [Function.comp, mx_shl, mx_cat_sh]
theorem mx_set2_map (E : mx_Ev) (lv : mx_Lv) (i : Nat) (v : mx_V) : (i, mx_sh E v) :: (lv.map (mx_shl E)).filter (fun q => !(q.1 == i) && (!(q.1 == i + 1) && !(q.1 + 1 == i && q.2.category == 2))) = (mx_set2 lv i v).map (mx_shl E) := by
  unfold mx_set2
  rw [List.map_cons, List.filter_map]
  congr 2
  apply List.filter_congr
  intro q _
  simp only [Function.comp, mx_shl, mx_cat_sh]
theorem mx_set1_wf {n : Nat} {lv : mx_Lv} {i : Nat} {v : mx_V} (h : ∀ q ∈ lv, mx_wf n q.2) (hv : mx_wf n v) : ∀ q ∈ mx_set1 lv i v, mx_wf n q.2 := by
  intro q hq
  rcases List.mem_cons.mp hq with rfl | hq
  · exact hv
  · exact h q (List.mem_filter.mp hq).1
theorem mx_set2_wf {n : Nat} {lv : mx_Lv} {i : Nat} {v : mx_V} (h : ∀ q ∈ lv, mx_wf n q.2) (hv : mx_wf n v) : ∀ q ∈ mx_set2 lv i v, mx_wf n q.2 := by
  intro q hq
  rcases List.mem_cons.mp hq with rfl | hq
  · exact hv
  · exact h q (List.mem_filter.mp hq).1
section MXR
variable {E : mx_Ev} {fin : mx_A → Nat → Option mx_A} {d bc bs mid pc : Nat} {lv : mx_Lv} {st : List mx_V} {h : mx_H} {Q : Option mx_V → mx_H → Prop}
/-- a value is pushed -/
theorem mx_push {v : mx_V} {k : Nat} (hv : (∀ q ∈ lv, mx_wf h.1 q.2) → mx_wf h.1 v)
    (hstep : ∀ (p : Program) (e : Env) (R : Room) (s : State) (m : MethodId) (args : Array Value) (below : List Frame) (meth : Method) (c : Code) (H : Heap) (locs : List Loc) (cells slots : Nat) (Qw : State → Prop) (ls : Array Slot),
      mx_S E d mid p R s m args meth c → mx_D E fin h s H locs → lv_has ls (mx_nL mid) (lv.map (mx_shl E)) → W p E.1 e R s m args below meth c H locs cells slots Qw (F0 m (pc + k) ls (mx_sh E v :: st.map (mx_sh E))) → W p E.1 e R s m args below meth c H locs cells slots Qw (F0 m pc ls (st.map (mx_sh E))))
    (hk : mx_T0 E fin d bc bs mid (pc + k) lv (v :: st) h Q) : mx_T0 E fin d bc bs mid pc lv st h Q :=
  mx_go (fun h1 h2 => ⟨h1, fun x hx => (List.mem_cons.mp hx).elim (fun e => e ▸ hv h1) (h2 x)⟩) (fun p e R s m args below meth c H locs cells slots Qw ls hS hD hl kk => hstep p e R s m args below meth c H locs cells slots Qw ls hS hD hl (kk ls hl)) hk
theorem mx_iconst {n : Int} (hd : decode (mx_by mid) pc = .ok (.iconst n, 1)) (hk : mx_T0 E fin d bc bs mid (pc + 1) lv (.inl (.int (Int32.ofInt n)) :: st) h Q) : mx_T0 E fin d bc bs mid pc lv st h Q :=
  mx_push (fun _ => by exact True.intro) (fun _ _ _ _ _ _ _ _ _ _ _ _ _ _ _ hS _ _ k => lv_iconst hS.1 hS.2.1 hd rfl k) hk
theorem mx_bipush {n : Int} (hd : decode (mx_by mid) pc = .ok (.bipush n, 2)) (hk : mx_T0 E fin d bc bs mid (pc + 2) lv (.inl (.int (Int8.ofInt n).toInt32) :: st) h Q) : mx_T0 E fin d bc bs mid pc lv st h Q :=
  mx_push (fun _ => by exact True.intro) (fun _ _ _ _ _ _ _ _ _ _ _ _ _ _ _ hS _ _ k => lv_bipush hS.1 hS.2.1 hd rfl k) hk
theorem mx_sipush {n : Int} (hd : decode (mx_by mid) pc = .ok (.sipush n, 3)) (hk : mx_T0 E fin d bc bs mid (pc + 3) lv (.inl (.int (Int16.ofInt n).toInt32) :: st) h Q) : mx_T0 E fin d bc bs mid pc lv st h Q :=
  mx_push (fun _ => by exact True.intro) (fun _ _ _ _ _ _ _ _ _ _ _ _ _ _ _ hS _ _ k => lv_sipush hS.1 hS.2.1 hd rfl k) hk
theorem mx_lconst {n : Fin 2} (hd : decode (mx_by mid) pc = .ok (.lconst n, 1)) (hk : mx_T0 E fin d bc bs mid (pc + 1) lv (.inl (.long (Int64.ofNat (n : Nat))) :: st) h Q) : mx_T0 E fin d bc bs mid pc lv st h Q :=
  mx_push (fun _ => by exact True.intro) (fun _ _ _ _ _ _ _ _ _ _ _ _ _ _ _ hS _ _ k => lv_lconst hS.1 hS.2.1 hd rfl k) hk
theorem mx_null (hd : decode (mx_by mid) pc = .ok (.aconst_null, 1)) (hk : mx_T0 E fin d bc bs mid (pc + 1) lv (.inl .null :: st) h Q) : mx_T0 E fin d bc bs mid pc lv st h Q :=
  mx_push (fun _ => by exact True.intro) (fun _ _ _ _ _ _ _ _ _ _ _ _ _ _ _ hS _ _ k => lv_null hS.1 hS.2.1 hd k) hk
theorem mx_ldc {i : Nat} {v : Int32} (hw : Cond.constant (mx_ow mid) i v ∈ mx_ws) (hd : decode (mx_by mid) pc = .ok (.ldc i, 2)) (hk : mx_T0 E fin d bc bs mid (pc + 2) lv (.inl (.int v) :: st) h Q) : mx_T0 E fin d bc bs mid pc lv st h Q :=
  mx_push (fun _ => by exact True.intro) (fun _ _ _ _ _ _ _ _ _ _ _ _ _ _ _ hS _ _ k => lv_ldc hS.1 hS.2.1 hS.2.2.2.2.2.1 (hS.2.2.2.2.2.2.1 _ hw) hd k) hk
theorem mx_ldcw {i : Nat} {v : Int32} (hw : Cond.constant (mx_ow mid) i v ∈ mx_ws) (hd : decode (mx_by mid) pc = .ok (.ldc_w i, 3)) (hk : mx_T0 E fin d bc bs mid (pc + 3) lv (.inl (.int v) :: st) h Q) : mx_T0 E fin d bc bs mid pc lv st h Q :=
  mx_push (fun _ => by exact True.intro) (fun _ _ _ _ _ _ _ _ _ _ _ _ _ _ _ hS _ _ k => lv_ldcw hS.1 hS.2.1 hS.2.2.2.2.2.1 (hS.2.2.2.2.2.2.1 _ hw) hd k) hk
theorem mx_ldc2 {i : Nat} {v : Int64} (hw : Cond.constantLong (mx_ow mid) i v ∈ mx_ws) (hd : decode (mx_by mid) pc = .ok (.ldc2_w i, 3)) (hk : mx_T0 E fin d bc bs mid (pc + 3) lv (.inl (.long v) :: st) h Q) : mx_T0 E fin d bc bs mid pc lv st h Q :=
  mx_push (fun _ => by exact True.intro) (fun _ _ _ _ _ _ _ _ _ _ _ _ _ _ _ hS _ _ k => lv_ldc2 hS.1 hS.2.1 hS.2.2.2.2.2.1 (hS.2.2.2.2.2.2.1 _ hw) hd k) hk
theorem mx_getwf {i : Nat} {v : mx_V} (hg : mx_get lv i = some v) (h1 : ∀ q ∈ lv, mx_wf h.1 q.2) : mx_wf h.1 v := h1 _ (mx_get_mem hg)
theorem mx_iload_n {i : Fin 4} {x : Int32} (hd : decode (mx_by mid) pc = .ok (.iload_n i, 1)) (hg : mx_get lv i.val = some (.inl (.int x))) (hk : mx_T0 E fin d bc bs mid (pc + 1) lv (.inl (.int x) :: st) h Q) : mx_T0 E fin d bc bs mid pc lv st h Q :=
  mx_push (mx_getwf hg) (fun _ _ _ _ _ _ _ _ _ _ _ _ _ _ _ hS _ hl k => lv_iload_n hS.1 hS.2.1 hd rfl (mx_has hl hg) k) hk
theorem mx_iload {i : Nat} {x : Int32} (hd : decode (mx_by mid) pc = .ok (.iload i, 2)) (hg : mx_get lv i = some (.inl (.int x))) (hk : mx_T0 E fin d bc bs mid (pc + 2) lv (.inl (.int x) :: st) h Q) : mx_T0 E fin d bc bs mid pc lv st h Q :=
  mx_push (mx_getwf hg) (fun _ _ _ _ _ _ _ _ _ _ _ _ _ _ _ hS _ hl k => lv_iload hS.1 hS.2.1 hd (mx_has hl hg) k) hk
theorem mx_lload_n {i : Fin 4} {x : Int64} (hd : decode (mx_by mid) pc = .ok (.lload_n i, 1)) (hg : mx_get lv i.val = some (.inl (.long x))) (hk : mx_T0 E fin d bc bs mid (pc + 1) lv (.inl (.long x) :: st) h Q) : mx_T0 E fin d bc bs mid pc lv st h Q :=
  mx_push (mx_getwf hg) (fun _ _ _ _ _ _ _ _ _ _ _ _ _ _ _ hS _ hl k => lv_lload_n hS.1 hS.2.1 hd rfl (mx_has hl hg) k) hk
theorem mx_lload {i : Nat} {x : Int64} (hd : decode (mx_by mid) pc = .ok (.lload i, 2)) (hg : mx_get lv i = some (.inl (.long x))) (hk : mx_T0 E fin d bc bs mid (pc + 2) lv (.inl (.long x) :: st) h Q) : mx_T0 E fin d bc bs mid pc lv st h Q :=
  mx_push (mx_getwf hg) (fun _ _ _ _ _ _ _ _ _ _ _ _ _ _ _ hS _ hl k => lv_lload hS.1 hS.2.1 hd (mx_has hl hg) k) hk
def mx_isr : mx_V → Bool
  | .inr _ => true
  | .inl .null => true
  | .inl (.float _) => true
  | _ => false
theorem mx_aload_n {i : Fin 4} {v : mx_V} (hd : decode (mx_by mid) pc = .ok (.aload_n i, 1)) (hg : mx_get lv i.val = some v) (hr : mx_isr v = true) (hk : mx_T0 E fin d bc bs mid (pc + 1) lv (v :: st) h Q) : mx_T0 E fin d bc bs mid pc lv st h Q := by
  refine mx_push (mx_getwf hg) (fun _ _ _ _ _ _ _ _ _ _ _ _ _ _ _ hS _ hl k => ?_) hk
  have hh := mx_has hl hg
  rcases v with v | a
  · cases v with
    | null => exact lv_aload_nN hS.1 hS.2.1 hd rfl hh k
    | float u => exact lv_aload_n hS.1 hS.2.1 hd rfl hh k
    | _ => cases hr
  · exact lv_aload_n hS.1 hS.2.1 hd rfl hh k
theorem mx_aload {i : Nat} {v : mx_V} (hd : decode (mx_by mid) pc = .ok (.aload i, 2)) (hg : mx_get lv i = some v) (hr : mx_isr v = true) (hk : mx_T0 E fin d bc bs mid (pc + 2) lv (v :: st) h Q) : mx_T0 E fin d bc bs mid pc lv st h Q := by
  refine mx_push (mx_getwf hg) (fun _ _ _ _ _ _ _ _ _ _ _ _ _ _ _ hS _ hl k => ?_) hk
  have hh := mx_has hl hg
  rcases v with v | a
  · cases v with
    | null => exact lv_aloadN hS.1 hS.2.1 hd hh k
    | float u => exact lv_aload hS.1 hS.2.1 hd hh k
    | _ => cases hr
  · exact lv_aload hS.1 hS.2.1 hd hh k
theorem mx_st1 {v : mx_V} {i k : Nat} 
    (hstep : ∀ (p : Program) (e : Env) (R : Room) (s : State) (m : MethodId) (args : Array Value) (below : List Frame) (meth : Method) (c : Code) (H : Heap) (locs : List Loc) (cells slots : Nat) (Qw : State → Prop) (ls : Array Slot),
      mx_S E d mid p R s m args meth c → lv_has ls (mx_nL mid) (lv.map (mx_shl E)) → (∀ ls', lv_has ls' (mx_nL mid) ((mx_set1 lv i v).map (mx_shl E)) → W p E.1 e R s m args below meth c H locs cells slots Qw (F0 m (pc + k) ls' (st.map (mx_sh E)))) → W p E.1 e R s m args below meth c H locs cells slots Qw (F0 m pc ls (mx_sh E v :: st.map (mx_sh E))))
    (hk : mx_T0 E fin d bc bs mid (pc + k) (mx_set1 lv i v) st h Q) : mx_T0 E fin d bc bs mid pc lv (v :: st) h Q :=
  mx_go (fun h1 h2 => ⟨mx_set1_wf h1 (h2 v List.mem_cons_self), fun x hx => h2 x (List.mem_cons_of_mem _ hx)⟩) (fun p e R s m args below meth c H locs cells slots Qw ls hS _ hl kk => hstep p e R s m args below meth c H locs cells slots Qw ls hS hl kk) hk
theorem mx_st2 {v : mx_V} {i k : Nat} 
    (hstep : ∀ (p : Program) (e : Env) (R : Room) (s : State) (m : MethodId) (args : Array Value) (below : List Frame) (meth : Method) (c : Code) (H : Heap) (locs : List Loc) (cells slots : Nat) (Qw : State → Prop) (ls : Array Slot),
      mx_S E d mid p R s m args meth c → lv_has ls (mx_nL mid) (lv.map (mx_shl E)) → (∀ ls', lv_has ls' (mx_nL mid) ((mx_set2 lv i v).map (mx_shl E)) → W p E.1 e R s m args below meth c H locs cells slots Qw (F0 m (pc + k) ls' (st.map (mx_sh E)))) → W p E.1 e R s m args below meth c H locs cells slots Qw (F0 m pc ls (mx_sh E v :: st.map (mx_sh E))))
    (hk : mx_T0 E fin d bc bs mid (pc + k) (mx_set2 lv i v) st h Q) : mx_T0 E fin d bc bs mid pc lv (v :: st) h Q :=
  mx_go (fun h1 h2 => ⟨mx_set2_wf h1 (h2 v List.mem_cons_self), fun x hx => h2 x (List.mem_cons_of_mem _ hx)⟩) (fun p e R s m args below meth c H locs cells slots Qw ls hS _ hl kk => hstep p e R s m args below meth c H locs cells slots Qw ls hS hl kk) hk
theorem mx_istore_n {i : Fin 4} {x : Int32} (hd : decode (mx_by mid) pc = .ok (.istore_n i, 1)) (hn : i.val < mx_nL mid) (hk : mx_T0 E fin d bc bs mid (pc + 1) (mx_set1 lv i.val (.inl (.int x))) st h Q) : mx_T0 E fin d bc bs mid pc lv (.inl (.int x) :: st) h Q :=
  mx_st1 (fun _ _ _ _ _ _ _ _ _ _ _ _ _ _ _ hS hl kk => lv_istore_n hS.1 hS.2.1 hd rfl hl hn (mx_set1_map E lv i.val (.inl (.int x))) kk) hk
theorem mx_istore {i : Nat} {x : Int32} (hd : decode (mx_by mid) pc = .ok (.istore i, 2)) (hn : i < mx_nL mid) (hk : mx_T0 E fin d bc bs mid (pc + 2) (mx_set1 lv i (.inl (.int x))) st h Q) : mx_T0 E fin d bc bs mid pc lv (.inl (.int x) :: st) h Q :=
  mx_st1 (fun _ _ _ _ _ _ _ _ _ _ _ _ _ _ _ hS hl kk => lv_istore hS.1 hS.2.1 hd hl hn (mx_set1_map E lv i (.inl (.int x))) kk) hk
theorem mx_lstore_n {i : Fin 4} {x : Int64} (hd : decode (mx_by mid) pc = .ok (.lstore_n i, 1)) (hn : i.val + 1 < mx_nL mid) (hk : mx_T0 E fin d bc bs mid (pc + 1) (mx_set2 lv i.val (.inl (.long x))) st h Q) : mx_T0 E fin d bc bs mid pc lv (.inl (.long x) :: st) h Q :=
  mx_st2 (fun _ _ _ _ _ _ _ _ _ _ _ _ _ _ _ hS hl kk => lv_lstore_n hS.1 hS.2.1 hd rfl hl hn (mx_set2_map E lv i.val (.inl (.long x))) kk) hk
theorem mx_lstore {i : Nat} {x : Int64} (hd : decode (mx_by mid) pc = .ok (.lstore i, 2)) (hn : i + 1 < mx_nL mid) (hk : mx_T0 E fin d bc bs mid (pc + 2) (mx_set2 lv i (.inl (.long x))) st h Q) : mx_T0 E fin d bc bs mid pc lv (.inl (.long x) :: st) h Q :=
  mx_st2 (fun _ _ _ _ _ _ _ _ _ _ _ _ _ _ _ hS hl kk => lv_lstore hS.1 hS.2.1 hd hl hn (mx_set2_map E lv i (.inl (.long x))) kk) hk
theorem mx_astore_n {i : Fin 4} {v : mx_V} (hd : decode (mx_by mid) pc = .ok (.astore_n i, 1)) (hr : mx_isr v = true) (hn : i.val < mx_nL mid) (hk : mx_T0 E fin d bc bs mid (pc + 1) (mx_set1 lv i.val v) st h Q) : mx_T0 E fin d bc bs mid pc lv (v :: st) h Q := by
  refine mx_st1 (fun _ _ _ _ _ _ _ _ _ _ _ _ _ _ _ hS hl kk => ?_) hk
  rcases v with v | a
  · cases v with
    | null => exact lv_astore_nN hS.1 hS.2.1 hd rfl hl hn (mx_set1_map E lv i.val (.inl .null)) kk
    | float u => exact lv_astore_n hS.1 hS.2.1 hd rfl hl hn (mx_set1_map E lv i.val (.inl (.float u))) kk
    | _ => cases hr
  · exact lv_astore_n hS.1 hS.2.1 hd rfl hl hn (mx_set1_map E lv i.val (.inr a)) kk
theorem mx_astore {i : Nat} {v : mx_V} (hd : decode (mx_by mid) pc = .ok (.astore i, 2)) (hr : mx_isr v = true) (hn : i < mx_nL mid) (hk : mx_T0 E fin d bc bs mid (pc + 2) (mx_set1 lv i v) st h Q) : mx_T0 E fin d bc bs mid pc lv (v :: st) h Q := by
  refine mx_st1 (fun _ _ _ _ _ _ _ _ _ _ _ _ _ _ _ hS hl kk => ?_) hk
  rcases v with v | a
  · cases v with
    | null => exact lv_astoreN hS.1 hS.2.1 hd hl hn (mx_set1_map E lv i (.inl .null)) kk
    | float u => exact lv_astore hS.1 hS.2.1 hd hl hn (mx_set1_map E lv i (.inl (.float u))) kk
    | _ => cases hr
  · exact lv_astore hS.1 hS.2.1 hd hl hn (mx_set1_map E lv i (.inr a)) kk
theorem mx_iinc {i : Nat} {n : Int} {x : Int32} (hd : decode (mx_by mid) pc = .ok (.iinc i n, 3)) (hg : mx_get lv i = some (.inl (.int x))) (hn : i < mx_nL mid) (hk : mx_T0 E fin d bc bs mid (pc + 3) (mx_set1 lv i (.inl (.int (x + Int32.ofInt n)))) st h Q) : mx_T0 E fin d bc bs mid pc lv st h Q := by
  refine mx_go (fun h1 h2 => ⟨mx_set1_wf h1 (by exact True.intro), h2⟩) (fun p e R s m args below meth c H locs cells slots Qw ls hS _ hl kk => ?_) hk
  have hm : (i, mx_sh E (.inl (.int x))) ∈ lv.map (mx_shl E) := List.mem_map.mpr ⟨_, mx_get_mem hg, rfl⟩
  obtain ⟨k, hk1, hk2⟩ := List.mem_iff_getElem.mp hm
  exact lv_iinc (k := k) hS.1 hS.2.1 hd hl (by rw [List.getElem?_eq_getElem hk1, hk2]; rfl) rfl hn (mx_set1_map E lv i (.inl (.int (x + Int32.ofInt n)))) kk
/-- one value made of the topmost -/
theorem mx_op1 {u v : mx_V} {k : Nat} (hv : mx_wf h.1 v)
    (hstep : ∀ (p : Program) (e : Env) (R : Room) (s : State) (m : MethodId) (args : Array Value) (below : List Frame) (meth : Method) (c : Code) (H : Heap) (locs : List Loc) (cells slots : Nat) (Qw : State → Prop) (ls : Array Slot),
      mx_S E d mid p R s m args meth c → W p E.1 e R s m args below meth c H locs cells slots Qw (F0 m (pc + k) ls (mx_sh E v :: st.map (mx_sh E))) → W p E.1 e R s m args below meth c H locs cells slots Qw (F0 m pc ls (mx_sh E u :: st.map (mx_sh E))))
    (hk : mx_T0 E fin d bc bs mid (pc + k) lv (v :: st) h Q) : mx_T0 E fin d bc bs mid pc lv (u :: st) h Q :=
  mx_go (fun h1 h2 => ⟨h1, fun x hx => (List.mem_cons.mp hx).elim (fun e => e ▸ hv) (fun hx => h2 x (List.mem_cons_of_mem _ hx))⟩) (fun p e R s m args below meth c H locs cells slots Qw ls hS _ hl kk => hstep p e R s m args below meth c H locs cells slots Qw ls hS (kk ls hl)) hk
theorem mx_op2 {u w v : mx_V} {k : Nat} (hv : mx_wf h.1 v)
    (hstep : ∀ (p : Program) (e : Env) (R : Room) (s : State) (m : MethodId) (args : Array Value) (below : List Frame) (meth : Method) (c : Code) (H : Heap) (locs : List Loc) (cells slots : Nat) (Qw : State → Prop) (ls : Array Slot),
      mx_S E d mid p R s m args meth c → W p E.1 e R s m args below meth c H locs cells slots Qw (F0 m (pc + k) ls (mx_sh E v :: st.map (mx_sh E))) → W p E.1 e R s m args below meth c H locs cells slots Qw (F0 m pc ls (mx_sh E u :: mx_sh E w :: st.map (mx_sh E))))
    (hk : mx_T0 E fin d bc bs mid (pc + k) lv (v :: st) h Q) : mx_T0 E fin d bc bs mid pc lv (u :: w :: st) h Q :=
  mx_go (fun h1 h2 => ⟨h1, fun x hx => (List.mem_cons.mp hx).elim (fun e => e ▸ hv) (fun hx => h2 x (List.mem_cons_of_mem _ (List.mem_cons_of_mem _ hx)))⟩) (fun p e R s m args below meth c H locs cells slots Qw ls hS _ hl kk => hstep p e R s m args below meth c H locs cells slots Qw ls hS (kk ls hl)) hk
theorem mx_iadd {x y : Int32} (hd : decode (mx_by mid) pc = .ok (.iadd, 1)) (hk : mx_T0 E fin d bc bs mid (pc + 1) lv (.inl (.int (x + y)) :: st) h Q) : mx_T0 E fin d bc bs mid pc lv (.inl (.int y) :: .inl (.int x) :: st) h Q :=
  mx_op2 (by exact True.intro) (fun _ _ _ _ _ _ _ _ _ _ _ _ _ _ _ hS k => lv_iadd hS.1 hS.2.1 hd k) hk
theorem mx_isub {x y : Int32} (hd : decode (mx_by mid) pc = .ok (.isub, 1)) (hk : mx_T0 E fin d bc bs mid (pc + 1) lv (.inl (.int (x - y)) :: st) h Q) : mx_T0 E fin d bc bs mid pc lv (.inl (.int y) :: .inl (.int x) :: st) h Q :=
  mx_op2 (by exact True.intro) (fun _ _ _ _ _ _ _ _ _ _ _ _ _ _ _ hS k => lv_isub hS.1 hS.2.1 hd k) hk
theorem mx_imul {x y : Int32} (hd : decode (mx_by mid) pc = .ok (.imul, 1)) (hk : mx_T0 E fin d bc bs mid (pc + 1) lv (.inl (.int (x * y)) :: st) h Q) : mx_T0 E fin d bc bs mid pc lv (.inl (.int y) :: .inl (.int x) :: st) h Q :=
  mx_op2 (by exact True.intro) (fun _ _ _ _ _ _ _ _ _ _ _ _ _ _ _ hS k => lv_imul hS.1 hS.2.1 hd k) hk
theorem mx_iand {x y : Int32} (hd : decode (mx_by mid) pc = .ok (.iand, 1)) (hk : mx_T0 E fin d bc bs mid (pc + 1) lv (.inl (.int (x &&& y)) :: st) h Q) : mx_T0 E fin d bc bs mid pc lv (.inl (.int y) :: .inl (.int x) :: st) h Q :=
  mx_op2 (by exact True.intro) (fun _ _ _ _ _ _ _ _ _ _ _ _ _ _ _ hS k => lv_iand hS.1 hS.2.1 hd k) hk
theorem mx_ior {x y : Int32} (hd : decode (mx_by mid) pc = .ok (.ior, 1)) (hk : mx_T0 E fin d bc bs mid (pc + 1) lv (.inl (.int (x ||| y)) :: st) h Q) : mx_T0 E fin d bc bs mid pc lv (.inl (.int y) :: .inl (.int x) :: st) h Q :=
  mx_op2 (by exact True.intro) (fun _ _ _ _ _ _ _ _ _ _ _ _ _ _ _ hS k => lv_ior hS.1 hS.2.1 hd k) hk
theorem mx_ixor {x y : Int32} (hd : decode (mx_by mid) pc = .ok (.ixor, 1)) (hk : mx_T0 E fin d bc bs mid (pc + 1) lv (.inl (.int (x ^^^ y)) :: st) h Q) : mx_T0 E fin d bc bs mid pc lv (.inl (.int y) :: .inl (.int x) :: st) h Q :=
  mx_op2 (by exact True.intro) (fun _ _ _ _ _ _ _ _ _ _ _ _ _ _ _ hS k => lv_ixor hS.1 hS.2.1 hd k) hk
theorem mx_ishl {x y : Int32} (hd : decode (mx_by mid) pc = .ok (.ishl, 1)) (hk : mx_T0 E fin d bc bs mid (pc + 1) lv (.inl (.int (x <<< (y &&& 31))) :: st) h Q) : mx_T0 E fin d bc bs mid pc lv (.inl (.int y) :: .inl (.int x) :: st) h Q :=
  mx_op2 (by exact True.intro) (fun _ _ _ _ _ _ _ _ _ _ _ _ _ _ _ hS k => lv_ishl hS.1 hS.2.1 hd k) hk
theorem mx_ishr {x y : Int32} (hd : decode (mx_by mid) pc = .ok (.ishr, 1)) (hk : mx_T0 E fin d bc bs mid (pc + 1) lv (.inl (.int (x >>> (y &&& 31))) :: st) h Q) : mx_T0 E fin d bc bs mid pc lv (.inl (.int y) :: .inl (.int x) :: st) h Q :=
  mx_op2 (by exact True.intro) (fun _ _ _ _ _ _ _ _ _ _ _ _ _ _ _ hS k => lv_ishr hS.1 hS.2.1 hd k) hk
theorem mx_iushr {x y : Int32} (hd : decode (mx_by mid) pc = .ok (.iushr, 1)) (hk : mx_T0 E fin d bc bs mid (pc + 1) lv (.inl (.int (x.toUInt32 >>> (y.toUInt32 &&& Int32.toUInt32 31)).toInt32) :: st) h Q) : mx_T0 E fin d bc bs mid pc lv (.inl (.int y) :: .inl (.int x) :: st) h Q :=
  mx_op2 (by exact True.intro) (fun _ _ _ _ _ _ _ _ _ _ _ _ _ _ _ hS k => lv_iushr hS.1 hS.2.1 hd rfl k) hk
theorem mx_idiv {x y : Int32} (hd : decode (mx_by mid) pc = .ok (.idiv, 1)) (hne : ¬ y = 0) (hk : mx_T0 E fin d bc bs mid (pc + 1) lv (.inl (.int (x / y)) :: st) h Q) : mx_T0 E fin d bc bs mid pc lv (.inl (.int y) :: .inl (.int x) :: st) h Q :=
  mx_op2 (by exact True.intro) (fun _ _ _ _ _ _ _ _ _ _ _ _ _ _ _ hS k => lv_idiv hS.1 hS.2.1 hd hne k) hk
theorem mx_irem {x y : Int32} (hd : decode (mx_by mid) pc = .ok (.irem, 1)) (hne : ¬ y = 0) (hk : mx_T0 E fin d bc bs mid (pc + 1) lv (.inl (.int (x - x / y * y)) :: st) h Q) : mx_T0 E fin d bc bs mid pc lv (.inl (.int y) :: .inl (.int x) :: st) h Q :=
  mx_op2 (by exact True.intro) (fun _ _ _ _ _ _ _ _ _ _ _ _ _ _ _ hS k => lv_irem hS.1 hS.2.1 hd hne k) hk
theorem mx_ladd {x y : Int64} (hd : decode (mx_by mid) pc = .ok (.ladd, 1)) (hk : mx_T0 E fin d bc bs mid (pc + 1) lv (.inl (.long (x + y)) :: st) h Q) : mx_T0 E fin d bc bs mid pc lv (.inl (.long y) :: .inl (.long x) :: st) h Q :=
  mx_op2 (by exact True.intro) (fun _ _ _ _ _ _ _ _ _ _ _ _ _ _ _ hS k => lv_ladd hS.1 hS.2.1 hd k) hk
theorem mx_lsub {x y : Int64} (hd : decode (mx_by mid) pc = .ok (.lsub, 1)) (hk : mx_T0 E fin d bc bs mid (pc + 1) lv (.inl (.long (x - y)) :: st) h Q) : mx_T0 E fin d bc bs mid pc lv (.inl (.long y) :: .inl (.long x) :: st) h Q :=
  mx_op2 (by exact True.intro) (fun _ _ _ _ _ _ _ _ _ _ _ _ _ _ _ hS k => lv_lsub hS.1 hS.2.1 hd k) hk
theorem mx_lmul {x y : Int64} (hd : decode (mx_by mid) pc = .ok (.lmul, 1)) (hk : mx_T0 E fin d bc bs mid (pc + 1) lv (.inl (.long (x * y)) :: st) h Q) : mx_T0 E fin d bc bs mid pc lv (.inl (.long y) :: .inl (.long x) :: st) h Q :=
  mx_op2 (by exact True.intro) (fun _ _ _ _ _ _ _ _ _ _ _ _ _ _ _ hS k => lv_lmul hS.1 hS.2.1 hd k) hk
theorem mx_land {x y : Int64} (hd : decode (mx_by mid) pc = .ok (.land, 1)) (hk : mx_T0 E fin d bc bs mid (pc + 1) lv (.inl (.long (x &&& y)) :: st) h Q) : mx_T0 E fin d bc bs mid pc lv (.inl (.long y) :: .inl (.long x) :: st) h Q :=
  mx_op2 (by exact True.intro) (fun _ _ _ _ _ _ _ _ _ _ _ _ _ _ _ hS k => lv_land hS.1 hS.2.1 hd k) hk
theorem mx_lor {x y : Int64} (hd : decode (mx_by mid) pc = .ok (.lor, 1)) (hk : mx_T0 E fin d bc bs mid (pc + 1) lv (.inl (.long (x ||| y)) :: st) h Q) : mx_T0 E fin d bc bs mid pc lv (.inl (.long y) :: .inl (.long x) :: st) h Q :=
  mx_op2 (by exact True.intro) (fun _ _ _ _ _ _ _ _ _ _ _ _ _ _ _ hS k => lv_lor hS.1 hS.2.1 hd k) hk
theorem mx_ldiv {x y : Int64} (hd : decode (mx_by mid) pc = .ok (.ldiv, 1)) (hne : ¬ y = 0) (hk : mx_T0 E fin d bc bs mid (pc + 1) lv (.inl (.long (x / y)) :: st) h Q) : mx_T0 E fin d bc bs mid pc lv (.inl (.long y) :: .inl (.long x) :: st) h Q :=
  mx_op2 (by exact True.intro) (fun _ _ _ _ _ _ _ _ _ _ _ _ _ _ _ hS k => lv_ldiv hS.1 hS.2.1 hd hne k) hk
theorem mx_lshl {x : Int64} {y : Int32} (hd : decode (mx_by mid) pc = .ok (.lshl, 1)) (hk : mx_T0 E fin d bc bs mid (pc + 1) lv (.inl (.long (x <<< (y.toInt64 &&& 63))) :: st) h Q) : mx_T0 E fin d bc bs mid pc lv (.inl (.int y) :: .inl (.long x) :: st) h Q :=
  mx_op2 (by exact True.intro) (fun _ _ _ _ _ _ _ _ _ _ _ _ _ _ _ hS k => lv_lshl hS.1 hS.2.1 hd rfl k) hk
theorem mx_lcmp {x y : Int64} (hd : decode (mx_by mid) pc = .ok (.lcmp, 1)) (hk : mx_T0 E fin d bc bs mid (pc + 1) lv (.inl (.int (lg_cmp x y)) :: st) h Q) : mx_T0 E fin d bc bs mid pc lv (.inl (.long y) :: .inl (.long x) :: st) h Q :=
  mx_op2 (by exact True.intro) (fun _ _ _ _ _ _ _ _ _ _ _ _ _ _ _ hS k => W.lcmp hS.1 hS.2.1 hd k) hk
theorem mx_ineg {x : Int32} (hd : decode (mx_by mid) pc = .ok (.ineg, 1)) (hk : mx_T0 E fin d bc bs mid (pc + 1) lv (.inl (.int (-x)) :: st) h Q) : mx_T0 E fin d bc bs mid pc lv (.inl (.int x) :: st) h Q :=
  mx_op1 (by exact True.intro) (fun _ _ _ _ _ _ _ _ _ _ _ _ _ _ _ hS k => lv_ineg hS.1 hS.2.1 hd k) hk
theorem mx_lneg {x : Int64} (hd : decode (mx_by mid) pc = .ok (.lneg, 1)) (hk : mx_T0 E fin d bc bs mid (pc + 1) lv (.inl (.long (-x)) :: st) h Q) : mx_T0 E fin d bc bs mid pc lv (.inl (.long x) :: st) h Q :=
  mx_op1 (by exact True.intro) (fun _ _ _ _ _ _ _ _ _ _ _ _ _ _ _ hS k => lv_lneg hS.1 hS.2.1 hd k) hk
theorem mx_i2l {x : Int32} (hd : decode (mx_by mid) pc = .ok (.i2l, 1)) (hk : mx_T0 E fin d bc bs mid (pc + 1) lv (.inl (.long x.toInt64) :: st) h Q) : mx_T0 E fin d bc bs mid pc lv (.inl (.int x) :: st) h Q :=
  mx_op1 (by exact True.intro) (fun _ _ _ _ _ _ _ _ _ _ _ _ _ _ _ hS k => lv_i2l hS.1 hS.2.1 hd rfl k) hk
theorem mx_l2i {x : Int64} (hd : decode (mx_by mid) pc = .ok (.l2i, 1)) (hk : mx_T0 E fin d bc bs mid (pc + 1) lv (.inl (.int x.toInt32) :: st) h Q) : mx_T0 E fin d bc bs mid pc lv (.inl (.long x) :: st) h Q :=
  mx_op1 (by exact True.intro) (fun _ _ _ _ _ _ _ _ _ _ _ _ _ _ _ hS k => lv_l2i hS.1 hS.2.1 hd rfl k) hk
theorem mx_i2b {x : Int32} (hd : decode (mx_by mid) pc = .ok (.i2b, 1)) (hk : mx_T0 E fin d bc bs mid (pc + 1) lv (.inl (.int x.toInt8.toInt32) :: st) h Q) : mx_T0 E fin d bc bs mid pc lv (.inl (.int x) :: st) h Q :=
  mx_op1 (by exact True.intro) (fun _ _ _ _ _ _ _ _ _ _ _ _ _ _ _ hS k => lv_i2b hS.1 hS.2.1 hd rfl k) hk
theorem mx_i2s {x : Int32} (hd : decode (mx_by mid) pc = .ok (.i2s, 1)) (hk : mx_T0 E fin d bc bs mid (pc + 1) lv (.inl (.int x.toInt16.toInt32) :: st) h Q) : mx_T0 E fin d bc bs mid pc lv (.inl (.int x) :: st) h Q :=
  mx_op1 (by exact True.intro) (fun _ _ _ _ _ _ _ _ _ _ _ _ _ _ _ hS k => lv_i2s hS.1 hS.2.1 hd rfl k) hk
theorem mx_goto {off : Int} {tgt : Nat} (hd : decode (mx_by mid) pc = .ok (.goto off, 3)) (ht : (pc : Int) + off = (tgt : Int)) (hk : mx_T0 E fin d bc bs mid tgt lv st h Q) : mx_T0 E fin d bc bs mid pc lv st h Q :=
  mx_go (fun h1 h2 => ⟨h1, h2⟩) (fun _ _ _ _ _ _ _ _ _ _ _ _ _ _ ls hS _ hl k => lv_goto hS.1 hS.2.1 hd ht (k ls hl)) hk
theorem mx_pop {v : mx_V} (hd : decode (mx_by mid) pc = .ok (.pop, 1)) (hv : mx_cat v = 1) (hk : mx_T0 E fin d bc bs mid (pc + 1) lv st h Q) : mx_T0 E fin d bc bs mid pc lv (v :: st) h Q :=
  mx_go (fun h1 h2 => ⟨h1, fun x hx => h2 x (List.mem_cons_of_mem _ hx)⟩) (fun _ _ _ _ _ _ _ _ _ _ _ _ _ _ ls hS _ hl k => lv_pop hS.1 hS.2.1 hd (by rw [mx_cat_sh]; exact hv) (k ls hl)) hk
theorem mx_pop2 {v : mx_V} (hd : decode (mx_by mid) pc = .ok (.pop2, 1)) (hv : mx_cat v = 2) (hk : mx_T0 E fin d bc bs mid (pc + 1) lv st h Q) : mx_T0 E fin d bc bs mid pc lv (v :: st) h Q :=
  mx_go (fun h1 h2 => ⟨h1, fun x hx => h2 x (List.mem_cons_of_mem _ hx)⟩) (fun _ _ _ _ _ _ _ _ _ _ _ _ _ _ ls hS _ hl k => lv_pop2_2 hS.1 hS.2.1 hd (by rw [mx_cat_sh]; exact hv) (k ls hl)) hk
theorem mx_dup {v : mx_V} (hd : decode (mx_by mid) pc = .ok (.dup, 1)) (hv : mx_cat v = 1) (hk : mx_T0 E fin d bc bs mid (pc + 1) lv (v :: v :: st) h Q) : mx_T0 E fin d bc bs mid pc lv (v :: st) h Q :=
  mx_go (fun h1 h2 => ⟨h1, fun x hx => (List.mem_cons.mp hx).elim (fun e => h2 x (e ▸ List.mem_cons_self)) (h2 x)⟩) (fun _ _ _ _ _ _ _ _ _ _ _ _ _ _ ls hS _ hl k => lv_dup hS.1 hS.2.1 hd (by rw [mx_cat_sh]; exact hv) (k ls hl)) hk
theorem mx_dup2 {v u : mx_V} (hd : decode (mx_by mid) pc = .ok (.dup2, 1)) (hv : mx_cat v = 1) (hu : mx_cat u = 1) (hk : mx_T0 E fin d bc bs mid (pc + 1) lv (v :: u :: v :: u :: st) h Q) : mx_T0 E fin d bc bs mid pc lv (v :: u :: st) h Q :=
  mx_go (fun h1 h2 => ⟨h1, fun x hx => by
    rcases List.mem_cons.mp hx with rfl | hx
    · exact h2 _ List.mem_cons_self
    · rcases List.mem_cons.mp hx with rfl | hx
      · exact h2 _ (List.mem_cons_of_mem _ List.mem_cons_self)
      · exact h2 x hx⟩) (fun _ _ _ _ _ _ _ _ _ _ _ _ _ _ ls hS _ hl k => lv_dup2_11 hS.1 hS.2.1 hd (by rw [mx_cat_sh]; exact hv) (by rw [mx_cat_sh]; exact hu) (k ls hl)) hk
/-- a branch on the topmost: both ways -/
theorem mx_br {c : Prop} {u : List mx_V} {t1 t2 : Nat}
    (hstep : ∀ (p : Program) (e : Env) (R : Room) (s : State) (m : MethodId) (args : Array Value) (below : List Frame) (meth : Method) (cd : Code) (H : Heap) (locs : List Loc) (cells slots : Nat) (Qw : State → Prop) (ls : Array Slot),
      mx_S E d mid p R s m args meth cd → (c → W p E.1 e R s m args below meth cd H locs cells slots Qw (F0 m t1 ls (st.map (mx_sh E)))) → (¬ c → W p E.1 e R s m args below meth cd H locs cells slots Qw (F0 m t2 ls (st.map (mx_sh E)))) → W p E.1 e R s m args below meth cd H locs cells slots Qw (F0 m pc ls ((u ++ st).map (mx_sh E))))
    (h1 : c → mx_T0 E fin d bc bs mid t1 lv st h Q) (h2 : ¬ c → mx_T0 E fin d bc bs mid t2 lv st h Q) : mx_T0 E fin d bc bs mid pc lv (u ++ st) h Q :=
  fun p e R s m args below meth cd H locs cells slots Qw ls hS hD q1 q2 q3 q4 q5 q6 =>
    hstep p e R s m args below meth cd H locs cells slots Qw ls hS (fun hc => h1 hc p e R s m args below meth cd H locs cells slots Qw ls hS hD q1 q2 q3 (fun v hv => q4 v (List.mem_append_right _ hv)) q5 q6)
      (fun hc => h2 hc p e R s m args below meth cd H locs cells slots Qw ls hS hD q1 q2 q3 (fun v hv => q4 v (List.mem_append_right _ hv)) q5 q6)
theorem mx_if_eq {x : Int32} {off : Int} {tgt : Nat} (hd : decode (mx_by mid) pc = .ok (.ifCond .eq off, 3)) (ht : (pc : Int) + off = (tgt : Int)) (h1 : x = 0 → mx_T0 E fin d bc bs mid tgt lv st h Q) (h2 : ¬ (x = 0) → mx_T0 E fin d bc bs mid (pc + 3) lv st h Q) : mx_T0 E fin d bc bs mid pc lv (.inl (.int x) :: st) h Q :=
  mx_br (u := [.inl (.int x)]) (fun _ _ _ _ _ _ _ _ _ _ _ _ _ _ _ hS k1 k2 => lv_if_eq hS.1 hS.2.1 hd ht k1 k2) h1 h2
theorem mx_ic_eq {x y : Int32} {off : Int} {tgt : Nat} (hd : decode (mx_by mid) pc = .ok (.if_icmp .eq off, 3)) (ht : (pc : Int) + off = (tgt : Int)) (h1 : x = y → mx_T0 E fin d bc bs mid tgt lv st h Q) (h2 : ¬ (x = y) → mx_T0 E fin d bc bs mid (pc + 3) lv st h Q) : mx_T0 E fin d bc bs mid pc lv (.inl (.int y) :: .inl (.int x) :: st) h Q :=
  mx_br (u := [.inl (.int y), .inl (.int x)]) (fun _ _ _ _ _ _ _ _ _ _ _ _ _ _ _ hS k1 k2 => lv_icmp_eq hS.1 hS.2.1 hd ht k1 k2) h1 h2
theorem mx_if_ne {x : Int32} {off : Int} {tgt : Nat} (hd : decode (mx_by mid) pc = .ok (.ifCond .ne off, 3)) (ht : (pc : Int) + off = (tgt : Int)) (h1 : x ≠ 0 → mx_T0 E fin d bc bs mid tgt lv st h Q) (h2 : ¬ (x ≠ 0) → mx_T0 E fin d bc bs mid (pc + 3) lv st h Q) : mx_T0 E fin d bc bs mid pc lv (.inl (.int x) :: st) h Q :=
  mx_br (u := [.inl (.int x)]) (fun _ _ _ _ _ _ _ _ _ _ _ _ _ _ _ hS k1 k2 => lv_if_ne hS.1 hS.2.1 hd ht k1 (fun q => k2 (fun n => n q))) h1 h2
theorem mx_ic_ne {x y : Int32} {off : Int} {tgt : Nat} (hd : decode (mx_by mid) pc = .ok (.if_icmp .ne off, 3)) (ht : (pc : Int) + off = (tgt : Int)) (h1 : x ≠ y → mx_T0 E fin d bc bs mid tgt lv st h Q) (h2 : ¬ (x ≠ y) → mx_T0 E fin d bc bs mid (pc + 3) lv st h Q) : mx_T0 E fin d bc bs mid pc lv (.inl (.int y) :: .inl (.int x) :: st) h Q :=
  mx_br (u := [.inl (.int y), .inl (.int x)]) (fun _ _ _ _ _ _ _ _ _ _ _ _ _ _ _ hS k1 k2 => lv_icmp_ne hS.1 hS.2.1 hd ht k1 (fun q => k2 (fun n => n q))) h1 h2
theorem mx_if_lt {x : Int32} {off : Int} {tgt : Nat} (hd : decode (mx_by mid) pc = .ok (.ifCond .lt off, 3)) (ht : (pc : Int) + off = (tgt : Int)) (h1 : x < 0 → mx_T0 E fin d bc bs mid tgt lv st h Q) (h2 : ¬ (x < 0) → mx_T0 E fin d bc bs mid (pc + 3) lv st h Q) : mx_T0 E fin d bc bs mid pc lv (.inl (.int x) :: st) h Q :=
  mx_br (u := [.inl (.int x)]) (fun _ _ _ _ _ _ _ _ _ _ _ _ _ _ _ hS k1 k2 => lv_if_lt hS.1 hS.2.1 hd ht k1 k2) h1 h2
theorem mx_ic_lt {x y : Int32} {off : Int} {tgt : Nat} (hd : decode (mx_by mid) pc = .ok (.if_icmp .lt off, 3)) (ht : (pc : Int) + off = (tgt : Int)) (h1 : x < y → mx_T0 E fin d bc bs mid tgt lv st h Q) (h2 : ¬ (x < y) → mx_T0 E fin d bc bs mid (pc + 3) lv st h Q) : mx_T0 E fin d bc bs mid pc lv (.inl (.int y) :: .inl (.int x) :: st) h Q :=
  mx_br (u := [.inl (.int y), .inl (.int x)]) (fun _ _ _ _ _ _ _ _ _ _ _ _ _ _ _ hS k1 k2 => lv_icmp_lt hS.1 hS.2.1 hd ht k1 k2) h1 h2
theorem mx_if_ge {x : Int32} {off : Int} {tgt : Nat} (hd : decode (mx_by mid) pc = .ok (.ifCond .ge off, 3)) (ht : (pc : Int) + off = (tgt : Int)) (h1 : 0 ≤ x → mx_T0 E fin d bc bs mid tgt lv st h Q) (h2 : ¬ (0 ≤ x) → mx_T0 E fin d bc bs mid (pc + 3) lv st h Q) : mx_T0 E fin d bc bs mid pc lv (.inl (.int x) :: st) h Q :=
  mx_br (u := [.inl (.int x)]) (fun _ _ _ _ _ _ _ _ _ _ _ _ _ _ _ hS k1 k2 => lv_if_ge hS.1 hS.2.1 hd ht k1 k2) h1 h2
theorem mx_ic_ge {x y : Int32} {off : Int} {tgt : Nat} (hd : decode (mx_by mid) pc = .ok (.if_icmp .ge off, 3)) (ht : (pc : Int) + off = (tgt : Int)) (h1 : y ≤ x → mx_T0 E fin d bc bs mid tgt lv st h Q) (h2 : ¬ (y ≤ x) → mx_T0 E fin d bc bs mid (pc + 3) lv st h Q) : mx_T0 E fin d bc bs mid pc lv (.inl (.int y) :: .inl (.int x) :: st) h Q :=
  mx_br (u := [.inl (.int y), .inl (.int x)]) (fun _ _ _ _ _ _ _ _ _ _ _ _ _ _ _ hS k1 k2 => lv_icmp_ge hS.1 hS.2.1 hd ht k1 k2) h1 h2
theorem mx_if_gt {x : Int32} {off : Int} {tgt : Nat} (hd : decode (mx_by mid) pc = .ok (.ifCond .gt off, 3)) (ht : (pc : Int) + off = (tgt : Int)) (h1 : 0 < x → mx_T0 E fin d bc bs mid tgt lv st h Q) (h2 : ¬ (0 < x) → mx_T0 E fin d bc bs mid (pc + 3) lv st h Q) : mx_T0 E fin d bc bs mid pc lv (.inl (.int x) :: st) h Q :=
  mx_br (u := [.inl (.int x)]) (fun _ _ _ _ _ _ _ _ _ _ _ _ _ _ _ hS k1 k2 => lv_if_gt hS.1 hS.2.1 hd ht k1 k2) h1 h2
theorem mx_ic_gt {x y : Int32} {off : Int} {tgt : Nat} (hd : decode (mx_by mid) pc = .ok (.if_icmp .gt off, 3)) (ht : (pc : Int) + off = (tgt : Int)) (h1 : y < x → mx_T0 E fin d bc bs mid tgt lv st h Q) (h2 : ¬ (y < x) → mx_T0 E fin d bc bs mid (pc + 3) lv st h Q) : mx_T0 E fin d bc bs mid pc lv (.inl (.int y) :: .inl (.int x) :: st) h Q :=
  mx_br (u := [.inl (.int y), .inl (.int x)]) (fun _ _ _ _ _ _ _ _ _ _ _ _ _ _ _ hS k1 k2 => lv_icmp_gt hS.1 hS.2.1 hd ht k1 k2) h1 h2
theorem mx_if_le {x : Int32} {off : Int} {tgt : Nat} (hd : decode (mx_by mid) pc = .ok (.ifCond .le off, 3)) (ht : (pc : Int) + off = (tgt : Int)) (h1 : x ≤ 0 → mx_T0 E fin d bc bs mid tgt lv st h Q) (h2 : ¬ (x ≤ 0) → mx_T0 E fin d bc bs mid (pc + 3) lv st h Q) : mx_T0 E fin d bc bs mid pc lv (.inl (.int x) :: st) h Q :=
  mx_br (u := [.inl (.int x)]) (fun _ _ _ _ _ _ _ _ _ _ _ _ _ _ _ hS k1 k2 => lv_if_le hS.1 hS.2.1 hd ht k1 k2) h1 h2
theorem mx_ic_le {x y : Int32} {off : Int} {tgt : Nat} (hd : decode (mx_by mid) pc = .ok (.if_icmp .le off, 3)) (ht : (pc : Int) + off = (tgt : Int)) (h1 : x ≤ y → mx_T0 E fin d bc bs mid tgt lv st h Q) (h2 : ¬ (x ≤ y) → mx_T0 E fin d bc bs mid (pc + 3) lv st h Q) : mx_T0 E fin d bc bs mid pc lv (.inl (.int y) :: .inl (.int x) :: st) h Q :=
  mx_br (u := [.inl (.int y), .inl (.int x)]) (fun _ _ _ _ _ _ _ _ _ _ _ _ _ _ _ hS k1 k2 => lv_icmp_le hS.1 hS.2.1 hd ht k1 k2) h1 h2
theorem mx_ifnull_r {a : mx_A} {off : Int} (hd : decode (mx_by mid) pc = .ok (.ifnull off, 3)) (hk : mx_T0 E fin d bc bs mid (pc + 3) lv st h Q) : mx_T0 E fin d bc bs mid pc lv (.inr a :: st) h Q :=
  mx_go (fun h1 h2 => ⟨h1, fun x hx => h2 x (List.mem_cons_of_mem _ hx)⟩) (fun _ _ _ _ _ _ _ _ _ _ _ _ _ _ ls hS _ hl k => lv_ifnull hS.1 hS.2.1 hd (k ls hl)) hk
theorem mx_ifnull_n {off : Int} {tgt : Nat} (hd : decode (mx_by mid) pc = .ok (.ifnull off, 3)) (ht : (pc : Int) + off = (tgt : Int)) (hk : mx_T0 E fin d bc bs mid tgt lv st h Q) : mx_T0 E fin d bc bs mid pc lv (.inl .null :: st) h Q :=
  mx_go (fun h1 h2 => ⟨h1, fun x hx => h2 x (List.mem_cons_of_mem _ hx)⟩) (fun _ _ _ _ _ _ _ _ _ _ _ _ _ _ ls hS _ hl k => lv_ifnullN hS.1 hS.2.1 hd ht (k ls hl)) hk
theorem mx_ifnn_r {a : mx_A} {off : Int} {tgt : Nat} (hd : decode (mx_by mid) pc = .ok (.ifnonnull off, 3)) (ht : (pc : Int) + off = (tgt : Int)) (hk : mx_T0 E fin d bc bs mid tgt lv st h Q) : mx_T0 E fin d bc bs mid pc lv (.inr a :: st) h Q :=
  mx_go (fun h1 h2 => ⟨h1, fun x hx => h2 x (List.mem_cons_of_mem _ hx)⟩) (fun _ _ _ _ _ _ _ _ _ _ _ _ _ _ ls hS _ hl k => lv_ifnonnull hS.1 hS.2.1 hd ht (k ls hl)) hk
theorem mx_ifnn_n {off : Int} (hd : decode (mx_by mid) pc = .ok (.ifnonnull off, 3)) (hk : mx_T0 E fin d bc bs mid (pc + 3) lv st h Q) : mx_T0 E fin d bc bs mid pc lv (.inl .null :: st) h Q :=
  mx_go (fun h1 h2 => ⟨h1, fun x hx => h2 x (List.mem_cons_of_mem _ hx)⟩) (fun _ _ _ _ _ _ _ _ _ _ _ _ _ _ ls hS _ hl k => lv_ifnonnullN hS.1 hS.2.1 hd (k ls hl)) hk
theorem mx_tsw {dflt lo hi : Int} {offs : Array Int} {len : Nat} {x : Int32} (hd : decode (mx_by mid) pc = .ok (.tableswitch dflt lo hi offs, len)) (h0 : 0 ≤ (pc : Int) + dflt) (h9 : ∀ o ∈ offs, 0 ≤ (pc : Int) + o) (hz : (hi - lo + 1).toNat ≤ offs.size)
    (hk : ∀ tgt : Nat, ((x.toInt < lo ∨ hi < x.toInt) ∧ (pc : Int) + dflt = tgt) ∨ (lo ≤ x.toInt ∧ x.toInt ≤ hi ∧ ∃ o, offs[(x.toInt - lo).toNat]? = some o ∧ (pc : Int) + o = tgt) → mx_T0 E fin d bc bs mid tgt lv st h Q) : mx_T0 E fin d bc bs mid pc lv (.inl (.int x) :: st) h Q := by
  by_cases hc : x.toInt < lo ∨ hi < x.toInt
  · refine mx_go (pc' := ((pc : Int) + dflt).toNat) (fun h1 h2 => ⟨h1, fun x hx => h2 x (List.mem_cons_of_mem _ hx)⟩) (fun _ _ _ _ _ _ _ _ _ _ _ _ _ _ ls hS _ hl k => lv_tableOut hS.1 hS.2.1 hd hc (by omega) (k ls hl)) (hk _ (Or.inl ⟨hc, by omega⟩))
  · have hb : (x.toInt - lo).toNat < offs.size := by omega
    have ho : offs[(x.toInt - lo).toNat]? = some offs[(x.toInt - lo).toNat] := Array.getElem?_eq_getElem hb
    have hp := h9 _ (Array.getElem_mem hb)
    refine mx_go (pc' := ((pc : Int) + offs[(x.toInt - lo).toNat]).toNat) (fun h1 h2 => ⟨h1, fun x hx => h2 x (List.mem_cons_of_mem _ hx)⟩) (fun _ _ _ _ _ _ _ _ _ _ _ _ _ _ ls hS _ hl k => lv_tableIn hS.1 hS.2.1 hd (by omega) (by omega) ho (by omega) (k ls hl)) (hk _ (Or.inr ⟨by omega, by omega, _, ho, by omega⟩))
theorem mx_lsw {dflt : Int} {ps : Array (Int × Int)} {len : Nat} {x : Int32} (hd : decode (mx_by mid) pc = .ok (.lookupswitch dflt ps, len)) (hp : (ps.toList.zip (ps.toList.drop 1)).all (fun (a, next) => a.1 < next.1) = true) (h0 : 0 ≤ (pc : Int) + Op.lookupswitch.offset ps.toList dflt x.toInt)
    (hk : mx_T0 E fin d bc bs mid ((pc : Int) + Op.lookupswitch.offset ps.toList dflt x.toInt).toNat lv st h Q) : mx_T0 E fin d bc bs mid pc lv (.inl (.int x) :: st) h Q :=
  mx_go (fun h1 h2 => ⟨h1, fun x hx => h2 x (List.mem_cons_of_mem _ hx)⟩) (fun _ _ _ _ _ _ _ _ _ _ _ _ _ _ ls hS _ hl k => lv_lookup hS.1 hS.2.1 hd hp rfl (by omega) (k ls hl)) hk
/-- the method's end -/
theorem mx_end {v : Option mx_V} {ins : Instr} (hd : decode (mx_by mid) pc = .ok (ins, 1)) (hr : mx_rk (mx_rt mid) ins v) (hq : Q v h) : mx_T0 E fin d bc bs mid pc lv v.toList h Q :=
  fun p e R s m args below meth cd H locs cells slots Qw ls hS hD q1 q2 q3 q4 q5 q6 => q6 v h H locs cells slots pc ls ins hq hD (Nat.le_refl _) (Nat.le_add_right _ _) (Nat.le_add_right _ _) (fun x hx => by subst hx; exact q4 x List.mem_cons_self) hd hr
end MXR
/-! ===== one instruction at a time: the heap ===== -/
def mx_up {α : Type} (f : mx_A → Nat → α) (a : mx_A) (i : Nat) (v : α) : mx_A → Nat → α := fun b j => if b = a ∧ j = i then v else f b j
def mx_uI (h : mx_H) (a : mx_A) (i : Nat) (v : Int32) : mx_H := (h.1, mx_up h.2.1 a i v, h.2.2.1, h.2.2.2)
def mx_uL (h : mx_H) (a : mx_A) (i : Nat) (v : Int64) : mx_H := (h.1, h.2.1, mx_up h.2.2.1 a i v, h.2.2.2)
def mx_uR (h : mx_H) (a : mx_A) (i : Nat) (v : Option mx_A) : mx_H := (h.1, h.2.1, h.2.2.1, mx_up h.2.2.2 a i v)
theorem mx_up_ne {α : Type} {f : mx_A → Nat → α} {a b : mx_A} {i : Nat} {v : α} (h : b ≠ a) : mx_up f a i v b = f b := by
  funext j
  exact if_neg (fun q => h q.1)
theorem mx_up_eq {α : Type} {f : mx_A → Nat → α} {a : mx_A} {i : Nat} {v : α} : mx_up f a i v a = fun j => if j = i then v else f a j := by
  funext j
  unfold mx_up
  by_cases e : j = i
  · rw [if_pos ⟨rfl, e⟩, if_pos e]
  · rw [if_neg (fun q => e q.2), if_neg e]
theorem mx_fv_uI {E : mx_Ev} {h : mx_H} {a b : mx_A} {i : Nat} {v : Int32} (hb : b ≠ a) : mx_fv E (mx_uI h a i v) b = mx_fv E h b := by
  funext ci j
  simp only [mx_fv, mx_uI, mx_up_ne hb]
theorem mx_ar_uI {E : mx_Ev} {h : mx_H} {a b : mx_A} {i : Nat} {v : Int32} (hb : b ≠ a) : mx_ar E (mx_uI h a i v) b = mx_ar E h b := by
  funext kd
  simp only [mx_ar, mx_uI, mx_up_ne hb]
theorem mx_cell_uI {E : mx_Ev} {h : mx_H} {a b : mx_A} {i : Nat} {v : Int32} (hb : b ≠ a) : mx_cell E (mx_uI h a i v) b = mx_cell E h b := by
  unfold mx_cell
  rw [mx_fv_uI hb, mx_ar_uI hb]
theorem mx_fv_uL {E : mx_Ev} {h : mx_H} {a b : mx_A} {i : Nat} {v : Int64} (hb : b ≠ a) : mx_fv E (mx_uL h a i v) b = mx_fv E h b := by
  funext ci j
  simp only [mx_fv, mx_uL, mx_up_ne hb]
theorem mx_ar_uL {E : mx_Ev} {h : mx_H} {a b : mx_A} {i : Nat} {v : Int64} (hb : b ≠ a) : mx_ar E (mx_uL h a i v) b = mx_ar E h b := by
  funext kd
  simp only [mx_ar, mx_uL, mx_up_ne hb]
theorem mx_cell_uL {E : mx_Ev} {h : mx_H} {a b : mx_A} {i : Nat} {v : Int64} (hb : b ≠ a) : mx_cell E (mx_uL h a i v) b = mx_cell E h b := by
  unfold mx_cell
  rw [mx_fv_uL hb, mx_ar_uL hb]
theorem mx_fv_uR {E : mx_Ev} {h : mx_H} {a b : mx_A} {i : Nat} {v : Option mx_A} (hb : b ≠ a) : mx_fv E (mx_uR h a i v) b = mx_fv E h b := by
  funext ci j
  simp only [mx_fv, mx_uR, mx_up_ne hb]
theorem mx_ar_uR {E : mx_Ev} {h : mx_H} {a b : mx_A} {i : Nat} {v : Option mx_A} (hb : b ≠ a) : mx_ar E (mx_uR h a i v) b = mx_ar E h b := by
  funext kd
  simp only [mx_ar, mx_uR, mx_up_ne hb]
theorem mx_cell_uR {E : mx_Ev} {h : mx_H} {a b : mx_A} {i : Nat} {v : Option mx_A} (hb : b ≠ a) : mx_cell E (mx_uR h a i v) b = mx_cell E h b := by
  unfold mx_cell
  rw [mx_fv_uR hb, mx_ar_uR hb]
theorem mx_cell_i {E : mx_Ev} {h : mx_H} {a : mx_A} {kd : Nat} (hl : (mx_lo a).1 = kd) (hk : kd = 100 ∨ kd = 102 ∨ kd = 103) : mx_cell E h a = .inl (mx_aC E (kd - 100), (mx_lo a).2, .inl (h.2.1 a)) := by
  unfold mx_cell mx_ar
  rw [hl]
  rcases hk with rfl | rfl | rfl <;> rfl
theorem mx_cell_l {E : mx_Ev} {h : mx_H} {a : mx_A} (hl : (mx_lo a).1 = 101) : mx_cell E h a = .inl (mx_aC E 1, (mx_lo a).2, .inr (.inl (h.2.2.1 a))) := by
  unfold mx_cell mx_ar
  rw [hl]
  rfl
theorem mx_cell_q {E : mx_Ev} {h : mx_H} {a : mx_A} {kd : Nat} (hl : (mx_lo a).1 = kd) (hk : kd = 104 ∨ kd = 105) : mx_cell E h a = .inl (mx_aC E (kd - 100), (mx_lo a).2, .inr (.inr (.inr (.inr (fun j => (h.2.2.2 a j).map (mx_ad E)))))) := by
  unfold mx_cell mx_ar
  rw [hl]
  rcases hk with rfl | rfl <;> rfl
theorem mx_cell_o {E : mx_Ev} {h : mx_H} {a : mx_A} {ci : Nat} (hl : (mx_lo a).1 = ci) (hc : ci < 100) : mx_cell E h a = .inr (ci, (List.range (mx_lo a).2).map (mx_fv E h a ci)) := by
  unfold mx_cell
  rw [hl, if_pos hc]
theorem mx_D_set {E : mx_Ev} {fin : mx_A → Nat → Option mx_A} {h h' : mx_H} {s : State} {H H1 : Heap} {locs : List Loc} {a : mx_A} {k : Nat} (hD : mx_D E fin h s H locs) (hn : h'.1 = h.1) (ha : mx_wfa h.1 a) (hs : ∀ b, mx_va b → b ≠ a → mx_cell E h' b = mx_cell E h b)
    (hc : va_at (mx_G E) vwCl (mx_ad E a, mx_cell E h' a) H1) (hz : H1.size = H.size) (oq : ∀ q : Nat, q ≠ mx_ad E a → H1[q]? = H[q]?) (hr : ∀ a k b, h'.2.2.2 a k = some b → mx_wfa h.1 b) (hf : ∀ a k b, fin a k = some b → mx_wfa h.1 a → h'.2.2.2 a k = some b) :
    mx_D E fin h' s H1 (locs ++ [⟨mx_ad E a, k⟩]) := by
  obtain ⟨hP, hA, hS, hZ, -, -⟩ := hD
  have hg := mx_W_get (E := E) ha
  refine ⟨?_, ?_, hS.put hz oq (Nat.le_add_right _ _), by rw [hz, hZ, hn], by rw [hn]; exact hr, by rw [hn]; exact hf⟩
  · rw [mx_W_ext hn ha hs]
    exact hP.set hA hg hc oq
  · rw [mx_W_ext hn ha hs]
    exact hA.set hg
theorem mx_old {E : mx_Ev} {fin : mx_A → Nat → Option mx_A} {h : mx_H} {s : State} {H : Heap} {locs : List Loc} (hD : mx_D E fin h s H locs) (hB : mx_B E ≤ s.heap.size) {q : Nat} (hq : q < mx_B E) : H[q]? = s.heap[q]? :=
  hD.2.2.1.2.1 q (Nat.lt_of_lt_of_le hq hB) (fun z => absurd z (Nat.not_le.mpr hq))
section MXH
variable {E : mx_Ev} {fin : mx_A → Nat → Option mx_A} {d bc bs mid pc : Nat} {lv : mx_Lv} {st : List mx_V} {h : mx_H} {Q : Option mx_V → mx_H → Prop}
/-- a value read from the heap takes the place of the topmost -/
theorem mx_read {u : List mx_V} {v : mx_V} {k : Nat} (hv : ∀ (s : State) (H : Heap) (locs : List Loc), mx_D E fin h s H locs → mx_wf h.1 v)
    (hstep : ∀ (p : Program) (e : Env) (R : Room) (s : State) (m : MethodId) (args : Array Value) (below : List Frame) (meth : Method) (c : Code) (H : Heap) (locs : List Loc) (cells slots : Nat) (Qw : State → Prop) (ls : Array Slot),
      mx_S E d mid p R s m args meth c → mx_D E fin h s H locs → (∀ x ∈ u, mx_wf h.1 x) → W p E.1 e R s m args below meth c H locs cells slots Qw (F0 m (pc + k) ls (mx_sh E v :: st.map (mx_sh E))) → W p E.1 e R s m args below meth c H locs cells slots Qw (F0 m pc ls ((u ++ st).map (mx_sh E))))
    (hk : mx_T0 E fin d bc bs mid (pc + k) lv (v :: st) h Q) : mx_T0 E fin d bc bs mid pc lv (u ++ st) h Q :=
  fun p e R s m args below meth c H locs cells slots Qw ls hS hD q1 q2 q3 q4 q5 q6 =>
    hstep p e R s m args below meth c H locs cells slots Qw ls hS hD (fun x hx => q4 x (List.mem_append_left _ hx))
      (hk p e R s m args below meth c H locs cells slots Qw ls hS hD q1 q2 q3 (fun x hx => (List.mem_cons.mp hx).elim (fun e => e ▸ hv s H locs hD) (fun hx => q4 x (List.mem_append_right _ hx))) q5 q6)
theorem mx_iaload {a : mx_A} {i : Int32} (hd : decode (mx_by mid) pc = .ok (.iaload, 1)) (hl : (mx_lo a).1 = 100) (hin : vp_in i (mx_lo a).2) (hk : mx_T0 E fin d bc bs mid (pc + 1) lv (.inl (.int (h.2.1 a i.toNatClampNeg)) :: st) h Q) : mx_T0 E fin d bc bs mid pc lv (.inl (.int i) :: .inr a :: st) h Q :=
  mx_read (u := [.inl (.int i), .inr a]) (fun _ _ _ _ => by exact True.intro) (fun _ _ _ _ _ _ _ _ _ _ _ _ _ _ _ hS hD hw k => va_iald hS.1 hS.2.1 hS.2.2.2.2.2.2.2.2.1.1 hD.1 (mx_pos a) 0 (by rw [mx_W_get (hw (.inr a) (by simp)), mx_cell_i hl (by simp)]) rfl hin hd k) hk
theorem mx_baload {a : mx_A} {i : Int32} (hd : decode (mx_by mid) pc = .ok (.baload, 1)) (hl : (mx_lo a).1 = 102) (hin : vp_in i (mx_lo a).2) (hk : mx_T0 E fin d bc bs mid (pc + 1) lv (.inl (.int (h.2.1 a i.toNatClampNeg)) :: st) h Q) : mx_T0 E fin d bc bs mid pc lv (.inl (.int i) :: .inr a :: st) h Q :=
  mx_read (u := [.inl (.int i), .inr a]) (fun _ _ _ _ => by exact True.intro) (fun _ _ _ _ _ _ _ _ _ _ _ _ _ _ _ hS hD hw k => va_bald hS.1 hS.2.1 hS.2.2.2.2.2.2.2.2.1.1 hD.1 (mx_pos a) 2 (by rw [mx_W_get (hw (.inr a) (by simp)), mx_cell_i hl (by simp)]) rfl hin hd k) hk
theorem mx_zaload {a : mx_A} {i : Int32} (hd : decode (mx_by mid) pc = .ok (.baload, 1)) (hl : (mx_lo a).1 = 103) (hin : vp_in i (mx_lo a).2) (hk : mx_T0 E fin d bc bs mid (pc + 1) lv (.inl (.int (h.2.1 a i.toNatClampNeg)) :: st) h Q) : mx_T0 E fin d bc bs mid pc lv (.inl (.int i) :: .inr a :: st) h Q :=
  mx_read (u := [.inl (.int i), .inr a]) (fun _ _ _ _ => by exact True.intro) (fun _ _ _ _ _ _ _ _ _ _ _ _ _ _ _ hS hD hw k => va_zald hS.1 hS.2.1 hS.2.2.2.2.2.2.2.2.1.1 hD.1 (mx_pos a) 3 (by rw [mx_W_get (hw (.inr a) (by simp)), mx_cell_i hl (by simp)]) rfl hin hd k) hk
theorem mx_laload {a : mx_A} {i : Int32} (hd : decode (mx_by mid) pc = .ok (.laload, 1)) (hl : (mx_lo a).1 = 101) (hin : vp_in i (mx_lo a).2) (hk : mx_T0 E fin d bc bs mid (pc + 1) lv (.inl (.long (h.2.2.1 a i.toNatClampNeg)) :: st) h Q) : mx_T0 E fin d bc bs mid pc lv (.inl (.int i) :: .inr a :: st) h Q :=
  mx_read (u := [.inl (.int i), .inr a]) (fun _ _ _ _ => by exact True.intro) (fun _ _ _ _ _ _ _ _ _ _ _ _ _ _ _ hS hD hw k => va_lald hS.1 hS.2.1 hS.2.2.2.2.2.2.2.2.1.1 hD.1 (mx_pos a) 1 (by rw [mx_W_get (hw (.inr a) (by simp)), mx_cell_l hl]) rfl hin hd k) hk
/-- a reference read: the cell's number, or null -/
def mx_ov : Option mx_A → mx_V
  | some a => .inr a
  | none => .inl .null
theorem mx_ov_sh (E : mx_Ev) (o : Option mx_A) : mx_sh E (mx_ov o) = va_rf (o.map (mx_ad E)) := by cases o <;> rfl
theorem mx_ov_wf {s : State} {H : Heap} {locs : List Loc} {a : mx_A} {k : Nat} (hD : mx_D E fin h s H locs) : mx_wf h.1 (mx_ov (h.2.2.2 a k)) := by
  cases hr : h.2.2.2 a k with
  | none => exact True.intro
  | some b => exact hD.2.2.2.2.1 a k b hr
theorem mx_aaload {a : mx_A} {i : Int32} (hd : decode (mx_by mid) pc = .ok (.aaload, 1)) (hl : (mx_lo a).1 = 104) (hin : vp_in i (mx_lo a).2) (hk : mx_T0 E fin d bc bs mid (pc + 1) lv (mx_ov (h.2.2.2 a i.toNatClampNeg) :: st) h Q) : mx_T0 E fin d bc bs mid pc lv (.inl (.int i) :: .inr a :: st) h Q :=
  mx_read (u := [.inl (.int i), .inr a]) (fun _ _ _ hD => mx_ov_wf hD) (fun _ _ _ _ _ _ _ _ _ _ _ _ _ _ _ hS hD hw k => va_aldq hS.1 hS.2.1 hS.2.2.2.2.2.2.2.2.1.1 hD.1 (mx_pos a) 4 (by rw [mx_W_get (hw (.inr a) (by simp)), mx_cell_q hl (by simp)]) rfl hin hd (by rw [mx_ov_sh] at k; exact k)) hk
theorem mx_aaload5 {a b : mx_A} {i : Int32} (hd : decode (mx_by mid) pc = .ok (.aaload, 1)) (hl : (mx_lo a).1 = 105) (hin : vp_in i (mx_lo a).2) (hfin : fin a i.toNatClampNeg = some b) (hk : mx_T0 E fin d bc bs mid (pc + 1) lv (.inr b :: st) h Q) : mx_T0 E fin d bc bs mid pc lv (.inl (.int i) :: .inr a :: st) h Q := by
  intro p e R s m args below meth c H locs cells slots Qw ls hS hD q1 q2 q3 q4 q5 q6
  have hwa : mx_wfa h.1 a := q4 (.inr a) (by simp)
  have hr : h.2.2.2 a i.toNatClampNeg = some b := hD.2.2.2.2.2 a _ b hfin hwa
  have kk := hk p e R s m args below meth c H locs cells slots Qw ls hS hD q1 q2 q3 (fun x hx => (List.mem_cons.mp hx).elim (fun e => e ▸ hD.2.2.2.2.1 a _ b hr) (fun hx => q4 x (List.mem_cons_of_mem _ (List.mem_cons_of_mem _ hx)))) q5 q6
  have hlt : i.toNatClampNeg < (mx_lo a).2 := Nat.not_le.mp fun q => hin (Or.inr q)
  have hc0 := hD.1 (mx_pos a) _ (mx_W_get hwa)
  rw [mx_cell_q hl (by simp)] at hc0
  have hc : H[mx_ad E a]? = some (arrV (mx_aC E 5) (mx_lo a).2 (fun j => va_rf ((h.2.2.2 a j).map (mx_ad E)))) := hc0
  refine W.aald hS.1 hS.2.1 hc ((hS.2.2.2.2.2.2.2.2.1.1.2 5 _ rfl).1 _ _) rfl (fun q => by cases q) (by rw [arrV_size]; exact hin) (arrV_read _ _ hlt) rfl rfl hd ?_
  rw [hr]
  exact kk
/-- arrays that stand still: the script, and the two of Parts -/
def mx_slen (E : mx_Ev) (u : UInt32) : Nat := if u = 0 then 6 else if u = 1 then 24 else mx_sn E
def mx_sval (E : mx_Ev) (u : UInt32) : Nat → Int32 := if u = 0 then mx_k0 else if u = 1 then mx_k1 else mx_sx E
theorem mx_sX {s : State} {H : Heap} {locs : List Loc} {u : UInt32} (hu : u = 0 ∨ u = 1 ∨ u = 2) (hN : mx_Nv E s s.heap) (hD : mx_D E fin h s H locs) : va_X (mx_sa E u.toNat) (mx_slen E u) (mx_sval E u) s H := by
  obtain ⟨-, -, -, -, -, -, x0, x1, x2, l0, l1, l2, -, hB⟩ := hN
  rcases hu with rfl | rfl | rfl
  · exact x0.kept (mx_old hD hB l0)
  · exact x1.kept (mx_old hD hB l1)
  · exact x2.kept (mx_old hD hB l2)
theorem mx_siald {u : UInt32} {i : Int32} (hu : u = 0 ∨ u = 1 ∨ u = 2) (hd : decode (mx_by mid) pc = .ok (.iaload, 1)) (hin : vp_in i (mx_slen E u)) (hk : mx_T0 E fin d bc bs mid (pc + 1) lv (.inl (.int (mx_sval E u i.toNatClampNeg)) :: st) h Q) : mx_T0 E fin d bc bs mid pc lv (.inl (.int i) :: .inl (.float u) :: st) h Q :=
  mx_read (u := [.inl (.int i), .inl (.float u)]) (fun _ _ _ _ => by exact True.intro) (fun _ _ _ _ _ _ _ _ _ _ _ _ _ _ _ hS hD hw k => by
    obtain ⟨scr, x1, x2, x3, x4, x5⟩ := mx_sX hu hS.2.2.2.2.2.2.2.2.1 hD
    exact W.iald hS.1 hS.2.1 x1 x2 x3 (by rw [x4]; exact hin) (x5 _ (Nat.not_le.mp fun q => hin (Or.inr q))) rfl rfl hd k) hk
theorem mx_salen {u : UInt32} (hu : u = 0 ∨ u = 1 ∨ u = 2) (hd : decode (mx_by mid) pc = .ok (.arraylength, 1)) (hk : mx_T0 E fin d bc bs mid (pc + 1) lv (.inl (.int (Int32.ofNat (mx_slen E u))) :: st) h Q) : mx_T0 E fin d bc bs mid pc lv (.inl (.float u) :: st) h Q :=
  mx_read (u := [.inl (.float u)]) (fun _ _ _ _ => by exact True.intro) (fun _ _ _ _ _ _ _ _ _ _ _ _ _ _ _ hS hD hw k => by
    obtain ⟨scr, x1, x2, x3, x4, x5⟩ := mx_sX hu hS.2.2.2.2.2.2.2.2.1 hD
    exact W.alen hS.1 hS.2.1 x1 x2 (by rw [x4]) rfl rfl hd k) hk
theorem mx_alen {a : mx_A} (hd : decode (mx_by mid) pc = .ok (.arraylength, 1)) (hl : (mx_lo a).1 = 100 ∨ (mx_lo a).1 = 101) (hk : mx_T0 E fin d bc bs mid (pc + 1) lv (.inl (.int (Int32.ofNat (mx_lo a).2)) :: st) h Q) : mx_T0 E fin d bc bs mid pc lv (.inr a :: st) h Q :=
  mx_read (u := [.inr a]) (fun _ _ _ _ => by exact True.intro) (fun _ _ _ _ _ _ _ _ _ _ _ _ _ _ _ hS hD hw k => by
    rcases hl with hl | hl
    · exact va_alen (x := ((mx_lo a).2, Sum.inl (h.2.1 a))) hS.1 hS.2.1 hS.2.2.2.2.2.2.2.2.1.1 hD.1 (mx_pos a) 0 (by rw [mx_W_get (hw (.inr a) (by simp)), mx_cell_i hl (by simp)]) rfl rfl hd k
    · exact va_alen (x := ((mx_lo a).2, Sum.inr (Sum.inl (h.2.2.1 a)))) hS.1 hS.2.1 hS.2.2.2.2.2.2.2.2.1.1 hD.1 (mx_pos a) 1 (by rw [mx_W_get (hw (.inr a) (by simp)), mx_cell_l hl]) rfl rfl hd k) hk
/-- a store: the heap changes in one cell -/
theorem mx_write {u : List mx_V} {a : mx_A} {h' : mx_H} {k : Nat} (hn : h'.1 = h.1)
    (hstep : ∀ (p : Program) (e : Env) (R : Room) (s : State) (m : MethodId) (args : Array Value) (below : List Frame) (meth : Method) (c : Code) (H : Heap) (locs : List Loc) (cells slots : Nat) (Qw : State → Prop) (ls : Array Slot),
      mx_S E d mid p R s m args meth c → mx_D E fin h s H locs → (∀ x ∈ u, mx_wf h.1 x) → (∀ (H1 : Heap) (locs1 : List Loc), mx_D E fin h' s H1 locs1 → W p E.1 e R s m args below meth c H1 locs1 cells slots Qw (F0 m (pc + k) ls (st.map (mx_sh E)))) → W p E.1 e R s m args below meth c H locs cells slots Qw (F0 m pc ls ((u ++ st).map (mx_sh E))))
    (hk : mx_T0 E fin d bc bs mid (pc + k) lv st h' Q) : mx_T0 E fin d bc bs mid pc lv (u ++ st) h Q :=
  fun p e R s m args below meth c H locs cells slots Qw ls hS hD q1 q2 q3 q4 q5 q6 =>
    hstep p e R s m args below meth c H locs cells slots Qw ls hS hD (fun x hx => q4 x (List.mem_append_left _ hx)) (fun H1 locs1 hD1 =>
      hk p e R s m args below meth c H1 locs1 cells slots Qw ls hS hD1 q1 q2 (by rw [hn]; exact q3) (by rw [hn]; exact fun x hx => q4 x (List.mem_append_right _ hx)) q5 (by rw [hn]; exact q6))
theorem mx_iastore {a : mx_A} {i : Int32} {x : Int32} (hd : decode (mx_by mid) pc = .ok (.iastore, 1)) (hl : (mx_lo a).1 = 100) (hin : vp_in i (mx_lo a).2) (hk : mx_T0 E fin d bc bs mid (pc + 1) lv st (mx_uI h a i.toNatClampNeg x) Q) : mx_T0 E fin d bc bs mid pc lv (.inl (.int x) :: .inl (.int i) :: .inr a :: st) h Q :=
  mx_write (h' := mx_uI h a i.toNatClampNeg x) (u := [.inl (.int x), .inl (.int i), .inr a]) (a := a) rfl (fun _ _ _ _ _ _ _ _ _ H _ _ _ _ _ hS hD hw k => by
    have hwa : mx_wfa h.1 a := hw (.inr a) (by simp)
    have hc0 := hD.1 (mx_pos a) _ (mx_W_get hwa)
    rw [mx_cell_i hl (by simp)] at hc0
    have hc : H[mx_ad E a]? = some (arrV (mx_aC E 0) (mx_lo a).2 (fun j => Value.int (h.2.1 a j))) := hc0
    refine W.iast hS.1 hS.2.1 hc ((hS.2.2.2.2.2.2.2.2.1.1.2 0 _ rfl).1 _ _) (fun q => by cases q) (by rw [arrV_size]; exact hin) rfl rfl hd fun H1 e z oq => ?_
    refine k H1 _ (mx_D_set (a := a) hD rfl hwa (fun b _ hb => mx_cell_uI hb) ?_ z oq hD.2.2.2.2.1 hD.2.2.2.2.2)
    rw [mx_cell_i hl (by simp)]
    show H1[mx_ad E a]? = some (vp_cell _ _)
    rw [e, vp_cell_i, arrV_store]
    refine congrArg some (congrArg (arrV _ _) (funext fun j => ?_))
    show updV _ _ _ j = Value.int (mx_up h.2.1 a _ x a j)
    rw [mx_up_eq]
    dsimp only [updV]
    split <;> rfl) hk
theorem mx_bastore {a : mx_A} {i : Int32} {x : Int32} (hd : decode (mx_by mid) pc = .ok (.bastore, 1)) (hl : (mx_lo a).1 = 102) (hin : vp_in i (mx_lo a).2) (hk : mx_T0 E fin d bc bs mid (pc + 1) lv st (mx_uI h a i.toNatClampNeg (vp_nar .byte x)) Q) : mx_T0 E fin d bc bs mid pc lv (.inl (.int x) :: .inl (.int i) :: .inr a :: st) h Q :=
  mx_write (h' := mx_uI h a i.toNatClampNeg (vp_nar .byte x)) (u := [.inl (.int x), .inl (.int i), .inr a]) (a := a) rfl (fun _ _ _ _ _ _ _ _ _ H _ _ _ _ _ hS hD hw k => by
    have hwa : mx_wfa h.1 a := hw (.inr a) (by simp)
    have hc0 := hD.1 (mx_pos a) _ (mx_W_get hwa)
    rw [mx_cell_i hl (by simp)] at hc0
    have hc : H[mx_ad E a]? = some (arrV (mx_aC E 2) (mx_lo a).2 (fun j => Value.int (h.2.1 a j))) := hc0
    refine W.bast hS.1 hS.2.1 hc ((hS.2.2.2.2.2.2.2.2.1.1.2 2 _ rfl).1 _ _) (fun q => by cases q) (by rw [arrV_size]; exact hin) rfl rfl hd fun H1 e z oq => ?_
    refine k H1 _ (mx_D_set (a := a) hD rfl hwa (fun b _ hb => mx_cell_uI hb) ?_ z oq hD.2.2.2.2.1 hD.2.2.2.2.2)
    rw [mx_cell_i hl (by simp)]
    show H1[mx_ad E a]? = some (vp_cell _ _)
    rw [e, vp_cell_i, arrV_store]
    refine congrArg some (congrArg (arrV _ _) (funext fun j => ?_))
    show updV _ _ _ j = Value.int (mx_up h.2.1 a _ (vp_nar .byte x) a j)
    rw [mx_up_eq]
    dsimp only [updV]
    split <;> rfl) hk
theorem mx_zastore {a : mx_A} {i : Int32} {x : Int32} (hd : decode (mx_by mid) pc = .ok (.bastore, 1)) (hl : (mx_lo a).1 = 103) (hin : vp_in i (mx_lo a).2) (hk : mx_T0 E fin d bc bs mid (pc + 1) lv st (mx_uI h a i.toNatClampNeg (vp_nar .boolean x)) Q) : mx_T0 E fin d bc bs mid pc lv (.inl (.int x) :: .inl (.int i) :: .inr a :: st) h Q :=
  mx_write (h' := mx_uI h a i.toNatClampNeg (vp_nar .boolean x)) (u := [.inl (.int x), .inl (.int i), .inr a]) (a := a) rfl (fun _ _ _ _ _ _ _ _ _ H _ _ _ _ _ hS hD hw k => by
    have hwa : mx_wfa h.1 a := hw (.inr a) (by simp)
    have hc0 := hD.1 (mx_pos a) _ (mx_W_get hwa)
    rw [mx_cell_i hl (by simp)] at hc0
    have hc : H[mx_ad E a]? = some (arrV (mx_aC E 3) (mx_lo a).2 (fun j => Value.int (h.2.1 a j))) := hc0
    refine W.zast hS.1 hS.2.1 hc ((hS.2.2.2.2.2.2.2.2.1.1.2 3 _ rfl).1 _ _) (fun q => by cases q) (by rw [arrV_size]; exact hin) rfl rfl hd fun H1 e z oq => ?_
    refine k H1 _ (mx_D_set (a := a) hD rfl hwa (fun b _ hb => mx_cell_uI hb) ?_ z oq hD.2.2.2.2.1 hD.2.2.2.2.2)
    rw [mx_cell_i hl (by simp)]
    show H1[mx_ad E a]? = some (vp_cell _ _)
    rw [e, vp_cell_i, arrV_store]
    refine congrArg some (congrArg (arrV _ _) (funext fun j => ?_))
    show updV _ _ _ j = Value.int (mx_up h.2.1 a _ (vp_nar .boolean x) a j)
    rw [mx_up_eq]
    dsimp only [updV]
    split <;> rfl) hk
theorem mx_lastore {a : mx_A} {i : Int32} {x : Int64} (hd : decode (mx_by mid) pc = .ok (.lastore, 1)) (hl : (mx_lo a).1 = 101) (hin : vp_in i (mx_lo a).2) (hk : mx_T0 E fin d bc bs mid (pc + 1) lv st (mx_uL h a i.toNatClampNeg x) Q) : mx_T0 E fin d bc bs mid pc lv (.inl (.long x) :: .inl (.int i) :: .inr a :: st) h Q :=
  mx_write (h' := mx_uL h a i.toNatClampNeg x) (u := [.inl (.long x), .inl (.int i), .inr a]) (a := a) rfl (fun _ _ _ _ _ _ _ _ _ H _ _ _ _ _ hS hD hw k => by
    have hwa : mx_wfa h.1 a := hw (.inr a) (by simp)
    have hc0 := hD.1 (mx_pos a) _ (mx_W_get hwa)
    rw [mx_cell_l hl] at hc0
    have hc : H[mx_ad E a]? = some (arrV (mx_aC E 1) (mx_lo a).2 (fun j => Value.long (h.2.2.1 a j))) := hc0
    refine W.last hS.1 hS.2.1 hc ((hS.2.2.2.2.2.2.2.2.1.1.2 1 _ rfl).1 _ _) (fun q => by cases q) (by rw [arrV_size]; exact hin) rfl rfl hd fun H1 e z oq => ?_
    refine k H1 _ (mx_D_set (a := a) hD rfl hwa (fun b _ hb => mx_cell_uL hb) ?_ z oq hD.2.2.2.2.1 hD.2.2.2.2.2)
    rw [mx_cell_l hl]
    show H1[mx_ad E a]? = some (vp_cell _ _)
    rw [e, vp_cell_l, arrV_store]
    refine congrArg some (congrArg (arrV _ _) (funext fun j => ?_))
    show updV _ _ _ j = Value.long (mx_up h.2.2.1 a _ x a j)
    rw [mx_up_eq]
    dsimp only [updV]
    split <;> rfl) hk
theorem mx_uR_r {s : State} {H : Heap} {locs : List Loc} {a : mx_A} {i : Nat} {t : Option mx_A} (hD : mx_D E fin h s H locs) (ht : ∀ b, t = some b → mx_wfa h.1 b) : ∀ c k b, (mx_uR h a i t).2.2.2 c k = some b → mx_wfa h.1 b := by
  intro c k b hb
  by_cases e : c = a ∧ k = i
  · exact ht b (by rw [← hb]; exact (if_pos e).symm)
  · exact hD.2.2.2.2.1 c k b (by rw [← hb]; exact (if_neg e).symm)
theorem mx_uR_f {s : State} {H : Heap} {locs : List Loc} {a : mx_A} {i : Nat} {t : Option mx_A} (hD : mx_D E fin h s H locs) (hf : fin a i = none) : ∀ c k b, fin c k = some b → mx_wfa h.1 c → (mx_uR h a i t).2.2.2 c k = some b := by
  intro c k b hb hw
  have hne : ¬ (c = a ∧ k = i) := fun e => by rw [e.1, e.2, hf] at hb; cases hb
  rw [← hD.2.2.2.2.2 c k b hb hw]
  exact if_neg hne
/-- a shape into an array of shapes -/
theorem mx_aastore {a t : mx_A} {i : Int32} (hd : decode (mx_by mid) pc = .ok (.aastore, 1)) (hl : (mx_lo a).1 = 104) (ht : (mx_lo t).1 = 7) (hf : fin a i.toNatClampNeg = none) (hin : vp_in i (mx_lo a).2) (hk : mx_T0 E fin d bc bs mid (pc + 1) lv st (mx_uR h a i.toNatClampNeg (some t)) Q) : mx_T0 E fin d bc bs mid pc lv (.inr t :: .inl (.int i) :: .inr a :: st) h Q :=
  mx_write (h' := mx_uR h a i.toNatClampNeg (some t)) (u := [.inr t, .inl (.int i), .inr a]) (a := a) rfl (fun _ _ _ _ _ _ _ _ _ H _ _ _ _ _ hS hD hw k => by
    have hwa : mx_wfa h.1 a := hw (.inr a) (by simp)
    have hwt : mx_wfa h.1 t := hw (.inr t) (by simp)
    have hlt : i.toNatClampNeg < (mx_lo a).2 := Nat.not_le.mp fun q => hin (Or.inr q)
    have hc0 := hD.1 (mx_pos a) _ (mx_W_get hwa)
    rw [mx_cell_q hl (by simp)] at hc0
    have hc : H[mx_ad E a]? = some (arrV (mx_aC E 4) (mx_lo a).2 (fun j => va_rf ((h.2.2.2 a j).map (mx_ad E)))) := hc0
    have hv0 := hD.1 (mx_pos t) _ (mx_W_get hwt)
    rw [mx_cell_o ht (by decide)] at hv0
    obtain ⟨r, r1, cv, r2, r3, r4, -⟩ := hv0
    obtain rfl : (RX7, TX7, 13) = r := Option.some.inj r1
    obtain ⟨-, hfc, kv, hkv, hkd⟩ := hS.2.2.2.2.2.2.2.2.1.1.1 7 _ rfl
    obtain ⟨kA, comp, g1, g2, g3, g4⟩ := (hS.2.2.2.2.2.2.2.2.1.1.2 4 _ rfl).2
    have hcc : comp = (mx_G E).1 7 := Option.some.inj (g3.symm.trans hfc)
    subst hcc
    refine W.aast (cv := cv) (k := kA) (kv := kv) (kcomp := kv) hS.1 hS.2.1 hc (fun q z => by cases z) (fun q => by cases q) g1 g2 rfl hkv ⟨fun z => hin (Or.inl z), by rw [arrV_size]; exact hlt⟩ r2 (fun q z => by rw [r4] at z; cases z) (by rw [r3]; exact hkv) (by rw [r3]; exact va_assign ⟨hfc, kv, hkv, hkd⟩) rfl rfl hd fun H1 e z oq => ?_
    refine k H1 _ (mx_D_set (a := a) hD rfl hwa (fun b _ hb => mx_cell_uR hb) ?_ z oq (mx_uR_r hD (fun b e => by cases e; exact hwt)) (mx_uR_f hD hf))
    rw [mx_cell_q hl (by simp)]
    show H1[mx_ad E a]? = some (vp_cell _ _)
    rw [e, vp_cell_q, arrV_store]
    refine congrArg some (congrArg (arrV _ _) (funext fun j => ?_))
    show updV _ _ _ j = va_rf ((mx_up h.2.2.2 a _ (some t) a j).map (mx_ad E))
    rw [mx_up_eq]
    dsimp only [updV]
    split <;> rfl) hk
/-- null into an array of shapes -/
theorem mx_aastoreN {a : mx_A} {i : Int32} (hd : decode (mx_by mid) pc = .ok (.aastore, 1)) (hl : (mx_lo a).1 = 104) (hf : fin a i.toNatClampNeg = none) (hin : vp_in i (mx_lo a).2) (hk : mx_T0 E fin d bc bs mid (pc + 1) lv st (mx_uR h a i.toNatClampNeg none) Q) : mx_T0 E fin d bc bs mid pc lv (.inl .null :: .inl (.int i) :: .inr a :: st) h Q :=
  mx_write (h' := mx_uR h a i.toNatClampNeg none) (u := [.inl .null, .inl (.int i), .inr a]) (a := a) rfl (fun _ _ _ _ _ _ _ _ _ H _ _ _ _ _ hS hD hw k => by
    have hwa : mx_wfa h.1 a := hw (.inr a) (by simp)
    have hc0 := hD.1 (mx_pos a) _ (mx_W_get hwa)
    rw [mx_cell_q hl (by simp)] at hc0
    have hc : H[mx_ad E a]? = some (arrV (mx_aC E 4) (mx_lo a).2 (fun j => va_rf ((h.2.2.2 a j).map (mx_ad E)))) := hc0
    refine va_WaastN (C := RX7) hS.1 hS.2.1 hc ((hS.2.2.2.2.2.2.2.2.1.1.2 4 _ rfl).1 _ _) (fun q => by cases q) (by rw [arrV_size]; exact hin) rfl rfl hd fun H1 e z oq => ?_
    refine k H1 _ (mx_D_set (a := a) hD rfl hwa (fun b _ hb => mx_cell_uR hb) ?_ z oq (mx_uR_r hD (fun b e => by cases e)) (mx_uR_f hD hf))
    rw [mx_cell_q hl (by simp)]
    show H1[mx_ad E a]? = some (vp_cell _ _)
    rw [e, vp_cell_q, arrV_store]
    refine congrArg some (congrArg (arrV _ _) (funext fun j => ?_))
    show updV _ _ _ j = va_rf ((mx_up h.2.2.2 a _ none a j).map (mx_ad E))
    rw [mx_up_eq]
    dsimp only [updV]
    split <;> rfl) hk
end MXH
/-! the classes' rows -/
/-- what is known of class ci -/
def mx_CK (ci : Nat) : Prop := vwCl[ci]? = some (mx_cr ci) ∧ (∀ w ∈ u_ws (mx_cr ci).1 (mx_cr ci).2.1 (mx_cr ci).2.2, w ∈ mx_ws) ∧ (∀ k, k < (mx_cr ci).2.2 → parseFieldDescriptor ((mx_cr ci).2.1 k).2.2.1 = some (mx_ty ci k)) ∧
  (∀ a, a < (mx_cr ci).2.2 → ∀ b, b < (mx_cr ci).2.2 → a ≠ b → ((mx_cr ci).2.1 a).2.1 ≠ ((mx_cr ci).2.1 b).2.1)
theorem mx_in_ws {ws : List Cond} (h : ∀ w ∈ ws, w ∈ lw_tbl) (hg : ws.all goodWord = true) : ∀ w ∈ ws, w ∈ mx_ws := fun w hw => List.mem_filter.mpr ⟨h w hw, List.all_eq_true.mp hg w hw⟩
theorem mx_ck0 : mx_CK 0 := ⟨rfl, mx_in_ws inX0 (by decide +kernel), tyX0_ok, nmX0⟩
theorem mx_ck1 : mx_CK 1 := ⟨rfl, mx_in_ws inX1 (by decide +kernel), tyX1_ok, nmX1⟩
theorem mx_ck2 : mx_CK 2 := ⟨rfl, mx_in_ws inX2 (by decide +kernel), tyX2_ok, nmX2⟩
theorem mx_ck3 : mx_CK 3 := ⟨rfl, mx_in_ws inX3 (by decide +kernel), tyX3_ok, nmX3⟩
theorem mx_ck4 : mx_CK 4 := ⟨rfl, mx_in_ws inX4 (by decide +kernel), tyX4_ok, nmX4⟩
theorem mx_ck5 : mx_CK 5 := ⟨rfl, mx_in_ws inX5 (by decide +kernel), tyX5_ok, nmX5⟩
theorem mx_ck6 : mx_CK 6 := ⟨rfl, mx_in_ws inX6 (by decide +kernel), tyX6_ok, nmX6⟩
theorem mx_ck7 : mx_CK 7 := ⟨rfl, mx_in_ws inX7 (by decide +kernel), tyX7_ok, nmX7⟩
theorem mx_ck8 : mx_CK 8 := ⟨rfl, mx_in_ws inX8 (by decide +kernel), tyX8_ok, nmX8⟩
theorem mx_ck9 : mx_CK 9 := ⟨rfl, mx_in_ws inX9 (by decide +kernel), tyX9_ok, nmX9⟩
theorem mx_ck10 : mx_CK 10 := ⟨rfl, mx_in_ws inX10 (by decide +kernel), tyX10_ok, nmX10⟩
theorem mx_ck11 : mx_CK 11 := ⟨rfl, mx_in_ws inX11 (by decide +kernel), tyX11_ok, nmX11⟩
theorem mx_ck12 : mx_CK 12 := ⟨rfl, mx_in_ws inX12 (by decide +kernel), tyX12_ok, nmX12⟩
theorem mx_ck {ci : Nat} (h : ci < 13) : mx_CK ci := by
  rcases (show ci = 0 ∨ ci = 1 ∨ ci = 2 ∨ ci = 3 ∨ ci = 4 ∨ ci = 5 ∨ ci = 6 ∨ ci = 7 ∨ ci = 8 ∨ ci = 9 ∨ ci = 10 ∨ ci = 11 ∨ ci = 12 by omega) with rfl | rfl | rfl | rfl | rfl | rfl | rfl | rfl | rfl | rfl | rfl | rfl | rfl
  · exact mx_ck0
  · exact mx_ck1
  · exact mx_ck2
  · exact mx_ck3
  · exact mx_ck4
  · exact mx_ck5
  · exact mx_ck6
  · exact mx_ck7
  · exact mx_ck8
  · exact mx_ck9
  · exact mx_ck10
  · exact mx_ck11
  · exact mx_ck12
/-- a field's value as the mini machine reads it -/
def mx_fw (h : mx_H) (a : mx_A) (ci k : Nat) : mx_V := if mx_ff ci k = 2 then mx_ov (h.2.2.2 a k) else .inl (.int (h.2.1 a k))
section MXF
variable {E : mx_Ev} {fin : mx_A → Nat → Option mx_A} {d bc bs mid pc : Nat} {lv : mx_Lv} {st : List mx_V} {h : mx_H} {Q : Option mx_V → mx_H → Prop}
theorem mx_getfield {a : mx_A} {ci k idx : Nat} (hd : decode (mx_by mid) pc = .ok (.getfield idx, 3)) (hci : ci < 13) (hl : mx_lo a = (ci, (mx_cr ci).2.2)) (hkN : k < (mx_cr ci).2.2) (hlk : Cond.fieldLink (mx_ow mid) idx (mx_fT ci k).1 (mx_fT ci k).2.1 (mx_fT ci k).2.2.1 ∈ mx_ws)
    (hk : mx_T0 E fin d bc bs mid (pc + 3) lv (mx_fw h a ci k :: st) h Q) : mx_T0 E fin d bc bs mid pc lv (.inr a :: st) h Q := by
  obtain ⟨c1, c2, c3, c4⟩ := mx_ck hci
  refine mx_read (u := [.inr a]) (fun s H locs hD => ?_) (fun _ _ _ _ _ _ _ _ _ _ _ _ _ _ _ hS hD hw k9 => ?_) hk
  · unfold mx_fw
    split
    · exact mx_ov_wf hD
    · exact True.intro
  · have hwa : mx_wfa h.1 a := hw (.inr a) (by simp)
    have e0 := mx_W_get (E := E) hwa
    rw [mx_cell_o (ci := ci) (by rw [hl]) (by omega)] at e0
    refine va_get hS.1 hS.2.1 hS.2.2.2.2.2.2.1 c2 hS.2.2.2.2.2.1 hS.2.2.2.2.2.2.2.2.1.1 hD.1 (mx_pos a) e0 c1 k hkN (hS.2.2.2.2.2.2.1 _ hlk) (fun x hx => hx) (v := mx_fv E h a ci k) ?_ hd ?_
    · rw [hl, List.getElem?_map, List.getElem?_range hkN]
      rfl
    · have e : mx_fv E h a ci k = mx_sh E (mx_fw h a ci k) := by
        unfold mx_fv mx_fw
        split
        · rw [mx_ov_sh]
        · rfl
      rw [e]
      exact k9
/-- what a store of v into field k of class ci does to the mini heap -/
def mx_pf (h : mx_H) (a : mx_A) (k : Nat) : mx_V → mx_H
  | .inl (.int x) => mx_uI h a k x
  | .inr t => mx_uR h a k (some t)
  | _ => mx_uR h a k none
/-- v is of the field's kind -/
def mx_pk (ci k : Nat) : mx_V → Prop
  | .inl (.int x) => mx_ty ci k = .int ∨ (mx_ty ci k = .boolean ∧ (x = 0 ∨ x = 1))
  | .inr _ => (∃ n, mx_ty ci k = .object n) ∨ ∃ t, mx_ty ci k = .array t
  | .inl .null => (∃ n, mx_ty ci k = .object n) ∨ ∃ t, mx_ty ci k = .array t
  | _ => False
theorem mx_pk_n {E : mx_Ev} {ci k : Nat} {v : mx_V} (hv : mx_pk ci k v) : narrow (mx_ty ci k) (mx_sh E v) = mx_sh E v ∧ fits (mx_ty ci k) (mx_sh E v) = true := by
  rcases v with v | a
  · cases v with
    | int x =>
      rcases hv with hv | ⟨hv, hn⟩
      · rw [hv]; exact ⟨rfl, rfl⟩
      · rw [hv]
        rcases hn with rfl | rfl <;> exact ⟨rfl, rfl⟩
    | null => rcases hv with ⟨n, hv⟩ | ⟨n, hv⟩ <;> rw [hv] <;> exact ⟨rfl, rfl⟩
    | _ => exact hv.elim
  · rcases hv with ⟨n, hv⟩ | ⟨n, hv⟩ <;> rw [hv] <;> exact ⟨rfl, rfl⟩
end MXF
/-! ===== fields stored, statics read, cells made ===== -/
section MXP
variable {E : mx_Ev} {fin : mx_A → Nat → Option mx_A} {d bc bs mid pc : Nat} {lv : mx_Lv} {st : List mx_V} {h : mx_H} {Q : Option mx_V → mx_H → Prop}
theorem mx_pf_n (h : mx_H) (a : mx_A) (k : Nat) (v : mx_V) : (mx_pf h a k v).1 = h.1 := by
  rcases v with v | t
  · cases v <;> rfl
  · rfl
theorem mx_pf_ne {E : mx_Ev} {h : mx_H} {a b : mx_A} {k : Nat} {v : mx_V} (hb : b ≠ a) : mx_cell E (mx_pf h a k v) b = mx_cell E h b := by
  rcases v with v | t
  · cases v <;> first | exact mx_cell_uI hb | exact mx_cell_uR hb
  · exact mx_cell_uR hb
/-- the fields behind a store -/
theorem mx_pf_fv {E : mx_Ev} {h : mx_H} {a : mx_A} {ci k : Nat} {v : mx_V} (hff : mx_fok ci k) (hv : mx_pk ci k v) (j : Nat) : mx_fv E (mx_pf h a k v) a ci j = if j = k then mx_sh E v else mx_fv E h a ci j := by
  by_cases e : j = k
  · subst e
    rw [if_pos rfl]
    rcases v with v | t
    · cases v with
      | int x =>
        have h2 : mx_ff ci j ≠ 2 := by
          intro h2
          rcases hff with ⟨q, -⟩ | ⟨q, -⟩ | ⟨-, n, q⟩ | ⟨-, n, q⟩
          · rw [q] at h2; cases h2
          · rw [q] at h2; cases h2
          · rcases hv with hv | ⟨hv, -⟩ <;> rw [q] at hv <;> cases hv
          · rcases hv with hv | ⟨hv, -⟩ <;> rw [q] at hv <;> cases hv
        simp only [mx_fv, if_neg h2, mx_pf, mx_uI, mx_up_eq, mx_sh, if_true]
      | null =>
        have h2 : mx_ff ci j = 2 := by
          rcases hff with ⟨-, q⟩ | ⟨-, q⟩ | ⟨q, -⟩ | ⟨q, -⟩
          · rcases hv with ⟨n, hv⟩ | ⟨n, hv⟩ <;> rw [q] at hv <;> cases hv
          · rcases hv with ⟨n, hv⟩ | ⟨n, hv⟩ <;> rw [q] at hv <;> cases hv
          · exact q
          · exact q
        simp only [mx_fv, if_pos h2, mx_pf, mx_uR, mx_up_eq, mx_sh, if_true, Option.map_none, va_rf]
      | _ => exact hv.elim
    · have h2 : mx_ff ci j = 2 := by
        rcases hff with ⟨-, q⟩ | ⟨-, q⟩ | ⟨q, -⟩ | ⟨q, -⟩
        · rcases hv with ⟨n, hv⟩ | ⟨n, hv⟩ <;> rw [q] at hv <;> cases hv
        · rcases hv with ⟨n, hv⟩ | ⟨n, hv⟩ <;> rw [q] at hv <;> cases hv
        · exact q
        · exact q
      simp only [mx_fv, if_pos h2, mx_pf, mx_uR, mx_up_eq, mx_sh, if_true, Option.map_some, va_rf]
  · rw [if_neg e]
    rcases v with v | t
    · cases v <;> simp only [mx_fv, mx_pf, mx_uI, mx_uR, mx_up_eq, if_neg e]
    · simp only [mx_fv, mx_pf, mx_uR, mx_up_eq, if_neg e]
theorem mx_pf_r {s : State} {H : Heap} {locs : List Loc} {a : mx_A} {k : Nat} {v : mx_V} (hD : mx_D E fin h s H locs) (hv : mx_wf h.1 v) : ∀ c j b, (mx_pf h a k v).2.2.2 c j = some b → mx_wfa h.1 b := by
  rcases v with v | t
  · cases v <;> first | exact hD.2.2.2.2.1 | exact mx_uR_r hD (fun b e => by cases e)
  · exact mx_uR_r hD (fun b e => by cases e; exact hv)
theorem mx_pf_f {s : State} {H : Heap} {locs : List Loc} {a : mx_A} {k : Nat} {v : mx_V} (hD : mx_D E fin h s H locs) (hf : fin a k = none) : ∀ c j b, fin c j = some b → mx_wfa h.1 c → (mx_pf h a k v).2.2.2 c j = some b := by
  rcases v with v | t
  · cases v <;> first | exact hD.2.2.2.2.2 | exact mx_uR_f hD hf
  · exact mx_uR_f hD hf
theorem mx_putfield {a : mx_A} {ci k idx : Nat} {v : mx_V} (hd : decode (mx_by mid) pc = .ok (.putfield idx, 3)) (hci : ci < 13) (hl : mx_lo a = (ci, (mx_cr ci).2.2)) (hkN : k < (mx_cr ci).2.2) (hlk : Cond.fieldLink (mx_ow mid) idx (mx_fT ci k).1 (mx_fT ci k).2.1 (mx_fT ci k).2.2.1 ∈ mx_ws)
    (hfi : (mx_fT ci k).2.2.2 = false ∨ ((mx_fT ci k).2.2.2 = true ∧ (mx_y mid).name = "<init>" ∧ (mx_fT ci k).1 = mx_ow mid)) (hff : mx_fok ci k) (hv : mx_pk ci k v) (hf : fin a k = none)
    (hk : mx_T0 E fin d bc bs mid (pc + 3) lv st (mx_pf h a k v) Q) : mx_T0 E fin d bc bs mid pc lv (v :: .inr a :: st) h Q := by
  obtain ⟨c1, c2, c3, c4⟩ := mx_ck hci
  obtain ⟨hn, hfit⟩ := mx_pk_n (E := E) hv
  refine mx_write (h' := mx_pf h a k v) (u := [v, .inr a]) (a := a) (mx_pf_n h a k v) (fun p e R s m args below meth c H locs cells slots Qw ls hS hD hw k9 => ?_) hk
  have hwa : mx_wfa h.1 a := hw (.inr a) (by simp)
  have hwv : mx_wf h.1 v := hw v (by simp)
  have hts := hS.2.2.2.2.2.2.1
  have hown := hS.2.2.2.2.2.1
  have hK := hS.2.2.2.2.2.2.2.2.1.1
  have hap := va_apart (own := mx_ow mid) hts c2 (mx_ty ci) c3 c4 hK c1
  have hc0 := hD.1 (mx_pos a) _ (mx_W_get hwa)
  rw [mx_cell_o (ci := ci) (by rw [hl]) (by omega), hl] at hc0
  obtain ⟨r, h1, cell, q1, q2, q3, q4⟩ := hc0
  have hr : r = mx_cr ci := Option.some.inj (h1.symm.trans c1)
  subst hr
  obtain ⟨hSl, hfc, kC, hkC, hkind⟩ := hK.1 ci _ c1
  obtain ⟨cf, kf, fi, f, hi, hsl⟩ := hSl k hkN
  have hlay := hts _ (c2 _ (u_in_lay hkN))
  unfold u_lay at hlay
  have hst := (u_facts hfc hkC (u_lays hts c2 hkN) hi).1
  have hend : ∀ H1 : Heap, H1[mx_ad E a]? = some (cell.setSlot f.slot (mx_sh E v)) → H1.size = H.size → (∀ q, q ≠ mx_ad E a → H1[q]? = H[q]?) → mx_D E fin (mx_pf h a k v) s H1 (locs ++ [⟨mx_ad E a, f.slot⟩]) := by
    intro H1 e1 e2 e3
    refine mx_D_set (a := a) hD (mx_pf_n h a k v) hwa (fun b _ hb => mx_pf_ne hb) ?_ e2 e3 (mx_pf_r hD hwv) (mx_pf_f hD hf)
    rw [mx_cell_o (ci := ci) (by rw [hl]) (by omega), hl]
    refine ⟨_, c1, t_OB.to (V := updV (vp_V ((List.range (mx_cr ci).2.2).map (mx_fv E h a ci))) k (mx_sh E v)) ⟨_, e1, q2, q3, ?_⟩ (fun j hj => ?_)⟩
    · rw [hsl]
      exact t_set q4 hap hkN _
    · unfold updV vp_V
      rw [List.getD_eq_getElem?_getD, List.getElem?_map, List.getElem?_range hj, List.getD_eq_getElem?_getD, List.getElem?_map, List.getElem?_range hj]
      simp only [Option.map_some, Option.getD_some]
      rw [mx_pf_fv hff hv]
  rcases hfi with hfi | ⟨hfi, hin2, hdecl⟩
  · rw [if_neg (by rw [hfi]; decide)] at hlay
    have h6 := u_store hfc hkC hkind hlay hi (c3 k hkN) hn hfit
    exact W.putK hS.1 hS.2.1 (f := f) ⟨hown, hts _ hlk, ⟨_, _, _, hi⟩, hst⟩ (by rw [q2]; exact h6) q1 q3 (by rw [hsl]; exact k2_hasslot (q4 k hkN)) rfl rfl hd fun H1 e1 e2 e3 => k9 H1 _ (hend H1 e1 e2 e3)
  · rw [if_pos hfi] at hlay
    have hcf : m.cls = cf := by
      obtain ⟨_, _, c', _, _, _, -, -, hf', -, -, -, hown2, -⟩ := Cond.laysFinal_spec hlay
      have e1 : c' = cf := by have := hi.symm.trans hf'; simp at this; exact this.1.symm
      rw [hdecl] at hown2
      rw [← e1]; exact Option.some.inj (hown.symm.trans hown2)
    have h6 := u_fits hfc hkC hkind (Or.inr hlay) hi (c3 k hkN) hn hfit
    exact W.putFinK hS.1 hS.2.1 hown (hts _ hlk) hi hst hcf (hS.2.2.2.2.2.2.2.1 hin2) (by rw [q2]; exact h6) q1 q3 (by rw [hsl]; exact k2_hasslot (q4 k hkN)) rfl rfl hd fun H1 e1 e2 e3 => k9 H1 _ (hend H1 e1 e2 e3)
theorem mx_gets0 {idx : Nat} (hd : decode (mx_by mid) pc = .ok (.getstatic idx, 3)) (hlk : Cond.fieldLink (mx_ow mid) idx RX4 "KIND_ABOVE" "[I" ∈ mx_ws) (hk : mx_T0 E fin d bc bs mid (pc + 3) lv (.inl (.float 0) :: st) h Q) : mx_T0 E fin d bc bs mid pc lv st h Q :=
  mx_push (fun _ => by exact True.intro) (fun _ _ _ _ _ _ _ _ _ _ _ _ _ _ _ hS hD _ k => va_gets hS.1 hS.2.1 hS.2.2.2.2.2.2.2.2.1.2.2.2.2.1 hD.2.2.1 hS.2.2.2.2.2.1 (hS.2.2.2.2.2.2.1 _ hlk) (fun x hx => hx) hd k) hk
theorem mx_gets1 {idx : Nat} (hd : decode (mx_by mid) pc = .ok (.getstatic idx, 3)) (hlk : Cond.fieldLink (mx_ow mid) idx RX4 "ACTS" "[I" ∈ mx_ws) (hk : mx_T0 E fin d bc bs mid (pc + 3) lv (.inl (.float 1) :: st) h Q) : mx_T0 E fin d bc bs mid pc lv st h Q :=
  mx_push (fun _ => by exact True.intro) (fun _ _ _ _ _ _ _ _ _ _ _ _ _ _ _ hS hD _ k => va_gets hS.1 hS.2.1 hS.2.2.2.2.2.2.2.2.1.2.2.2.2.2.1 hD.2.2.1 hS.2.2.2.2.2.1 (hS.2.2.2.2.2.2.1 _ hlk) (fun x hx => hx) hd k) hk
end MXP
/-! ===== calls: a method's judgement as a contract, and a call by it ===== -/
theorem mx_nest_m {w : Cond} (h : w ∈ mx_nest) : ∃ a i x o, w = .methodLinkNest a i x o := by
  have h2 := (List.mem_filter.mp h).2
  cases w with
  | methodLinkNest a i x o => exact ⟨a, i, x, o, rfl⟩
  | _ => simp at h2
theorem mx_AO_moved {u U : State} (hvm : u.vm.Alike U.vm) (h : (Cond.arrayOver (.array .long)).before #[] u = true) : (Cond.arrayOver (.array .long)).before #[] U = true := by
  have h2 := Cond.arrayOver_setVmC (args := #[]) (s := u) (vm' := U.vm) hvm (.array .long)
  rw [h] at h2
  exact h2
theorem mx_Nv.moved {E : mx_Ev} {u U : State} {H H1 : Heap} (h : mx_Nv E u H) (hvm : u.vm.Alike U.vm) (hw : ∀ a i x o, va_Nw (.methodLinkNest a i x o) u → va_Nw (.methodLinkNest a i x o) U) (hz : H.size ≤ H1.size) (hq : ∀ q : Nat, q < H.size → q < mx_B E → H1[q]? = H[q]?) : mx_Nv E U H1 := by
  obtain ⟨k, n, ao, aa, z0, z1, x0, x1, x2, l0, l1, l2, hn, hB⟩ := h
  have hk : ∀ a : Nat, a < H.size → ¬ mx_ra E a → H1[a]? = H[a]? := fun a h1 h2 => hq a h1 (Nat.not_le.mp h2)
  have hl : ∀ a : Nat, a < mx_B E → H1[a]? = H[a]? := fun a ha => hq a (Nat.lt_of_lt_of_le ha hB) ha
  refine ⟨k.moved hvm, fun w hm => ?_, ao.moved hvm, mx_AO_moved hvm aa, (z0.moved hvm).kept hk, (z1.moved hvm).kept hk, (x0.moved hvm).kept (hl _ l0), (x1.moved hvm).kept (hl _ l1), (x2.moved hvm).kept (hl _ l2), l0, l1, l2, hn, Nat.le_trans hB hz⟩
  obtain ⟨a, i, x, o, rfl⟩ := mx_nest_m hm
  exact hw a i x o (n _ hm)
/-- the heap's part of mx_D -/
def mx_HF (E : mx_Ev) (fin : mx_A → Nat → Option mx_A) (h : mx_H) (H : Heap) : Prop :=
  va_P (mx_G E) vwCl (mx_W E h) H ∧ va_D (mx_ra E) (mx_W E h) ∧ H.size = mx_B E + h.1 ∧ (∀ a k b, h.2.2.2 a k = some b → mx_wfa h.1 b) ∧ (∀ a k b, fin a k = some b → mx_wfa h.1 a → h.2.2.2 a k = some b)
def mx_Qc (E : mx_Ev) (fin : mx_A → Nat → Option mx_A) (h : mx_H) (Q : Option mx_V → mx_H → Prop) : Array Value → State → Outcome → State → Prop := fun _ st oc t =>
  ∃ (v : Option mx_V) (h' : mx_H), oc = .returned (v.map (mx_sh E)) ∧ Q v h' ∧ h.1 ≤ h'.1 ∧ (∀ x, v = some x → mx_wf h'.1 x) ∧ mx_HF E fin h' t.heap ∧ va_F (mx_ra E) st t
def mx_Pc (E : mx_Ev) (fin : mx_A → Nat → Option mx_A) (h : mx_H) (av : List mx_V) : Array Value → State → Prop := fun a U => a = (av.map (mx_sh E)).toArray ∧ mx_Nv E U U.heap ∧ mx_HF E fin h U.heap
abbrev mx_rm (d mid : Nat) : Room := { frames := d, cells := (mx_bu mid).1, slots := (mx_bu mid).2, locals := 40 * d }
abbrev mx_wm (mid : Nat) : List Cond := Cond.code (mx_y mid) (mx_by mid) (mx_nL mid) (mx_rt mid) :: mx_ws
theorem mx_ent_map (E : mx_Ev) : ∀ (i : Nat) (av : List mx_V), (mx_ent i av).map (mx_shl E) = lv_args i (av.map (mx_sh E))
  | _, [] => rfl
  | i, v :: r => by
    show (i, mx_sh E v) :: (mx_ent (i + mx_cat v) r).map (mx_shl E) = (i, mx_sh E v) :: lv_args _ _
    rw [mx_ent_map E _ r]
    congr 2
    rw [mx_cat_sh]
    rcases v with v | a
    · cases v <;> rfl
    · rfl
theorem mx_ent_wf {n : Nat} : ∀ {i : Nat} {av : List mx_V}, (∀ v ∈ av, mx_wf n v) → ∀ q ∈ mx_ent i av, mx_wf n q.2
  | _, [], _ => fun q hq => by cases hq
  | i, v :: r, h => fun q hq => by
    rcases List.mem_cons.mp hq with rfl | hq
    · exact h v List.mem_cons_self
    · exact mx_ent_wf (fun v hv => h v (List.mem_cons_of_mem _ hv)) q hq
theorem mx_sl_len (E : mx_Ev) : ∀ av : List mx_V, (lg_sl (av.map (mx_sh E))).length = (av.map mx_cat).sum
  | [] => rfl
  | v :: r => by
    have h : lg_sl ((v :: r).map (mx_sh E)) = (if (mx_sh E v).category = 2 then [.val (mx_sh E v), .second] else [.val (mx_sh E v)]) ++ lg_sl (r.map (mx_sh E)) := rfl
    rw [h, List.length_append, mx_sl_len E r, List.map_cons, List.sum_cons, mx_cat_sh]
    congr 1
    rcases v with v | a
    · cases v <;> rfl
    · rfl
set_option maxHeartbeats 4000000 in
theorem mx_met {E : mx_Ev} {fin : mx_A → Nat → Option mx_A} {d mid : Nat} {av : List mx_V} {h : mx_H} {Q : Option mx_V → mx_H → Prop} (hy : plainName (mx_y mid).cls = true) (hcn : (mx_y mid).cls = mx_ow mid) (hlen : (av.map mx_cat).sum ≤ mx_nL mid) (hwf : ∀ v ∈ av, mx_wf h.1 v) (hC : mx_C0 E fin d mid av h Q) :
    Met E.1 (mx_y mid) (mx_wm mid) (mx_rm d mid) (mx_Pc E fin h av) (mx_Qc E fin h Q) (mx_bu mid).1 (mx_bu mid).2 (mx_ra E) := by
  refine Met.ofW (cc := mx_by mid) (maxL := mx_nL mid) (ret := mx_rt mid) hy rfl ?_
  intro p e s m args below meth c s₁ B hml hv
  obtain ⟨rfl, hN, hP, hD, hz, hr, hf⟩ := hv
  have hts := atoms_spec (ws := mx_wm mid) B.pre
  have hS : mx_S E d mid p (headSpec (mx_wm mid) (mx_rm d mid)).room s m ((av.map (mx_sh E)).toArray) meth c :=
    ⟨B.exec, B.bytes, hml, B.returns, B.notSynchronized, by rw [← hcn]; exact findClass_of_methodNamed B.named, fun w hw => hts w (List.mem_cons_of_mem _ hw), fun hi => (name_of_methodNamed B.named B.method).1.trans hi, hN, Nat.le_refl _, Nat.le_refl _⟩
  have hl := lv_entry (av.map (mx_sh E)) (n := mx_nL mid) (by rw [mx_sl_len]; exact hlen)
  rw [lg_entry_eq]
  generalize (lg_sl (av.map (mx_sh E)) ++ List.replicate (mx_nL mid - (lg_sl (av.map (mx_sh E))).length) Slot.unset).toArray = ls at hl ⊢
  rw [← mx_ent_map] at hl
  refine hC p e _ s m _ below meth c s.heap [] 0 0 _ ls hS ⟨hP, hD, va_S.rf, hz, hr, hf⟩ (Nat.le_of_eq (Nat.zero_add _)) (Nat.le_of_eq (Nat.zero_add _)) (mx_ent_wf hwf) (fun v hv => by cases hv) hl ?_
  intro v h' H' locs' cells' slots' pc' ls' ins hQ hD' hm hc' hs' hwv hd hrk
  refine W.widen (k := (mx_bu mid).1) (n := (mx_bu mid).2) (by omega) (by omega) ?_
  have hq : ∀ t : State, t.heap = H' → s.WarmedH t.vm → mx_Qc E fin h Q (av.map (mx_sh E)).toArray s (.returned (v.map (mx_sh E))) t := fun t ht _ =>
    ⟨v, h', rfl, hQ, hm, hwv, by rw [ht]; exact ⟨hD'.1, hD'.2.1, hD'.2.2.2.1, hD'.2.2.2.2.1, hD'.2.2.2.2.2⟩, hD'.2.2.1.F ht⟩
  have hlk := hS.2.2.2.2.1
  rcases hrk with ⟨rfl, rfl, hr1⟩ | ⟨x, rfl, rfl, hr1⟩ | ⟨x, rfl, rfl, hr1⟩ | ⟨rfl, hv, hr1⟩
  · exact W.vret hS.1 hS.2.1 (hS.2.2.2.1.trans hr1) hq hD'.2.2.1.2.2 hd
  · rcases hr1 with hr1 | ⟨hr1, hn⟩
    · exact W.iret hS.1 hS.2.1 (hS.2.2.2.1.trans hr1) hq hD'.2.2.1.2.2 hd
    · exact W.zret hS.1 hS.2.1 (hS.2.2.2.1.trans hr1) hn hq hD'.2.2.1.2.2 hd
  · exact W.lret hS.1 hS.2.1 (hS.2.2.2.1.trans hr1) hq hD'.2.2.1.2.2 hd
  · rcases hv with rfl | ⟨a, rfl⟩
    · exact W.aret hS.1 hS.2.1 (hS.2.2.2.1.trans hr1) (Or.inl ⟨_, rfl⟩) (Or.inl rfl) hq hD'.2.2.1.2.2 hd
    · exact W.aret hS.1 hS.2.1 (hS.2.2.2.1.trans hr1) (Or.inl ⟨_, rfl⟩) (Or.inr ⟨_, rfl⟩) hq hD'.2.2.1.2.2 hd
/-! a method's own words -/
theorem mx_ws_warm {args : Array Value} {s : State} (h : ∀ w ∈ mx_ws, w.before args s = true) {w : Cond} (hw : w ∈ mx_ws) (a' : Array Value) (U : State) (hW : s.WarmedH U.vm) : w.before a' U = true :=
  word_at hW (good_of_word (List.mem_filter.mp hw).2) (h w hw)
theorem mx_FB (E : mx_Ev) (fin : mx_A → Nat → Option mx_A) (h : mx_H) (av : List mx_V) : FrameBlind (mx_Pc E fin h av) := fun a U g mk ⟨h1, h2, h3⟩ =>
  ⟨h1, h2.moved (U := U.calling g mk a) (Vm.Alike.refl U.vm) (fun _ _ _ _ hw => va_Nw.same rfl rfl hw) (Nat.le_refl _) (fun _ _ _ => rfl), h3⟩
theorem mx_PU {E : mx_Ev} {fin : mx_A → Nat → Option mx_A} {h : mx_H} {av : List mx_V} {s : State} {H : Heap} {locs : List Loc} (hN : mx_Nv E s s.heap) (hD : mx_D E fin h s H locs) (U : State) (hU : U.heap = H) (hW : s.WarmedH U.vm) : mx_Pc E fin h av (av.map (mx_sh E)).toArray U := by
  refine ⟨rfl, ?_, ?_⟩
  · rw [hU]
    exact hN.moved hW.alike (fun _ _ _ _ hw => hw.warmM hW) hD.2.2.1.1 (fun q h1 h2 => hD.2.2.1.2.1 q h1 (Nat.not_le.mpr h2))
  · rw [hU]
    exact ⟨hD.1, hD.2.1, hD.2.2.2.1, hD.2.2.2.2.1, hD.2.2.2.2.2⟩
section MXC
variable {E : mx_Ev} {fin : mx_A → Nat → Option mx_A} {d bc bs mid pc : Nat} {lv : mx_Lv} {st : List mx_V} {h : mx_H} {Q : Option mx_V → mx_H → Prop}
theorem mx_goes {p : Program} {e : Env} {R : Room} {s : State} {m : MethodId} {args : Array Value} {below : List Frame} {meth : Method} {c : Code} {H : Heap} {locs : List Loc} {cells slots : Nat} {Qw : State → Prop} {ls : Array Slot} {callee : Nat} {av : List mx_V} {st0 : List Value} {a : Array Value}
    (hr : va_Run p E.1 e R s m args below meth c H locs cells slots (mx_bu callee).1 (mx_bu callee).2 (F0 m pc ls st0) (st.map (mx_sh E)) (mx_Qc E fin h (fun v h' => mx_T0 E fin (d + 1) (bc - (mx_bu callee).1) (bs - (mx_bu callee).2) mid (pc + 3) lv (v.toList ++ st) h' Q) a) (mx_ra E))
    (hb1 : (mx_bu callee).1 ≤ bc) (hb2 : (mx_bu callee).2 ≤ bs) (hS : mx_S E (d + 1) mid p R s m args meth c) (hD : mx_D E fin h s H locs) (q1 : cells + bc ≤ R.cells) (q2 : slots + bs ≤ R.slots) (q3 : ∀ q ∈ lv, mx_wf h.1 q.2) (q4 : ∀ v ∈ st, mx_wf h.1 v) (q5 : lv_has ls (mx_nL mid) (lv.map (mx_shl E)))
    (q6 : ∀ (v : Option mx_V) (h' : mx_H) (H' : Heap) (locs' : List Loc) (cells' slots' pc' : Nat) (ls' : Array Slot) (ins : Instr), Q v h' → mx_D E fin h' s H' locs' → h.1 ≤ h'.1 → cells' ≤ cells + bc → slots' ≤ slots + bs →
      (∀ x, v = some x → mx_wf h'.1 x) → decode (mx_by mid) pc' = .ok (ins, 1) → mx_rk (mx_rt mid) ins v → W p E.1 e R s m args below meth c H' locs' cells' slots' Qw (F0 m pc' ls' (v.toList.map (mx_sh E)))) :
    W p E.1 e R s m args below meth c H locs cells slots Qw (F0 m pc ls st0) := by
  intro T hT X
  obtain ⟨v, st₀, t, T', L, h0, X', hL, e1, e2, ⟨v', h', hv, hQ, hm, hwv, hHF, hF⟩, stp⟩ := hr T hT X
  cases hv
  have hD' : mx_D E fin h' s t.heap (locs ++ L) := by
    refine ⟨hHF.1, hHF.2.1, ⟨?_, ?_, ?_⟩, hHF.2.2.1, hHF.2.2.2.1, hHF.2.2.2.2⟩
    · exact Nat.le_trans hD.2.2.1.1 (by rw [← h0]; exact hF.1)
    · intro q hq hA
      rw [hF.2 q (by rw [h0]; exact Nat.lt_of_lt_of_le hq hD.2.2.1.1) hA, h0]
      exact hD.2.2.1.2.1 q hq hA
    · intro x hx
      rcases List.mem_append.mp hx with hx | hx
      · exact hD.2.2.1.2.2 x hx
      · exact hL x hx
  have K := hQ p e R s m args below meth c t.heap (locs ++ L) (cells + (mx_bu callee).1) (slots + (mx_bu callee).2) Qw ls hS hD' (by omega) (by omega) (fun q hq => (q3 q hq).mono hm) (fun x hx => by
      rcases List.mem_append.mp hx with hx | hx
      · cases v' with
        | none => cases hx
        | some y => exact hwv x (by rw [show x = y by simpa using hx])
      · exact (q4 x hx).mono hm) q5
    (fun v h2 H' locs' cells' slots' pc' ls' ins a1 a2 a3 a4 a5 a6 a7 a8 => q6 v h2 H' locs' cells' slots' pc' ls' ins a1 a2 (Nat.le_trans hm a3) (by omega) (by omega) a6 a7 a8)
  obtain ⟨t2, b1, b2⟩ := K T' e1 X'
  refine ⟨t2, stp t2 ?_, b2⟩
  have e3 : (v'.map (mx_sh E)).toList ++ st.map (mx_sh E) = (v'.toList ++ st).map (mx_sh E) := by cases v' <;> rfl
  show Steps _ _ _ (T'.setTop (F0 m (pc + 3) ls ((v'.map (mx_sh E)).toList ++ st.map (mx_sh E)))) t2
  rw [e3]
  exact b1
theorem mx_room_sum {E : mx_Ev} : ∀ {st : List mx_V}, (st.map mx_cat).sum ≤ 8 → ((st.map (mx_sh E)).map fun v => v.category).sum ≤ 8 := by
  intro st h
  rw [List.map_map]
  have e : (fun v : Value => v.category) ∘ mx_sh E = mx_cat := funext fun v => mx_cat_sh E v
  rw [e]
  exact h
set_option maxHeartbeats 4000000 in
theorem mx_calls {idx callee n : Nat} {nest : Bool} {av : List mx_V} (hd : decode (mx_by mid) pc = .ok (.invokestatic idx, 3)) (hM : mx_MK callee) (hL : mx_LK mid idx callee n 0 nest) (hn : av.length = n) (hlen : (av.map mx_cat).sum ≤ mx_nL callee) (hst : (st.map mx_cat).sum ≤ 8) (hb1 : (mx_bu callee).1 ≤ bc) (hb2 : (mx_bu callee).2 ≤ bs)
    (hC : mx_C0 E fin d callee av h (fun v h' => mx_T0 E fin (d + 1) (bc - (mx_bu callee).1) (bs - (mx_bu callee).2) mid (pc + 3) lv (v.toList ++ st) h' Q)) : mx_T0 E fin (d + 1) bc bs mid pc lv (av.reverse ++ st) h Q := by
  intro p e R s m args below meth c H locs cells slots Qw ls hS hD q1 q2 q3 q4 q5 q6
  obtain ⟨m1, m2, m3, m4, m5, m6⟩ := hM
  obtain ⟨l1, l2, l3⟩ := hL
  rw [if_pos rfl] at l3
  have hts := hS.2.2.2.2.2.2.1
  have hwa : ∀ v ∈ av, mx_wf h.1 v := fun v hv => q4 v (List.mem_append_left _ (List.mem_reverse.mpr hv))
  have hMet := mx_met m1 m2 hlen hwa hC
  have hfr := hS.2.2.2.2.2.2.2.2.2.1
  have hlo := hS.2.2.2.2.2.2.2.2.2.2
  have hsig : ∀ sig, parseMethodDescriptor (mx_y callee).desc = some sig → n = sig.parameters.length := fun sig hs => by rw [hs] at l1; exact (Option.some.inj l1).symm
  have hpre : PreS s H (mx_Pc E fin h av) (av.map (mx_sh E)) := ⟨mx_FB E fin h av, mx_PU hS.2.2.2.2.2.2.2.2.1 hD⟩
  have hstk : (F0 m pc ls ((av.reverse ++ st).map (mx_sh E))).stack = (av.map (mx_sh E)).reverse ++ st.map (mx_sh E) := by
    show (av.reverse ++ st).map (mx_sh E) = _
    rw [List.map_append, List.map_reverse]
  have hrm := lv_room (m := m) (pc := pc) (ls := ls) (rest := (av.reverse ++ st).map (mx_sh E)) (mx_room_sum (E := E) hst)
  refine mx_goes (callee := callee) (av := av) (a := (av.map (mx_sh E)).toArray) ?_ hb1 hb2 hS hD q1 q2 q3 (fun v hv => q4 v (List.mem_append_right _ hv)) q5 q6
  cases nest with
  | false =>
    exact va_runS ⟨hS.1, hS.2.1, hS.2.2.1, hS.2.2.2.2.2.1, hts⟩ hMet ⟨⟨rfl, rfl, hfr, by show 8 + (mx_nL callee + 11) + 40 * d ≤ _; omega, fun w hw a' U hW => (List.mem_cons.mp hw).elim (fun e => e ▸ mx_ws_warm hts m3 a' U hW) (fun hw => mx_ws_warm hts hw a' U hW), List.mem_cons_self, hts _ m3, hts _ m4, m5, hsig, hts _ l2⟩, hts _ l3⟩ hpre rfl (by rw [List.length_map]; exact hn) q5.1 hstk hrm hd ⟨by omega, by omega⟩
  | true =>
    obtain ⟨host, l2⟩ := l2
    exact va_runSN ⟨hS.1, hS.2.1, hS.2.2.1, hS.2.2.2.2.2.1, hts⟩ hMet ⟨⟨⟨rfl, rfl, hfr, by show 8 + (mx_nL callee + 11) + 40 * d ≤ _; omega, fun w hw a' U hW => (List.mem_cons.mp hw).elim (fun e => e ▸ mx_ws_warm hts m3 a' U hW) (fun hw => mx_ws_warm hts hw a' U hW), List.mem_cons_self⟩, hts _ m3, hts _ m4, m5, hsig, va_Nw.use rfl (hS.2.2.2.2.2.2.2.2.1.2.1 _ l2)⟩, hts _ l3, trivial⟩ hpre rfl (by rw [List.length_map]; exact hn) q5.1 hstk hrm hd ⟨by omega, by omega⟩
set_option maxHeartbeats 4000000 in
theorem mx_callv {idx callee n ci : Nat} {av : List mx_V} {r : mx_A} (hd : decode (mx_by mid) pc = .ok (.invokevirtual idx, 3)) (hM : mx_MK callee) (hL : mx_LK mid idx callee n 1 false) (hci : ci < 13) (hlo : mx_lo r = (ci, (mx_cr ci).2.2)) (hcl : (mx_y callee).cls = (mx_cr ci).1) (hn : av.length = n) (hlen : 1 + (av.map mx_cat).sum ≤ mx_nL callee) (hst : (st.map mx_cat).sum ≤ 8) (hb1 : (mx_bu callee).1 ≤ bc) (hb2 : (mx_bu callee).2 ≤ bs)
    (hC : mx_C0 E fin d callee (.inr r :: av) h (fun v h' => mx_T0 E fin (d + 1) (bc - (mx_bu callee).1) (bs - (mx_bu callee).2) mid (pc + 3) lv (v.toList ++ st) h' Q)) : mx_T0 E fin (d + 1) bc bs mid pc lv (av.reverse ++ .inr r :: st) h Q := by
  intro p e R s m args below meth c H locs cells slots Qw ls hS hD q1 q2 q3 q4 q5 q6
  obtain ⟨m1, m2, m3, m4, m5, m6⟩ := hM
  obtain ⟨l1, l2, l3⟩ := hL
  rw [if_neg (by decide), if_pos rfl] at l3
  have hts := hS.2.2.2.2.2.2.1
  have hwr : mx_wf h.1 (.inr r) := q4 _ (List.mem_append_right _ List.mem_cons_self)
  have hwa : ∀ v ∈ (Sum.inr r :: av : List mx_V), mx_wf h.1 v := fun v hv => (List.mem_cons.mp hv).elim (fun e => e ▸ hwr) (fun hv => q4 v (List.mem_append_left _ (List.mem_reverse.mpr hv)))
  have hMet := mx_met m1 m2 (by rw [List.map_cons, List.sum_cons]; exact hlen) hwa hC
  have hfr := hS.2.2.2.2.2.2.2.2.2.1
  have hlo2 := hS.2.2.2.2.2.2.2.2.2.2
  have hsig : ∀ sig, parseMethodDescriptor (mx_y callee).desc = some sig → n = sig.parameters.length := fun sig hs => by rw [hs] at l1; exact (Option.some.inj l1).symm
  obtain ⟨c1, c2, c3, c4⟩ := mx_ck hci
  have e0 := mx_W_get (E := E) (h := h) hwr
  rw [mx_cell_o (ci := ci) (by rw [hlo]) (by omega)] at e0
  have hrc := va_recv hS.2.2.2.2.2.2.2.2.1.1 hD.1 c1 e0
  rw [← hcl] at hrc
  have hpre : PreV s H (mx_y callee).cls (mx_ad E r) (mx_Pc E fin h (.inr r :: av)) (av.map (mx_sh E)) := ⟨mx_FB E fin h _, hrc, mx_PU hS.2.2.2.2.2.2.2.2.1 hD⟩
  have hstk : (F0 m pc ls ((av.reverse ++ .inr r :: st).map (mx_sh E))).stack = (av.map (mx_sh E)).reverse ++ .ref (mx_ad E r) :: st.map (mx_sh E) := by
    show (av.reverse ++ .inr r :: st).map (mx_sh E) = _
    rw [List.map_append, List.map_reverse]
    rfl
  have hrm := lv_room (m := m) (pc := pc) (ls := ls) (rest := (av.reverse ++ .inr r :: st).map (mx_sh E)) (mx_room_sum (E := E) hst)
  refine mx_goes (callee := callee) (av := .inr r :: av) (a := ((Sum.inr r :: av : List mx_V).map (mx_sh E)).toArray) ?_ hb1 hb2 hS hD q1 q2 q3 (fun v hv => q4 v (List.mem_append_right _ (List.mem_cons_of_mem _ hv))) q5 q6
  exact va_runV ⟨hS.1, hS.2.1, hS.2.2.1, hS.2.2.2.2.2.1, hts⟩ hMet ⟨⟨rfl, rfl, hfr, by show 8 + (mx_nL callee + 11) + 40 * d ≤ _; omega, fun w hw a' U hW => (List.mem_cons.mp hw).elim (fun e => e ▸ mx_ws_warm hts m3 a' U hW) (fun hw => mx_ws_warm hts hw a' U hW), List.mem_cons_self, hts _ m3, hts _ m4, m5, hsig, hts _ l2⟩, hts _ l3.1, hts _ l3.2⟩ hpre rfl (by rw [List.length_map]; exact hn) q5.1 hstk hrm hd ⟨by omega, by omega⟩
end MXC
/-! ===== cells made; constructors called ===== -/
def mx_z {α : Type} (f : mx_A → Nat → α) (a : mx_A) (v : α) : mx_A → Nat → α := fun b j => if b = a then v else f b j
/-- a new cell a, empty -/
def mx_nw (h : mx_H) (a : mx_A) : mx_H := (h.1 + 1, mx_z h.2.1 a 0, mx_z h.2.2.1 a 0, mx_z h.2.2.2 a none)
theorem mx_z_ne {α : Type} {f : mx_A → Nat → α} {a b : mx_A} {v : α} (h : b ≠ a) : mx_z f a v b = f b := by
  funext j
  exact if_neg h
theorem mx_z_eq {α : Type} {f : mx_A → Nat → α} {a : mx_A} {v : α} : mx_z f a v a = fun _ => v := by
  funext j
  exact if_pos rfl
theorem mx_cell_nw {E : mx_Ev} {h : mx_H} {a b : mx_A} (hb : b ≠ a) : mx_cell E (mx_nw h a) b = mx_cell E h b := by
  have h1 : mx_fv E (mx_nw h a) b = mx_fv E h b := by
    funext ci j
    simp only [mx_fv, mx_nw, mx_z_ne hb]
  have h2 : mx_ar E (mx_nw h a) b = mx_ar E h b := by
    funext kd
    simp only [mx_ar, mx_nw, mx_z_ne hb]
  unfold mx_cell
  rw [h1, h2]
theorem mx_D_push {E : mx_Ev} {fin : mx_A → Nat → Option mx_A} {h : mx_H} {s : State} {H H1 : Heap} {locs : List Loc} {a : mx_A} (hD : mx_D E fin h s H locs) (hp : mx_pos a = h.1) (hv : mx_va a) (hfa : ∀ k, fin a k = none)
    (hc : va_at (mx_G E) vwCl (mx_ad E a, mx_cell E (mx_nw h a) a) H1) (hz : H1.size = H.size + 1) (oq : ∀ q : Nat, q < H.size → H1[q]? = H[q]?) : mx_D E fin (mx_nw h a) s H1 locs := by
  obtain ⟨hP, hA, hS, hZ, hr, hf⟩ := hD
  have hW := mx_W_push (E := E) (h' := mx_nw h a) hp hv rfl (fun b _ hb => mx_cell_nw hb)
  have had : mx_ad E a = H.size := by rw [hZ, ← hp]; rfl
  have hmono : ∀ b, mx_wfa h.1 b → mx_wfa (h.1 + 1) b := fun b hb => ⟨hb.1, Nat.lt_succ_of_lt hb.2⟩
  refine ⟨?_, ?_, ⟨Nat.le_trans hS.1 (by omega), fun q h1 h2 => (oq q (Nat.lt_of_lt_of_le h1 hS.1)).trans (hS.2.1 q h1 h2), hS.2.2⟩, by rw [hz, hZ]; rfl, ?_, ?_⟩
  · rw [hW]
    refine (hP.kept (fun k x hx => oq x.1 ((hP k x hx).lt))).app (fun k x hx => ?_)
    have hk : k < 1 := (List.getElem?_eq_some_iff.mp hx).1
    rw [show k = 0 by omega] at hx
    cases hx
    exact hc
  · rw [hW]
    exact hA.push hP had (Nat.le_add_right _ _)
  · intro c k b hb
    by_cases e : c = a
    · subst e
      rw [show (mx_nw h c).2.2.2 c k = none from congrFun mx_z_eq k] at hb
      cases hb
    · exact hmono b (hr c k b (by rw [← hb]; exact (congrFun (mx_z_ne e) k).symm))
  · intro c k b hb hw
    by_cases e : c = a
    · subst e
      rw [hfa k] at hb
      cases hb
    · have hlt : mx_pos c < h.1 := by
        have h1 : mx_pos c < h.1 + 1 := hw.2
        have h2 : mx_pos c ≠ h.1 := fun q => e (mx_pos_inj hw.1 hv (q.trans hp.symm))
        omega
      rw [show (mx_nw h a).2.2.2 c k = h.2.2.2 c k from congrFun (mx_z_ne e) k]
      exact hf c k b hb ⟨hw.1, hlt⟩
section MXN
variable {E : mx_Ev} {fin : mx_A → Nat → Option mx_A} {d bc bs mid pc : Nat} {lv : mx_Lv} {st : List mx_V} {h : mx_H} {Q : Option mx_V → mx_H → Prop}
theorem mx_mk {a : mx_A} {k N : Nat} {u : List mx_V} (hp : mx_pos a = h.1) (hv : mx_va a) (hb1 : 1 ≤ bc) (hb2 : N ≤ bs)
    (hstep : ∀ (p : Program) (e : Env) (R : Room) (s : State) (m : MethodId) (args : Array Value) (below : List Frame) (meth : Method) (c : Code) (H : Heap) (locs : List Loc) (cells slots : Nat) (Qw : State → Prop) (ls : Array Slot),
      mx_S E d mid p R s m args meth c → mx_D E fin h s H locs → cells + 1 ≤ R.cells → slots + N ≤ R.slots →
      (∀ H1 : Heap, mx_D E fin (mx_nw h a) s H1 locs → W p E.1 e R s m args below meth c H1 locs (cells + 1) (slots + N) Qw (F0 m (pc + k) ls (.ref (mx_ad E a) :: st.map (mx_sh E)))) → W p E.1 e R s m args below meth c H locs cells slots Qw (F0 m pc ls ((u ++ st).map (mx_sh E))))
    (hk : mx_T0 E fin d (bc - 1) (bs - N) mid (pc + k) lv (.inr a :: st) (mx_nw h a) Q) : mx_T0 E fin d bc bs mid pc lv (u ++ st) h Q := by
  intro p e R s m args below meth c H locs cells slots Qw ls hS hD q1 q2 q3 q4 q5 q6
  refine hstep p e R s m args below meth c H locs cells slots Qw ls hS hD (by omega) (by omega) (fun H1 hD1 => ?_)
  refine hk p e R s m args below meth c H1 locs (cells + 1) (slots + N) Qw ls hS hD1 (by omega) (by omega) (fun q hq => (q3 q hq).mono (Nat.le_succ _)) (fun x hx => ?_) q5
    (fun v h2 H' locs' cells' slots' pc' ls' ins a1 a2 a3 a4 a5 a6 a7 a8 => q6 v h2 H' locs' cells' slots' pc' ls' ins a1 a2 (Nat.le_trans (Nat.le_succ _) a3) (by omega) (by omega) a6 a7 a8)
  rcases List.mem_cons.mp hx with rfl | hx
  · exact ⟨hv, by show mx_pos a < h.1 + 1; omega⟩
  · exact (q4 x (List.mem_append_right _ hx)).mono (Nat.le_succ _)
theorem mx_fok_d {ci j : Nat} (h : mx_fok ci j) : defaultValue (mx_ty ci j) = if mx_ff ci j = 2 then .null else .int 0 := by
  rcases h with ⟨h1, h2⟩ | ⟨h1, h2⟩ | ⟨h1, n, h2⟩ | ⟨h1, n, h2⟩ <;> rw [h1, h2] <;> rfl
theorem mx_new {a : mx_A} {ci idx : Nat} (hd : decode (mx_by mid) pc = .ok (.new idx, 3)) (hci : ci < 13) (hl : mx_lo a = (ci, (mx_cr ci).2.2)) (hfo : ∀ j, j < (mx_cr ci).2.2 → mx_fok ci j) (hlk : Cond.classLink (mx_ow mid) idx (mx_cr ci).1 ∈ mx_ws) (hin : Cond.instantiable (mx_cr ci).1 (mx_cr ci).2.2 ∈ mx_ws) (hini : Cond.initialized (mx_cr ci).1 ∈ mx_ws)
    (hfa : ∀ k, fin a k = none) (hp : mx_pos a = h.1) (hv : mx_va a) (hb1 : 1 ≤ bc) (hb2 : (mx_cr ci).2.2 ≤ bs) (hk : mx_T0 E fin d (bc - 1) (bs - (mx_cr ci).2.2) mid (pc + 3) lv (.inr a :: st) (mx_nw h a) Q) : mx_T0 E fin d bc bs mid pc lv st h Q := by
  obtain ⟨c1, c2, c3, c4⟩ := mx_ck hci
  refine mx_mk (u := []) hp hv hb1 hb2 (fun p e R s m args below meth c H locs cells slots Qw ls hS hD r1 r2 k9 => ?_) hk
  have hts := hS.2.2.2.2.2.2.1
  have hK := hS.2.2.2.2.2.2.2.2.1.1
  have hKn := hK.1 ci _ c1
  have had : mx_ad E a = H.size := by rw [hD.2.2.2.1, ← hp]; rfl
  refine W.newcK hS.1 hS.2.1 hS.2.2.2.2.2.1 (hts _ hlk) (hts _ hin) (hts _ hini) rfl hd r1 r2 hKn.2.1 rfl fun H1 kC hkC e1 z1 o1 => ?_
  have K := k9 H1 (mx_D_push hD hp hv hfa ?_ z1 o1)
  · rw [had] at K
    exact K
  · rw [mx_cell_o (ci := ci) (by rw [hl]) (by omega), hl, had]
    refine ⟨_, c1, (u_born (mx_ty ci) hts c2 hKn hkC e1 c3).to (fun j hj => ?_)⟩
    unfold vp_V
    rw [List.getD_eq_getElem?_getD, List.getElem?_map, List.getElem?_range hj]
    simp only [Option.map_some, Option.getD_some, mx_fv, mx_nw, mx_z_eq]
    rw [mx_fok_d (hfo j hj)]
    split <;> rfl
theorem mx_newarr {a : mx_A} {at' : ArrayType} {n : Int32} (hd : decode (mx_by mid) pc = .ok (.newarray at', 2)) (hak : mx_ak at' ≤ 3) (hl : mx_lo a = (100 + mx_ak at', n.toNatClampNeg)) (hn : ¬ n < 0) (hn2 : n.toNatClampNeg ≤ 60000) (hw : Cond.arrayClass (newarray.typeOf at') ∈ mx_ws)
    (hfa : ∀ k, fin a k = none) (hp : mx_pos a = h.1) (hv : mx_va a) (hb1 : 1 ≤ bc) (hb2 : n.toNatClampNeg ≤ bs) (hk : mx_T0 E fin d (bc - 1) (bs - n.toNatClampNeg) mid (pc + 2) lv (.inr a :: st) (mx_nw h a) Q) : mx_T0 E fin d bc bs mid pc lv (.inl (.int n) :: st) h Q := by
  refine mx_mk (u := [.inl (.int n)]) hp hv hb1 hb2 (fun p e R s m args below meth c H locs cells slots Qw ls hS hD r1 r2 k9 => ?_) hk
  have hts := hS.2.2.2.2.2.2.1
  have hK := hS.2.2.2.2.2.2.2.2.1.1
  have had : mx_ad E a = H.size := by rw [hD.2.2.2.1, ← hp]; rfl
  refine va_newaK hS.1 hS.2.1 (hts _ hw) rfl hd rfl hn rfl ?_ r1 r2 rfl fun H1 cA e1 z1 o1 hAr hNm => ?_
  · have : componentBytes (newarray.typeOf at') ≤ 8 := by cases at' <;> decide
    exact Nat.le_trans (Nat.mul_le_mul hn2 this) (by decide)
  · have K := k9 H1 (mx_D_push hD hp hv hfa ?_ z1 o1)
    · rw [had] at K
      exact K
    · rw [had]
      cases at' with
      | int =>
        have hcA : cA = mx_aC E 0 := Option.some.inj (hNm.symm.trans (hK.2 0 _ rfl).2)
        rw [mx_cell_i (kd := 100) (by rw [hl]; rfl) (by simp), hl, ← hcA]
        exact e1.trans (by simp only [mx_nw, mx_z_eq]; rfl)
      | long =>
        have hcA : cA = mx_aC E 1 := Option.some.inj (hNm.symm.trans (hK.2 1 _ rfl).2)
        rw [mx_cell_l (by rw [hl]; rfl), hl, ← hcA]
        exact e1.trans (by simp only [mx_nw, mx_z_eq]; rfl)
      | byte =>
        have hcA : cA = mx_aC E 2 := Option.some.inj (hNm.symm.trans (hK.2 2 _ rfl).2)
        rw [mx_cell_i (kd := 102) (by rw [hl]; rfl) (by simp), hl, ← hcA]
        exact e1.trans (by simp only [mx_nw, mx_z_eq]; rfl)
      | boolean =>
        have hcA : cA = mx_aC E 3 := Option.some.inj (hNm.symm.trans (hK.2 3 _ rfl).2)
        rw [mx_cell_i (kd := 103) (by rw [hl]; rfl) (by simp), hl, ← hcA]
        exact e1.trans (by simp only [mx_nw, mx_z_eq]; rfl)
      | _ => exact absurd hak (by decide)
theorem mx_anew {a : mx_A} {idx : Nat} {n : Int32} (hd : decode (mx_by mid) pc = .ok (.anewarray idx, 3)) (hl : mx_lo a = (104, n.toNatClampNeg)) (hn : ¬ n < 0) (hn2 : n.toNatClampNeg ≤ 60000) (hw : Cond.classLink (mx_ow mid) idx RX7 ∈ mx_ws)
    (hfa : ∀ k, fin a k = none) (hp : mx_pos a = h.1) (hv : mx_va a) (hb1 : 1 ≤ bc) (hb2 : n.toNatClampNeg ≤ bs) (hk : mx_T0 E fin d (bc - 1) (bs - n.toNatClampNeg) mid (pc + 3) lv (.inr a :: st) (mx_nw h a) Q) : mx_T0 E fin d bc bs mid pc lv (.inl (.int n) :: st) h Q := by
  refine mx_mk (u := [.inl (.int n)]) hp hv hb1 hb2 (fun p e R s m args below meth c H locs cells slots Qw ls hS hD r1 r2 k9 => ?_) hk
  have hts := hS.2.2.2.2.2.2.1
  have hK := hS.2.2.2.2.2.2.2.2.1.1
  have had : mx_ad E a = H.size := by rw [hD.2.2.2.1, ← hp]; rfl
  refine W.anew hS.1 hS.2.1 hS.2.2.2.2.2.1 (hts _ hw) (va_AO.use hS.2.2.2.2.2.2.2.2.1.2.2.1) rfl hd rfl hn (by omega) r1 r2 fun cA kA comp f1 f2 f3 f4 => ?_
  have hcA : cA = mx_aC E 4 := by
    obtain ⟨kA', comp', g1, g2, g3, g4⟩ := (hK.2 4 _ rfl).2
    exact Option.some.inj (f1.symm.trans g4)
  have K := k9 (H.push ({ cls := cA, slots := Array.replicate n.toNatClampNeg .null, vm := .none } : Cell)) (mx_D_push hD hp hv hfa ?_ (by rw [Array.size_push]) (fun q hq => by rw [Array.getElem?_push, if_neg (Nat.ne_of_lt hq)]))
  · rw [had] at K
    exact K
  · rw [had, mx_cell_q (kd := 104) (by rw [hl]) (by simp), hl, ← hcA]
    show (Array.push H _)[H.size]? = some (vp_cell _ _)
    rw [Array.getElem?_push_size, vp_cell_q, arrV_new]
    simp only [mx_nw, mx_z_eq]
    rfl
/-- the super constructor's call -/
theorem mx_objinit {a : mx_A} {idx : Nat} (hd : decode (mx_by mid) pc = .ok (.invokespecial idx, 3)) (hlk : Cond.methodLink (mx_ow mid) idx Lib.objectInit ∈ mx_ws) (hst : (st.map mx_cat).sum ≤ 8) (h1 : Cond.instanceMethod Lib.objectInit ∈ mx_ws) (h2 : Cond.code Lib.objectInit ⟨#[0xb1]⟩ 1 none ∈ mx_ws)
    (hk : mx_T0 E fin (d + 1) bc bs mid (pc + 3) lv st h Q) : mx_T0 E fin (d + 1) bc bs mid pc lv (.inr a :: st) h Q := by
  refine mx_go (fun h1 h2 => ⟨h1, fun x hx => h2 x (List.mem_cons_of_mem _ hx)⟩) (fun p e R s m args below meth c H locs cells slots Qw ls hS hD hl kk => ?_) hk
  have hts := hS.2.2.2.2.2.2.1
  have hfr := hS.2.2.2.2.2.2.2.2.2.1
  have hlo := hS.2.2.2.2.2.2.2.2.2.2
  have hrm := lv_room (m := m) (pc := pc) (ls := ls) (rest := (Sum.inr a :: st).map (mx_sh E)) (mx_room_sum (E := E) hst)
  exact W.objInit hS.1 hS.2.1 hS.2.2.2.2.2.1 (hts _ hlk) (hts _ h1) (hts _ h2) rfl (hl.1.trans hS.2.2.1.symm) rfl hd (by omega) (by omega) (kk ls hl)
set_option maxHeartbeats 4000000 in
theorem mx_calli {idx callee n : Nat} {nest : Bool} {av : List mx_V} {r : mx_A} (hd : decode (mx_by mid) pc = .ok (.invokespecial idx, 3)) (hM : mx_MK callee) (hL : mx_LK mid idx callee n 2 nest) (hn : av.length = n) (hlen : 1 + (av.map mx_cat).sum ≤ mx_nL callee) (hst : (st.map mx_cat).sum ≤ 8) (hb1 : (mx_bu callee).1 ≤ bc) (hb2 : (mx_bu callee).2 ≤ bs)
    (hC : mx_C0 E fin d callee (.inr r :: av) h (fun v h' => mx_T0 E fin (d + 1) (bc - (mx_bu callee).1) (bs - (mx_bu callee).2) mid (pc + 3) lv (v.toList ++ st) h' Q)) : mx_T0 E fin (d + 1) bc bs mid pc lv (av.reverse ++ .inr r :: st) h Q := by
  intro p e R s m args below meth c H locs cells slots Qw ls hS hD q1 q2 q3 q4 q5 q6
  obtain ⟨m1, m2, m3, m4, m5, m6⟩ := hM
  obtain ⟨l1, l2, l3⟩ := hL
  rw [if_neg (by decide), if_neg (by decide)] at l3
  have hts := hS.2.2.2.2.2.2.1
  have hwr : mx_wf h.1 (.inr r) := q4 _ (List.mem_append_right _ List.mem_cons_self)
  have hwa : ∀ v ∈ (Sum.inr r :: av : List mx_V), mx_wf h.1 v := fun v hv => (List.mem_cons.mp hv).elim (fun e => e ▸ hwr) (fun hv => q4 v (List.mem_append_left _ (List.mem_reverse.mpr hv)))
  have hMet := mx_met m1 m2 (by rw [List.map_cons, List.sum_cons]; exact hlen) hwa hC
  have hfr := hS.2.2.2.2.2.2.2.2.2.1
  have hlo2 := hS.2.2.2.2.2.2.2.2.2.2
  have hsig : ∀ sig, parseMethodDescriptor (mx_y callee).desc = some sig → n = sig.parameters.length := fun sig hs => by rw [hs] at l1; exact (Option.some.inj l1).symm
  have hpre : PreS s H (mx_Pc E fin h (.inr r :: av)) (.ref (mx_ad E r) :: av.map (mx_sh E)) := ⟨mx_FB E fin h _, mx_PU hS.2.2.2.2.2.2.2.2.1 hD⟩
  have hstk : (F0 m pc ls ((av.reverse ++ .inr r :: st).map (mx_sh E))).stack = (av.map (mx_sh E)).reverse ++ .ref (mx_ad E r) :: st.map (mx_sh E) := by
    show (av.reverse ++ .inr r :: st).map (mx_sh E) = _
    rw [List.map_append, List.map_reverse]
    rfl
  have hrm := lv_room (m := m) (pc := pc) (ls := ls) (rest := (av.reverse ++ .inr r :: st).map (mx_sh E)) (mx_room_sum (E := E) hst)
  have m3' := m3
  rw [l3.2.2] at m3'
  have hMet' : Met E.1 (mx_y callee) (Cond.code (mx_y callee) (mx_by callee) (mx_nL callee) none :: mx_ws) (mx_rm d callee) (mx_Pc E fin h (.inr r :: av)) (mx_Qc E fin h (fun v h' => mx_T0 E fin (d + 1) (bc - (mx_bu callee).1) (bs - (mx_bu callee).2) mid (pc + 3) lv (v.toList ++ st) h' Q)) (mx_bu callee).1 (mx_bu callee).2 (mx_ra E) := by
    rw [show mx_wm callee = Cond.code (mx_y callee) (mx_by callee) (mx_nL callee) none :: mx_ws by unfold mx_wm; rw [l3.2.2]] at hMet
    exact hMet
  refine mx_goes (callee := callee) (av := .inr r :: av) (a := ((Sum.inr r :: av : List mx_V).map (mx_sh E)).toArray) ?_ hb1 hb2 hS hD q1 q2 q3 (fun v hv => q4 v (List.mem_append_right _ (List.mem_cons_of_mem _ hv))) q5 q6
  cases nest with
  | false =>
    exact va_runI ⟨hS.1, hS.2.1, hS.2.2.1, hS.2.2.2.2.2.1, hts⟩ hMet' ⟨⟨rfl, rfl, hfr, by show 8 + (mx_nL callee + 11) + 40 * d ≤ _; omega, fun w hw a' U hW => (List.mem_cons.mp hw).elim (fun e => e ▸ mx_ws_warm hts m3' a' U hW) (fun hw => mx_ws_warm hts hw a' U hW), List.mem_cons_self, hts _ m3', hts _ m4, m5, hsig, hts _ l2⟩, l3.2.1, hts _ l3.1⟩ hpre rfl (by rw [List.length_map]; exact hn) q5.1 hstk hrm hd ⟨by omega, by omega⟩
  | true =>
    obtain ⟨host, l2⟩ := l2
    exact va_runIN ⟨hS.1, hS.2.1, hS.2.2.1, hS.2.2.2.2.2.1, hts⟩ hMet' ⟨⟨⟨rfl, rfl, hfr, by show 8 + (mx_nL callee + 11) + 40 * d ≤ _; omega, fun w hw a' U hW => (List.mem_cons.mp hw).elim (fun e => e ▸ mx_ws_warm hts m3' a' U hW) (fun hw => mx_ws_warm hts hw a' U hW), List.mem_cons_self⟩, hts _ m3', hts _ m4, m5, hsig, va_Nw.use rfl (hS.2.2.2.2.2.2.2.2.1.2.1 _ l2)⟩, l3.2.1, hts _ l3.1⟩ hpre rfl (by rw [List.length_map]; exact hn) q5.1 hstk hrm hd ⟨by omega, by omega⟩
end MXN
/-! ===== Math's own methods ===== -/
def mx_if (b : Bool) (P : Prop) : Prop := match b with
  | true => P
  | false => False
theorem mx_if_t {b : Bool} {P : Prop} (h : mx_if b P) : b = true ∧ P := by
  cases b
  · exact h.elim
  · exact ⟨rfl, h⟩
section MXM
variable {E : mx_Ev} {fin : mx_A → Nat → Option mx_A} {d bc bs mid pc : Nat} {lv : mx_Lv} {st : List mx_V} {h : mx_H} {Q : Option mx_V → mx_H → Prop}
/-- a call that answers at once -/
theorem mx_quick {u : List mx_V} {v : mx_V} (hv : mx_wf h.1 v) (hst : (st.map mx_cat).sum ≤ 8)
    (hstep : ∀ (p : Program) (e : Env) (R : Room) (s : State) (m : MethodId) (args : Array Value) (below : List Frame) (meth : Method) (c : Code) (H : Heap) (locs : List Loc) (cells slots : Nat) (Qw : State → Prop) (ls : Array Slot),
      mx_S E (d + 1) mid p R s m args meth c → c.maxLocals = ls.size → 1 ≤ R.frames → ((st.map (mx_sh E)).map fun v => v.category).sum + 15 ≤ R.locals → cells ≤ R.cells → slots ≤ R.slots →
      W p E.1 e R s m args below meth c H locs cells slots Qw (F0 m (pc + 3) ls (mx_sh E v :: st.map (mx_sh E))) → W p E.1 e R s m args below meth c H locs cells slots Qw (F0 m pc ls ((u ++ st).map (mx_sh E))))
    (hk : mx_T0 E fin (d + 1) bc bs mid (pc + 3) lv (v :: st) h Q) : mx_T0 E fin (d + 1) bc bs mid pc lv (u ++ st) h Q :=
  fun p e R s m args below meth c H locs cells slots Qw ls hS hD q1 q2 q3 q4 q5 q6 => by
    have h1 := hS.2.2.2.2.2.2.2.2.2.1
    have h2 := hS.2.2.2.2.2.2.2.2.2.2
    have h3 := mx_room_sum (E := E) hst
    exact hstep p e R s m args below meth c H locs cells slots Qw ls hS (hS.2.2.1.trans q5.1.symm) (by omega) (by omega) (by omega) (by omega)
      (hk p e R s m args below meth c H locs cells slots Qw ls hS hD q1 q2 q3 (fun x hx => (List.mem_cons.mp hx).elim (fun e => e ▸ hv) (fun hx => q4 x (List.mem_append_right _ hx))) q5 q6)
theorem mx_mabs {x : Int32} {i : Nat} (hd : decode (mx_by mid) pc = .ok (.invokestatic i, 3)) (hw : mx_MW (mx_me mid).1 i Lib.Math.abs.name Lib.Math.abs.code 1 (some .int)) (hst : (st.map mx_cat).sum ≤ 8) (hk : mx_T0 E fin (d + 1) bc bs mid (pc + 3) lv (.inl (.int (if 0 ≤ x then x else 0 - x)) :: st) h Q) : mx_T0 E fin (d + 1) bc bs mid pc lv (.inl (.int x) :: st) h Q :=
  mx_quick (v := .inl (.int (if 0 ≤ x then x else 0 - x))) (u := [.inl (.int x)]) (by exact True.intro) hst (fun _ _ _ _ _ _ _ _ _ _ _ _ _ _ _ hS hml hfr hlo hc hs k => va_mabs hS.1 hS.2.1 hml hS.2.2.2.2.2.1 (hS.2.2.2.2.2.2.1 _ hw.1) (hS.2.2.2.2.2.2.1 _ hw.2.1) (hS.2.2.2.2.2.2.1 _ hw.2.2.1) (hS.2.2.2.2.2.2.1 _ hw.2.2.2) hfr (by show ((st.map (mx_sh E)).map fun v => v.category).sum + _ ≤ _; omega) hc hs hd k) hk
theorem mx_mabsl {x : Int64} {i : Nat} (hd : decode (mx_by mid) pc = .ok (.invokestatic i, 3)) (hw : mx_MW (mx_me mid).1 i Lib.MathLoose.abs_long.x Lib.MathLoose.abs_long.code 2 (some .long)) (hst : (st.map mx_cat).sum ≤ 8) (hk : mx_T0 E fin (d + 1) bc bs mid (pc + 3) lv (.inl (.long (if 0 < x then x else -x)) :: st) h Q) : mx_T0 E fin (d + 1) bc bs mid pc lv (.inl (.long x) :: st) h Q :=
  mx_quick (v := .inl (.long (if 0 < x then x else -x))) (u := [.inl (.long x)]) (by exact True.intro) hst (fun _ _ _ _ _ _ _ _ _ _ _ _ _ _ _ hS hml hfr hlo hc hs k => va_mabs_long hS.1 hS.2.1 hml hS.2.2.2.2.2.1 (hS.2.2.2.2.2.2.1 _ hw.1) (hS.2.2.2.2.2.2.1 _ hw.2.1) (hS.2.2.2.2.2.2.1 _ hw.2.2.1) (hS.2.2.2.2.2.2.1 _ hw.2.2.2) hfr (by show ((st.map (mx_sh E)).map fun v => v.category).sum + _ ≤ _; omega) hc hs hd k) hk
theorem mx_mmax {x y : Int32} {i : Nat} (hd : decode (mx_by mid) pc = .ok (.invokestatic i, 3)) (hw : mx_MW (mx_me mid).1 i Lib.Math.max.name Lib.Math.max.code 2 (some .int)) (hst : (st.map mx_cat).sum ≤ 8) (hk : mx_T0 E fin (d + 1) bc bs mid (pc + 3) lv (.inl (.int (if x < y then y else x)) :: st) h Q) : mx_T0 E fin (d + 1) bc bs mid pc lv (.inl (.int y) :: .inl (.int x) :: st) h Q :=
  mx_quick (v := .inl (.int (if x < y then y else x))) (u := [.inl (.int y), .inl (.int x)]) (by exact True.intro) hst (fun _ _ _ _ _ _ _ _ _ _ _ _ _ _ _ hS hml hfr hlo hc hs k => va_mmax hS.1 hS.2.1 hml hS.2.2.2.2.2.1 (hS.2.2.2.2.2.2.1 _ hw.1) (hS.2.2.2.2.2.2.1 _ hw.2.1) (hS.2.2.2.2.2.2.1 _ hw.2.2.1) (hS.2.2.2.2.2.2.1 _ hw.2.2.2) hfr (by show ((st.map (mx_sh E)).map fun v => v.category).sum + _ ≤ _; omega) hc hs hd k) hk
theorem mx_mmaxl {x y : Int64} {i : Nat} (hd : decode (mx_by mid) pc = .ok (.invokestatic i, 3)) (hw : mx_MW (mx_me mid).1 i Lib.MathLoose.max_long.x Lib.MathLoose.max_long.code 4 (some .long)) (hst : (st.map mx_cat).sum ≤ 8) (hk : mx_T0 E fin (d + 1) bc bs mid (pc + 3) lv (.inl (.long (if y < x then x else y)) :: st) h Q) : mx_T0 E fin (d + 1) bc bs mid pc lv (.inl (.long y) :: .inl (.long x) :: st) h Q :=
  mx_quick (v := .inl (.long (if y < x then x else y))) (u := [.inl (.long y), .inl (.long x)]) (by exact True.intro) hst (fun _ _ _ _ _ _ _ _ _ _ _ _ _ _ _ hS hml hfr hlo hc hs k => va_mmax_long hS.1 hS.2.1 hml hS.2.2.2.2.2.1 (hS.2.2.2.2.2.2.1 _ hw.1) (hS.2.2.2.2.2.2.1 _ hw.2.1) (hS.2.2.2.2.2.2.1 _ hw.2.2.1) (hS.2.2.2.2.2.2.1 _ hw.2.2.2) hfr (by show ((st.map (mx_sh E)).map fun v => v.category).sum + _ ≤ _; omega) hc hs hd k) hk
theorem mx_mmin {x y : Int32} {i : Nat} (hd : decode (mx_by mid) pc = .ok (.invokestatic i, 3)) (hw : mx_MW (mx_me mid).1 i Lib.Math.min.name Lib.Math.min.code 2 (some .int)) (hst : (st.map mx_cat).sum ≤ 8) (hk : mx_T0 E fin (d + 1) bc bs mid (pc + 3) lv (.inl (.int (if y < x then y else x)) :: st) h Q) : mx_T0 E fin (d + 1) bc bs mid pc lv (.inl (.int y) :: .inl (.int x) :: st) h Q :=
  mx_quick (v := .inl (.int (if y < x then y else x))) (u := [.inl (.int y), .inl (.int x)]) (by exact True.intro) hst (fun _ _ _ _ _ _ _ _ _ _ _ _ _ _ _ hS hml hfr hlo hc hs k => va_mmin hS.1 hS.2.1 hml hS.2.2.2.2.2.1 (hS.2.2.2.2.2.2.1 _ hw.1) (hS.2.2.2.2.2.2.1 _ hw.2.1) (hS.2.2.2.2.2.2.1 _ hw.2.2.1) (hS.2.2.2.2.2.2.1 _ hw.2.2.2) hfr (by show ((st.map (mx_sh E)).map fun v => v.category).sum + _ ≤ _; omega) hc hs hd k) hk
theorem mx_mminl {x y : Int64} {i : Nat} (hd : decode (mx_by mid) pc = .ok (.invokestatic i, 3)) (hw : mx_MW (mx_me mid).1 i Lib.MathLoose.min_long.x Lib.MathLoose.min_long.code 4 (some .long)) (hst : (st.map mx_cat).sum ≤ 8) (hk : mx_T0 E fin (d + 1) bc bs mid (pc + 3) lv (.inl (.long (if y < x then y else x)) :: st) h Q) : mx_T0 E fin (d + 1) bc bs mid pc lv (.inl (.long y) :: .inl (.long x) :: st) h Q :=
  mx_quick (v := .inl (.long (if y < x then y else x))) (u := [.inl (.long y), .inl (.long x)]) (by exact True.intro) hst (fun _ _ _ _ _ _ _ _ _ _ _ _ _ _ _ hS hml hfr hlo hc hs k => va_mmin_long hS.1 hS.2.1 hml hS.2.2.2.2.2.1 (hS.2.2.2.2.2.2.1 _ hw.1) (hS.2.2.2.2.2.2.1 _ hw.2.1) (hS.2.2.2.2.2.2.1 _ hw.2.2.1) (hS.2.2.2.2.2.2.1 _ hw.2.2.2) hfr (by show ((st.map (mx_sh E)).map fun v => v.category).sum + _ ≤ _; omega) hc hs hd k) hk
end MXM
def mx_mth (a : Nat) (st : List mx_V) (κ : List mx_V → Prop) : Prop := match a, st with
  | 0, .inl (.int x) :: r => mx_if (Nat.ble ((r.map mx_cat).sum) 8) (κ (.inl (.int (if 0 ≤ x then x else 0 - x)) :: r))
  | 1, .inl (.long x) :: r => mx_if (Nat.ble ((r.map mx_cat).sum) 8) (κ (.inl (.long (if 0 < x then x else -x)) :: r))
  | 2, .inl (.int y) :: .inl (.int x) :: r => mx_if (Nat.ble ((r.map mx_cat).sum) 8) (κ (.inl (.int (if x < y then y else x)) :: r))
  | 3, .inl (.long y) :: .inl (.long x) :: r => mx_if (Nat.ble ((r.map mx_cat).sum) 8) (κ (.inl (.long (if y < x then x else y)) :: r))
  | 4, .inl (.int y) :: .inl (.int x) :: r => mx_if (Nat.ble ((r.map mx_cat).sum) 8) (κ (.inl (.int (if y < x then y else x)) :: r))
  | 5, .inl (.long y) :: .inl (.long x) :: r => mx_if (Nat.ble ((r.map mx_cat).sum) 8) (κ (.inl (.long (if y < x then y else x)) :: r))
  | _, _ => False
theorem mx_mth_s {E : mx_Ev} {fin : mx_A → Nat → Option mx_A} {d bc bs mid pc : Nat} {lv : mx_Lv} {st : List mx_V} {h : mx_H} {Q : Option mx_V → mx_H → Prop} {i a : Nat} {κ : List mx_V → Prop} (hd : decode (mx_by mid) pc = .ok (.invokestatic i, 3)) (hw : mx_mw (mx_me mid).1 i a) (kk : ∀ r, κ r → mx_T0 E fin (d + 1) bc bs mid (pc + 3) lv r h Q) (hk : mx_mth a st κ) : mx_T0 E fin (d + 1) bc bs mid pc lv st h Q := by
  unfold mx_mth at hk
  unfold mx_mw at hw
  split at hk
  · obtain ⟨q1, q2⟩ := mx_if_t hk; exact mx_mabs hd hw (Nat.le_of_ble_eq_true q1) (kk _ q2)
  · obtain ⟨q1, q2⟩ := mx_if_t hk; exact mx_mabsl hd hw (Nat.le_of_ble_eq_true q1) (kk _ q2)
  · obtain ⟨q1, q2⟩ := mx_if_t hk; exact mx_mmax hd hw (Nat.le_of_ble_eq_true q1) (kk _ q2)
  · obtain ⟨q1, q2⟩ := mx_if_t hk; exact mx_mmaxl hd hw (Nat.le_of_ble_eq_true q1) (kk _ q2)
  · obtain ⟨q1, q2⟩ := mx_if_t hk; exact mx_mmin hd hw (Nat.le_of_ble_eq_true q1) (kk _ q2)
  · obtain ⟨q1, q2⟩ := mx_if_t hk; exact mx_mminl hd hw (Nat.le_of_ble_eq_true q1) (kk _ q2)
  · exact hk.elim
