/-! ===== one instruction at a time: stack and locals ===== -/
def mx_get (lv : mx_Lv) (i : Nat) : Option mx_V := (lv.find? (fun q => q.1 == i)).map (fun q => q.2)
def mx_set1 (lv : mx_Lv) (i : Nat) (v : mx_V) : mx_Lv := (i, v) :: lv.filter (fun q => !(q.1 == i) && !(q.1 + 1 == i && mx_cat q.2 == 2))
def mx_set2 (lv : mx_Lv) (i : Nat) (v : mx_V) : mx_Lv := (i, v) :: lv.filter (fun q => !(q.1 == i) && (!(q.1 == i + 1) && !(q.1 + 1 == i && mx_cat q.2 == 2)))
theorem mx_get_mem {lv : mx_Lv} {i : Nat} {v : mx_V} (h : mx_get lv i = some v) : (i, v) ∈ lv := by
  unfold mx_get at h
  cases hf : lv.find? (fun q => q.1 == i) with
  | none => rw [hf] at h; cases h
  | some q =>
    rw [hf] at h
    have h1 := List.mem_of_find?_eq_some hf
    have h2 := List.find?_some hf
    cases h
    have h3 : q.1 = i := by simpa using h2
    subst h3
    exact h1
theorem mx_has {E : mx_Ev} {ls : Array Slot} {n i : Nat} {lv : mx_Lv} {v : mx_V} (hl : lv_has ls n (lv.map (mx_shl E))) (h : mx_get lv i = some v) : ls[i]? = some (.val (mx_sh E v)) :=
  hl.2.2 (i, mx_sh E v) (List.mem_map.mpr ⟨(i, v), mx_get_mem h, rfl⟩)
theorem mx_set1_map (E : mx_Ev) (lv : mx_Lv) (i : Nat) (v : mx_V) : (i, mx_sh E v) :: (lv.map (mx_shl E)).filter (fun q => !(q.1 == i) && !(q.1 + 1 == i && q.2.category == 2)) = (mx_set1 lv i v).map (mx_shl E) := by
  unfold mx_set1
  rw [List.map_cons, List.filter_map]
  congr 2
  apply List.filter_congr
  intro q _
  simp only [Function.comp, mx_shl, mx_cat_sh]
theorem mx_set2_map (E : mx_Ev) (lv : mx_Lv) (i : Nat) (v : mx_V) : (i, mx_sh E v) :: (lv.map (mx_shl E)).filter (fun q => !(q.1 == i) && (!(q.1 == i + 1) && !(q.1 + 1 == i && q.2.category == 2))) = (mx_set2 lv i v).map (mx_shl E) := by
  unfold mx_set2
  rw [List.map_cons, List.filter_map]
  congr 2
  apply List.filter_congr
  intro q _
  simp only [Function.comp, mx_shl, mx_cat_sh]
theorem mx_set1_wf {n : Nat} {lv : mx_Lv} {i : Nat} {v : mx_V} (h : ∀ q ∈ lv, mx_wf n q.2) (hv : mx_wf n v) : ∀ q ∈ mx_set1 lv i v, mx_wf n q.2 := by
  intro q hq
  rcases List.mem_cons.mp hq with rfl | hq
  · exact hv
  · exact h q (List.mem_filter.mp hq).1
theorem mx_set2_wf {n : Nat} {lv : mx_Lv} {i : Nat} {v : mx_V} (h : ∀ q ∈ lv, mx_wf n q.2) (hv : mx_wf n v) : ∀ q ∈ mx_set2 lv i v, mx_wf n q.2 := by
  intro q hq
  rcases List.mem_cons.mp hq with rfl | hq
  · exact hv
  · exact h q (List.mem_filter.mp hq).1
section MXR
variable {E : mx_Ev} {fin : mx_A → Nat → Option mx_A} {d bc bs mid pc : Nat} {lv : mx_Lv} {st : List mx_V} {h : mx_H} {Q : Option mx_V → mx_H → Prop}
/-- a value is pushed -/
theorem mx_push {v : mx_V} {k : Nat} (hv : (∀ q ∈ lv, mx_wf h.1 q.2) → mx_wf h.1 v)
    (hstep : ∀ (p : Program) (e : Env) (R : Room) (s : State) (m : MethodId) (args : Array Value) (below : List Frame) (meth : Method) (c : Code) (H : Heap) (locs : List Loc) (cells slots : Nat) (Qw : State → Prop) (ls : Array Slot),
      mx_S E d mid p R s m args meth c → mx_D E fin h s H locs → lv_has ls (mx_nL mid) (lv.map (mx_shl E)) → W p E.1 e R s m args below meth c H locs cells slots Qw (F0 m (pc + k) ls (mx_sh E v :: st.map (mx_sh E))) → W p E.1 e R s m args below meth c H locs cells slots Qw (F0 m pc ls (st.map (mx_sh E))))
    (hk : mx_T0 E fin d bc bs mid (pc + k) lv (v :: st) h Q) : mx_T0 E fin d bc bs mid pc lv st h Q :=
  mx_go (fun h1 h2 => ⟨h1, fun x hx => (List.mem_cons.mp hx).elim (fun e => e ▸ hv h1) (h2 x)⟩) (fun p e R s m args below meth c H locs cells slots Qw ls hS hD hl kk => hstep p e R s m args below meth c H locs cells slots Qw ls hS hD hl (kk ls hl)) hk
theorem mx_iconst {n : Int} (hd : decode (mx_by mid) pc = .ok (.iconst n, 1)) (hk : mx_T0 E fin d bc bs mid (pc + 1) lv (.inl (.int (Int32.ofInt n)) :: st) h Q) : mx_T0 E fin d bc bs mid pc lv st h Q :=
  mx_push (fun _ => by exact True.intro) (fun _ _ _ _ _ _ _ _ _ _ _ _ _ _ _ hS _ _ k => lv_iconst hS.1 hS.2.1 hd rfl k) hk
theorem mx_bipush {n : Int} (hd : decode (mx_by mid) pc = .ok (.bipush n, 2)) (hk : mx_T0 E fin d bc bs mid (pc + 2) lv (.inl (.int (Int8.ofInt n).toInt32) :: st) h Q) : mx_T0 E fin d bc bs mid pc lv st h Q :=
  mx_push (fun _ => by exact True.intro) (fun _ _ _ _ _ _ _ _ _ _ _ _ _ _ _ hS _ _ k => lv_bipush hS.1 hS.2.1 hd rfl k) hk
theorem mx_sipush {n : Int} (hd : decode (mx_by mid) pc = .ok (.sipush n, 3)) (hk : mx_T0 E fin d bc bs mid (pc + 3) lv (.inl (.int (Int16.ofInt n).toInt32) :: st) h Q) : mx_T0 E fin d bc bs mid pc lv st h Q :=
  mx_push (fun _ => by exact True.intro) (fun _ _ _ _ _ _ _ _ _ _ _ _ _ _ _ hS _ _ k => lv_sipush hS.1 hS.2.1 hd rfl k) hk
theorem mx_lconst {n : Fin 2} (hd : decode (mx_by mid) pc = .ok (.lconst n, 1)) (hk : mx_T0 E fin d bc bs mid (pc + 1) lv (.inl (.long (Int64.ofNat (n : Nat))) :: st) h Q) : mx_T0 E fin d bc bs mid pc lv st h Q :=
  mx_push (fun _ => by exact True.intro) (fun _ _ _ _ _ _ _ _ _ _ _ _ _ _ _ hS _ _ k => lv_lconst hS.1 hS.2.1 hd rfl k) hk
theorem mx_null (hd : decode (mx_by mid) pc = .ok (.aconst_null, 1)) (hk : mx_T0 E fin d bc bs mid (pc + 1) lv (.inl .null :: st) h Q) : mx_T0 E fin d bc bs mid pc lv st h Q :=
  mx_push (fun _ => by exact True.intro) (fun _ _ _ _ _ _ _ _ _ _ _ _ _ _ _ hS _ _ k => lv_null hS.1 hS.2.1 hd k) hk
theorem mx_ldc {i : Nat} {v : Int32} (hw : Cond.constant (mx_ow mid) i v ∈ mx_ws) (hd : decode (mx_by mid) pc = .ok (.ldc i, 2)) (hk : mx_T0 E fin d bc bs mid (pc + 2) lv (.inl (.int v) :: st) h Q) : mx_T0 E fin d bc bs mid pc lv st h Q :=
  mx_push (fun _ => by exact True.intro) (fun _ _ _ _ _ _ _ _ _ _ _ _ _ _ _ hS _ _ k => lv_ldc hS.1 hS.2.1 hS.2.2.2.2.2.1 (hS.2.2.2.2.2.2.1 _ hw) hd k) hk
theorem mx_ldcw {i : Nat} {v : Int32} (hw : Cond.constant (mx_ow mid) i v ∈ mx_ws) (hd : decode (mx_by mid) pc = .ok (.ldc_w i, 3)) (hk : mx_T0 E fin d bc bs mid (pc + 3) lv (.inl (.int v) :: st) h Q) : mx_T0 E fin d bc bs mid pc lv st h Q :=
  mx_push (fun _ => by exact True.intro) (fun _ _ _ _ _ _ _ _ _ _ _ _ _ _ _ hS _ _ k => lv_ldcw hS.1 hS.2.1 hS.2.2.2.2.2.1 (hS.2.2.2.2.2.2.1 _ hw) hd k) hk
theorem mx_ldc2 {i : Nat} {v : Int64} (hw : Cond.constantLong (mx_ow mid) i v ∈ mx_ws) (hd : decode (mx_by mid) pc = .ok (.ldc2_w i, 3)) (hk : mx_T0 E fin d bc bs mid (pc + 3) lv (.inl (.long v) :: st) h Q) : mx_T0 E fin d bc bs mid pc lv st h Q :=
  mx_push (fun _ => by exact True.intro) (fun _ _ _ _ _ _ _ _ _ _ _ _ _ _ _ hS _ _ k => lv_ldc2 hS.1 hS.2.1 hS.2.2.2.2.2.1 (hS.2.2.2.2.2.2.1 _ hw) hd k) hk
theorem mx_getwf {i : Nat} {v : mx_V} (hg : mx_get lv i = some v) (h1 : ∀ q ∈ lv, mx_wf h.1 q.2) : mx_wf h.1 v := h1 _ (mx_get_mem hg)
theorem mx_iload_n {i : Fin 4} {x : Int32} (hd : decode (mx_by mid) pc = .ok (.iload_n i, 1)) (hg : mx_get lv i.val = some (.inl (.int x))) (hk : mx_T0 E fin d bc bs mid (pc + 1) lv (.inl (.int x) :: st) h Q) : mx_T0 E fin d bc bs mid pc lv st h Q :=
  mx_push (mx_getwf hg) (fun _ _ _ _ _ _ _ _ _ _ _ _ _ _ _ hS _ hl k => lv_iload_n hS.1 hS.2.1 hd rfl (mx_has hl hg) k) hk
theorem mx_iload {i : Nat} {x : Int32} (hd : decode (mx_by mid) pc = .ok (.iload i, 2)) (hg : mx_get lv i = some (.inl (.int x))) (hk : mx_T0 E fin d bc bs mid (pc + 2) lv (.inl (.int x) :: st) h Q) : mx_T0 E fin d bc bs mid pc lv st h Q :=
  mx_push (mx_getwf hg) (fun _ _ _ _ _ _ _ _ _ _ _ _ _ _ _ hS _ hl k => lv_iload hS.1 hS.2.1 hd (mx_has hl hg) k) hk
theorem mx_lload_n {i : Fin 4} {x : Int64} (hd : decode (mx_by mid) pc = .ok (.lload_n i, 1)) (hg : mx_get lv i.val = some (.inl (.long x))) (hk : mx_T0 E fin d bc bs mid (pc + 1) lv (.inl (.long x) :: st) h Q) : mx_T0 E fin d bc bs mid pc lv st h Q :=
  mx_push (mx_getwf hg) (fun _ _ _ _ _ _ _ _ _ _ _ _ _ _ _ hS _ hl k => lv_lload_n hS.1 hS.2.1 hd rfl (mx_has hl hg) k) hk
theorem mx_lload {i : Nat} {x : Int64} (hd : decode (mx_by mid) pc = .ok (.lload i, 2)) (hg : mx_get lv i = some (.inl (.long x))) (hk : mx_T0 E fin d bc bs mid (pc + 2) lv (.inl (.long x) :: st) h Q) : mx_T0 E fin d bc bs mid pc lv st h Q :=
  mx_push (mx_getwf hg) (fun _ _ _ _ _ _ _ _ _ _ _ _ _ _ _ hS _ hl k => lv_lload hS.1 hS.2.1 hd (mx_has hl hg) k) hk
def mx_isr : mx_V → Bool
  | .inr _ => true
  | .inl .null => true
  | .inl (.float _) => true
  | _ => false
theorem mx_aload_n {i : Fin 4} {v : mx_V} (hd : decode (mx_by mid) pc = .ok (.aload_n i, 1)) (hg : mx_get lv i.val = some v) (hr : mx_isr v = true) (hk : mx_T0 E fin d bc bs mid (pc + 1) lv (v :: st) h Q) : mx_T0 E fin d bc bs mid pc lv st h Q := by
  refine mx_push (mx_getwf hg) (fun _ _ _ _ _ _ _ _ _ _ _ _ _ _ _ hS _ hl k => ?_) hk
  have hh := mx_has hl hg
  rcases v with v | a
  · cases v with
    | null => exact lv_aload_nN hS.1 hS.2.1 hd rfl hh k
    | float u => exact lv_aload_n hS.1 hS.2.1 hd rfl hh k
    | _ => cases hr
  · exact lv_aload_n hS.1 hS.2.1 hd rfl hh k
theorem mx_aload {i : Nat} {v : mx_V} (hd : decode (mx_by mid) pc = .ok (.aload i, 2)) (hg : mx_get lv i = some v) (hr : mx_isr v = true) (hk : mx_T0 E fin d bc bs mid (pc + 2) lv (v :: st) h Q) : mx_T0 E fin d bc bs mid pc lv st h Q := by
  refine mx_push (mx_getwf hg) (fun _ _ _ _ _ _ _ _ _ _ _ _ _ _ _ hS _ hl k => ?_) hk
  have hh := mx_has hl hg
  rcases v with v | a
  · cases v with
    | null => exact lv_aloadN hS.1 hS.2.1 hd hh k
    | float u => exact lv_aload hS.1 hS.2.1 hd hh k
    | _ => cases hr
  · exact lv_aload hS.1 hS.2.1 hd hh k
theorem mx_st1 {v : mx_V} {i k : Nat} 
    (hstep : ∀ (p : Program) (e : Env) (R : Room) (s : State) (m : MethodId) (args : Array Value) (below : List Frame) (meth : Method) (c : Code) (H : Heap) (locs : List Loc) (cells slots : Nat) (Qw : State → Prop) (ls : Array Slot),
      mx_S E d mid p R s m args meth c → lv_has ls (mx_nL mid) (lv.map (mx_shl E)) → (∀ ls', lv_has ls' (mx_nL mid) ((mx_set1 lv i v).map (mx_shl E)) → W p E.1 e R s m args below meth c H locs cells slots Qw (F0 m (pc + k) ls' (st.map (mx_sh E)))) → W p E.1 e R s m args below meth c H locs cells slots Qw (F0 m pc ls (mx_sh E v :: st.map (mx_sh E))))
    (hk : mx_T0 E fin d bc bs mid (pc + k) (mx_set1 lv i v) st h Q) : mx_T0 E fin d bc bs mid pc lv (v :: st) h Q :=
  mx_go (fun h1 h2 => ⟨mx_set1_wf h1 (h2 v List.mem_cons_self), fun x hx => h2 x (List.mem_cons_of_mem _ hx)⟩) (fun p e R s m args below meth c H locs cells slots Qw ls hS _ hl kk => hstep p e R s m args below meth c H locs cells slots Qw ls hS hl kk) hk
theorem mx_st2 {v : mx_V} {i k : Nat} 
    (hstep : ∀ (p : Program) (e : Env) (R : Room) (s : State) (m : MethodId) (args : Array Value) (below : List Frame) (meth : Method) (c : Code) (H : Heap) (locs : List Loc) (cells slots : Nat) (Qw : State → Prop) (ls : Array Slot),
      mx_S E d mid p R s m args meth c → lv_has ls (mx_nL mid) (lv.map (mx_shl E)) → (∀ ls', lv_has ls' (mx_nL mid) ((mx_set2 lv i v).map (mx_shl E)) → W p E.1 e R s m args below meth c H locs cells slots Qw (F0 m (pc + k) ls' (st.map (mx_sh E)))) → W p E.1 e R s m args below meth c H locs cells slots Qw (F0 m pc ls (mx_sh E v :: st.map (mx_sh E))))
    (hk : mx_T0 E fin d bc bs mid (pc + k) (mx_set2 lv i v) st h Q) : mx_T0 E fin d bc bs mid pc lv (v :: st) h Q :=
  mx_go (fun h1 h2 => ⟨mx_set2_wf h1 (h2 v List.mem_cons_self), fun x hx => h2 x (List.mem_cons_of_mem _ hx)⟩) (fun p e R s m args below meth c H locs cells slots Qw ls hS _ hl kk => hstep p e R s m args below meth c H locs cells slots Qw ls hS hl kk) hk
theorem mx_istore_n {i : Fin 4} {x : Int32} (hd : decode (mx_by mid) pc = .ok (.istore_n i, 1)) (hn : i.val < mx_nL mid) (hk : mx_T0 E fin d bc bs mid (pc + 1) (mx_set1 lv i.val (.inl (.int x))) st h Q) : mx_T0 E fin d bc bs mid pc lv (.inl (.int x) :: st) h Q :=
  mx_st1 (fun _ _ _ _ _ _ _ _ _ _ _ _ _ _ _ hS hl kk => lv_istore_n hS.1 hS.2.1 hd rfl hl hn (mx_set1_map E lv i.val (.inl (.int x))) kk) hk
theorem mx_istore {i : Nat} {x : Int32} (hd : decode (mx_by mid) pc = .ok (.istore i, 2)) (hn : i < mx_nL mid) (hk : mx_T0 E fin d bc bs mid (pc + 2) (mx_set1 lv i (.inl (.int x))) st h Q) : mx_T0 E fin d bc bs mid pc lv (.inl (.int x) :: st) h Q :=
  mx_st1 (fun _ _ _ _ _ _ _ _ _ _ _ _ _ _ _ hS hl kk => lv_istore hS.1 hS.2.1 hd hl hn (mx_set1_map E lv i (.inl (.int x))) kk) hk
theorem mx_lstore_n {i : Fin 4} {x : Int64} (hd : decode (mx_by mid) pc = .ok (.lstore_n i, 1)) (hn : i.val + 1 < mx_nL mid) (hk : mx_T0 E fin d bc bs mid (pc + 1) (mx_set2 lv i.val (.inl (.long x))) st h Q) : mx_T0 E fin d bc bs mid pc lv (.inl (.long x) :: st) h Q :=
  mx_st2 (fun _ _ _ _ _ _ _ _ _ _ _ _ _ _ _ hS hl kk => lv_lstore_n hS.1 hS.2.1 hd rfl hl hn (mx_set2_map E lv i.val (.inl (.long x))) kk) hk
theorem mx_lstore {i : Nat} {x : Int64} (hd : decode (mx_by mid) pc = .ok (.lstore i, 2)) (hn : i + 1 < mx_nL mid) (hk : mx_T0 E fin d bc bs mid (pc + 2) (mx_set2 lv i (.inl (.long x))) st h Q) : mx_T0 E fin d bc bs mid pc lv (.inl (.long x) :: st) h Q :=
  mx_st2 (fun _ _ _ _ _ _ _ _ _ _ _ _ _ _ _ hS hl kk => lv_lstore hS.1 hS.2.1 hd hl hn (mx_set2_map E lv i (.inl (.long x))) kk) hk
theorem mx_astore_n {i : Fin 4} {v : mx_V} (hd : decode (mx_by mid) pc = .ok (.astore_n i, 1)) (hr : mx_isr v = true) (hn : i.val < mx_nL mid) (hk : mx_T0 E fin d bc bs mid (pc + 1) (mx_set1 lv i.val v) st h Q) : mx_T0 E fin d bc bs mid pc lv (v :: st) h Q := by
  refine mx_st1 (fun _ _ _ _ _ _ _ _ _ _ _ _ _ _ _ hS hl kk => ?_) hk
  rcases v with v | a
  · cases v with
    | null => exact lv_astore_nN hS.1 hS.2.1 hd rfl hl hn (mx_set1_map E lv i.val (.inl .null)) kk
    | float u => exact lv_astore_n hS.1 hS.2.1 hd rfl hl hn (mx_set1_map E lv i.val (.inl (.float u))) kk
    | _ => cases hr
  · exact lv_astore_n hS.1 hS.2.1 hd rfl hl hn (mx_set1_map E lv i.val (.inr a)) kk
theorem mx_astore {i : Nat} {v : mx_V} (hd : decode (mx_by mid) pc = .ok (.astore i, 2)) (hr : mx_isr v = true) (hn : i < mx_nL mid) (hk : mx_T0 E fin d bc bs mid (pc + 2) (mx_set1 lv i v) st h Q) : mx_T0 E fin d bc bs mid pc lv (v :: st) h Q := by
  refine mx_st1 (fun _ _ _ _ _ _ _ _ _ _ _ _ _ _ _ hS hl kk => ?_) hk
  rcases v with v | a
  · cases v with
    | null => exact lv_astoreN hS.1 hS.2.1 hd hl hn (mx_set1_map E lv i (.inl .null)) kk
    | float u => exact lv_astore hS.1 hS.2.1 hd hl hn (mx_set1_map E lv i (.inl (.float u))) kk
    | _ => cases hr
  · exact lv_astore hS.1 hS.2.1 hd hl hn (mx_set1_map E lv i (.inr a)) kk
theorem mx_iinc {i : Nat} {n : Int} {x : Int32} (hd : decode (mx_by mid) pc = .ok (.iinc i n, 3)) (hg : mx_get lv i = some (.inl (.int x))) (hn : i < mx_nL mid) (hk : mx_T0 E fin d bc bs mid (pc + 3) (mx_set1 lv i (.inl (.int (x + Int32.ofInt n)))) st h Q) : mx_T0 E fin d bc bs mid pc lv st h Q := by
  refine mx_go (fun h1 h2 => ⟨mx_set1_wf h1 (by exact True.intro), h2⟩) (fun p e R s m args below meth c H locs cells slots Qw ls hS _ hl kk => ?_) hk
  have hm : (i, mx_sh E (.inl (.int x))) ∈ lv.map (mx_shl E) := List.mem_map.mpr ⟨_, mx_get_mem hg, rfl⟩
  obtain ⟨k, hk1, hk2⟩ := List.mem_iff_getElem.mp hm
  exact lv_iinc (k := k) hS.1 hS.2.1 hd hl (by rw [List.getElem?_eq_getElem hk1, hk2]; rfl) rfl hn (mx_set1_map E lv i (.inl (.int (x + Int32.ofInt n)))) kk
/-- one value made of the topmost -/
theorem mx_op1 {u v : mx_V} {k : Nat} (hv : mx_wf h.1 v)
    (hstep : ∀ (p : Program) (e : Env) (R : Room) (s : State) (m : MethodId) (args : Array Value) (below : List Frame) (meth : Method) (c : Code) (H : Heap) (locs : List Loc) (cells slots : Nat) (Qw : State → Prop) (ls : Array Slot),
      mx_S E d mid p R s m args meth c → W p E.1 e R s m args below meth c H locs cells slots Qw (F0 m (pc + k) ls (mx_sh E v :: st.map (mx_sh E))) → W p E.1 e R s m args below meth c H locs cells slots Qw (F0 m pc ls (mx_sh E u :: st.map (mx_sh E))))
    (hk : mx_T0 E fin d bc bs mid (pc + k) lv (v :: st) h Q) : mx_T0 E fin d bc bs mid pc lv (u :: st) h Q :=
  mx_go (fun h1 h2 => ⟨h1, fun x hx => (List.mem_cons.mp hx).elim (fun e => e ▸ hv) (fun hx => h2 x (List.mem_cons_of_mem _ hx))⟩) (fun p e R s m args below meth c H locs cells slots Qw ls hS _ hl kk => hstep p e R s m args below meth c H locs cells slots Qw ls hS (kk ls hl)) hk
theorem mx_op2 {u w v : mx_V} {k : Nat} (hv : mx_wf h.1 v)
    (hstep : ∀ (p : Program) (e : Env) (R : Room) (s : State) (m : MethodId) (args : Array Value) (below : List Frame) (meth : Method) (c : Code) (H : Heap) (locs : List Loc) (cells slots : Nat) (Qw : State → Prop) (ls : Array Slot),
      mx_S E d mid p R s m args meth c → W p E.1 e R s m args below meth c H locs cells slots Qw (F0 m (pc + k) ls (mx_sh E v :: st.map (mx_sh E))) → W p E.1 e R s m args below meth c H locs cells slots Qw (F0 m pc ls (mx_sh E u :: mx_sh E w :: st.map (mx_sh E))))
    (hk : mx_T0 E fin d bc bs mid (pc + k) lv (v :: st) h Q) : mx_T0 E fin d bc bs mid pc lv (u :: w :: st) h Q :=
  mx_go (fun h1 h2 => ⟨h1, fun x hx => (List.mem_cons.mp hx).elim (fun e => e ▸ hv) (fun hx => h2 x (List.mem_cons_of_mem _ (List.mem_cons_of_mem _ hx)))⟩) (fun p e R s m args below meth c H locs cells slots Qw ls hS _ hl kk => hstep p e R s m args below meth c H locs cells slots Qw ls hS (kk ls hl)) hk
theorem mx_iadd {x y : Int32} (hd : decode (mx_by mid) pc = .ok (.iadd, 1)) (hk : mx_T0 E fin d bc bs mid (pc + 1) lv (.inl (.int (x + y)) :: st) h Q) : mx_T0 E fin d bc bs mid pc lv (.inl (.int y) :: .inl (.int x) :: st) h Q :=
  mx_op2 (by exact True.intro) (fun _ _ _ _ _ _ _ _ _ _ _ _ _ _ _ hS k => lv_iadd hS.1 hS.2.1 hd k) hk
theorem mx_isub {x y : Int32} (hd : decode (mx_by mid) pc = .ok (.isub, 1)) (hk : mx_T0 E fin d bc bs mid (pc + 1) lv (.inl (.int (x - y)) :: st) h Q) : mx_T0 E fin d bc bs mid pc lv (.inl (.int y) :: .inl (.int x) :: st) h Q :=
  mx_op2 (by exact True.intro) (fun _ _ _ _ _ _ _ _ _ _ _ _ _ _ _ hS k => lv_isub hS.1 hS.2.1 hd k) hk
theorem mx_imul {x y : Int32} (hd : decode (mx_by mid) pc = .ok (.imul, 1)) (hk : mx_T0 E fin d bc bs mid (pc + 1) lv (.inl (.int (x * y)) :: st) h Q) : mx_T0 E fin d bc bs mid pc lv (.inl (.int y) :: .inl (.int x) :: st) h Q :=
  mx_op2 (by exact True.intro) (fun _ _ _ _ _ _ _ _ _ _ _ _ _ _ _ hS k => lv_imul hS.1 hS.2.1 hd k) hk
theorem mx_iand {x y : Int32} (hd : decode (mx_by mid) pc = .ok (.iand, 1)) (hk : mx_T0 E fin d bc bs mid (pc + 1) lv (.inl (.int (x &&& y)) :: st) h Q) : mx_T0 E fin d bc bs mid pc lv (.inl (.int y) :: .inl (.int x) :: st) h Q :=
  mx_op2 (by exact True.intro) (fun _ _ _ _ _ _ _ _ _ _ _ _ _ _ _ hS k => lv_iand hS.1 hS.2.1 hd k) hk
theorem mx_ior {x y : Int32} (hd : decode (mx_by mid) pc = .ok (.ior, 1)) (hk : mx_T0 E fin d bc bs mid (pc + 1) lv (.inl (.int (x ||| y)) :: st) h Q) : mx_T0 E fin d bc bs mid pc lv (.inl (.int y) :: .inl (.int x) :: st) h Q :=
  mx_op2 (by exact True.intro) (fun _ _ _ _ _ _ _ _ _ _ _ _ _ _ _ hS k => lv_ior hS.1 hS.2.1 hd k) hk
theorem mx_ixor {x y : Int32} (hd : decode (mx_by mid) pc = .ok (.ixor, 1)) (hk : mx_T0 E fin d bc bs mid (pc + 1) lv (.inl (.int (x ^^^ y)) :: st) h Q) : mx_T0 E fin d bc bs mid pc lv (.inl (.int y) :: .inl (.int x) :: st) h Q :=
  mx_op2 (by exact True.intro) (fun _ _ _ _ _ _ _ _ _ _ _ _ _ _ _ hS k => lv_ixor hS.1 hS.2.1 hd k) hk
theorem mx_ishl {x y : Int32} (hd : decode (mx_by mid) pc = .ok (.ishl, 1)) (hk : mx_T0 E fin d bc bs mid (pc + 1) lv (.inl (.int (x <<< (y &&& 31))) :: st) h Q) : mx_T0 E fin d bc bs mid pc lv (.inl (.int y) :: .inl (.int x) :: st) h Q :=
  mx_op2 (by exact True.intro) (fun _ _ _ _ _ _ _ _ _ _ _ _ _ _ _ hS k => lv_ishl hS.1 hS.2.1 hd k) hk
theorem mx_ishr {x y : Int32} (hd : decode (mx_by mid) pc = .ok (.ishr, 1)) (hk : mx_T0 E fin d bc bs mid (pc + 1) lv (.inl (.int (x >>> (y &&& 31))) :: st) h Q) : mx_T0 E fin d bc bs mid pc lv (.inl (.int y) :: .inl (.int x) :: st) h Q :=
  mx_op2 (by exact True.intro) (fun _ _ _ _ _ _ _ _ _ _ _ _ _ _ _ hS k => lv_ishr hS.1 hS.2.1 hd k) hk
theorem mx_iushr {x y : Int32} (hd : decode (mx_by mid) pc = .ok (.iushr, 1)) (hk : mx_T0 E fin d bc bs mid (pc + 1) lv (.inl (.int (x.toUInt32 >>> (y.toUInt32 &&& Int32.toUInt32 31)).toInt32) :: st) h Q) : mx_T0 E fin d bc bs mid pc lv (.inl (.int y) :: .inl (.int x) :: st) h Q :=
  mx_op2 (by exact True.intro) (fun _ _ _ _ _ _ _ _ _ _ _ _ _ _ _ hS k => lv_iushr hS.1 hS.2.1 hd rfl k) hk
theorem mx_idiv {x y : Int32} (hd : decode (mx_by mid) pc = .ok (.idiv, 1)) (hne : ¬ y = 0) (hk : mx_T0 E fin d bc bs mid (pc + 1) lv (.inl (.int (x / y)) :: st) h Q) : mx_T0 E fin d bc bs mid pc lv (.inl (.int y) :: .inl (.int x) :: st) h Q :=
  mx_op2 (by exact True.intro) (fun _ _ _ _ _ _ _ _ _ _ _ _ _ _ _ hS k => lv_idiv hS.1 hS.2.1 hd hne k) hk
theorem mx_irem {x y : Int32} (hd : decode (mx_by mid) pc = .ok (.irem, 1)) (hne : ¬ y = 0) (hk : mx_T0 E fin d bc bs mid (pc + 1) lv (.inl (.int (x - x / y * y)) :: st) h Q) : mx_T0 E fin d bc bs mid pc lv (.inl (.int y) :: .inl (.int x) :: st) h Q :=
  mx_op2 (by exact True.intro) (fun _ _ _ _ _ _ _ _ _ _ _ _ _ _ _ hS k => lv_irem hS.1 hS.2.1 hd hne k) hk
theorem mx_ladd {x y : Int64} (hd : decode (mx_by mid) pc = .ok (.ladd, 1)) (hk : mx_T0 E fin d bc bs mid (pc + 1) lv (.inl (.long (x + y)) :: st) h Q) : mx_T0 E fin d bc bs mid pc lv (.inl (.long y) :: .inl (.long x) :: st) h Q :=
  mx_op2 (by exact True.intro) (fun _ _ _ _ _ _ _ _ _ _ _ _ _ _ _ hS k => lv_ladd hS.1 hS.2.1 hd k) hk
theorem mx_lsub {x y : Int64} (hd : decode (mx_by mid) pc = .ok (.lsub, 1)) (hk : mx_T0 E fin d bc bs mid (pc + 1) lv (.inl (.long (x - y)) :: st) h Q) : mx_T0 E fin d bc bs mid pc lv (.inl (.long y) :: .inl (.long x) :: st) h Q :=
  mx_op2 (by exact True.intro) (fun _ _ _ _ _ _ _ _ _ _ _ _ _ _ _ hS k => lv_lsub hS.1 hS.2.1 hd k) hk
theorem mx_lmul {x y : Int64} (hd : decode (mx_by mid) pc = .ok (.lmul, 1)) (hk : mx_T0 E fin d bc bs mid (pc + 1) lv (.inl (.long (x * y)) :: st) h Q) : mx_T0 E fin d bc bs mid pc lv (.inl (.long y) :: .inl (.long x) :: st) h Q :=
  mx_op2 (by exact True.intro) (fun _ _ _ _ _ _ _ _ _ _ _ _ _ _ _ hS k => lv_lmul hS.1 hS.2.1 hd k) hk
theorem mx_land {x y : Int64} (hd : decode (mx_by mid) pc = .ok (.land, 1)) (hk : mx_T0 E fin d bc bs mid (pc + 1) lv (.inl (.long (x &&& y)) :: st) h Q) : mx_T0 E fin d bc bs mid pc lv (.inl (.long y) :: .inl (.long x) :: st) h Q :=
  mx_op2 (by exact True.intro) (fun _ _ _ _ _ _ _ _ _ _ _ _ _ _ _ hS k => lv_land hS.1 hS.2.1 hd k) hk
theorem mx_lor {x y : Int64} (hd : decode (mx_by mid) pc = .ok (.lor, 1)) (hk : mx_T0 E fin d bc bs mid (pc + 1) lv (.inl (.long (x ||| y)) :: st) h Q) : mx_T0 E fin d bc bs mid pc lv (.inl (.long y) :: .inl (.long x) :: st) h Q :=
  mx_op2 (by exact True.intro) (fun _ _ _ _ _ _ _ _ _ _ _ _ _ _ _ hS k => lv_lor hS.1 hS.2.1 hd k) hk
theorem mx_ldiv {x y : Int64} (hd : decode (mx_by mid) pc = .ok (.ldiv, 1)) (hne : ¬ y = 0) (hk : mx_T0 E fin d bc bs mid (pc + 1) lv (.inl (.long (x / y)) :: st) h Q) : mx_T0 E fin d bc bs mid pc lv (.inl (.long y) :: .inl (.long x) :: st) h Q :=
  mx_op2 (by exact True.intro) (fun _ _ _ _ _ _ _ _ _ _ _ _ _ _ _ hS k => lv_ldiv hS.1 hS.2.1 hd hne k) hk
theorem mx_lshl {x : Int64} {y : Int32} (hd : decode (mx_by mid) pc = .ok (.lshl, 1)) (hk : mx_T0 E fin d bc bs mid (pc + 1) lv (.inl (.long (x <<< (y.toInt64 &&& 63))) :: st) h Q) : mx_T0 E fin d bc bs mid pc lv (.inl (.int y) :: .inl (.long x) :: st) h Q :=
  mx_op2 (by exact True.intro) (fun _ _ _ _ _ _ _ _ _ _ _ _ _ _ _ hS k => lv_lshl hS.1 hS.2.1 hd rfl k) hk
theorem mx_lcmp {x y : Int64} (hd : decode (mx_by mid) pc = .ok (.lcmp, 1)) (hk : mx_T0 E fin d bc bs mid (pc + 1) lv (.inl (.int (lg_cmp x y)) :: st) h Q) : mx_T0 E fin d bc bs mid pc lv (.inl (.long y) :: .inl (.long x) :: st) h Q :=
  mx_op2 (by exact True.intro) (fun _ _ _ _ _ _ _ _ _ _ _ _ _ _ _ hS k => W.lcmp hS.1 hS.2.1 hd k) hk
theorem mx_ineg {x : Int32} (hd : decode (mx_by mid) pc = .ok (.ineg, 1)) (hk : mx_T0 E fin d bc bs mid (pc + 1) lv (.inl (.int (-x)) :: st) h Q) : mx_T0 E fin d bc bs mid pc lv (.inl (.int x) :: st) h Q :=
  mx_op1 (by exact True.intro) (fun _ _ _ _ _ _ _ _ _ _ _ _ _ _ _ hS k => lv_ineg hS.1 hS.2.1 hd k) hk
theorem mx_lneg {x : Int64} (hd : decode (mx_by mid) pc = .ok (.lneg, 1)) (hk : mx_T0 E fin d bc bs mid (pc + 1) lv (.inl (.long (-x)) :: st) h Q) : mx_T0 E fin d bc bs mid pc lv (.inl (.long x) :: st) h Q :=
  mx_op1 (by exact True.intro) (fun _ _ _ _ _ _ _ _ _ _ _ _ _ _ _ hS k => lv_lneg hS.1 hS.2.1 hd k) hk
theorem mx_i2l {x : Int32} (hd : decode (mx_by mid) pc = .ok (.i2l, 1)) (hk : mx_T0 E fin d bc bs mid (pc + 1) lv (.inl (.long x.toInt64) :: st) h Q) : mx_T0 E fin d bc bs mid pc lv (.inl (.int x) :: st) h Q :=
  mx_op1 (by exact True.intro) (fun _ _ _ _ _ _ _ _ _ _ _ _ _ _ _ hS k => lv_i2l hS.1 hS.2.1 hd rfl k) hk
theorem mx_l2i {x : Int64} (hd : decode (mx_by mid) pc = .ok (.l2i, 1)) (hk : mx_T0 E fin d bc bs mid (pc + 1) lv (.inl (.int x.toInt32) :: st) h Q) : mx_T0 E fin d bc bs mid pc lv (.inl (.long x) :: st) h Q :=
  mx_op1 (by exact True.intro) (fun _ _ _ _ _ _ _ _ _ _ _ _ _ _ _ hS k => lv_l2i hS.1 hS.2.1 hd rfl k) hk
theorem mx_i2b {x : Int32} (hd : decode (mx_by mid) pc = .ok (.i2b, 1)) (hk : mx_T0 E fin d bc bs mid (pc + 1) lv (.inl (.int x.toInt8.toInt32) :: st) h Q) : mx_T0 E fin d bc bs mid pc lv (.inl (.int x) :: st) h Q :=
  mx_op1 (by exact True.intro) (fun _ _ _ _ _ _ _ _ _ _ _ _ _ _ _ hS k => lv_i2b hS.1 hS.2.1 hd rfl k) hk
theorem mx_i2s {x : Int32} (hd : decode (mx_by mid) pc = .ok (.i2s, 1)) (hk : mx_T0 E fin d bc bs mid (pc + 1) lv (.inl (.int x.toInt16.toInt32) :: st) h Q) : mx_T0 E fin d bc bs mid pc lv (.inl (.int x) :: st) h Q :=
  mx_op1 (by exact True.intro) (fun _ _ _ _ _ _ _ _ _ _ _ _ _ _ _ hS k => lv_i2s hS.1 hS.2.1 hd rfl k) hk
theorem mx_goto {off : Int} {tgt : Nat} (hd : decode (mx_by mid) pc = .ok (.goto off, 3)) (ht : (pc : Int) + off = (tgt : Int)) (hk : mx_T0 E fin d bc bs mid tgt lv st h Q) : mx_T0 E fin d bc bs mid pc lv st h Q :=
  mx_go (fun h1 h2 => ⟨h1, h2⟩) (fun _ _ _ _ _ _ _ _ _ _ _ _ _ _ ls hS _ hl k => lv_goto hS.1 hS.2.1 hd ht (k ls hl)) hk
theorem mx_pop {v : mx_V} (hd : decode (mx_by mid) pc = .ok (.pop, 1)) (hv : mx_cat v = 1) (hk : mx_T0 E fin d bc bs mid (pc + 1) lv st h Q) : mx_T0 E fin d bc bs mid pc lv (v :: st) h Q :=
  mx_go (fun h1 h2 => ⟨h1, fun x hx => h2 x (List.mem_cons_of_mem _ hx)⟩) (fun _ _ _ _ _ _ _ _ _ _ _ _ _ _ ls hS _ hl k => lv_pop hS.1 hS.2.1 hd (by rw [mx_cat_sh]; exact hv) (k ls hl)) hk
theorem mx_pop2 {v : mx_V} (hd : decode (mx_by mid) pc = .ok (.pop2, 1)) (hv : mx_cat v = 2) (hk : mx_T0 E fin d bc bs mid (pc + 1) lv st h Q) : mx_T0 E fin d bc bs mid pc lv (v :: st) h Q :=
  mx_go (fun h1 h2 => ⟨h1, fun x hx => h2 x (List.mem_cons_of_mem _ hx)⟩) (fun _ _ _ _ _ _ _ _ _ _ _ _ _ _ ls hS _ hl k => lv_pop2_2 hS.1 hS.2.1 hd (by rw [mx_cat_sh]; exact hv) (k ls hl)) hk
theorem mx_dup {v : mx_V} (hd : decode (mx_by mid) pc = .ok (.dup, 1)) (hv : mx_cat v = 1) (hk : mx_T0 E fin d bc bs mid (pc + 1) lv (v :: v :: st) h Q) : mx_T0 E fin d bc bs mid pc lv (v :: st) h Q :=
  mx_go (fun h1 h2 => ⟨h1, fun x hx => (List.mem_cons.mp hx).elim (fun e => h2 x (e ▸ List.mem_cons_self)) (h2 x)⟩) (fun _ _ _ _ _ _ _ _ _ _ _ _ _ _ ls hS _ hl k => lv_dup hS.1 hS.2.1 hd (by rw [mx_cat_sh]; exact hv) (k ls hl)) hk
theorem mx_dup2 {v u : mx_V} (hd : decode (mx_by mid) pc = .ok (.dup2, 1)) (hv : mx_cat v = 1) (hu : mx_cat u = 1) (hk : mx_T0 E fin d bc bs mid (pc + 1) lv (v :: u :: v :: u :: st) h Q) : mx_T0 E fin d bc bs mid pc lv (v :: u :: st) h Q :=
  mx_go (fun h1 h2 => ⟨h1, fun x hx => by
    rcases List.mem_cons.mp hx with rfl | hx
    · exact h2 _ List.mem_cons_self
    · rcases List.mem_cons.mp hx with rfl | hx
      · exact h2 _ (List.mem_cons_of_mem _ List.mem_cons_self)
      · exact h2 x hx⟩) (fun _ _ _ _ _ _ _ _ _ _ _ _ _ _ ls hS _ hl k => lv_dup2_11 hS.1 hS.2.1 hd (by rw [mx_cat_sh]; exact hv) (by rw [mx_cat_sh]; exact hu) (k ls hl)) hk
/-- a branch on the topmost: both ways -/
theorem mx_br {c : Prop} {u : List mx_V} {t1 t2 : Nat}
    (hstep : ∀ (p : Program) (e : Env) (R : Room) (s : State) (m : MethodId) (args : Array Value) (below : List Frame) (meth : Method) (cd : Code) (H : Heap) (locs : List Loc) (cells slots : Nat) (Qw : State → Prop) (ls : Array Slot),
      mx_S E d mid p R s m args meth cd → (c → W p E.1 e R s m args below meth cd H locs cells slots Qw (F0 m t1 ls (st.map (mx_sh E)))) → (¬ c → W p E.1 e R s m args below meth cd H locs cells slots Qw (F0 m t2 ls (st.map (mx_sh E)))) → W p E.1 e R s m args below meth cd H locs cells slots Qw (F0 m pc ls ((u ++ st).map (mx_sh E))))
    (h1 : c → mx_T0 E fin d bc bs mid t1 lv st h Q) (h2 : ¬ c → mx_T0 E fin d bc bs mid t2 lv st h Q) : mx_T0 E fin d bc bs mid pc lv (u ++ st) h Q :=
  fun p e R s m args below meth cd H locs cells slots Qw ls hS hD q1 q2 q3 q4 q5 q6 =>
    hstep p e R s m args below meth cd H locs cells slots Qw ls hS (fun hc => h1 hc p e R s m args below meth cd H locs cells slots Qw ls hS hD q1 q2 q3 (fun v hv => q4 v (List.mem_append_right _ hv)) q5 q6)
      (fun hc => h2 hc p e R s m args below meth cd H locs cells slots Qw ls hS hD q1 q2 q3 (fun v hv => q4 v (List.mem_append_right _ hv)) q5 q6)
theorem mx_if_eq {x : Int32} {off : Int} {tgt : Nat} (hd : decode (mx_by mid) pc = .ok (.ifCond .eq off, 3)) (ht : (pc : Int) + off = (tgt : Int)) (h1 : x = 0 → mx_T0 E fin d bc bs mid tgt lv st h Q) (h2 : ¬ (x = 0) → mx_T0 E fin d bc bs mid (pc + 3) lv st h Q) : mx_T0 E fin d bc bs mid pc lv (.inl (.int x) :: st) h Q :=
  mx_br (u := [.inl (.int x)]) (fun _ _ _ _ _ _ _ _ _ _ _ _ _ _ _ hS k1 k2 => lv_if_eq hS.1 hS.2.1 hd ht k1 k2) h1 h2
theorem mx_ic_eq {x y : Int32} {off : Int} {tgt : Nat} (hd : decode (mx_by mid) pc = .ok (.if_icmp .eq off, 3)) (ht : (pc : Int) + off = (tgt : Int)) (h1 : x = y → mx_T0 E fin d bc bs mid tgt lv st h Q) (h2 : ¬ (x = y) → mx_T0 E fin d bc bs mid (pc + 3) lv st h Q) : mx_T0 E fin d bc bs mid pc lv (.inl (.int y) :: .inl (.int x) :: st) h Q :=
  mx_br (u := [.inl (.int y), .inl (.int x)]) (fun _ _ _ _ _ _ _ _ _ _ _ _ _ _ _ hS k1 k2 => lv_icmp_eq hS.1 hS.2.1 hd ht k1 k2) h1 h2
theorem mx_if_ne {x : Int32} {off : Int} {tgt : Nat} (hd : decode (mx_by mid) pc = .ok (.ifCond .ne off, 3)) (ht : (pc : Int) + off = (tgt : Int)) (h1 : x ≠ 0 → mx_T0 E fin d bc bs mid tgt lv st h Q) (h2 : ¬ (x ≠ 0) → mx_T0 E fin d bc bs mid (pc + 3) lv st h Q) : mx_T0 E fin d bc bs mid pc lv (.inl (.int x) :: st) h Q :=
  mx_br (u := [.inl (.int x)]) (fun _ _ _ _ _ _ _ _ _ _ _ _ _ _ _ hS k1 k2 => lv_if_ne hS.1 hS.2.1 hd ht k1 (fun q => k2 (fun n => n q))) h1 h2
theorem mx_ic_ne {x y : Int32} {off : Int} {tgt : Nat} (hd : decode (mx_by mid) pc = .ok (.if_icmp .ne off, 3)) (ht : (pc : Int) + off = (tgt : Int)) (h1 : x ≠ y → mx_T0 E fin d bc bs mid tgt lv st h Q) (h2 : ¬ (x ≠ y) → mx_T0 E fin d bc bs mid (pc + 3) lv st h Q) : mx_T0 E fin d bc bs mid pc lv (.inl (.int y) :: .inl (.int x) :: st) h Q :=
  mx_br (u := [.inl (.int y), .inl (.int x)]) (fun _ _ _ _ _ _ _ _ _ _ _ _ _ _ _ hS k1 k2 => lv_icmp_ne hS.1 hS.2.1 hd ht k1 (fun q => k2 (fun n => n q))) h1 h2
theorem mx_if_lt {x : Int32} {off : Int} {tgt : Nat} (hd : decode (mx_by mid) pc = .ok (.ifCond .lt off, 3)) (ht : (pc : Int) + off = (tgt : Int)) (h1 : x < 0 → mx_T0 E fin d bc bs mid tgt lv st h Q) (h2 : ¬ (x < 0) → mx_T0 E fin d bc bs mid (pc + 3) lv st h Q) : mx_T0 E fin d bc bs mid pc lv (.inl (.int x) :: st) h Q :=
  mx_br (u := [.inl (.int x)]) (fun _ _ _ _ _ _ _ _ _ _ _ _ _ _ _ hS k1 k2 => lv_if_lt hS.1 hS.2.1 hd ht k1 k2) h1 h2
theorem mx_ic_lt {x y : Int32} {off : Int} {tgt : Nat} (hd : decode (mx_by mid) pc = .ok (.if_icmp .lt off, 3)) (ht : (pc : Int) + off = (tgt : Int)) (h1 : x < y → mx_T0 E fin d bc bs mid tgt lv st h Q) (h2 : ¬ (x < y) → mx_T0 E fin d bc bs mid (pc + 3) lv st h Q) : mx_T0 E fin d bc bs mid pc lv (.inl (.int y) :: .inl (.int x) :: st) h Q :=
  mx_br (u := [.inl (.int y), .inl (.int x)]) (fun _ _ _ _ _ _ _ _ _ _ _ _ _ _ _ hS k1 k2 => lv_icmp_lt hS.1 hS.2.1 hd ht k1 k2) h1 h2
theorem mx_if_ge {x : Int32} {off : Int} {tgt : Nat} (hd : decode (mx_by mid) pc = .ok (.ifCond .ge off, 3)) (ht : (pc : Int) + off = (tgt : Int)) (h1 : 0 ≤ x → mx_T0 E fin d bc bs mid tgt lv st h Q) (h2 : ¬ (0 ≤ x) → mx_T0 E fin d bc bs mid (pc + 3) lv st h Q) : mx_T0 E fin d bc bs mid pc lv (.inl (.int x) :: st) h Q :=
  mx_br (u := [.inl (.int x)]) (fun _ _ _ _ _ _ _ _ _ _ _ _ _ _ _ hS k1 k2 => lv_if_ge hS.1 hS.2.1 hd ht k1 k2) h1 h2
theorem mx_ic_ge {x y : Int32} {off : Int} {tgt : Nat} (hd : decode (mx_by mid) pc = .ok (.if_icmp .ge off, 3)) (ht : (pc : Int) + off = (tgt : Int)) (h1 : y ≤ x → mx_T0 E fin d bc bs mid tgt lv st h Q) (h2 : ¬ (y ≤ x) → mx_T0 E fin d bc bs mid (pc + 3) lv st h Q) : mx_T0 E fin d bc bs mid pc lv (.inl (.int y) :: .inl (.int x) :: st) h Q :=
  mx_br (u := [.inl (.int y), .inl (.int x)]) (fun _ _ _ _ _ _ _ _ _ _ _ _ _ _ _ hS k1 k2 => lv_icmp_ge hS.1 hS.2.1 hd ht k1 k2) h1 h2
theorem mx_if_gt {x : Int32} {off : Int} {tgt : Nat} (hd : decode (mx_by mid) pc = .ok (.ifCond .gt off, 3)) (ht : (pc : Int) + off = (tgt : Int)) (h1 : 0 < x → mx_T0 E fin d bc bs mid tgt lv st h Q) (h2 : ¬ (0 < x) → mx_T0 E fin d bc bs mid (pc + 3) lv st h Q) : mx_T0 E fin d bc bs mid pc lv (.inl (.int x) :: st) h Q :=
  mx_br (u := [.inl (.int x)]) (fun _ _ _ _ _ _ _ _ _ _ _ _ _ _ _ hS k1 k2 => lv_if_gt hS.1 hS.2.1 hd ht k1 k2) h1 h2
theorem mx_ic_gt {x y : Int32} {off : Int} {tgt : Nat} (hd : decode (mx_by mid) pc = .ok (.if_icmp .gt off, 3)) (ht : (pc : Int) + off = (tgt : Int)) (h1 : y < x → mx_T0 E fin d bc bs mid tgt lv st h Q) (h2 : ¬ (y < x) → mx_T0 E fin d bc bs mid (pc + 3) lv st h Q) : mx_T0 E fin d bc bs mid pc lv (.inl (.int y) :: .inl (.int x) :: st) h Q :=
  mx_br (u := [.inl (.int y), .inl (.int x)]) (fun _ _ _ _ _ _ _ _ _ _ _ _ _ _ _ hS k1 k2 => lv_icmp_gt hS.1 hS.2.1 hd ht k1 k2) h1 h2
theorem mx_if_le {x : Int32} {off : Int} {tgt : Nat} (hd : decode (mx_by mid) pc = .ok (.ifCond .le off, 3)) (ht : (pc : Int) + off = (tgt : Int)) (h1 : x ≤ 0 → mx_T0 E fin d bc bs mid tgt lv st h Q) (h2 : ¬ (x ≤ 0) → mx_T0 E fin d bc bs mid (pc + 3) lv st h Q) : mx_T0 E fin d bc bs mid pc lv (.inl (.int x) :: st) h Q :=
  mx_br (u := [.inl (.int x)]) (fun _ _ _ _ _ _ _ _ _ _ _ _ _ _ _ hS k1 k2 => lv_if_le hS.1 hS.2.1 hd ht k1 k2) h1 h2
theorem mx_ic_le {x y : Int32} {off : Int} {tgt : Nat} (hd : decode (mx_by mid) pc = .ok (.if_icmp .le off, 3)) (ht : (pc : Int) + off = (tgt : Int)) (h1 : x ≤ y → mx_T0 E fin d bc bs mid tgt lv st h Q) (h2 : ¬ (x ≤ y) → mx_T0 E fin d bc bs mid (pc + 3) lv st h Q) : mx_T0 E fin d bc bs mid pc lv (.inl (.int y) :: .inl (.int x) :: st) h Q :=
  mx_br (u := [.inl (.int y), .inl (.int x)]) (fun _ _ _ _ _ _ _ _ _ _ _ _ _ _ _ hS k1 k2 => lv_icmp_le hS.1 hS.2.1 hd ht k1 k2) h1 h2
theorem mx_ifnull_r {a : mx_A} {off : Int} (hd : decode (mx_by mid) pc = .ok (.ifnull off, 3)) (hk : mx_T0 E fin d bc bs mid (pc + 3) lv st h Q) : mx_T0 E fin d bc bs mid pc lv (.inr a :: st) h Q :=
  mx_go (fun h1 h2 => ⟨h1, fun x hx => h2 x (List.mem_cons_of_mem _ hx)⟩) (fun _ _ _ _ _ _ _ _ _ _ _ _ _ _ ls hS _ hl k => lv_ifnull hS.1 hS.2.1 hd (k ls hl)) hk
theorem mx_ifnull_n {off : Int} {tgt : Nat} (hd : decode (mx_by mid) pc = .ok (.ifnull off, 3)) (ht : (pc : Int) + off = (tgt : Int)) (hk : mx_T0 E fin d bc bs mid tgt lv st h Q) : mx_T0 E fin d bc bs mid pc lv (.inl .null :: st) h Q :=
  mx_go (fun h1 h2 => ⟨h1, fun x hx => h2 x (List.mem_cons_of_mem _ hx)⟩) (fun _ _ _ _ _ _ _ _ _ _ _ _ _ _ ls hS _ hl k => lv_ifnullN hS.1 hS.2.1 hd ht (k ls hl)) hk
theorem mx_ifnn_r {a : mx_A} {off : Int} {tgt : Nat} (hd : decode (mx_by mid) pc = .ok (.ifnonnull off, 3)) (ht : (pc : Int) + off = (tgt : Int)) (hk : mx_T0 E fin d bc bs mid tgt lv st h Q) : mx_T0 E fin d bc bs mid pc lv (.inr a :: st) h Q :=
  mx_go (fun h1 h2 => ⟨h1, fun x hx => h2 x (List.mem_cons_of_mem _ hx)⟩) (fun _ _ _ _ _ _ _ _ _ _ _ _ _ _ ls hS _ hl k => lv_ifnonnull hS.1 hS.2.1 hd ht (k ls hl)) hk
theorem mx_ifnn_n {off : Int} (hd : decode (mx_by mid) pc = .ok (.ifnonnull off, 3)) (hk : mx_T0 E fin d bc bs mid (pc + 3) lv st h Q) : mx_T0 E fin d bc bs mid pc lv (.inl .null :: st) h Q :=
  mx_go (fun h1 h2 => ⟨h1, fun x hx => h2 x (List.mem_cons_of_mem _ hx)⟩) (fun _ _ _ _ _ _ _ _ _ _ _ _ _ _ ls hS _ hl k => lv_ifnonnullN hS.1 hS.2.1 hd (k ls hl)) hk
theorem mx_tsw {dflt lo hi : Int} {offs : Array Int} {len : Nat} {x : Int32} (hd : decode (mx_by mid) pc = .ok (.tableswitch dflt lo hi offs, len)) (h0 : 0 ≤ (pc : Int) + dflt) (h9 : ∀ o ∈ offs, 0 ≤ (pc : Int) + o) (hz : (hi - lo + 1).toNat ≤ offs.size)
    (hk : ∀ tgt : Nat, ((x.toInt < lo ∨ hi < x.toInt) ∧ (pc : Int) + dflt = tgt) ∨ (lo ≤ x.toInt ∧ x.toInt ≤ hi ∧ ∃ o, offs[(x.toInt - lo).toNat]? = some o ∧ (pc : Int) + o = tgt) → mx_T0 E fin d bc bs mid tgt lv st h Q) : mx_T0 E fin d bc bs mid pc lv (.inl (.int x) :: st) h Q := by
  by_cases hc : x.toInt < lo ∨ hi < x.toInt
  · refine mx_go (pc' := ((pc : Int) + dflt).toNat) (fun h1 h2 => ⟨h1, fun x hx => h2 x (List.mem_cons_of_mem _ hx)⟩) (fun _ _ _ _ _ _ _ _ _ _ _ _ _ _ ls hS _ hl k => lv_tableOut hS.1 hS.2.1 hd hc (by omega) (k ls hl)) (hk _ (Or.inl ⟨hc, by omega⟩))
  · have hb : (x.toInt - lo).toNat < offs.size := by omega
    have ho : offs[(x.toInt - lo).toNat]? = some offs[(x.toInt - lo).toNat] := Array.getElem?_eq_getElem hb
    have hp := h9 _ (Array.getElem_mem hb)
    refine mx_go (pc' := ((pc : Int) + offs[(x.toInt - lo).toNat]).toNat) (fun h1 h2 => ⟨h1, fun x hx => h2 x (List.mem_cons_of_mem _ hx)⟩) (fun _ _ _ _ _ _ _ _ _ _ _ _ _ _ ls hS _ hl k => lv_tableIn hS.1 hS.2.1 hd (by omega) (by omega) ho (by omega) (k ls hl)) (hk _ (Or.inr ⟨by omega, by omega, _, ho, by omega⟩))
theorem mx_lsw {dflt : Int} {ps : Array (Int × Int)} {len : Nat} {x : Int32} (hd : decode (mx_by mid) pc = .ok (.lookupswitch dflt ps, len)) (hp : (ps.toList.zip (ps.toList.drop 1)).all (fun (a, next) => a.1 < next.1) = true) (h0 : 0 ≤ (pc : Int) + Op.lookupswitch.offset ps.toList dflt x.toInt)
    (hk : mx_T0 E fin d bc bs mid ((pc : Int) + Op.lookupswitch.offset ps.toList dflt x.toInt).toNat lv st h Q) : mx_T0 E fin d bc bs mid pc lv (.inl (.int x) :: st) h Q :=
  mx_go (fun h1 h2 => ⟨h1, fun x hx => h2 x (List.mem_cons_of_mem _ hx)⟩) (fun _ _ _ _ _ _ _ _ _ _ _ _ _ _ ls hS _ hl k => lv_lookup hS.1 hS.2.1 hd hp rfl (by omega) (k ls hl)) hk
/-- the method's end -/
theorem mx_end {v : Option mx_V} {ins : Instr} (hd : decode (mx_by mid) pc = .ok (ins, 1)) (hr : mx_rk (mx_rt mid) ins v) (hq : Q v h) : mx_T0 E fin d bc bs mid pc lv v.toList h Q :=
  fun p e R s m args below meth cd H locs cells slots Qw ls hS hD q1 q2 q3 q4 q5 q6 => q6 v h H locs cells slots pc ls ins hq hD (Nat.le_refl _) (Nat.le_add_right _ _) (Nat.le_add_right _ _) (fun x hx => by subst hx; exact q4 x List.mem_cons_self) hd hr
end MXR
