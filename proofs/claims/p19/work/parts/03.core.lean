/-! ===== the mini machine: cells by number, states, the judgement mx_T0 ===== -/
def mx_nb (j : Nat) : Nat := if j = 0 then 13 else if j = 1 then 24 else if j = 2 then 38 else 49
def mx_pos : mx_A → Nat
  | .inl k => k
  | .inr (j, o) => if o < 9 then (if j = 0 then 4 + o else 158 + 9 * j + o) else if o = 20 then 99 + j else mx_nb j + (o - 30)
/-- a number of a cell as the machine makes it -/
def mx_va : mx_A → Prop
  | .inl k => k < 4 ∨ (35 ≤ k ∧ k < 38) ∨ (60 ≤ k ∧ k < 99) ∨ (105 ≤ k ∧ k < 167)
  | .inr (j, o) => o < 9 ∨ (o = 20 ∧ j < 6) ∨ (30 ≤ o ∧ o < 41 ∧ j < 4)
def mx_adr (n : Nat) : mx_A :=
  if n < 4 then .inl n else if n < 13 then .inr (0, n - 4) else if n < 24 then .inr (0, 30 + (n - 13)) else if n < 35 then .inr (1, 30 + (n - 24)) else if n < 38 then .inl n
  else if n < 49 then .inr (2, 30 + (n - 38)) else if n < 60 then .inr (3, 30 + (n - 49)) else if n < 99 then .inl n else if n < 105 then .inr (n - 99, 20) else if n < 167 then .inl n
  else .inr ((n - 158) / 9, (n - 158) % 9)
theorem mx_pos_s (j : Nat) {o : Nat} (h : o < 9) : mx_pos (.inr (j, o)) = if j = 0 then 4 + o else 158 + 9 * j + o := if_pos h
theorem mx_pos_r (j : Nat) : mx_pos (.inr (j, 20)) = 99 + j := rfl
theorem mx_pos_n (j : Nat) {o : Nat} (h : 30 ≤ o) : mx_pos (.inr (j, o)) = mx_nb j + (o - 30) := by
  show (if o < 9 then _ else if o = 20 then _ else _) = _
  rw [if_neg (by omega), if_neg (by omega)]
theorem mx_nb0 : mx_nb 0 = 13 := rfl
theorem mx_nb1 : mx_nb 1 = 24 := rfl
theorem mx_nb2 : mx_nb 2 = 38 := rfl
theorem mx_nb3 : mx_nb 3 = 49 := rfl
theorem mx_va_adr (n : Nat) : mx_va (mx_adr n) := by
  unfold mx_adr
  split; · exact Or.inl (by assumption)
  split; · exact Or.inl (by omega)
  split; · exact Or.inr (Or.inr (by omega))
  split; · exact Or.inr (Or.inr (by omega))
  split; · exact Or.inr (Or.inl (by omega))
  split; · exact Or.inr (Or.inr (by omega))
  split; · exact Or.inr (Or.inr (by omega))
  split; · exact Or.inr (Or.inr (Or.inl (by omega)))
  split; · exact Or.inr (Or.inl ⟨rfl, by omega⟩)
  split; · exact Or.inr (Or.inr (Or.inr (by omega)))
  exact Or.inl (Nat.mod_lt _ (by decide))
theorem mx_pos_adr (n : Nat) : mx_pos (mx_adr n) = n := by
  unfold mx_adr
  split; · rfl
  split; · (rw [mx_pos_s 0 (by omega), if_pos rfl]; omega)
  split; · (rw [mx_pos_n 0 (by omega), mx_nb0]; omega)
  split; · (rw [mx_pos_n 1 (by omega), mx_nb1]; omega)
  split; · rfl
  split; · (rw [mx_pos_n 2 (by omega), mx_nb2]; omega)
  split; · (rw [mx_pos_n 3 (by omega), mx_nb3]; omega)
  split; · rfl
  split; · (rw [mx_pos_r]; omega)
  split; · rfl
  rw [mx_pos_s _ (Nat.mod_lt _ (by decide)), if_neg (by omega)]
  omega
theorem mx_adr_pos {a : mx_A} (h : mx_va a) : mx_adr (mx_pos a) = a := by
  rcases a with k | ⟨j, o⟩
  · have h : k < 4 ∨ (35 ≤ k ∧ k < 38) ∨ (60 ≤ k ∧ k < 99) ∨ (105 ≤ k ∧ k < 167) := h
    show mx_adr k = _
    unfold mx_adr
    split; · rfl
    split; · (exfalso; omega)
    split; · (exfalso; omega)
    split; · (exfalso; omega)
    split; · rfl
    split; · (exfalso; omega)
    split; · (exfalso; omega)
    split; · rfl
    split; · (exfalso; omega)
    split; · rfl
    exfalso; omega
  · have h : o < 9 ∨ (o = 20 ∧ j < 6) ∨ (30 ≤ o ∧ o < 41 ∧ j < 4) := h
    rcases h with h | ⟨rfl, h⟩ | ⟨h1, h2, h3⟩
    · rw [mx_pos_s j h]
      by_cases hj : j = 0
      · subst hj
        rw [if_pos rfl]
        unfold mx_adr
        rw [if_neg (by omega), if_pos (by omega), show 4 + o - 4 = o by omega]
      · rw [if_neg hj]
        unfold mx_adr
        rw [if_neg (by omega), if_neg (by omega), if_neg (by omega), if_neg (by omega), if_neg (by omega), if_neg (by omega), if_neg (by omega), if_neg (by omega), if_neg (by omega), if_neg (by omega), show (158 + 9 * j + o - 158) / 9 = j by omega, show (158 + 9 * j + o - 158) % 9 = o by omega]
    · rw [mx_pos_r]
      unfold mx_adr
      rw [if_neg (by omega), if_neg (by omega), if_neg (by omega), if_neg (by omega), if_neg (by omega), if_neg (by omega), if_neg (by omega), if_neg (by omega), if_pos (by omega), show 99 + j - 99 = j by omega]
    · rw [mx_pos_n j h1]
      have hj : j = 0 ∨ j = 1 ∨ j = 2 ∨ j = 3 := by omega
      rcases hj with rfl | rfl | rfl | rfl
      · rw [mx_nb0]
        unfold mx_adr
        rw [if_neg (by omega), if_neg (by omega), if_pos (by omega), show 30 + (13 + (o - 30) - 13) = o by omega]
      · rw [mx_nb1]
        unfold mx_adr
        rw [if_neg (by omega), if_neg (by omega), if_neg (by omega), if_pos (by omega), show 30 + (24 + (o - 30) - 24) = o by omega]
      · rw [mx_nb2]
        unfold mx_adr
        rw [if_neg (by omega), if_neg (by omega), if_neg (by omega), if_neg (by omega), if_neg (by omega), if_pos (by omega), show 30 + (38 + (o - 30) - 38) = o by omega]
      · rw [mx_nb3]
        unfold mx_adr
        rw [if_neg (by omega), if_neg (by omega), if_neg (by omega), if_neg (by omega), if_neg (by omega), if_neg (by omega), if_pos (by omega), show 30 + (49 + (o - 30) - 49) = o by omega]
theorem mx_pos_inj {a b : mx_A} (ha : mx_va a) (hb : mx_va b) (h : mx_pos a = mx_pos b) : a = b := by
  rw [← mx_adr_pos ha, ← mx_adr_pos hb, h]
/-- launch; base, tables' numbers of classes and slots, array classes, static arrays' cells; the script -/
abbrev mx_Ev : Type := Launch × Nat × va_G × (Nat → ClassId) × (Nat → Nat) × Nat × (Nat → Int32)
abbrev mx_B (E : mx_Ev) : Nat := E.2.1
abbrev mx_G (E : mx_Ev) : va_G := E.2.2.1
abbrev mx_aC (E : mx_Ev) : Nat → ClassId := E.2.2.2.1
abbrev mx_sa (E : mx_Ev) : Nat → Nat := E.2.2.2.2.1
abbrev mx_sn (E : mx_Ev) : Nat := E.2.2.2.2.2.1
abbrev mx_sx (E : mx_Ev) : Nat → Int32 := E.2.2.2.2.2.2
def mx_ad (E : mx_Ev) (a : mx_A) : Nat := mx_B E + mx_pos a
def mx_sh (E : mx_Ev) : mx_V → Value
  | .inr a => .ref (mx_ad E a)
  | .inl (.float u) => .ref (mx_sa E u.toNat)
  | .inl v => v
def mx_shl (E : mx_Ev) (q : Nat × mx_V) : Nat × Value := (q.1, mx_sh E q.2)
def mx_cat : mx_V → Nat
  | .inr _ => 1
  | .inl v => v.category
theorem mx_cat_sh (E : mx_Ev) (v : mx_V) : (mx_sh E v).category = mx_cat v := by
  rcases v with v | a
  · cases v <;> rfl
  · rfl
def mx_fv (E : mx_Ev) (h : mx_H) (a : mx_A) (ci j : Nat) : Value := if mx_ff ci j = 2 then va_rf ((h.2.2.2 a j).map (mx_ad E)) else .int (h.2.1 a j)
def mx_ar (E : mx_Ev) (h : mx_H) (a : mx_A) (kd : Nat) : (Nat → Int32) ⊕ (Nat → Int64) ⊕ (Nat → UInt32) ⊕ (Nat → UInt64) ⊕ (Nat → Option Nat) :=
  if kd = 101 then .inr (.inl (h.2.2.1 a)) else if kd ≤ 103 then .inl (h.2.1 a) else .inr (.inr (.inr (.inr (fun j => (h.2.2.2 a j).map (mx_ad E)))))
def mx_cell (E : mx_Ev) (h : mx_H) (a : mx_A) : va_E :=
  if (mx_lo a).1 < 100 then .inr ((mx_lo a).1, (List.range (mx_lo a).2).map (mx_fv E h a (mx_lo a).1)) else .inl (mx_aC E ((mx_lo a).1 - 100), (mx_lo a).2, mx_ar E h a (mx_lo a).1)
def mx_W (E : mx_Ev) (h : mx_H) : va_W := (List.range h.1).map (fun k => (mx_B E + k, mx_cell E h (mx_adr k)))
def mx_wfa (n : Nat) (a : mx_A) : Prop := mx_va a ∧ mx_pos a < n
def mx_wf (n : Nat) : mx_V → Prop
  | .inr a => mx_wfa n a
  | .inl (.ref _) => False
  | .inl _ => True
theorem mx_wf.mono {n n' : Nat} {v : mx_V} (h : mx_wf n v) (hn : n ≤ n') : mx_wf n' v := by
  rcases v with v | a
  · cases v <;> first | trivial | exact h
  · exact ⟨h.1, Nat.lt_of_lt_of_le h.2 hn⟩
theorem mx_W_get {E : mx_Ev} {h : mx_H} {a : mx_A} (ha : mx_wfa h.1 a) : (mx_W E h)[mx_pos a]? = some (mx_ad E a, mx_cell E h a) := by
  unfold mx_W
  rw [List.getElem?_map, List.getElem?_range ha.2]
  simp only [Option.map_some, mx_adr_pos ha.1]
  rfl
theorem mx_W_ext {E : mx_Ev} {h h' : mx_H} {a : mx_A} (hn : h'.1 = h.1) (ha : mx_wfa h.1 a) (hs : ∀ b, mx_va b → b ≠ a → mx_cell E h' b = mx_cell E h b) :
    mx_W E h' = (mx_W E h).set (mx_pos a) (mx_ad E a, mx_cell E h' a) := by
  apply List.ext_getElem?
  intro k
  rw [List.getElem?_set]
  unfold mx_W
  rw [List.getElem?_map, List.getElem?_map, hn]
  by_cases hk : mx_pos a = k
  · subst hk
    rw [if_pos rfl, List.getElem?_range ha.2]
    have hl : mx_pos a < ((List.range h.1).map (fun k => (mx_B E + k, mx_cell E h (mx_adr k)))).length := by simpa using ha.2
    rw [if_pos hl]
    simp only [Option.map_some, mx_adr_pos ha.1]
    rfl
  · rw [if_neg hk]
    by_cases hl : k < h.1
    · rw [List.getElem?_range hl]
      simp only [Option.map_some]
      rw [hs (mx_adr k) (mx_va_adr k) (fun e => hk (by rw [← e, mx_pos_adr]))]
    · rw [List.getElem?_eq_none (by simpa using hl)]
      rfl
theorem mx_W_push {E : mx_Ev} {h h' : mx_H} {a : mx_A} (hp : mx_pos a = h.1) (hv : mx_va a) (hn : h'.1 = h.1 + 1) (hs : ∀ b, mx_va b → b ≠ a → mx_cell E h' b = mx_cell E h b) :
    mx_W E h' = mx_W E h ++ [(mx_ad E a, mx_cell E h' a)] := by
  unfold mx_W
  rw [hn, List.range_succ, List.map_append]
  congr 1
  · apply List.map_congr_left
    intro k hk
    have hk := List.mem_range.mp hk
    rw [hs (mx_adr k) (mx_va_adr k) (fun e => by rw [← e, mx_pos_adr] at hp; omega)]
  · simp only [List.map_cons, List.map_nil, ← hp, mx_adr_pos hv]
    rfl
def mx_tys (E : mx_Ev) : List (ClassId × FieldType) := [(mx_aC E 0, .int), (mx_aC E 1, .long), (mx_aC E 2, .byte), (mx_aC E 3, .boolean), (mx_aC E 4, .object RX7), (mx_aC E 5, .array .long)]
def mx_k0 : Nat → Int32 := fun j => [-1, 0, 1, 0, 1, 4].getD j 0
def mx_k1 : Nat → Int32 := fun j => [1, 10, 11, 2, 20, 0, 0, 0, 0, 31, 30, 0, 0, 40, 0, 0, 50, 0, 0, 51, 0, 0, 60, 61].getD j 0
def mx_ra (E : mx_Ev) : Nat → Prop := fun q => mx_B E ≤ q
/-- what holds of the tables and of the static cells -/
def mx_Nv (E : mx_Ev) (U : State) (H : Heap) : Prop :=
  va_K (mx_G E) vwCl (mx_tys E) U ∧ (∀ w ∈ mx_nest, va_Nw w U) ∧ va_AO RX7 U ∧ (Cond.arrayOver (.array .long)).before #[] U = true ∧
  va_Z RX4 "KIND_ABOVE" "[I" (.ref (mx_sa E 0)) (mx_ra E) U H ∧ va_Z RX4 "ACTS" "[I" (.ref (mx_sa E 1)) (mx_ra E) U H ∧
  va_X (mx_sa E 0) 6 mx_k0 U H ∧ va_X (mx_sa E 1) 24 mx_k1 U H ∧ va_X (mx_sa E 2) (mx_sn E) (mx_sx E) U H ∧
  mx_sa E 0 < mx_B E ∧ mx_sa E 1 < mx_B E ∧ mx_sa E 2 < mx_B E ∧ mx_sn E < 2147483648 ∧ mx_B E ≤ H.size
/-- what holds of a method's frame from its start to its end -/
def mx_S (E : mx_Ev) (d mid : Nat) (p : Program) (R : Room) (s : State) (m : MethodId) (args : Array Value) (meth : Method) (c : Code) : Prop :=
  p.tables.exec = Jvm.exec ∧ c.code = mx_by mid ∧ c.maxLocals = mx_nL mid ∧ meth.sig.returnType = mx_rt mid ∧ meth.locks = false ∧ s.vm.findClass (mx_ow mid) = some m.cls ∧
  (∀ w ∈ mx_ws, w.before args s = true) ∧ ((mx_y mid).name = "<init>" → meth.name = "<init>") ∧ mx_Nv E s s.heap ∧ d ≤ R.frames ∧ 40 * d ≤ R.locals
/-- the heap holds the mini machine's -/
def mx_D (E : mx_Ev) (fin : mx_A → Nat → Option mx_A) (h : mx_H) (s : State) (H : Heap) (locs : List Loc) : Prop :=
  va_P (mx_G E) vwCl (mx_W E h) H ∧ va_D (mx_ra E) (mx_W E h) ∧ va_S (mx_ra E) s.heap H locs ∧ H.size = mx_B E + h.1 ∧
  (∀ a k b, h.2.2.2 a k = some b → mx_wfa h.1 b) ∧ (∀ a k b, fin a k = some b → mx_wfa h.1 a → h.2.2.2 a k = some b)
def mx_rk (r : Option FieldType) (ins : Instr) (v : Option mx_V) : Prop :=
  (ins = .return_ ∧ v = none ∧ r = none) ∨ (∃ x, ins = .ireturn ∧ v = some (.inl (.int x)) ∧ (r = some .int ∨ (r = some .boolean ∧ narrow .boolean (.int x) = .int x))) ∨
  (∃ x, ins = .lreturn ∧ v = some (.inl (.long x)) ∧ r = some .long) ∨ (ins = .areturn ∧ (v = some (.inl .null) ∨ ∃ a, v = some (.inr a)) ∧ r = some (.object RX7))
/-- from pc, with these locals and this stack and heap, the method ends, with Q of answer and heap; it makes bc cells and bs slots at most, and calls d deep -/
def mx_T0 (E : mx_Ev) (fin : mx_A → Nat → Option mx_A) (d bc bs mid pc : Nat) (lv : mx_Lv) (st : List mx_V) (h : mx_H) (Q : Option mx_V → mx_H → Prop) : Prop :=
  ∀ (p : Program) (e : Env) (R : Room) (s : State) (m : MethodId) (args : Array Value) (below : List Frame) (meth : Method) (c : Code) (H : Heap) (locs : List Loc) (cells slots : Nat) (Qw : State → Prop) (ls : Array Slot),
    mx_S E d mid p R s m args meth c → mx_D E fin h s H locs → cells + bc ≤ R.cells → slots + bs ≤ R.slots → (∀ q ∈ lv, mx_wf h.1 q.2) → (∀ v ∈ st, mx_wf h.1 v) → lv_has ls (mx_nL mid) (lv.map (mx_shl E)) →
    (∀ (v : Option mx_V) (h' : mx_H) (H' : Heap) (locs' : List Loc) (cells' slots' pc' : Nat) (ls' : Array Slot) (ins : Instr), Q v h' → mx_D E fin h' s H' locs' → h.1 ≤ h'.1 → cells' ≤ cells + bc → slots' ≤ slots + bs →
      (∀ x, v = some x → mx_wf h'.1 x) → decode (mx_by mid) pc' = .ok (ins, 1) → mx_rk (mx_rt mid) ins v → W p E.1 e R s m args below meth c H' locs' cells' slots' Qw (F0 m pc' ls' (v.toList.map (mx_sh E)))) →
    W p E.1 e R s m args below meth c H locs cells slots Qw (F0 m pc ls (st.map (mx_sh E)))
/-- the locals at a method's entry -/
def mx_ent : Nat → List mx_V → mx_Lv
  | _, [] => []
  | i, v :: r => (i, v) :: mx_ent (i + mx_cat v) r
def mx_C0 (E : mx_Ev) (fin : mx_A → Nat → Option mx_A) (d mid : Nat) (av : List mx_V) (h : mx_H) (Q : Option mx_V → mx_H → Prop) : Prop :=
  mx_T0 E fin d (mx_bu mid).1 (mx_bu mid).2 mid 0 (mx_ent 0 av) [] h Q
theorem mx_T0.mono {E : mx_Ev} {fin : mx_A → Nat → Option mx_A} {d bc bs mid pc : Nat} {lv : mx_Lv} {st : List mx_V} {h : mx_H} {Q Q' : Option mx_V → mx_H → Prop} (hT : mx_T0 E fin d bc bs mid pc lv st h Q) (hQ : ∀ v h', Q v h' → Q' v h') : mx_T0 E fin d bc bs mid pc lv st h Q' :=
  fun p e R s m args below meth c H locs cells slots Qw ls hS hD h1 h2 h3 h4 h5 h6 => hT p e R s m args below meth c H locs cells slots Qw ls hS hD h1 h2 h3 h4 h5 (fun v h' H' locs' cells' slots' pc' ls' ins q => h6 v h' H' locs' cells' slots' pc' ls' ins (hQ v h' q))
/-- a step that touches stack and locals alone -/
theorem mx_go {E : mx_Ev} {fin : mx_A → Nat → Option mx_A} {d bc bs mid pc pc' : Nat} {lv lv' : mx_Lv} {st st' : List mx_V} {h : mx_H} {Q : Option mx_V → mx_H → Prop}
    (hw : (∀ q ∈ lv, mx_wf h.1 q.2) → (∀ v ∈ st, mx_wf h.1 v) → (∀ q ∈ lv', mx_wf h.1 q.2) ∧ (∀ v ∈ st', mx_wf h.1 v))
    (hstep : ∀ (p : Program) (e : Env) (R : Room) (s : State) (m : MethodId) (args : Array Value) (below : List Frame) (meth : Method) (c : Code) (H : Heap) (locs : List Loc) (cells slots : Nat) (Qw : State → Prop) (ls : Array Slot),
      mx_S E d mid p R s m args meth c → mx_D E fin h s H locs → lv_has ls (mx_nL mid) (lv.map (mx_shl E)) →
      (∀ ls', lv_has ls' (mx_nL mid) (lv'.map (mx_shl E)) → W p E.1 e R s m args below meth c H locs cells slots Qw (F0 m pc' ls' (st'.map (mx_sh E)))) → W p E.1 e R s m args below meth c H locs cells slots Qw (F0 m pc ls (st.map (mx_sh E))))
    (hk : mx_T0 E fin d bc bs mid pc' lv' st' h Q) : mx_T0 E fin d bc bs mid pc lv st h Q :=
  fun p e R s m args below meth c H locs cells slots Qw ls hS hD h1 h2 h3 h4 h5 h6 =>
    hstep p e R s m args below meth c H locs cells slots Qw ls hS hD h5 (fun ls' hl => hk p e R s m args below meth c H locs cells slots Qw ls' hS hD h1 h2 (hw h3 h4).1 (hw h3 h4).2 hl h6)
