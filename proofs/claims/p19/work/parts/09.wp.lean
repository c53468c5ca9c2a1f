/-! ===== what a stretch of code asks: computed, and sound ===== -/
/-- the constant references, once a cell is ready -/
def mx_is98 : mx_A → Bool
  | .inl k => Nat.beq k 98
  | _ => false
def mx_fn (md : Bool) (a : mx_A) (k : Nat) : Option mx_A := match md with
  | true => bif mx_is98 a then (bif Nat.blt k 6 then some (.inr (k, 20)) else none) else mx_fr a k
  | false => none
def mx_lt (mid i : Nat) : Bool := Nat.blt i (mx_nL mid)
/-- what a field holds: a constant cell, a shape or null, a number -/
def mx_rdf (md : Bool) (h : mx_H) (a : mx_A) (ci k : Nat) (κ : mx_V → Prop) : Prop :=
  match mx_ff ci k with
  | 2 => match mx_fn md a k with
    | some b => κ (.inr b)
    | none => (∀ j, h.2.2.2 a k = some (.inr (j, 0)) → κ (.inr (.inr (j, 0)))) ∧ (h.2.2.2 a k = none → κ (.inl .null)) ∧ (∀ b, h.2.2.2 a k = some b → ∃ j, b = .inr (j, 0))
  | _ => κ (.inl (.int (h.2.1 a k)))
def mx_pkb (ci k : Nat) (v : mx_V) (P : Prop) : Prop := match mx_ff ci k, v with
  | 0, .inl (.int _) => P
  | 1, .inl (.int x) => (x = 0 ∨ x = 1) ∧ P
  | 2, .inr _ => P
  | 2, .inl .null => P
  | _, _ => False
def mx_cnd (c : Jvm.ClassFile.Cond) (x y : Int32) : Prop := match c with
  | .eq => x = y
  | .ne => x ≠ y
  | .lt => x < y
  | .ge => y ≤ x
  | .gt => y < x
  | .le => x ≤ y
theorem mx_T0.typed {E : mx_Ev} {fin : mx_A → Nat → Option mx_A} {d bc bs mid pc : Nat} {lv : mx_Lv} {st : List mx_V} {h : mx_H} {Q : Option mx_V → mx_H → Prop} (hT : mx_T0 E fin d bc bs mid pc lv st h Q) : mx_T0 E fin d bc bs mid pc lv st h (fun v h' => Q v h' ∧ ∃ ins, mx_rk (mx_rt mid) ins v) :=
  fun p e R s m args below meth c H locs cells slots Qw ls hS hD h1 h2 h3 h4 h5 h6 => hT p e R s m args below meth c H locs cells slots Qw ls hS hD h1 h2 h3 h4 h5 (fun v h' H' locs' cells' slots' pc' ls' ins q a1 a2 a3 a4 a5 a6 a7 => h6 v h' H' locs' cells' slots' pc' ls' ins ⟨q, ins, a7⟩ a1 a2 a3 a4 a5 a6 a7)
/-- what comes back from a call, by the callee's type -/
def mx_rc (r : Option FieldType) (v : Option mx_V) (κ : List mx_V → Prop) : Prop := match r with
  | none => v = none → κ []
  | some .long => ∀ x, v = some (.inl (.long x)) → κ [.inl (.long x)]
  | some (.object _) => (∀ j, v = some (.inr (.inr (j, 0))) → κ [.inr (.inr (j, 0))]) ∧ (v = some (.inl .null) → κ [.inl .null]) ∧ (∀ b, v = some (.inr b) → ∃ j, b = .inr (j, 0))
  | _ => ∀ x, v = some (.inl (.int x)) → κ [.inl (.int x)]
theorem mx_rc_s {r : Option FieldType} {v : Option mx_V} {κ P : List mx_V → Prop} (hr : ∃ ins, mx_rk r ins v) (hP : ∀ s, κ s → P s) (h : mx_rc r v κ) : P v.toList := by
  obtain ⟨ins, hr⟩ := hr
  rcases hr with ⟨-, rfl, rfl⟩ | ⟨x, -, rfl, hr⟩ | ⟨x, -, rfl, rfl⟩ | ⟨-, hv, rfl⟩
  · exact hP _ (h rfl)
  · rcases hr with rfl | ⟨rfl, -⟩
    · exact hP _ (h x rfl)
    · exact hP _ (h x rfl)
  · exact hP _ (h x rfl)
  · obtain ⟨h1, h2, h3⟩ := h
    rcases hv with rfl | ⟨a, rfl⟩
    · exact hP _ (h2 rfl)
    · obtain ⟨j, rfl⟩ := h3 a rfl
      exact hP _ (h1 j rfl)
theorem mx_rdf_s {md : Bool} {h : mx_H} {x : mx_A} {ci k : Nat} {κ : mx_V → Prop} {E : mx_Ev} {d bc bs mid pc pc' : Nat} {lv : mx_Lv} {r : List mx_V} {Q : Option mx_V → mx_H → Prop}
    (rule : mx_T0 E (mx_fn md) d bc bs mid pc' lv (mx_fw h x ci k :: r) h Q → mx_T0 E (mx_fn md) d bc bs mid pc lv (.inr x :: r) h Q) (h2 : ∀ v, κ v → mx_T0 E (mx_fn md) d bc bs mid pc' lv (v :: r) h Q) (hk : mx_rdf md h x ci k κ) : mx_T0 E (mx_fn md) d bc bs mid pc lv (.inr x :: r) h Q := by
  intro p e R s m args below meth c H locs cells slots Qw ls hS hD q1 q2 q3 q4 q5 q6
  have hwx : mx_wfa h.1 x := q4 (.inr x) List.mem_cons_self
  refine rule ?_ p e R s m args below meth c H locs cells slots Qw ls hS hD q1 q2 q3 q4 q5 q6
  unfold mx_rdf at hk
  unfold mx_fw
  split at hk
  · next hf =>
    rw [if_pos hf]
    split at hk
    · next b hb =>
      rw [hD.2.2.2.2.2 x k b hb hwx]
      exact h2 _ hk
    · obtain ⟨k1, k2, k3⟩ := hk
      cases hr : h.2.2.2 x k with
      | none => exact h2 _ (k2 hr)
      | some t =>
        obtain ⟨j, rfl⟩ := k3 t hr
        exact h2 _ (k1 j hr)
  · next hf =>
    rw [if_neg hf]
    exact h2 _ hk
theorem mx_pkb_s {ci k : Nat} {v : mx_V} {P : Prop} (hf : mx_fok ci k) (h : mx_pkb ci k v P) : mx_pk ci k v ∧ P := by
  unfold mx_pkb at h
  split at h
  · next h1 => exact ⟨by rcases hf with ⟨q, q2⟩ | ⟨q, -⟩ | ⟨q, -⟩ | ⟨q, -⟩ <;> first | exact Or.inl q2 | (rw [h1] at q; cases q), h⟩
  · next h1 => exact ⟨by rcases hf with ⟨q, -⟩ | ⟨q, q2⟩ | ⟨q, -⟩ | ⟨q, -⟩ <;> first | exact Or.inr ⟨q2, h.1⟩ | (rw [h1] at q; cases q), h.2⟩
  · next h1 => exact ⟨by rcases hf with ⟨q, -⟩ | ⟨q, -⟩ | ⟨q, q2⟩ | ⟨q, q2⟩ <;> first | exact Or.inl q2 | exact Or.inr q2 | (rw [h1] at q; cases q), h⟩
  · next h1 => exact ⟨by rcases hf with ⟨q, -⟩ | ⟨q, -⟩ | ⟨q, q2⟩ | ⟨q, q2⟩ <;> first | exact Or.inl q2 | exact Or.inr q2 | (rw [h1] at q; cases q), h⟩
  · exact h.elim
def mx_rb (r : Option FieldType) (x : Int32) (P : Prop) : Prop := match r with
  | some .boolean => (x = 0 ∨ x = 1) ∧ P
  | _ => P
/-- one instruction: what it asks of what follows -/
def mx_one (E : mx_Ev) (md : Bool) (d bc bs mid pc : Nat) (ins : Instr) (a b z : Nat) (c : Int32) (l : Int64) (lv : mx_Lv) (st : List mx_V) (h : mx_H) (Q : Option mx_V → mx_H → Prop) (CC : Nat → Nat → List mx_V → mx_H → (Option mx_V → mx_H → Prop) → Prop) (κ TT : Nat → Nat → Nat → mx_Lv → List mx_V → mx_H → Prop) : Prop := match ins with
  | .iconst n => κ bc bs (pc + 1) lv (.inl (.int c) :: st) h
  | .bipush n => κ bc bs (pc + 2) lv (.inl (.int c) :: st) h
  | .sipush n => κ bc bs (pc + 3) lv (.inl (.int c) :: st) h
  | .lconst n => κ bc bs (pc + 1) lv (.inl (.long l) :: st) h
  | .ldc n => κ bc bs (pc + 2) lv (.inl (.int c) :: st) h
  | .ldc_w n => κ bc bs (pc + 3) lv (.inl (.int c) :: st) h
  | .ldc2_w n => κ bc bs (pc + 3) lv (.inl (.long l) :: st) h
  | .aconst_null => κ bc bs (pc + 1) lv (.inl .null :: st) h
  | .iload_n n => match mx_get lv n.val with | some (.inl (.int x)) => κ bc bs (pc + 1) lv (.inl (.int x) :: st) h | _ => False
  | .iload n => match mx_get lv n with | some (.inl (.int x)) => κ bc bs (pc + 2) lv (.inl (.int x) :: st) h | _ => False
  | .lload_n n => match mx_get lv n.val with | some (.inl (.long x)) => κ bc bs (pc + 1) lv (.inl (.long x) :: st) h | _ => False
  | .lload n => match mx_get lv n with | some (.inl (.long x)) => κ bc bs (pc + 2) lv (.inl (.long x) :: st) h | _ => False
  | .aload_n n => match mx_get lv n.val with | some x => mx_if (mx_isr x) (κ bc bs (pc + 1) lv (x :: st) h) | none => False
  | .aload n => match mx_get lv n with | some x => mx_if (mx_isr x) (κ bc bs (pc + 2) lv (x :: st) h) | none => False
  | .istore_n n => match st with | .inl (.int x) :: r => κ bc bs (pc + 1) (mx_set1 lv n.val (.inl (.int x))) r h | _ => False
  | .istore n => match st with | .inl (.int x) :: r => κ bc bs (pc + 2) (mx_set1 lv n (.inl (.int x))) r h | _ => False
  | .lstore_n n => match st with | .inl (.long x) :: r => κ bc bs (pc + 1) (mx_set2 lv n.val (.inl (.long x))) r h | _ => False
  | .lstore n => match st with | .inl (.long x) :: r => κ bc bs (pc + 2) (mx_set2 lv n (.inl (.long x))) r h | _ => False
  | .astore_n n => match st with | x :: r => mx_if (mx_isr x) (κ bc bs (pc + 1) (mx_set1 lv n.val x) r h) | _ => False
  | .astore n => match st with | x :: r => mx_if (mx_isr x) (κ bc bs (pc + 2) (mx_set1 lv n x) r h) | _ => False
  | .iinc n k => match mx_get lv n with | some (.inl (.int x)) => κ bc bs (pc + 3) (mx_set1 lv n (.inl (.int (x + c)))) st h | _ => False
  | .iadd => match st with | .inl (.int y) :: .inl (.int x) :: r => κ bc bs (pc + 1) lv (.inl (.int (x + y)) :: r) h | _ => False
  | .isub => match st with | .inl (.int y) :: .inl (.int x) :: r => κ bc bs (pc + 1) lv (.inl (.int (x - y)) :: r) h | _ => False
  | .imul => match st with | .inl (.int y) :: .inl (.int x) :: r => κ bc bs (pc + 1) lv (.inl (.int (x * y)) :: r) h | _ => False
  | .iand => match st with | .inl (.int y) :: .inl (.int x) :: r => κ bc bs (pc + 1) lv (.inl (.int (x &&& y)) :: r) h | _ => False
  | .ior => match st with | .inl (.int y) :: .inl (.int x) :: r => κ bc bs (pc + 1) lv (.inl (.int (x ||| y)) :: r) h | _ => False
  | .ixor => match st with | .inl (.int y) :: .inl (.int x) :: r => κ bc bs (pc + 1) lv (.inl (.int (x ^^^ y)) :: r) h | _ => False
  | .ishl => match st with | .inl (.int y) :: .inl (.int x) :: r => κ bc bs (pc + 1) lv (.inl (.int (x <<< (y &&& 31))) :: r) h | _ => False
  | .ishr => match st with | .inl (.int y) :: .inl (.int x) :: r => κ bc bs (pc + 1) lv (.inl (.int (x >>> (y &&& 31))) :: r) h | _ => False
  | .iushr => match st with | .inl (.int y) :: .inl (.int x) :: r => κ bc bs (pc + 1) lv (.inl (.int ((x.toUInt32 >>> (y.toUInt32 &&& Int32.toUInt32 31)).toInt32)) :: r) h | _ => False
  | .idiv => match st with | .inl (.int y) :: .inl (.int x) :: r => (¬ y = 0) ∧ κ bc bs (pc + 1) lv (.inl (.int (x / y)) :: r) h | _ => False
  | .irem => match st with | .inl (.int y) :: .inl (.int x) :: r => (¬ y = 0) ∧ κ bc bs (pc + 1) lv (.inl (.int (x - x / y * y)) :: r) h | _ => False
  | .ladd => match st with | .inl (.long y) :: .inl (.long x) :: r => κ bc bs (pc + 1) lv (.inl (.long (x + y)) :: r) h | _ => False
  | .lsub => match st with | .inl (.long y) :: .inl (.long x) :: r => κ bc bs (pc + 1) lv (.inl (.long (x - y)) :: r) h | _ => False
  | .lmul => match st with | .inl (.long y) :: .inl (.long x) :: r => κ bc bs (pc + 1) lv (.inl (.long (x * y)) :: r) h | _ => False
  | .land => match st with | .inl (.long y) :: .inl (.long x) :: r => κ bc bs (pc + 1) lv (.inl (.long (x &&& y)) :: r) h | _ => False
  | .lor => match st with | .inl (.long y) :: .inl (.long x) :: r => κ bc bs (pc + 1) lv (.inl (.long (x ||| y)) :: r) h | _ => False
  | .ldiv => match st with | .inl (.long y) :: .inl (.long x) :: r => (¬ y = 0) ∧ κ bc bs (pc + 1) lv (.inl (.long (x / y)) :: r) h | _ => False
  | .lshl => match st with | .inl (.int y) :: .inl (.long x) :: r => κ bc bs (pc + 1) lv (.inl (.long (x <<< (y.toInt64 &&& 63))) :: r) h | _ => False
  | .lcmp => match st with | .inl (.long y) :: .inl (.long x) :: r => κ bc bs (pc + 1) lv (.inl (.int (lg_cmp x y)) :: r) h | _ => False
  | .ineg => match st with | .inl (.int x) :: r => κ bc bs (pc + 1) lv (.inl (.int (-x)) :: r) h | _ => False
  | .lneg => match st with | .inl (.long x) :: r => κ bc bs (pc + 1) lv (.inl (.long (-x)) :: r) h | _ => False
  | .i2l => match st with | .inl (.int x) :: r => κ bc bs (pc + 1) lv (.inl (.long (x.toInt64)) :: r) h | _ => False
  | .l2i => match st with | .inl (.long x) :: r => κ bc bs (pc + 1) lv (.inl (.int (x.toInt32)) :: r) h | _ => False
  | .i2b => match st with | .inl (.int x) :: r => κ bc bs (pc + 1) lv (.inl (.int (x.toInt8.toInt32)) :: r) h | _ => False
  | .i2s => match st with | .inl (.int x) :: r => κ bc bs (pc + 1) lv (.inl (.int (x.toInt16.toInt32)) :: r) h | _ => False
  | .goto k => κ bc bs a lv st h
  | .pop => match st with | x :: r => mx_if (Nat.beq (mx_cat x) 1) (κ bc bs (pc + 1) lv r h) | _ => False
  | .pop2 => match st with | x :: r => mx_if (Nat.beq (mx_cat x) 2) (κ bc bs (pc + 1) lv r h) | _ => False
  | .dup => match st with | x :: r => mx_if (Nat.beq (mx_cat x) 1) (κ bc bs (pc + 1) lv (x :: x :: r) h) | _ => False
  | .dup2 => match st with | x :: y :: r => mx_if (Nat.beq (mx_cat x) 1 && Nat.beq (mx_cat y) 1) (κ bc bs (pc + 1) lv (x :: y :: x :: y :: r) h) | _ => False
  | .ifCond cd k => match st with | .inl (.int x) :: r => (mx_cnd cd x 0 → κ bc bs a lv r h) ∧ (¬ mx_cnd cd x 0 → κ bc bs (pc + 3) lv r h) | _ => False
  | .if_icmp cd k => match st with | .inl (.int y) :: .inl (.int x) :: r => (mx_cnd cd x y → κ bc bs a lv r h) ∧ (¬ mx_cnd cd x y → κ bc bs (pc + 3) lv r h) | _ => False
  | .ifnull k => match st with | .inr _ :: r => κ bc bs (pc + 3) lv r h | .inl .null :: r => κ bc bs a lv r h | _ => False
  | .ifnonnull k => match st with | .inr _ :: r => κ bc bs a lv r h | .inl .null :: r => κ bc bs (pc + 3) lv r h | _ => False
  | .tableswitch df lo hi offs => match st with | .inl (.int x) :: r => ∀ tgt : Nat, ((x.toInt < lo ∨ hi < x.toInt) ∧ (pc : Int) + df = tgt) ∨ (lo ≤ x.toInt ∧ x.toInt ≤ hi ∧ ∃ o, offs[(x.toInt - lo).toNat]? = some o ∧ (pc : Int) + o = tgt) → TT bc bs tgt lv r h | _ => False
  | .lookupswitch df ps => match st with | .inl (.int x) :: r => (0 ≤ (pc : Int) + Op.lookupswitch.offset ps.toList df x.toInt) ∧ TT bc bs ((pc : Int) + Op.lookupswitch.offset ps.toList df x.toInt).toNat lv r h | _ => False
  | .ireturn => match st with | [.inl (.int x)] => mx_rb (mx_rt mid) x (Q (some (.inl (.int x))) h) | _ => False
  | .lreturn => match st with | [.inl (.long x)] => Q (some (.inl (.long x))) h | _ => False
  | .areturn => match st with | [.inl .null] => Q (some (.inl .null)) h | [.inr x] => Q (some (.inr x)) h | _ => False
  | .return_ => match st with | [] => Q none h | _ => False
  | .iaload => match st with | .inl (.int i) :: .inr x :: r => mx_if (Nat.beq (mx_lo x).1 100) (vp_in i (mx_lo x).2 ∧ κ bc bs (pc + 1) lv (.inl (.int (h.2.1 x i.toNatClampNeg)) :: r) h) | .inl (.int i) :: .inl (.float u) :: r => (u = 0 ∨ u = 1 ∨ u = 2) ∧ vp_in i (mx_slen E u) ∧ κ bc bs (pc + 1) lv (.inl (.int (mx_sval E u i.toNatClampNeg)) :: r) h | _ => False
  | .baload => match st with | .inl (.int i) :: .inr x :: r => mx_if (Nat.beq (mx_lo x).1 102 || Nat.beq (mx_lo x).1 103) (vp_in i (mx_lo x).2 ∧ κ bc bs (pc + 1) lv (.inl (.int (h.2.1 x i.toNatClampNeg)) :: r) h) | _ => False
  | .laload => match st with | .inl (.int i) :: .inr x :: r => mx_if (Nat.beq (mx_lo x).1 101) (vp_in i (mx_lo x).2 ∧ κ bc bs (pc + 1) lv (.inl (.long (h.2.2.1 x i.toNatClampNeg)) :: r) h) | _ => False
  | .aaload => match st with | .inl (.int i) :: .inr x :: r => (match (mx_lo x).1 with | 104 => vp_in i (mx_lo x).2 ∧ (∀ j, h.2.2.2 x i.toNatClampNeg = some (.inr (j, 0)) → κ bc bs (pc + 1) lv (.inr (.inr (j, 0)) :: r) h) ∧ (h.2.2.2 x i.toNatClampNeg = none → κ bc bs (pc + 1) lv (.inl .null :: r) h) ∧ (∀ t, h.2.2.2 x i.toNatClampNeg = some t → ∃ j, t = .inr (j, 0)) | 105 => vp_in i (mx_lo x).2 ∧ mx_fn md x i.toNatClampNeg = some (.inr (i.toNatClampNeg, 20)) ∧ κ bc bs (pc + 1) lv (.inr (.inr (i.toNatClampNeg, 20)) :: r) h | _ => False) | _ => False
  | .arraylength => match st with | .inr x :: r => mx_if (Nat.beq (mx_lo x).1 100 || Nat.beq (mx_lo x).1 101) (κ bc bs (pc + 1) lv (.inl (.int (Int32.ofNat (mx_lo x).2)) :: r) h) | .inl (.float u) :: r => (u = 0 ∨ u = 1 ∨ u = 2) ∧ κ bc bs (pc + 1) lv (.inl (.int (Int32.ofNat (mx_slen E u))) :: r) h | _ => False
  | .iastore => match st with | .inl (.int y) :: .inl (.int i) :: .inr x :: r => mx_if (Nat.beq (mx_lo x).1 100) (vp_in i (mx_lo x).2 ∧ κ bc bs (pc + 1) lv r (mx_uI h x i.toNatClampNeg y)) | _ => False
  | .lastore => match st with | .inl (.long y) :: .inl (.int i) :: .inr x :: r => mx_if (Nat.beq (mx_lo x).1 101) (vp_in i (mx_lo x).2 ∧ κ bc bs (pc + 1) lv r (mx_uL h x i.toNatClampNeg y)) | _ => False
  | .bastore => match st with | .inl (.int y) :: .inl (.int i) :: .inr x :: r => (match (mx_lo x).1 with | 102 => vp_in i (mx_lo x).2 ∧ κ bc bs (pc + 1) lv r (mx_uI h x i.toNatClampNeg (vp_nar .byte y)) | 103 => vp_in i (mx_lo x).2 ∧ κ bc bs (pc + 1) lv r (mx_uI h x i.toNatClampNeg (vp_nar .boolean y)) | _ => False) | _ => False
  | .aastore => match st with | .inr (.inr (j, 0)) :: .inl (.int i) :: .inr x :: r => mx_if (Nat.beq (mx_lo x).1 104) (vp_in i (mx_lo x).2 ∧ mx_fn md x i.toNatClampNeg = none ∧ κ bc bs (pc + 1) lv r (mx_uR h x i.toNatClampNeg (some (.inr (j, 0))))) | .inl .null :: .inl (.int i) :: .inr x :: r => mx_if (Nat.beq (mx_lo x).1 104) (vp_in i (mx_lo x).2 ∧ mx_fn md x i.toNatClampNeg = none ∧ κ bc bs (pc + 1) lv r (mx_uR h x i.toNatClampNeg none)) | _ => False
  | .getfield n => match st with | .inr x :: r => mx_if (mx_lo x == (a, (mx_cr a).2.2)) (mx_rdf md h x a b (fun v => κ bc bs (pc + 3) lv (v :: r) h)) | _ => False
  | .putfield n => match st with | v :: .inr x :: r => mx_if (mx_lo x == (a, (mx_cr a).2.2)) (mx_pkb a b v (match mx_fn md x b with | none => κ bc bs (pc + 3) lv r (mx_pf h x b v) | some _ => False)) | _ => False
  | .getstatic n => match a with | 0 => κ bc bs (pc + 3) lv (.inl (.float 0) :: st) h | 1 => κ bc bs (pc + 3) lv (.inl (.float 1) :: st) h | _ => False
  | .new n => mx_if (!md && Nat.ble 1 bc && Nat.ble (mx_cr a).2.2 bs) (∃ x, mx_pos x = h.1 ∧ mx_va x ∧ mx_lo x = (a, (mx_cr a).2.2) ∧ κ (bc - 1) (bs - (mx_cr a).2.2) (pc + 3) lv (.inr x :: st) (mx_nw h x))
  | .newarray t => match st with | .inl (.int n) :: r => mx_if (!md && Nat.ble 1 bc && Nat.ble n.toNatClampNeg bs && Nat.ble n.toNatClampNeg 60000) (¬ n < 0 ∧ ∃ x, mx_pos x = h.1 ∧ mx_va x ∧ mx_lo x = (100 + mx_ak t, n.toNatClampNeg) ∧ κ (bc - 1) (bs - n.toNatClampNeg) (pc + 2) lv (.inr x :: r) (mx_nw h x)) | _ => False
  | .anewarray n => match st with | .inl (.int n) :: r => mx_if (!md && Nat.ble 1 bc && Nat.ble n.toNatClampNeg bs && Nat.ble n.toNatClampNeg 60000) (¬ n < 0 ∧ ∃ x, mx_pos x = h.1 ∧ mx_va x ∧ mx_lo x = (104, n.toNatClampNeg) ∧ κ (bc - 1) (bs - n.toNatClampNeg) (pc + 3) lv (.inr x :: r) (mx_nw h x)) | _ => False
  | .invokestatic n => match d with | 0 => False | e + 1 => match Nat.beq z 2 with | true => mx_mth a st (fun r => κ bc bs (pc + 3) lv r h) | false => mx_if (Nat.ble b st.length && Nat.ble (((st.take b).map mx_cat).sum) (mx_nL a) && Nat.ble (((st.drop b).map mx_cat).sum) 8 && Nat.ble (mx_bu a).1 bc && Nat.ble (mx_bu a).2 bs) (CC e a (st.take b).reverse h (fun v h' => mx_rc (mx_rt a) v (fun s => κ (bc - (mx_bu a).1) (bs - (mx_bu a).2) (pc + 3) lv (s ++ st.drop b) h')))
  | .invokevirtual n => match d with | 0 => False | e + 1 => (match st.drop b with | .inr x :: r => mx_if (Nat.ble b st.length && Nat.ble (1 + ((st.take b).map mx_cat).sum) (mx_nL a) && Nat.ble ((r.map mx_cat).sum) 8 && Nat.ble (mx_bu a).1 bc && Nat.ble (mx_bu a).2 bs && (mx_lo x == ((mx_me a).1, (mx_cr (mx_me a).1).2.2))) (CC e a (.inr x :: (st.take b).reverse) h (fun v h' => mx_rc (mx_rt a) v (fun s => κ (bc - (mx_bu a).1) (bs - (mx_bu a).2) (pc + 3) lv (s ++ r) h'))) | _ => False)
  | .invokespecial n => match d with | 0 => False | e + 1 => (match Nat.beq a 1000 with | true => (match st with | .inr _ :: r => mx_if (Nat.ble ((r.map mx_cat).sum) 8) (κ bc bs (pc + 3) lv r h) | _ => False) | false => (match st.drop b with | .inr x :: r => mx_if (Nat.ble b st.length && Nat.ble (1 + ((st.take b).map mx_cat).sum) (mx_nL a) && Nat.ble ((r.map mx_cat).sum) 8 && Nat.ble (mx_bu a).1 bc && Nat.ble (mx_bu a).2 bs) (CC e a (.inr x :: (st.take b).reverse) h (fun v h' => mx_rc (mx_rt a) v (fun s => κ (bc - (mx_bu a).1) (bs - (mx_bu a).2) (pc + 3) lv (s ++ r) h'))) | _ => False))
  | _ => False
set_option maxHeartbeats 4000000 in
theorem mx_one_sound {E : mx_Ev} {md : Bool} {d bc bs mid pc : Nat} {ins : Instr} {len a b z : Nat} {c : Int32} {l : Int64} {lv : mx_Lv} {st : List mx_V} {h : mx_H} {Q : Option mx_V → mx_H → Prop} {CC : Nat → Nat → List mx_V → mx_H → (Option mx_V → mx_H → Prop) → Prop} {κ TT : Nat → Nat → Nat → mx_Lv → List mx_V → mx_H → Prop}
    (hd : decode (mx_by mid) pc = .ok (ins, len)) (hg : mx_ax mid pc ins len a b z c l) (kk : ∀ bc bs pc lv st h, κ bc bs pc lv st h → mx_T0 E (mx_fn md) d bc bs mid pc lv st h Q) (kt : ∀ bc bs pc lv st h, TT bc bs pc lv st h → mx_T0 E (mx_fn md) d bc bs mid pc lv st h Q)
    (kc : ∀ e a av h Q, CC e a av h Q → mx_C0 E (mx_fn md) e a av h Q) (hk : mx_one E md d bc bs mid pc ins a b z c l lv st h Q CC κ TT) : mx_T0 E (mx_fn md) d bc bs mid pc lv st h Q := by
  cases ins with
  | iconst n =>
    obtain ⟨rfl, g2⟩ := hg
    simp only [mx_one] at hk
    rw [← g2] at hk; exact mx_iconst hd (kk _ _ _ _ _ _ hk)
  | bipush n =>
    obtain ⟨rfl, g2⟩ := hg
    simp only [mx_one] at hk
    rw [← g2] at hk; exact mx_bipush hd (kk _ _ _ _ _ _ hk)
  | sipush n =>
    obtain ⟨rfl, g2⟩ := hg
    simp only [mx_one] at hk
    rw [← g2] at hk; exact mx_sipush hd (kk _ _ _ _ _ _ hk)
  | lconst n =>
    obtain ⟨rfl, g2⟩ := hg
    simp only [mx_one] at hk
    rw [← g2] at hk; exact mx_lconst hd (kk _ _ _ _ _ _ hk)
  | ldc n =>
    obtain ⟨rfl, g2⟩ := hg
    simp only [mx_one] at hk
    exact mx_ldc g2 hd (kk _ _ _ _ _ _ hk)
  | ldc_w n =>
    obtain ⟨rfl, g2⟩ := hg
    simp only [mx_one] at hk
    exact mx_ldcw g2 hd (kk _ _ _ _ _ _ hk)
  | ldc2_w n =>
    obtain ⟨rfl, g2⟩ := hg
    simp only [mx_one] at hk
    exact mx_ldc2 g2 hd (kk _ _ _ _ _ _ hk)
  | aconst_null =>
    obtain ⟨rfl, g2⟩ := hg
    simp only [mx_one] at hk
    exact mx_null hd (kk _ _ _ _ _ _ hk)
  | iload_n n =>
    obtain ⟨rfl, g2⟩ := hg
    simp only [mx_one] at hk
    split at hk
    · next x hx => exact mx_iload_n hd hx (kk _ _ _ _ _ _ hk)
    · exact hk.elim
  | iload n =>
    obtain ⟨rfl, g2⟩ := hg
    simp only [mx_one] at hk
    split at hk
    · next x hx => exact mx_iload hd hx (kk _ _ _ _ _ _ hk)
    · exact hk.elim
  | lload_n n =>
    obtain ⟨rfl, g2⟩ := hg
    simp only [mx_one] at hk
    split at hk
    · next x hx => exact mx_lload_n hd hx (kk _ _ _ _ _ _ hk)
    · exact hk.elim
  | lload n =>
    obtain ⟨rfl, g2⟩ := hg
    simp only [mx_one] at hk
    split at hk
    · next x hx => exact mx_lload hd hx (kk _ _ _ _ _ _ hk)
    · exact hk.elim
  | aload_n n =>
    obtain ⟨rfl, g2⟩ := hg
    simp only [mx_one] at hk
    split at hk
    · next x hx => exact mx_aload_n hd hx (mx_if_t hk).1 (kk _ _ _ _ _ _ (mx_if_t hk).2)
    · exact hk.elim
  | aload n =>
    obtain ⟨rfl, g2⟩ := hg
    simp only [mx_one] at hk
    split at hk
    · next x hx => exact mx_aload hd hx (mx_if_t hk).1 (kk _ _ _ _ _ _ (mx_if_t hk).2)
    · exact hk.elim
  | istore_n n =>
    obtain ⟨rfl, g2⟩ := hg
    simp only [mx_one] at hk
    split at hk
    · exact mx_istore_n hd g2 (kk _ _ _ _ _ _ hk)
    · exact hk.elim
  | istore n =>
    obtain ⟨rfl, g2⟩ := hg
    simp only [mx_one] at hk
    split at hk
    · exact mx_istore hd g2 (kk _ _ _ _ _ _ hk)
    · exact hk.elim
  | lstore_n n =>
    obtain ⟨rfl, g2⟩ := hg
    simp only [mx_one] at hk
    split at hk
    · exact mx_lstore_n hd g2 (kk _ _ _ _ _ _ hk)
    · exact hk.elim
  | lstore n =>
    obtain ⟨rfl, g2⟩ := hg
    simp only [mx_one] at hk
    split at hk
    · exact mx_lstore hd g2 (kk _ _ _ _ _ _ hk)
    · exact hk.elim
  | astore_n n =>
    obtain ⟨rfl, g2⟩ := hg
    simp only [mx_one] at hk
    split at hk
    · exact mx_astore_n hd (mx_if_t hk).1 g2 (kk _ _ _ _ _ _ (mx_if_t hk).2)
    · exact hk.elim
  | astore n =>
    obtain ⟨rfl, g2⟩ := hg
    simp only [mx_one] at hk
    split at hk
    · exact mx_astore hd (mx_if_t hk).1 g2 (kk _ _ _ _ _ _ (mx_if_t hk).2)
    · exact hk.elim
  | iinc n k =>
    obtain ⟨rfl, g2⟩ := hg
    simp only [mx_one] at hk
    obtain ⟨g2, g3⟩ := g2
    split at hk
    · next x hx => rw [← g2] at hk; exact mx_iinc hd hx g3 (kk _ _ _ _ _ _ hk)
    · exact hk.elim
  | iadd =>
    obtain ⟨rfl, g2⟩ := hg
    simp only [mx_one] at hk
    split at hk
    · exact mx_iadd hd (kk _ _ _ _ _ _ hk)
    · exact hk.elim
  | isub =>
    obtain ⟨rfl, g2⟩ := hg
    simp only [mx_one] at hk
    split at hk
    · exact mx_isub hd (kk _ _ _ _ _ _ hk)
    · exact hk.elim
  | imul =>
    obtain ⟨rfl, g2⟩ := hg
    simp only [mx_one] at hk
    split at hk
    · exact mx_imul hd (kk _ _ _ _ _ _ hk)
    · exact hk.elim
  | iand =>
    obtain ⟨rfl, g2⟩ := hg
    simp only [mx_one] at hk
    split at hk
    · exact mx_iand hd (kk _ _ _ _ _ _ hk)
    · exact hk.elim
  | ior =>
    obtain ⟨rfl, g2⟩ := hg
    simp only [mx_one] at hk
    split at hk
    · exact mx_ior hd (kk _ _ _ _ _ _ hk)
    · exact hk.elim
  | ixor =>
    obtain ⟨rfl, g2⟩ := hg
    simp only [mx_one] at hk
    split at hk
    · exact mx_ixor hd (kk _ _ _ _ _ _ hk)
    · exact hk.elim
  | ishl =>
    obtain ⟨rfl, g2⟩ := hg
    simp only [mx_one] at hk
    split at hk
    · exact mx_ishl hd (kk _ _ _ _ _ _ hk)
    · exact hk.elim
  | ishr =>
    obtain ⟨rfl, g2⟩ := hg
    simp only [mx_one] at hk
    split at hk
    · exact mx_ishr hd (kk _ _ _ _ _ _ hk)
    · exact hk.elim
  | iushr =>
    obtain ⟨rfl, g2⟩ := hg
    simp only [mx_one] at hk
    split at hk
    · exact mx_iushr hd (kk _ _ _ _ _ _ hk)
    · exact hk.elim
  | idiv =>
    obtain ⟨rfl, g2⟩ := hg
    simp only [mx_one] at hk
    split at hk
    · exact mx_idiv hd hk.1 (kk _ _ _ _ _ _ hk.2)
    · exact hk.elim
  | irem =>
    obtain ⟨rfl, g2⟩ := hg
    simp only [mx_one] at hk
    split at hk
    · exact mx_irem hd hk.1 (kk _ _ _ _ _ _ hk.2)
    · exact hk.elim
  | ladd =>
    obtain ⟨rfl, g2⟩ := hg
    simp only [mx_one] at hk
    split at hk
    · exact mx_ladd hd (kk _ _ _ _ _ _ hk)
    · exact hk.elim
  | lsub =>
    obtain ⟨rfl, g2⟩ := hg
    simp only [mx_one] at hk
    split at hk
    · exact mx_lsub hd (kk _ _ _ _ _ _ hk)
    · exact hk.elim
  | lmul =>
    obtain ⟨rfl, g2⟩ := hg
    simp only [mx_one] at hk
    split at hk
    · exact mx_lmul hd (kk _ _ _ _ _ _ hk)
    · exact hk.elim
  | land =>
    obtain ⟨rfl, g2⟩ := hg
    simp only [mx_one] at hk
    split at hk
    · exact mx_land hd (kk _ _ _ _ _ _ hk)
    · exact hk.elim
  | lor =>
    obtain ⟨rfl, g2⟩ := hg
    simp only [mx_one] at hk
    split at hk
    · exact mx_lor hd (kk _ _ _ _ _ _ hk)
    · exact hk.elim
  | ldiv =>
    obtain ⟨rfl, g2⟩ := hg
    simp only [mx_one] at hk
    split at hk
    · exact mx_ldiv hd hk.1 (kk _ _ _ _ _ _ hk.2)
    · exact hk.elim
  | lshl =>
    obtain ⟨rfl, g2⟩ := hg
    simp only [mx_one] at hk
    split at hk
    · exact mx_lshl hd (kk _ _ _ _ _ _ hk)
    · exact hk.elim
  | lcmp =>
    obtain ⟨rfl, g2⟩ := hg
    simp only [mx_one] at hk
    split at hk
    · exact mx_lcmp hd (kk _ _ _ _ _ _ hk)
    · exact hk.elim
  | ineg =>
    obtain ⟨rfl, g2⟩ := hg
    simp only [mx_one] at hk
    split at hk
    · exact mx_ineg hd (kk _ _ _ _ _ _ hk)
    · exact hk.elim
  | lneg =>
    obtain ⟨rfl, g2⟩ := hg
    simp only [mx_one] at hk
    split at hk
    · exact mx_lneg hd (kk _ _ _ _ _ _ hk)
    · exact hk.elim
  | i2l =>
    obtain ⟨rfl, g2⟩ := hg
    simp only [mx_one] at hk
    split at hk
    · exact mx_i2l hd (kk _ _ _ _ _ _ hk)
    · exact hk.elim
  | l2i =>
    obtain ⟨rfl, g2⟩ := hg
    simp only [mx_one] at hk
    split at hk
    · exact mx_l2i hd (kk _ _ _ _ _ _ hk)
    · exact hk.elim
  | i2b =>
    obtain ⟨rfl, g2⟩ := hg
    simp only [mx_one] at hk
    split at hk
    · exact mx_i2b hd (kk _ _ _ _ _ _ hk)
    · exact hk.elim
  | i2s =>
    obtain ⟨rfl, g2⟩ := hg
    simp only [mx_one] at hk
    split at hk
    · exact mx_i2s hd (kk _ _ _ _ _ _ hk)
    · exact hk.elim
  | goto k =>
    obtain ⟨rfl, g2⟩ := hg
    simp only [mx_one] at hk
    exact mx_goto hd g2 (kk _ _ _ _ _ _ hk)
  | pop =>
    obtain ⟨rfl, g2⟩ := hg
    simp only [mx_one] at hk
    split at hk
    · exact mx_pop hd (Nat.eq_of_beq_eq_true (mx_if_t hk).1) (kk _ _ _ _ _ _ (mx_if_t hk).2)
    · exact hk.elim
  | pop2 =>
    obtain ⟨rfl, g2⟩ := hg
    simp only [mx_one] at hk
    split at hk
    · exact mx_pop2 hd (Nat.eq_of_beq_eq_true (mx_if_t hk).1) (kk _ _ _ _ _ _ (mx_if_t hk).2)
    · exact hk.elim
  | dup =>
    obtain ⟨rfl, g2⟩ := hg
    simp only [mx_one] at hk
    split at hk
    · exact mx_dup hd (Nat.eq_of_beq_eq_true (mx_if_t hk).1) (kk _ _ _ _ _ _ (mx_if_t hk).2)
    · exact hk.elim
  | dup2 =>
    obtain ⟨rfl, g2⟩ := hg
    simp only [mx_one] at hk
    split at hk
    · obtain ⟨q1, q2⟩ := mx_if_t hk
      rw [Bool.and_eq_true] at q1
      exact mx_dup2 hd (Nat.eq_of_beq_eq_true q1.1) (Nat.eq_of_beq_eq_true q1.2) (kk _ _ _ _ _ _ q2)
    · exact hk.elim
  | ifCond cd k =>
    obtain ⟨rfl, g2⟩ := hg
    simp only [mx_one] at hk
    split at hk
    · cases cd
      · exact mx_if_eq hd g2 (fun q => kk _ _ _ _ _ _ (hk.1 q)) (fun q => kk _ _ _ _ _ _ (hk.2 q))
      · exact mx_if_ne hd g2 (fun q => kk _ _ _ _ _ _ (hk.1 q)) (fun q => kk _ _ _ _ _ _ (hk.2 q))
      · exact mx_if_lt hd g2 (fun q => kk _ _ _ _ _ _ (hk.1 q)) (fun q => kk _ _ _ _ _ _ (hk.2 q))
      · exact mx_if_ge hd g2 (fun q => kk _ _ _ _ _ _ (hk.1 q)) (fun q => kk _ _ _ _ _ _ (hk.2 q))
      · exact mx_if_gt hd g2 (fun q => kk _ _ _ _ _ _ (hk.1 q)) (fun q => kk _ _ _ _ _ _ (hk.2 q))
      · exact mx_if_le hd g2 (fun q => kk _ _ _ _ _ _ (hk.1 q)) (fun q => kk _ _ _ _ _ _ (hk.2 q))
    · exact hk.elim
  | if_icmp cd k =>
    obtain ⟨rfl, g2⟩ := hg
    simp only [mx_one] at hk
    split at hk
    · cases cd
      · exact mx_ic_eq hd g2 (fun q => kk _ _ _ _ _ _ (hk.1 q)) (fun q => kk _ _ _ _ _ _ (hk.2 q))
      · exact mx_ic_ne hd g2 (fun q => kk _ _ _ _ _ _ (hk.1 q)) (fun q => kk _ _ _ _ _ _ (hk.2 q))
      · exact mx_ic_lt hd g2 (fun q => kk _ _ _ _ _ _ (hk.1 q)) (fun q => kk _ _ _ _ _ _ (hk.2 q))
      · exact mx_ic_ge hd g2 (fun q => kk _ _ _ _ _ _ (hk.1 q)) (fun q => kk _ _ _ _ _ _ (hk.2 q))
      · exact mx_ic_gt hd g2 (fun q => kk _ _ _ _ _ _ (hk.1 q)) (fun q => kk _ _ _ _ _ _ (hk.2 q))
      · exact mx_ic_le hd g2 (fun q => kk _ _ _ _ _ _ (hk.1 q)) (fun q => kk _ _ _ _ _ _ (hk.2 q))
    · exact hk.elim
  | ifnull k =>
    obtain ⟨rfl, g2⟩ := hg
    simp only [mx_one] at hk
    split at hk
    · exact mx_ifnull_r hd (kk _ _ _ _ _ _ hk)
    · exact mx_ifnull_n hd g2 (kk _ _ _ _ _ _ hk)
    · exact hk.elim
  | ifnonnull k =>
    obtain ⟨rfl, g2⟩ := hg
    simp only [mx_one] at hk
    split at hk
    · exact mx_ifnn_r hd g2 (kk _ _ _ _ _ _ hk)
    · exact mx_ifnn_n hd (kk _ _ _ _ _ _ hk)
    · exact hk.elim
  | tableswitch df lo hi offs =>
    have g2 := hg
    simp only [mx_one] at hk
    split at hk
    · exact mx_tsw hd g2.1 g2.2.1 g2.2.2 (fun tgt q => kt _ _ _ _ _ _ (hk tgt q))
    · exact hk.elim
  | lookupswitch df ps =>
    have g2 := hg
    simp only [mx_one] at hk
    split at hk
    · exact mx_lsw hd g2 hk.1 (kt _ _ _ _ _ _ hk.2)
    · exact hk.elim
  | ireturn =>
    obtain ⟨rfl, g2⟩ := hg
    simp only [mx_one] at hk
    split at hk
    · next x =>
      rcases g2 with g2 | g2
      · rw [g2] at hk
        exact mx_end (v := some (.inl (.int x))) hd (Or.inr (Or.inl ⟨x, rfl, rfl, Or.inl g2⟩)) hk
      · rw [g2] at hk
        exact mx_end (v := some (.inl (.int x))) hd (Or.inr (Or.inl ⟨x, rfl, rfl, Or.inr ⟨g2, by rcases hk.1 with rfl | rfl <;> rfl⟩⟩)) hk.2
    · exact hk.elim
  | lreturn =>
    obtain ⟨rfl, g2⟩ := hg
    simp only [mx_one] at hk
    split at hk
    · next x => exact mx_end (v := some (.inl (.long x))) hd (Or.inr (Or.inr (Or.inl ⟨x, rfl, rfl, g2⟩))) hk
    · exact hk.elim
  | areturn =>
    obtain ⟨rfl, g2⟩ := hg
    simp only [mx_one] at hk
    split at hk
    · exact mx_end (v := some (.inl .null)) hd (Or.inr (Or.inr (Or.inr ⟨rfl, Or.inl rfl, g2⟩))) hk
    · next x => exact mx_end (v := some (.inr x)) hd (Or.inr (Or.inr (Or.inr ⟨rfl, Or.inr ⟨x, rfl⟩, g2⟩))) hk
    · exact hk.elim
  | return_ =>
    obtain ⟨rfl, g2⟩ := hg
    simp only [mx_one] at hk
    split at hk
    · exact mx_end (v := none) hd (Or.inl ⟨rfl, rfl, g2⟩) hk
    · exact hk.elim
  | iaload =>
    obtain ⟨rfl, g2⟩ := hg
    simp only [mx_one] at hk
    split at hk
    · obtain ⟨q1, q2, q3⟩ := mx_if_t hk
      exact mx_iaload hd (Nat.eq_of_beq_eq_true q1) q2 (kk _ _ _ _ _ _ q3)
    · exact mx_siald hk.1 hd hk.2.1 (kk _ _ _ _ _ _ hk.2.2)
    · exact hk.elim
  | baload =>
    obtain ⟨rfl, g2⟩ := hg
    simp only [mx_one] at hk
    split at hk
    · obtain ⟨q1, q2, q3⟩ := mx_if_t hk
      rcases (Bool.or_eq_true _ _).mp q1 with q1 | q1
      · exact mx_baload hd (Nat.eq_of_beq_eq_true q1) q2 (kk _ _ _ _ _ _ q3)
      · exact mx_zaload hd (Nat.eq_of_beq_eq_true q1) q2 (kk _ _ _ _ _ _ q3)
    · exact hk.elim
  | laload =>
    obtain ⟨rfl, g2⟩ := hg
    simp only [mx_one] at hk
    split at hk
    · obtain ⟨q1, q2, q3⟩ := mx_if_t hk
      exact mx_laload hd (Nat.eq_of_beq_eq_true q1) q2 (kk _ _ _ _ _ _ q3)
    · exact hk.elim
  | aaload =>
    obtain ⟨rfl, g2⟩ := hg
    simp only [mx_one] at hk
    split at hk
    · next i x r =>
      split at hk
      · next hq =>
        obtain ⟨q1, q2, q3, q4⟩ := hk
        refine mx_aaload hd hq q1 ?_
        cases hr : h.2.2.2 x i.toNatClampNeg with
        | none => exact kk _ _ _ _ _ _ (q3 hr)
        | some t =>
          obtain ⟨j, rfl⟩ := q4 t hr
          exact kk _ _ _ _ _ _ (q2 j hr)
      · next hq => exact mx_aaload5 hd hq hk.1 hk.2.1 (kk _ _ _ _ _ _ hk.2.2)
      · exact hk.elim
    · exact hk.elim
  | arraylength =>
    obtain ⟨rfl, g2⟩ := hg
    simp only [mx_one] at hk
    split at hk
    · obtain ⟨q1, q2⟩ := mx_if_t hk
      exact mx_alen hd (((Bool.or_eq_true _ _).mp q1).elim (fun q => Or.inl (Nat.eq_of_beq_eq_true q)) (fun q => Or.inr (Nat.eq_of_beq_eq_true q))) (kk _ _ _ _ _ _ q2)
    · exact mx_salen hk.1 hd (kk _ _ _ _ _ _ hk.2)
    · exact hk.elim
  | iastore =>
    obtain ⟨rfl, g2⟩ := hg
    simp only [mx_one] at hk
    split at hk
    · obtain ⟨q1, q2, q3⟩ := mx_if_t hk
      exact mx_iastore hd (Nat.eq_of_beq_eq_true q1) q2 (kk _ _ _ _ _ _ q3)
    · exact hk.elim
  | lastore =>
    obtain ⟨rfl, g2⟩ := hg
    simp only [mx_one] at hk
    split at hk
    · obtain ⟨q1, q2, q3⟩ := mx_if_t hk
      exact mx_lastore hd (Nat.eq_of_beq_eq_true q1) q2 (kk _ _ _ _ _ _ q3)
    · exact hk.elim
  | bastore =>
    obtain ⟨rfl, g2⟩ := hg
    simp only [mx_one] at hk
    split at hk
    · split at hk
      · next hq => exact mx_bastore hd hq hk.1 (kk _ _ _ _ _ _ hk.2)
      · next hq => exact mx_zastore hd hq hk.1 (kk _ _ _ _ _ _ hk.2)
      · exact hk.elim
    · exact hk.elim
  | aastore =>
    obtain ⟨rfl, g2⟩ := hg
    simp only [mx_one] at hk
    split at hk
    · obtain ⟨q1, q2, q3, q4⟩ := mx_if_t hk
      exact mx_aastore hd (Nat.eq_of_beq_eq_true q1) rfl q3 q2 (kk _ _ _ _ _ _ q4)
    · obtain ⟨q1, q2, q3, q4⟩ := mx_if_t hk
      exact mx_aastoreN hd (Nat.eq_of_beq_eq_true q1) q3 q2 (kk _ _ _ _ _ _ q4)
    · exact hk.elim
  | getfield n =>
    obtain ⟨rfl, g2⟩ := hg
    simp only [mx_one] at hk
    split at hk
    · next x r =>
      obtain ⟨q1, q2⟩ := mx_if_t hk
      obtain ⟨f1, f2, f3, f4⟩ := g2
      exact mx_rdf_s (fun q => mx_getfield hd f1 (by simpa using q1) f2 f3 q) (fun v q => kk _ _ _ _ _ _ q) q2
    · exact hk.elim
  | putfield n =>
    obtain ⟨rfl, g2⟩ := hg
    simp only [mx_one] at hk
    split at hk
    · next v x r =>
      obtain ⟨q1, q2⟩ := mx_if_t hk
      obtain ⟨⟨f1, f2, f3, f4⟩, f5⟩ := g2
      obtain ⟨q3, q4⟩ := mx_pkb_s f4 q2
      split at q4
      · next hn => exact mx_putfield hd f1 (by simpa using q1) f2 f3 f5 f4 q3 hn (kk _ _ _ _ _ _ q4)
      · exact q4.elim
    · exact hk.elim
  | getstatic n =>
    obtain ⟨rfl, g2⟩ := hg
    simp only [mx_one] at hk
    rcases g2 with ⟨rfl, g2⟩ | ⟨rfl, g2⟩
    · exact mx_gets0 hd g2 (kk _ _ _ _ _ _ hk)
    · exact mx_gets1 hd g2 (kk _ _ _ _ _ _ hk)
  | new n =>
    obtain ⟨rfl, g2⟩ := hg
    simp only [mx_one] at hk
    obtain ⟨q1, x, q2, q3, q4, q5⟩ := mx_if_t hk
    obtain ⟨g2, g3, g4, g5, g6⟩ := g2
    rw [Bool.and_eq_true, Bool.and_eq_true] at q1
    obtain ⟨⟨q6, q7⟩, q8⟩ := q1
    cases md
    · exact mx_new hd g2 q4 g3 g4 g5 g6 (fun _ => rfl) q2 q3 (Nat.le_of_ble_eq_true q7) (Nat.le_of_ble_eq_true q8) (kk _ _ _ _ _ _ q5)
    · cases q6
  | newarray t =>
    obtain ⟨rfl, g2⟩ := hg
    simp only [mx_one] at hk
    split at hk
    · obtain ⟨q1, q9, x, q2, q3, q4, q5⟩ := mx_if_t hk
      obtain ⟨g2, g3⟩ := g2
      rw [Bool.and_eq_true, Bool.and_eq_true, Bool.and_eq_true] at q1
      obtain ⟨⟨⟨q6, q7⟩, q8⟩, q10⟩ := q1
      cases md
      · exact mx_newarr hd g2 q4 q9 (Nat.le_of_ble_eq_true q10) g3 (fun _ => rfl) q2 q3 (Nat.le_of_ble_eq_true q7) (Nat.le_of_ble_eq_true q8) (kk _ _ _ _ _ _ q5)
      · cases q6
    · exact hk.elim
  | anewarray n =>
    obtain ⟨rfl, g2⟩ := hg
    simp only [mx_one] at hk
    split at hk
    · obtain ⟨q1, q9, x, q2, q3, q4, q5⟩ := mx_if_t hk
      rw [Bool.and_eq_true, Bool.and_eq_true, Bool.and_eq_true] at q1
      obtain ⟨⟨⟨q6, q7⟩, q8⟩, q10⟩ := q1
      cases md
      · exact mx_anew hd q4 q9 (Nat.le_of_ble_eq_true q10) g2 (fun _ => rfl) q2 q3 (Nat.le_of_ble_eq_true q7) (Nat.le_of_ble_eq_true q8) (kk _ _ _ _ _ _ q5)
      · cases q6
    · exact hk.elim
  | invokestatic n =>
    obtain ⟨rfl, g2⟩ := hg
    simp only [mx_one] at hk
    split at hk
    · exact hk.elim
    · split at hk
      · next hq =>
        rcases g2 with ⟨g2, -⟩ | ⟨-, g2⟩
        · rw [hq] at g2; cases g2
        · exact mx_mth_s hd g2 (fun r q => kk _ _ _ _ _ _ q) hk
      · next hq =>
        rcases g2 with ⟨-, g2⟩ | ⟨g2, -⟩
        · obtain ⟨q1, q2⟩ := mx_if_t hk
          rw [Bool.and_eq_true, Bool.and_eq_true, Bool.and_eq_true, Bool.and_eq_true] at q1
          obtain ⟨⟨⟨⟨c1, c2⟩, c3⟩, c4⟩, c5⟩ := q1
          have c1 := Nat.le_of_ble_eq_true c1
          have c2 := Nat.le_of_ble_eq_true c2
          have c3 := Nat.le_of_ble_eq_true c3
          have c4 := Nat.le_of_ble_eq_true c4
          have c5 := Nat.le_of_ble_eq_true c5
          have e1 : st = (st.take b).reverse.reverse ++ st.drop b := by rw [List.reverse_reverse, List.take_append_drop]
          rw [e1]
          refine mx_calls (av := (st.take b).reverse) hd g2.1 g2.2 (by rw [List.length_reverse, List.length_take]; omega) (by rw [List.map_reverse, List.sum_reverse]; exact c2) c3 c4 c5 (mx_T0.mono (mx_T0.typed (kc _ _ _ _ _ q2)) (fun v h2 q => mx_rc_s (P := fun s => mx_T0 E (mx_fn md) _ _ _ mid (pc + 3) lv (s ++ _) h2 Q) q.2 (fun s qq => kk _ _ _ _ _ _ qq) q.1))
        · rw [hq] at g2; cases g2
  | invokevirtual n =>
    obtain ⟨rfl, g2⟩ := hg
    simp only [mx_one] at hk
    split at hk
    · exact hk.elim
    · split at hk
      · next x r hx =>
        obtain ⟨q0, q2⟩ := mx_if_t hk
        rw [Bool.and_eq_true] at q0
        obtain ⟨q1, q9⟩ := q0
        rw [Bool.and_eq_true, Bool.and_eq_true, Bool.and_eq_true, Bool.and_eq_true] at q1
        obtain ⟨⟨⟨⟨c1, c2⟩, c3⟩, c4⟩, c5⟩ := q1
        have c1 := Nat.le_of_ble_eq_true c1
        have c2 := Nat.le_of_ble_eq_true c2
        have c3 := Nat.le_of_ble_eq_true c3
        have c4 := Nat.le_of_ble_eq_true c4
        have c5 := Nat.le_of_ble_eq_true c5
        have e1 : st = (st.take b).reverse.reverse ++ .inr x :: r := by rw [List.reverse_reverse, ← hx, List.take_append_drop]
        rw [e1]
        refine mx_callv (av := (st.take b).reverse) hd g2.1 g2.2.1 g2.2.2.1 (by simpa using q9) g2.2.2.2 (by rw [List.length_reverse, List.length_take]; omega) (by rw [List.map_reverse, List.sum_reverse]; exact c2) c3 c4 c5 (mx_T0.mono (mx_T0.typed (kc _ _ _ _ _ q2)) (fun v h2 q => mx_rc_s (P := fun s => mx_T0 E (mx_fn md) _ _ _ mid (pc + 3) lv (s ++ _) h2 Q) q.2 (fun s qq => kk _ _ _ _ _ _ qq) q.1))
      · exact hk.elim
  | invokespecial n =>
    obtain ⟨rfl, g2⟩ := hg
    simp only [mx_one] at hk
    split at hk
    · exact hk.elim
    · split at hk
      · next hq =>
        have ha := Nat.eq_of_beq_eq_true hq
        rcases g2 with ⟨-, g2, g3, g4⟩ | ⟨g2, -⟩
        · split at hk
          · obtain ⟨q1, q2⟩ := mx_if_t hk
            exact mx_objinit hd g2 (Nat.le_of_ble_eq_true q1) g3 g4 (kk _ _ _ _ _ _ q2)
          · exact hk.elim
        · exact absurd ha g2
      · next hq =>
        have ha : a ≠ 1000 := fun e => by subst e; cases hq
        rcases g2 with ⟨g2, -⟩ | ⟨-, g2, g3⟩
        · exact absurd g2 ha
        · split at hk
          · next x r hx =>
            obtain ⟨q1, q2⟩ := mx_if_t hk
            rw [Bool.and_eq_true, Bool.and_eq_true, Bool.and_eq_true, Bool.and_eq_true] at q1
            obtain ⟨⟨⟨⟨c1, c2⟩, c3⟩, c4⟩, c5⟩ := q1
            have c1 := Nat.le_of_ble_eq_true c1
            have c2 := Nat.le_of_ble_eq_true c2
            have c3 := Nat.le_of_ble_eq_true c3
            have c4 := Nat.le_of_ble_eq_true c4
            have c5 := Nat.le_of_ble_eq_true c5
            have e1 : st = (st.take b).reverse.reverse ++ .inr x :: r := by rw [List.reverse_reverse, ← hx, List.take_append_drop]
            rw [e1]
            refine mx_calli (av := (st.take b).reverse) hd g2 g3 (by rw [List.length_reverse, List.length_take]; omega) (by rw [List.map_reverse, List.sum_reverse]; exact c2) c3 c4 c5 (mx_T0.mono (mx_T0.typed (kc _ _ _ _ _ q2)) (fun v h2 q => mx_rc_s (P := fun s => mx_T0 E (mx_fn md) _ _ _ mid (pc + 3) lv (s ++ _) h2 Q) q.2 (fun s qq => kk _ _ _ _ _ _ qq) q.1))
          · exact hk.elim
  | _ => exact hg.elim
