/-! ===== words, and the check of code tables ===== -/
def mx_ws : List Cond := lw_tbl.filter goodWord
def mx_nest : List Cond := tables_1.filter (fun w => match w with | .methodLinkNest _ _ _ _ => true | _ => false)
abbrev mx_ow (i : Nat) : String := mx_cn (mx_me i).1
abbrev mx_y (i : Nat) : MethodName := (mx_me i).2.1
abbrev mx_by (i : Nat) : ByteArray := (mx_me i).2.2.1
abbrev mx_nL (i : Nat) : Nat := (mx_me i).2.2.2.1
abbrev mx_rt (i : Nat) : Option FieldType := (mx_me i).2.2.2.2
def mx_cr (ci : Nat) : vw_C := vwCl.getD ci (RX0, TX0, 11)
def mx_ty (ci : Nat) : Nat → FieldType := [tyX0, tyX1, tyX2, tyX3, tyX4, tyX5, tyX6, tyX7, tyX8, tyX9, tyX10, tyX11, tyX12].getD ci tyX0
abbrev mx_fT (ci k : Nat) : String × String × String × Bool := (mx_cr ci).2.1 k
/-- the field's kind, by its type -/
def mx_fok (ci k : Nat) : Prop := (mx_ff ci k = 0 ∧ mx_ty ci k = .int) ∨ (mx_ff ci k = 1 ∧ mx_ty ci k = .boolean) ∨ (mx_ff ci k = 2 ∧ (∃ n, mx_ty ci k = .object n) ∨ (mx_ff ci k = 2 ∧ ∃ t, mx_ty ci k = .array t))
def mx_MK (mid : Nat) : Prop := plainName (mx_y mid).cls = true ∧ (mx_y mid).cls = mx_ow mid ∧ Cond.code (mx_y mid) (mx_by mid) (mx_nL mid) (mx_rt mid) ∈ mx_ws ∧ Cond.initialized (mx_y mid).cls ∈ mx_ws ∧
  ((mx_y mid).cls ≠ "java/lang/invoke/MethodHandle" ∧ (mx_y mid).cls ≠ "java/lang/invoke/VarHandle") ∧ mx_nL mid ≤ 21
/-- a call's own words: by opcode (0 static, 1 virtual, 2 special), and as a nest mate's or not -/
def mx_LK (mid idx callee n kd : Nat) (nest : Bool) : Prop :=
  (parseMethodDescriptor (mx_y callee).desc).map (fun d => d.parameters.length) = some n ∧
  (if nest then ∃ host, Cond.methodLinkNest (mx_ow mid) idx (mx_y callee) host ∈ mx_nest else Cond.methodLink (mx_ow mid) idx (mx_y callee) ∈ mx_ws) ∧
  (if kd = 0 then Cond.static (mx_y callee) ∈ mx_ws else if kd = 1 then Cond.instanceMethod (mx_y callee) ∈ mx_ws ∧ Cond.selects (mx_y callee).cls (mx_y callee) (mx_y callee) ∈ mx_ws else Cond.instanceMethod (mx_y callee) ∈ mx_ws ∧ (mx_y callee).name = "<init>" ∧ mx_rt callee = none)
/-- the array kinds that newarray makes -/
def mx_ak : ArrayType → Nat
  | .int => 0
  | .long => 1
  | .byte => 2
  | .boolean => 3
  | _ => 9
/-- the words of a Math method -/
def mx_MW (o i : Nat) (x : MethodName) (c : ByteArray) (n : Nat) (r : Option FieldType) : Prop := Cond.methodLink (mx_cn o) i x ∈ mx_ws ∧ Cond.static x ∈ mx_ws ∧ Cond.initialized "java/lang/Math" ∈ mx_ws ∧ Cond.code x c n r ∈ mx_ws
def mx_mw (o i a : Nat) : Prop := match a with
  | 0 => mx_MW o i Lib.Math.abs.name Lib.Math.abs.code 1 (some .int)
  | 1 => mx_MW o i Lib.MathLoose.abs_long.x Lib.MathLoose.abs_long.code 2 (some .long)
  | 2 => mx_MW o i Lib.Math.max.name Lib.Math.max.code 2 (some .int)
  | 3 => mx_MW o i Lib.MathLoose.max_long.x Lib.MathLoose.max_long.code 4 (some .long)
  | 4 => mx_MW o i Lib.Math.min.name Lib.Math.min.code 2 (some .int)
  | 5 => mx_MW o i Lib.MathLoose.min_long.x Lib.MathLoose.min_long.code 4 (some .long)
  | _ => False
def mx_fl (mid idx ci k : Nat) : Prop := ci < 13 ∧ k < (mx_cr ci).2.2 ∧ Cond.fieldLink (mx_ow mid) idx (mx_fT ci k).1 (mx_fT ci k).2.1 (mx_fT ci k).2.2.1 ∈ mx_ws ∧ mx_fok ci k
def mx_ax (mid pc : Nat) (ins : Instr) (len a b z : Nat) (c : Int32) (l : Int64) : Prop := match ins with
  | .iconst n => len = 1 ∧ (Int32.ofInt n = c)
  | .bipush n => len = 2 ∧ ((Int8.ofInt n).toInt32 = c)
  | .sipush n => len = 3 ∧ ((Int16.ofInt n).toInt32 = c)
  | .lconst n => len = 1 ∧ (Int64.ofNat (n : Nat) = l)
  | .ldc n => len = 2 ∧ (Cond.constant (mx_ow mid) n c ∈ mx_ws)
  | .ldc_w n => len = 3 ∧ (Cond.constant (mx_ow mid) n c ∈ mx_ws)
  | .ldc2_w n => len = 3 ∧ (Cond.constantLong (mx_ow mid) n l ∈ mx_ws)
  | .aconst_null => len = 1 ∧ (True)
  | .iload_n n => len = 1 ∧ (True)
  | .iload n => len = 2 ∧ (True)
  | .lload_n n => len = 1 ∧ (True)
  | .lload n => len = 2 ∧ (True)
  | .aload_n n => len = 1 ∧ (True)
  | .aload n => len = 2 ∧ (True)
  | .istore_n n => len = 1 ∧ (n.val < mx_nL mid)
  | .istore n => len = 2 ∧ (n < mx_nL mid)
  | .lstore_n n => len = 1 ∧ (n.val + 1 < mx_nL mid)
  | .lstore n => len = 2 ∧ (n + 1 < mx_nL mid)
  | .astore_n n => len = 1 ∧ (n.val < mx_nL mid)
  | .astore n => len = 2 ∧ (n < mx_nL mid)
  | .iinc n k => len = 3 ∧ (Int32.ofInt k = c ∧ n < mx_nL mid)
  | .iadd => len = 1 ∧ (True)
  | .isub => len = 1 ∧ (True)
  | .imul => len = 1 ∧ (True)
  | .iand => len = 1 ∧ (True)
  | .ior => len = 1 ∧ (True)
  | .ixor => len = 1 ∧ (True)
  | .ishl => len = 1 ∧ (True)
  | .ishr => len = 1 ∧ (True)
  | .iushr => len = 1 ∧ (True)
  | .idiv => len = 1 ∧ (True)
  | .irem => len = 1 ∧ (True)
  | .ladd => len = 1 ∧ (True)
  | .lsub => len = 1 ∧ (True)
  | .lmul => len = 1 ∧ (True)
  | .land => len = 1 ∧ (True)
  | .lor => len = 1 ∧ (True)
  | .ldiv => len = 1 ∧ (True)
  | .lshl => len = 1 ∧ (True)
  | .lcmp => len = 1 ∧ (True)
  | .ineg => len = 1 ∧ (True)
  | .lneg => len = 1 ∧ (True)
  | .i2l => len = 1 ∧ (True)
  | .l2i => len = 1 ∧ (True)
  | .i2b => len = 1 ∧ (True)
  | .i2s => len = 1 ∧ (True)
  | .goto k => len = 3 ∧ ((pc : Int) + k = a)
  | .pop => len = 1 ∧ (True)
  | .pop2 => len = 1 ∧ (True)
  | .dup => len = 1 ∧ (True)
  | .dup2 => len = 1 ∧ (True)
  | .ifCond cd k => len = 3 ∧ ((pc : Int) + k = a)
  | .if_icmp cd k => len = 3 ∧ ((pc : Int) + k = a)
  | .ifnull k => len = 3 ∧ ((pc : Int) + k = a)
  | .ifnonnull k => len = 3 ∧ ((pc : Int) + k = a)
  | .tableswitch df lo hi offs => (0 ≤ (pc : Int) + df ∧ (∀ o ∈ offs, 0 ≤ (pc : Int) + o) ∧ (hi - lo + 1).toNat ≤ offs.size)
  | .lookupswitch df ps => ((ps.toList.zip (ps.toList.drop 1)).all (fun (a, next) => a.1 < next.1) = true)
  | .ireturn => len = 1 ∧ (mx_rt mid = some .int ∨ mx_rt mid = some .boolean)
  | .lreturn => len = 1 ∧ (mx_rt mid = some .long)
  | .areturn => len = 1 ∧ (mx_rt mid = some (.object RX7))
  | .return_ => len = 1 ∧ (mx_rt mid = none)
  | .iaload => len = 1 ∧ (True)
  | .baload => len = 1 ∧ (True)
  | .laload => len = 1 ∧ (True)
  | .aaload => len = 1 ∧ (True)
  | .arraylength => len = 1 ∧ (True)
  | .iastore => len = 1 ∧ (True)
  | .lastore => len = 1 ∧ (True)
  | .bastore => len = 1 ∧ (True)
  | .aastore => len = 1 ∧ (True)
  | .getfield n => len = 3 ∧ (mx_fl mid n a b)
  | .putfield n => len = 3 ∧ (mx_fl mid n a b ∧ ((mx_fT a b).2.2.2 = false ∨ ((mx_fT a b).2.2.2 = true ∧ (mx_y mid).name = "<init>" ∧ (mx_fT a b).1 = mx_ow mid)))
  | .getstatic n => len = 3 ∧ ((a = 0 ∧ Cond.fieldLink (mx_ow mid) n RX4 "KIND_ABOVE" "[I" ∈ mx_ws) ∨ (a = 1 ∧ Cond.fieldLink (mx_ow mid) n RX4 "ACTS" "[I" ∈ mx_ws))
  | .new n => len = 3 ∧ (a < 13 ∧ (∀ j, j < (mx_cr a).2.2 → mx_fok a j) ∧ Cond.classLink (mx_ow mid) n (mx_cr a).1 ∈ mx_ws ∧ Cond.instantiable (mx_cr a).1 (mx_cr a).2.2 ∈ mx_ws ∧ Cond.initialized (mx_cr a).1 ∈ mx_ws)
  | .newarray t => len = 2 ∧ (mx_ak t ≤ 3 ∧ Cond.arrayClass (newarray.typeOf t) ∈ mx_ws)
  | .anewarray n => len = 3 ∧ (Cond.classLink (mx_ow mid) n RX7 ∈ mx_ws)
  | .invokestatic n => len = 3 ∧ ((Nat.beq z 2 = false ∧ mx_MK a ∧ mx_LK mid n a b 0 (Nat.beq z 1)) ∨ (Nat.beq z 2 = true ∧ mx_mw (mx_me mid).1 n a))
  | .invokevirtual n => len = 3 ∧ (mx_MK a ∧ mx_LK mid n a b 1 false ∧ (mx_me a).1 < 13 ∧ (mx_y a).cls = (mx_cr (mx_me a).1).1)
  | .invokespecial n => len = 3 ∧ ((a = 1000 ∧ Cond.methodLink (mx_ow mid) n Lib.objectInit ∈ mx_ws ∧ Cond.instanceMethod Lib.objectInit ∈ mx_ws ∧ Cond.code Lib.objectInit ⟨#[0xb1]⟩ 1 none ∈ mx_ws) ∨ (a ≠ 1000 ∧ mx_MK a ∧ mx_LK mid n a b 2 (Nat.beq z 1)))
  | _ => False
def mx_gd (mid : Nat) (en : mx_En) : Prop := decode (mx_by mid) en.1 = .ok (en.2.1, en.2.2.1) ∧ mx_ax mid en.1 en.2.1 en.2.2.1 en.2.2.2.1 en.2.2.2.2.1 en.2.2.2.2.2.1 en.2.2.2.2.2.2.1 en.2.2.2.2.2.2.2
def mx_ft : List (Nat × List mx_En) → Nat → Option mx_En
  | [], _ => none
  | (b, l) :: r, pc => bif Nat.blt pc b then l.find? (fun e => Nat.beq e.1 pc) else mx_ft r pc
theorem mx_ft_mem : ∀ {tb : List (Nat × List mx_En)} {pc : Nat} {en : mx_En}, mx_ft tb pc = some en → en.1 = pc ∧ ∃ q ∈ tb, en ∈ q.2
  | [], _, _, h => by cases h
  | (b, l) :: r, pc, en, h => by
    unfold mx_ft at h
    cases hb : Nat.blt pc b with
    | true =>
      rw [hb, cond_true] at h
      exact ⟨Nat.eq_of_beq_eq_true (List.find?_some (p := fun e : mx_En => Nat.beq e.1 pc) h), (b, l), List.mem_cons_self, List.mem_of_find?_eq_some h⟩
    | false =>
      rw [hb, cond_false] at h
      obtain ⟨h1, q, h2, h3⟩ := mx_ft_mem h
      exact ⟨h1, q, List.mem_cons_of_mem _ h2, h3⟩
def mx_LKo (o idx callee n kd : Nat) (nest : Bool) : Prop :=
  (parseMethodDescriptor (mx_y callee).desc).map (fun d => d.parameters.length) = some n ∧
  (if nest then ∃ host, Cond.methodLinkNest (mx_cn o) idx (mx_y callee) host ∈ mx_nest else Cond.methodLink (mx_cn o) idx (mx_y callee) ∈ mx_ws) ∧
  (if kd = 0 then Cond.static (mx_y callee) ∈ mx_ws else if kd = 1 then Cond.instanceMethod (mx_y callee) ∈ mx_ws ∧ Cond.selects (mx_y callee).cls (mx_y callee) (mx_y callee) ∈ mx_ws else Cond.instanceMethod (mx_y callee) ∈ mx_ws ∧ (mx_y callee).name = "<init>" ∧ mx_rt callee = none)
def mx_fokb (ci k : Nat) : Bool := match mx_ff ci k, mx_ty ci k with
  | 0, .int => true
  | 1, .boolean => true
  | 2, .object _ => true
  | 2, .array _ => true
  | _, _ => false
theorem mx_fokb_s {ci k : Nat} (h : mx_fokb ci k = true) : mx_fok ci k := by
  unfold mx_fokb at h
  unfold mx_fok
  split at h
  · next h1 h2 => exact Or.inl ⟨h1, h2⟩
  · next h1 h2 => exact Or.inr (Or.inl ⟨h1, h2⟩)
  · next h1 h2 => exact Or.inr (Or.inr (Or.inl ⟨h1, _, h2⟩))
  · next h1 h2 => exact Or.inr (Or.inr (Or.inr ⟨h1, _, h2⟩))
  · cases h
abbrev mx_L5 : Type := Nat × Nat × Nat × Nat × Nat
/-- the links of class o: by kind (0 field, 1 static, 2 virtual, 3 special, 4 new, 5 getstatic, 6 anewarray, 7 Object's constructor) -/
def mx_PL (o : Nat) : mx_L5 → Prop
  | (0, i, a, b, _) => a < 13 ∧ b < (mx_cr a).2.2 ∧ Cond.fieldLink (mx_cn o) i (mx_fT a b).1 (mx_fT a b).2.1 (mx_fT a b).2.2.1 ∈ mx_ws ∧ mx_fok a b
  | (8, i, a, _, _) => mx_mw o i a
  | (1, i, a, b, z) => mx_MK a ∧ mx_LKo o i a b 0 (Nat.beq z 1)
  | (2, i, a, b, _) => mx_MK a ∧ mx_LKo o i a b 1 false ∧ (mx_me a).1 < 13 ∧ (mx_y a).cls = (mx_cr (mx_me a).1).1
  | (3, i, a, b, z) => a ≠ 1000 ∧ mx_MK a ∧ mx_LKo o i a b 2 (Nat.beq z 1)
  | (4, i, a, _, _) => a < 13 ∧ (∀ j, j < (mx_cr a).2.2 → mx_fok a j) ∧ Cond.classLink (mx_cn o) i (mx_cr a).1 ∈ mx_ws ∧ Cond.instantiable (mx_cr a).1 (mx_cr a).2.2 ∈ mx_ws ∧ Cond.initialized (mx_cr a).1 ∈ mx_ws
  | (5, i, a, _, _) => (a = 0 ∧ Cond.fieldLink (mx_cn o) i RX4 "KIND_ABOVE" "[I" ∈ mx_ws) ∨ (a = 1 ∧ Cond.fieldLink (mx_cn o) i RX4 "ACTS" "[I" ∈ mx_ws)
  | (6, i, _, _, _) => Cond.classLink (mx_cn o) i RX7 ∈ mx_ws
  | (7, i, a, _, _) => a = 1000 ∧ Cond.methodLink (mx_cn o) i Lib.objectInit ∈ mx_ws ∧ Cond.instanceMethod Lib.objectInit ∈ mx_ws ∧ Cond.code Lib.objectInit ⟨#[0xb1]⟩ 1 none ∈ mx_ws
  | _ => False
theorem mx_mm0 (i : Nat) {w : Cond} (h : (k2_sels lw_privs)[i]? = some w) (hg : goodWord w = true) : w ∈ mx_ws := List.mem_filter.mpr ⟨List.mem_append_left _ (List.mem_of_getElem? h), hg⟩
theorem mx_mm1 (i : Nat) {w : Cond} (h : tables_1_1[i]? = some w) (hg : goodWord w = true) : w ∈ mx_ws := List.mem_filter.mpr ⟨List.mem_append_right _ (List.mem_append_left _ (List.mem_of_getElem? h)), hg⟩
theorem mx_mm2 (i : Nat) {w : Cond} (h : tables_1_2[i]? = some w) (hg : goodWord w = true) : w ∈ mx_ws := List.mem_filter.mpr ⟨List.mem_append_right _ (List.mem_append_right _ (List.mem_append_left _ (List.mem_of_getElem? h))), hg⟩
theorem mx_mm3 (i : Nat) {w : Cond} (h : tables_1_3[i]? = some w) (hg : goodWord w = true) : w ∈ mx_ws := List.mem_filter.mpr ⟨List.mem_append_right _ (List.mem_append_right _ (List.mem_append_right _ (List.mem_append_left _ (List.mem_of_getElem? h)))), hg⟩
theorem mx_mm4 (i : Nat) {w : Cond} (h : tables_1_4[i]? = some w) (hg : goodWord w = true) : w ∈ mx_ws := List.mem_filter.mpr ⟨List.mem_append_right _ (List.mem_append_right _ (List.mem_append_right _ (List.mem_append_right _ (List.mem_append_left _ (List.mem_of_getElem? h))))), hg⟩
theorem mx_mm5 (i : Nat) {w : Cond} (h : tables_1_5[i]? = some w) (hg : goodWord w = true) : w ∈ mx_ws := List.mem_filter.mpr ⟨List.mem_append_right _ (List.mem_append_right _ (List.mem_append_right _ (List.mem_append_right _ (List.mem_append_right _ (List.mem_append_left _ (List.mem_of_getElem? h)))))), hg⟩
theorem mx_mm6 (i : Nat) {w : Cond} (h : tables_1_6[i]? = some w) (hg : goodWord w = true) : w ∈ mx_ws := List.mem_filter.mpr ⟨List.mem_append_right _ (List.mem_append_right _ (List.mem_append_right _ (List.mem_append_right _ (List.mem_append_right _ (List.mem_append_right _ (List.mem_append_left _ (List.mem_of_getElem? h))))))), hg⟩
theorem mx_mm7 (i : Nat) {w : Cond} (h : tables_1_7[i]? = some w) (hg : goodWord w = true) : w ∈ mx_ws := List.mem_filter.mpr ⟨List.mem_append_right _ (List.mem_append_right _ (List.mem_append_right _ (List.mem_append_right _ (List.mem_append_right _ (List.mem_append_right _ (List.mem_append_right _ (List.mem_append_left _ (List.mem_of_getElem? h)))))))), hg⟩
theorem mx_mm8 (i : Nat) {w : Cond} (h : tables_1_8[i]? = some w) (hg : goodWord w = true) : w ∈ mx_ws := List.mem_filter.mpr ⟨List.mem_append_right _ (List.mem_append_right _ (List.mem_append_right _ (List.mem_append_right _ (List.mem_append_right _ (List.mem_append_right _ (List.mem_append_right _ (List.mem_append_right _ (List.mem_append_left _ (List.mem_of_getElem? h))))))))), hg⟩
theorem mx_mm9 (i : Nat) {w : Cond} (h : tables_1_9[i]? = some w) (hg : goodWord w = true) : w ∈ mx_ws := List.mem_filter.mpr ⟨List.mem_append_right _ (List.mem_append_right _ (List.mem_append_right _ (List.mem_append_right _ (List.mem_append_right _ (List.mem_append_right _ (List.mem_append_right _ (List.mem_append_right _ (List.mem_append_right _ (List.mem_of_getElem? h))))))))), hg⟩
theorem mx_mem (i : Nat) {w : Cond} (h : lw_tbl[i]? = some w) (hg : goodWord w = true) : w ∈ mx_ws := List.mem_filter.mpr ⟨List.mem_of_getElem? h, hg⟩
theorem mx_memN (i : Nat) {a : String} {k : Nat} {x : MethodName} {o : String} (h : tables_1[i]? = some (.methodLinkNest a k x o)) : Cond.methodLinkNest a k x o ∈ mx_nest := List.mem_filter.mpr ⟨List.mem_of_getElem? h, rfl⟩
def mx_gb (mid : Nat) (LL : List mx_L5) (KL : List (Nat × Int32)) (JL : List (Nat × Int64)) (pc : Nat) (ins : Instr) (len a b z : Nat) (c : Int32) (l : Int64) : Bool := match ins with
  | .iconst n => Nat.beq len 1 && decide (Int32.ofInt n = c)
  | .bipush n => Nat.beq len 2 && decide ((Int8.ofInt n).toInt32 = c)
  | .sipush n => Nat.beq len 3 && decide ((Int16.ofInt n).toInt32 = c)
  | .lconst n => Nat.beq len 1 && decide (Int64.ofNat (n : Nat) = l)
  | .ldc n => Nat.beq len 2 && KL.elem (n, c)
  | .ldc_w n => Nat.beq len 3 && KL.elem (n, c)
  | .ldc2_w n => Nat.beq len 3 && JL.elem (n, l)
  | .aconst_null => Nat.beq len 1
  | .iload_n n => Nat.beq len 1
  | .iload n => Nat.beq len 2
  | .lload_n n => Nat.beq len 1
  | .lload n => Nat.beq len 2
  | .aload_n n => Nat.beq len 1
  | .aload n => Nat.beq len 2
  | .istore_n n => Nat.beq len 1 && decide (n.val < mx_nL mid)
  | .istore n => Nat.beq len 2 && decide (n < mx_nL mid)
  | .lstore_n n => Nat.beq len 1 && decide (n.val + 1 < mx_nL mid)
  | .lstore n => Nat.beq len 2 && decide (n + 1 < mx_nL mid)
  | .astore_n n => Nat.beq len 1 && decide (n.val < mx_nL mid)
  | .astore n => Nat.beq len 2 && decide (n < mx_nL mid)
  | .iinc n k => Nat.beq len 3 && decide (Int32.ofInt k = c ∧ n < mx_nL mid)
  | .iadd => Nat.beq len 1
  | .isub => Nat.beq len 1
  | .imul => Nat.beq len 1
  | .iand => Nat.beq len 1
  | .ior => Nat.beq len 1
  | .ixor => Nat.beq len 1
  | .ishl => Nat.beq len 1
  | .ishr => Nat.beq len 1
  | .iushr => Nat.beq len 1
  | .idiv => Nat.beq len 1
  | .irem => Nat.beq len 1
  | .ladd => Nat.beq len 1
  | .lsub => Nat.beq len 1
  | .lmul => Nat.beq len 1
  | .land => Nat.beq len 1
  | .lor => Nat.beq len 1
  | .ldiv => Nat.beq len 1
  | .lshl => Nat.beq len 1
  | .lcmp => Nat.beq len 1
  | .ineg => Nat.beq len 1
  | .lneg => Nat.beq len 1
  | .i2l => Nat.beq len 1
  | .l2i => Nat.beq len 1
  | .i2b => Nat.beq len 1
  | .i2s => Nat.beq len 1
  | .goto k => Nat.beq len 3 && decide ((pc : Int) + k = a)
  | .pop => Nat.beq len 1
  | .pop2 => Nat.beq len 1
  | .dup => Nat.beq len 1
  | .dup2 => Nat.beq len 1
  | .ifCond cd k => Nat.beq len 3 && decide ((pc : Int) + k = a)
  | .if_icmp cd k => Nat.beq len 3 && decide ((pc : Int) + k = a)
  | .ifnull k => Nat.beq len 3 && decide ((pc : Int) + k = a)
  | .ifnonnull k => Nat.beq len 3 && decide ((pc : Int) + k = a)
  | .tableswitch df lo hi offs => true && decide (0 ≤ (pc : Int) + df ∧ (∀ o ∈ offs, 0 ≤ (pc : Int) + o) ∧ (hi - lo + 1).toNat ≤ offs.size)
  | .lookupswitch df ps => true && decide ((ps.toList.zip (ps.toList.drop 1)).all (fun (a, next) => a.1 < next.1) = true)
  | .ireturn => Nat.beq len 1 && decide (mx_rt mid = some .int ∨ mx_rt mid = some .boolean)
  | .lreturn => Nat.beq len 1 && decide (mx_rt mid = some .long)
  | .areturn => Nat.beq len 1 && decide (mx_rt mid = some (.object RX7))
  | .return_ => Nat.beq len 1 && decide (mx_rt mid = none)
  | .iaload => Nat.beq len 1
  | .baload => Nat.beq len 1
  | .laload => Nat.beq len 1
  | .aaload => Nat.beq len 1
  | .arraylength => Nat.beq len 1
  | .iastore => Nat.beq len 1
  | .lastore => Nat.beq len 1
  | .bastore => Nat.beq len 1
  | .aastore => Nat.beq len 1
  | .getfield n => Nat.beq len 3 && LL.elem (0, n, a, b, 0)
  | .putfield n => Nat.beq len 3 && (LL.elem (0, n, a, b, 0) && (!(mx_fT a b).2.2.2 || (decide ((mx_y mid).name = "<init>") && decide ((mx_fT a b).1 = mx_ow mid))))
  | .getstatic n => Nat.beq len 3 && LL.elem (5, n, a, 0, 0)
  | .new n => Nat.beq len 3 && LL.elem (4, n, a, 0, 0)
  | .newarray t => Nat.beq len 2 && (Nat.ble (mx_ak t) 3)
  | .anewarray n => Nat.beq len 3 && LL.elem (6, n, 0, 0, 0)
  | .invokestatic n => Nat.beq len 3 && ((!(Nat.beq z 2) && LL.elem (1, n, a, b, z)) || (Nat.beq z 2 && LL.elem (8, n, a, 0, 2)))
  | .invokevirtual n => Nat.beq len 3 && LL.elem (2, n, a, b, 0)
  | .invokespecial n => Nat.beq len 3 && (LL.elem (3, n, a, b, z) || LL.elem (7, n, a, 0, 0))
  | _ => false
set_option maxHeartbeats 4000000 in
theorem mx_gb_s {mid : Nat} {LL : List mx_L5} {KL : List (Nat × Int32)} {JL : List (Nat × Int64)} {pc : Nat} {ins : Instr} {len a b z : Nat} {c : Int32} {l : Int64} (hL : ∀ q ∈ LL, mx_PL (mx_me mid).1 q) (hK : ∀ q ∈ KL, Cond.constant (mx_ow mid) q.1 q.2 ∈ mx_ws) (hJ : ∀ q ∈ JL, Cond.constantLong (mx_ow mid) q.1 q.2 ∈ mx_ws) (hA : ∀ t, mx_ak t ≤ 3 → Cond.arrayClass (newarray.typeOf t) ∈ mx_ws)
    (h : mx_gb mid LL KL JL pc ins len a b z c l = true) : mx_ax mid pc ins len a b z c l := by
  cases ins with
  | iconst n =>
    have h : (Nat.beq len 1 && decide (Int32.ofInt n = c)) = true := h
    rw [Bool.and_eq_true] at h
    obtain ⟨h1, h2⟩ := h
    exact ⟨Nat.eq_of_beq_eq_true h1, of_decide_eq_true h2⟩
  | bipush n =>
    have h : (Nat.beq len 2 && decide ((Int8.ofInt n).toInt32 = c)) = true := h
    rw [Bool.and_eq_true] at h
    obtain ⟨h1, h2⟩ := h
    exact ⟨Nat.eq_of_beq_eq_true h1, of_decide_eq_true h2⟩
  | sipush n =>
    have h : (Nat.beq len 3 && decide ((Int16.ofInt n).toInt32 = c)) = true := h
    rw [Bool.and_eq_true] at h
    obtain ⟨h1, h2⟩ := h
    exact ⟨Nat.eq_of_beq_eq_true h1, of_decide_eq_true h2⟩
  | lconst n =>
    have h : (Nat.beq len 1 && decide (Int64.ofNat (n : Nat) = l)) = true := h
    rw [Bool.and_eq_true] at h
    obtain ⟨h1, h2⟩ := h
    exact ⟨Nat.eq_of_beq_eq_true h1, of_decide_eq_true h2⟩
  | ldc n =>
    have h : (Nat.beq len 2 && KL.elem (n, c)) = true := h
    rw [Bool.and_eq_true] at h
    obtain ⟨h1, h2⟩ := h
    exact ⟨Nat.eq_of_beq_eq_true h1, hK (n, c) (List.mem_of_elem_eq_true h2)⟩
  | ldc_w n =>
    have h : (Nat.beq len 3 && KL.elem (n, c)) = true := h
    rw [Bool.and_eq_true] at h
    obtain ⟨h1, h2⟩ := h
    exact ⟨Nat.eq_of_beq_eq_true h1, hK (n, c) (List.mem_of_elem_eq_true h2)⟩
  | ldc2_w n =>
    have h : (Nat.beq len 3 && JL.elem (n, l)) = true := h
    rw [Bool.and_eq_true] at h
    obtain ⟨h1, h2⟩ := h
    exact ⟨Nat.eq_of_beq_eq_true h1, hJ (n, l) (List.mem_of_elem_eq_true h2)⟩
  | aconst_null =>
    have h : (Nat.beq len 1) = true := h
    have h1 := h
    exact ⟨Nat.eq_of_beq_eq_true h1, trivial⟩
  | iload_n n =>
    have h : (Nat.beq len 1) = true := h
    have h1 := h
    exact ⟨Nat.eq_of_beq_eq_true h1, trivial⟩
  | iload n =>
    have h : (Nat.beq len 2) = true := h
    have h1 := h
    exact ⟨Nat.eq_of_beq_eq_true h1, trivial⟩
  | lload_n n =>
    have h : (Nat.beq len 1) = true := h
    have h1 := h
    exact ⟨Nat.eq_of_beq_eq_true h1, trivial⟩
  | lload n =>
    have h : (Nat.beq len 2) = true := h
    have h1 := h
    exact ⟨Nat.eq_of_beq_eq_true h1, trivial⟩
  | aload_n n =>
    have h : (Nat.beq len 1) = true := h
    have h1 := h
    exact ⟨Nat.eq_of_beq_eq_true h1, trivial⟩
  | aload n =>
    have h : (Nat.beq len 2) = true := h
    have h1 := h
    exact ⟨Nat.eq_of_beq_eq_true h1, trivial⟩
  | istore_n n =>
    have h : (Nat.beq len 1 && decide (n.val < mx_nL mid)) = true := h
    rw [Bool.and_eq_true] at h
    obtain ⟨h1, h2⟩ := h
    exact ⟨Nat.eq_of_beq_eq_true h1, of_decide_eq_true h2⟩
  | istore n =>
    have h : (Nat.beq len 2 && decide (n < mx_nL mid)) = true := h
    rw [Bool.and_eq_true] at h
    obtain ⟨h1, h2⟩ := h
    exact ⟨Nat.eq_of_beq_eq_true h1, of_decide_eq_true h2⟩
  | lstore_n n =>
    have h : (Nat.beq len 1 && decide (n.val + 1 < mx_nL mid)) = true := h
    rw [Bool.and_eq_true] at h
    obtain ⟨h1, h2⟩ := h
    exact ⟨Nat.eq_of_beq_eq_true h1, of_decide_eq_true h2⟩
  | lstore n =>
    have h : (Nat.beq len 2 && decide (n + 1 < mx_nL mid)) = true := h
    rw [Bool.and_eq_true] at h
    obtain ⟨h1, h2⟩ := h
    exact ⟨Nat.eq_of_beq_eq_true h1, of_decide_eq_true h2⟩
  | astore_n n =>
    have h : (Nat.beq len 1 && decide (n.val < mx_nL mid)) = true := h
    rw [Bool.and_eq_true] at h
    obtain ⟨h1, h2⟩ := h
    exact ⟨Nat.eq_of_beq_eq_true h1, of_decide_eq_true h2⟩
  | astore n =>
    have h : (Nat.beq len 2 && decide (n < mx_nL mid)) = true := h
    rw [Bool.and_eq_true] at h
    obtain ⟨h1, h2⟩ := h
    exact ⟨Nat.eq_of_beq_eq_true h1, of_decide_eq_true h2⟩
  | iinc n k =>
    have h : (Nat.beq len 3 && decide (Int32.ofInt k = c ∧ n < mx_nL mid)) = true := h
    rw [Bool.and_eq_true] at h
    obtain ⟨h1, h2⟩ := h
    exact ⟨Nat.eq_of_beq_eq_true h1, of_decide_eq_true h2⟩
  | iadd =>
    have h : (Nat.beq len 1) = true := h
    have h1 := h
    exact ⟨Nat.eq_of_beq_eq_true h1, trivial⟩
  | isub =>
    have h : (Nat.beq len 1) = true := h
    have h1 := h
    exact ⟨Nat.eq_of_beq_eq_true h1, trivial⟩
  | imul =>
    have h : (Nat.beq len 1) = true := h
    have h1 := h
    exact ⟨Nat.eq_of_beq_eq_true h1, trivial⟩
  | iand =>
    have h : (Nat.beq len 1) = true := h
    have h1 := h
    exact ⟨Nat.eq_of_beq_eq_true h1, trivial⟩
  | ior =>
    have h : (Nat.beq len 1) = true := h
    have h1 := h
    exact ⟨Nat.eq_of_beq_eq_true h1, trivial⟩
  | ixor =>
    have h : (Nat.beq len 1) = true := h
    have h1 := h
    exact ⟨Nat.eq_of_beq_eq_true h1, trivial⟩
  | ishl =>
    have h : (Nat.beq len 1) = true := h
    have h1 := h
    exact ⟨Nat.eq_of_beq_eq_true h1, trivial⟩
  | ishr =>
    have h : (Nat.beq len 1) = true := h
    have h1 := h
    exact ⟨Nat.eq_of_beq_eq_true h1, trivial⟩
  | iushr =>
    have h : (Nat.beq len 1) = true := h
    have h1 := h
    exact ⟨Nat.eq_of_beq_eq_true h1, trivial⟩
  | idiv =>
    have h : (Nat.beq len 1) = true := h
    have h1 := h
    exact ⟨Nat.eq_of_beq_eq_true h1, trivial⟩
  | irem =>
    have h : (Nat.beq len 1) = true := h
    have h1 := h
    exact ⟨Nat.eq_of_beq_eq_true h1, trivial⟩
  | ladd =>
    have h : (Nat.beq len 1) = true := h
    have h1 := h
    exact ⟨Nat.eq_of_beq_eq_true h1, trivial⟩
  | lsub =>
    have h : (Nat.beq len 1) = true := h
    have h1 := h
    exact ⟨Nat.eq_of_beq_eq_true h1, trivial⟩
  | lmul =>
    have h : (Nat.beq len 1) = true := h
    have h1 := h
    exact ⟨Nat.eq_of_beq_eq_true h1, trivial⟩
  | land =>
    have h : (Nat.beq len 1) = true := h
    have h1 := h
    exact ⟨Nat.eq_of_beq_eq_true h1, trivial⟩
  | lor =>
    have h : (Nat.beq len 1) = true := h
    have h1 := h
    exact ⟨Nat.eq_of_beq_eq_true h1, trivial⟩
  | ldiv =>
    have h : (Nat.beq len 1) = true := h
    have h1 := h
    exact ⟨Nat.eq_of_beq_eq_true h1, trivial⟩
  | lshl =>
    have h : (Nat.beq len 1) = true := h
    have h1 := h
    exact ⟨Nat.eq_of_beq_eq_true h1, trivial⟩
  | lcmp =>
    have h : (Nat.beq len 1) = true := h
    have h1 := h
    exact ⟨Nat.eq_of_beq_eq_true h1, trivial⟩
  | ineg =>
    have h : (Nat.beq len 1) = true := h
    have h1 := h
    exact ⟨Nat.eq_of_beq_eq_true h1, trivial⟩
  | lneg =>
    have h : (Nat.beq len 1) = true := h
    have h1 := h
    exact ⟨Nat.eq_of_beq_eq_true h1, trivial⟩
  | i2l =>
    have h : (Nat.beq len 1) = true := h
    have h1 := h
    exact ⟨Nat.eq_of_beq_eq_true h1, trivial⟩
  | l2i =>
    have h : (Nat.beq len 1) = true := h
    have h1 := h
    exact ⟨Nat.eq_of_beq_eq_true h1, trivial⟩
  | i2b =>
    have h : (Nat.beq len 1) = true := h
    have h1 := h
    exact ⟨Nat.eq_of_beq_eq_true h1, trivial⟩
  | i2s =>
    have h : (Nat.beq len 1) = true := h
    have h1 := h
    exact ⟨Nat.eq_of_beq_eq_true h1, trivial⟩
  | goto k =>
    have h : (Nat.beq len 3 && decide ((pc : Int) + k = a)) = true := h
    rw [Bool.and_eq_true] at h
    obtain ⟨h1, h2⟩ := h
    exact ⟨Nat.eq_of_beq_eq_true h1, of_decide_eq_true h2⟩
  | pop =>
    have h : (Nat.beq len 1) = true := h
    have h1 := h
    exact ⟨Nat.eq_of_beq_eq_true h1, trivial⟩
  | pop2 =>
    have h : (Nat.beq len 1) = true := h
    have h1 := h
    exact ⟨Nat.eq_of_beq_eq_true h1, trivial⟩
  | dup =>
    have h : (Nat.beq len 1) = true := h
    have h1 := h
    exact ⟨Nat.eq_of_beq_eq_true h1, trivial⟩
  | dup2 =>
    have h : (Nat.beq len 1) = true := h
    have h1 := h
    exact ⟨Nat.eq_of_beq_eq_true h1, trivial⟩
  | ifCond cd k =>
    have h : (Nat.beq len 3 && decide ((pc : Int) + k = a)) = true := h
    rw [Bool.and_eq_true] at h
    obtain ⟨h1, h2⟩ := h
    exact ⟨Nat.eq_of_beq_eq_true h1, of_decide_eq_true h2⟩
  | if_icmp cd k =>
    have h : (Nat.beq len 3 && decide ((pc : Int) + k = a)) = true := h
    rw [Bool.and_eq_true] at h
    obtain ⟨h1, h2⟩ := h
    exact ⟨Nat.eq_of_beq_eq_true h1, of_decide_eq_true h2⟩
  | ifnull k =>
    have h : (Nat.beq len 3 && decide ((pc : Int) + k = a)) = true := h
    rw [Bool.and_eq_true] at h
    obtain ⟨h1, h2⟩ := h
    exact ⟨Nat.eq_of_beq_eq_true h1, of_decide_eq_true h2⟩
  | ifnonnull k =>
    have h : (Nat.beq len 3 && decide ((pc : Int) + k = a)) = true := h
    rw [Bool.and_eq_true] at h
    obtain ⟨h1, h2⟩ := h
    exact ⟨Nat.eq_of_beq_eq_true h1, of_decide_eq_true h2⟩
  | tableswitch df lo hi offs =>
    have h : (true && decide (0 ≤ (pc : Int) + df ∧ (∀ o ∈ offs, 0 ≤ (pc : Int) + o) ∧ (hi - lo + 1).toNat ≤ offs.size)) = true := h
    rw [Bool.and_eq_true] at h
    obtain ⟨h1, h2⟩ := h
    have h3 := of_decide_eq_true h2
    exact h3
  | lookupswitch df ps =>
    have h : (true && decide ((ps.toList.zip (ps.toList.drop 1)).all (fun (a, next) => a.1 < next.1) = true)) = true := h
    rw [Bool.and_eq_true] at h
    obtain ⟨h1, h2⟩ := h
    have h3 := of_decide_eq_true h2
    exact h3
  | ireturn =>
    have h : (Nat.beq len 1 && decide (mx_rt mid = some .int ∨ mx_rt mid = some .boolean)) = true := h
    rw [Bool.and_eq_true] at h
    obtain ⟨h1, h2⟩ := h
    exact ⟨Nat.eq_of_beq_eq_true h1, of_decide_eq_true h2⟩
  | lreturn =>
    have h : (Nat.beq len 1 && decide (mx_rt mid = some .long)) = true := h
    rw [Bool.and_eq_true] at h
    obtain ⟨h1, h2⟩ := h
    exact ⟨Nat.eq_of_beq_eq_true h1, of_decide_eq_true h2⟩
  | areturn =>
    have h : (Nat.beq len 1 && decide (mx_rt mid = some (.object RX7))) = true := h
    rw [Bool.and_eq_true] at h
    obtain ⟨h1, h2⟩ := h
    exact ⟨Nat.eq_of_beq_eq_true h1, of_decide_eq_true h2⟩
  | return_ =>
    have h : (Nat.beq len 1 && decide (mx_rt mid = none)) = true := h
    rw [Bool.and_eq_true] at h
    obtain ⟨h1, h2⟩ := h
    exact ⟨Nat.eq_of_beq_eq_true h1, of_decide_eq_true h2⟩
  | iaload =>
    have h : (Nat.beq len 1) = true := h
    have h1 := h
    exact ⟨Nat.eq_of_beq_eq_true h1, trivial⟩
  | baload =>
    have h : (Nat.beq len 1) = true := h
    have h1 := h
    exact ⟨Nat.eq_of_beq_eq_true h1, trivial⟩
  | laload =>
    have h : (Nat.beq len 1) = true := h
    have h1 := h
    exact ⟨Nat.eq_of_beq_eq_true h1, trivial⟩
  | aaload =>
    have h : (Nat.beq len 1) = true := h
    have h1 := h
    exact ⟨Nat.eq_of_beq_eq_true h1, trivial⟩
  | arraylength =>
    have h : (Nat.beq len 1) = true := h
    have h1 := h
    exact ⟨Nat.eq_of_beq_eq_true h1, trivial⟩
  | iastore =>
    have h : (Nat.beq len 1) = true := h
    have h1 := h
    exact ⟨Nat.eq_of_beq_eq_true h1, trivial⟩
  | lastore =>
    have h : (Nat.beq len 1) = true := h
    have h1 := h
    exact ⟨Nat.eq_of_beq_eq_true h1, trivial⟩
  | bastore =>
    have h : (Nat.beq len 1) = true := h
    have h1 := h
    exact ⟨Nat.eq_of_beq_eq_true h1, trivial⟩
  | aastore =>
    have h : (Nat.beq len 1) = true := h
    have h1 := h
    exact ⟨Nat.eq_of_beq_eq_true h1, trivial⟩
  | getfield n =>
    have h : (Nat.beq len 3 && LL.elem (0, n, a, b, 0)) = true := h
    rw [Bool.and_eq_true] at h
    obtain ⟨h1, h2⟩ := h
    exact ⟨Nat.eq_of_beq_eq_true h1, hL _ (List.mem_of_elem_eq_true h2)⟩
  | putfield n =>
    have h : (Nat.beq len 3 && (LL.elem (0, n, a, b, 0) && (!(mx_fT a b).2.2.2 || (decide ((mx_y mid).name = "<init>") && decide ((mx_fT a b).1 = mx_ow mid))))) = true := h
    rw [Bool.and_eq_true] at h
    obtain ⟨h1, h2⟩ := h
    rw [Bool.and_eq_true] at h2
    refine ⟨Nat.eq_of_beq_eq_true h1, hL _ (List.mem_of_elem_eq_true h2.1), ?_⟩
    cases hq : (mx_fT a b).2.2.2 with
    | false => exact Or.inl rfl
    | true =>
      have h3 := h2.2
      rw [hq, Bool.not_true, Bool.false_or, Bool.and_eq_true] at h3
      exact Or.inr ⟨rfl, of_decide_eq_true h3.1, of_decide_eq_true h3.2⟩
  | getstatic n =>
    have h : (Nat.beq len 3 && LL.elem (5, n, a, 0, 0)) = true := h
    rw [Bool.and_eq_true] at h
    obtain ⟨h1, h2⟩ := h
    exact ⟨Nat.eq_of_beq_eq_true h1, hL _ (List.mem_of_elem_eq_true h2)⟩
  | new n =>
    have h : (Nat.beq len 3 && LL.elem (4, n, a, 0, 0)) = true := h
    rw [Bool.and_eq_true] at h
    obtain ⟨h1, h2⟩ := h
    exact ⟨Nat.eq_of_beq_eq_true h1, hL _ (List.mem_of_elem_eq_true h2)⟩
  | newarray t =>
    have h : (Nat.beq len 2 && (Nat.ble (mx_ak t) 3)) = true := h
    rw [Bool.and_eq_true] at h
    obtain ⟨h1, h2⟩ := h
    exact ⟨Nat.eq_of_beq_eq_true h1, Nat.le_of_ble_eq_true h2, hA t (Nat.le_of_ble_eq_true h2)⟩
  | anewarray n =>
    have h : (Nat.beq len 3 && LL.elem (6, n, 0, 0, 0)) = true := h
    rw [Bool.and_eq_true] at h
    obtain ⟨h1, h2⟩ := h
    exact ⟨Nat.eq_of_beq_eq_true h1, hL _ (List.mem_of_elem_eq_true h2)⟩
  | invokestatic n =>
    have h : (Nat.beq len 3 && ((!(Nat.beq z 2) && LL.elem (1, n, a, b, z)) || (Nat.beq z 2 && LL.elem (8, n, a, 0, 2)))) = true := h
    rw [Bool.and_eq_true] at h
    obtain ⟨h1, h2⟩ := h
    rcases (Bool.or_eq_true _ _).mp h2 with h2 | h2
    · rw [Bool.and_eq_true] at h2
      exact ⟨Nat.eq_of_beq_eq_true h1, Or.inl ⟨by simpa using h2.1, hL _ (List.mem_of_elem_eq_true h2.2)⟩⟩
    · rw [Bool.and_eq_true] at h2
      exact ⟨Nat.eq_of_beq_eq_true h1, Or.inr ⟨h2.1, hL _ (List.mem_of_elem_eq_true h2.2)⟩⟩
  | invokevirtual n =>
    have h : (Nat.beq len 3 && LL.elem (2, n, a, b, 0)) = true := h
    rw [Bool.and_eq_true] at h
    obtain ⟨h1, h2⟩ := h
    exact ⟨Nat.eq_of_beq_eq_true h1, hL _ (List.mem_of_elem_eq_true h2)⟩
  | invokespecial n =>
    have h : (Nat.beq len 3 && (LL.elem (3, n, a, b, z) || LL.elem (7, n, a, 0, 0))) = true := h
    rw [Bool.and_eq_true] at h
    obtain ⟨h1, h2⟩ := h
    rcases (Bool.or_eq_true _ _).mp h2 with h2 | h2
    · exact ⟨Nat.eq_of_beq_eq_true h1, Or.inr (hL _ (List.mem_of_elem_eq_true h2))⟩
    · exact ⟨Nat.eq_of_beq_eq_true h1, Or.inl (hL _ (List.mem_of_elem_eq_true h2))⟩
  | _ => cases h
def mx_gt (mid : Nat) (LL : List mx_L5) (KL : List (Nat × Int32)) (JL : List (Nat × Int64)) (tb : List (Nat × List mx_En)) : Bool :=
  tb.all (fun q => q.2.all (fun en => decide (decode (mx_by mid) en.1 = .ok (en.2.1, en.2.2.1)) && mx_gb mid LL KL JL en.1 en.2.1 en.2.2.1 en.2.2.2.1 en.2.2.2.2.1 en.2.2.2.2.2.1 en.2.2.2.2.2.2.1 en.2.2.2.2.2.2.2))
theorem mx_gt_s {mid : Nat} {LL : List mx_L5} {KL : List (Nat × Int32)} {JL : List (Nat × Int64)} {tb : List (Nat × List mx_En)} (hL : ∀ q ∈ LL, mx_PL (mx_me mid).1 q) (hK : ∀ q ∈ KL, Cond.constant (mx_ow mid) q.1 q.2 ∈ mx_ws) (hJ : ∀ q ∈ JL, Cond.constantLong (mx_ow mid) q.1 q.2 ∈ mx_ws) (hA : ∀ t, mx_ak t ≤ 3 → Cond.arrayClass (newarray.typeOf t) ∈ mx_ws)
    (h : mx_gt mid LL KL JL tb = true) : ∀ q ∈ tb, ∀ en ∈ q.2, mx_gd mid en := by
  intro q hq en he
  have h1 := List.all_eq_true.mp (List.all_eq_true.mp h q hq) en he
  rw [Bool.and_eq_true] at h1
  exact ⟨of_decide_eq_true h1.1, mx_gb_s hL hK hJ hA h1.2⟩
/-! ===== the check of links ===== -/
def mx_sub (k : Nat) : List Cond := match k with
  | 1 => tables_1_1
  | 2 => tables_1_2
  | 3 => tables_1_3
  | 4 => tables_1_4
  | 5 => tables_1_5
  | 6 => tables_1_6
  | 7 => tables_1_7
  | 8 => tables_1_8
  | 9 => tables_1_9
  | _ => []
theorem mx_sub_t {w : Cond} : ∀ k, w ∈ mx_sub k → w ∈ tables_1
  | 1, h => (List.mem_append_left _ h)
  | 2, h => (List.mem_append_right _ (List.mem_append_left _ h))
  | 3, h => (List.mem_append_right _ (List.mem_append_right _ (List.mem_append_left _ h)))
  | 4, h => (List.mem_append_right _ (List.mem_append_right _ (List.mem_append_right _ (List.mem_append_left _ h))))
  | 5, h => (List.mem_append_right _ (List.mem_append_right _ (List.mem_append_right _ (List.mem_append_right _ (List.mem_append_left _ h)))))
  | 6, h => (List.mem_append_right _ (List.mem_append_right _ (List.mem_append_right _ (List.mem_append_right _ (List.mem_append_right _ (List.mem_append_left _ h))))))
  | 7, h => (List.mem_append_right _ (List.mem_append_right _ (List.mem_append_right _ (List.mem_append_right _ (List.mem_append_right _ (List.mem_append_right _ (List.mem_append_left _ h)))))))
  | 8, h => (List.mem_append_right _ (List.mem_append_right _ (List.mem_append_right _ (List.mem_append_right _ (List.mem_append_right _ (List.mem_append_right _ (List.mem_append_right _ (List.mem_append_left _ h))))))))
  | 9, h => (List.mem_append_right _ (List.mem_append_right _ (List.mem_append_right _ (List.mem_append_right _ (List.mem_append_right _ (List.mem_append_right _ (List.mem_append_right _ (List.mem_append_right _ h))))))))
  | 0, h => absurd h List.not_mem_nil
  | k + 10, h => absurd h List.not_mem_nil
/-- the word stands at this place of the tables, and is one that a callee may be given -/
def mx_hw (p : Nat) (w : Cond) : Bool := (bif Nat.blt p 1000 then sq_o ((k2_sels lw_privs)[p]?) w else sq_o ((mx_sub (p / 1000))[p % 1000]?) w) && goodWord w
theorem mx_hw_s {p : Nat} {w : Cond} (h : mx_hw p w = true) : w ∈ mx_ws := by
  unfold mx_hw at h
  rw [Bool.and_eq_true] at h
  refine List.mem_filter.mpr ⟨?_, h.2⟩
  have h1 := h.1
  cases hb : Nat.blt p 1000 with
  | true =>
    rw [hb, cond_true] at h1
    exact List.mem_append_left _ (List.mem_of_getElem? (sq_os h1))
  | false =>
    rw [hb, cond_false] at h1
    exact List.mem_append_right _ (mx_sub_t _ (List.mem_of_getElem? (sq_os h1)))
def mx_hn (p : Nat) (a : String) (k : Nat) (x : MethodName) (o : String) : Bool := sq_o ((mx_sub (p / 1000))[p % 1000]?) (.methodLinkNest a k x o)
theorem mx_hn_s {p : Nat} {a : String} {k : Nat} {x : MethodName} {o : String} (h : mx_hn p a k x o = true) : Cond.methodLinkNest a k x o ∈ mx_nest :=
  List.mem_filter.mpr ⟨mx_sub_t _ (List.mem_of_getElem? (sq_os h)), rfl⟩
theorem sq_n {a b : String} (h : (!sq_s a b) = true) : a ≠ b := fun e => by
  rw [e, show sq_s b b = true from Nat.beq_refl _] at h
  exact absurd h (by decide)
def mx_PD : List (String × Nat) := [("()I", 0), ("()J", 0), ("()LPlatesSing$Shape;", 0), ("()V", 0), ("()Z", 0), ("(I)I", 1), ("(I)J", 1), ("(I)LPlatesSing$Shape;", 1), ("(I)V", 1), ("(I)Z", 1), ("(II)I", 2), ("(II)J", 2), ("(II)V", 2), ("(II)Z", 2), ("(III)I", 3), ("(III)J", 3), ("(III)V", 3), ("(III)Z", 3), ("(IIII)I", 4), ("(IIII)V", 4), ("(IIII)Z", 4), ("(IIIII)I", 5), ("(IIIII)V", 5), ("(IIIIII)V", 6), ("(IIJ)I", 3), ("(IIJ)V", 3), ("(IJ)J", 2), ("(ILPlatesSing$Shape;)I", 2), ("(J)J", 1), ("(JJ)J", 2), ("(LPlatesSing$Net;)V", 1), ("(LPlatesSing$Net;)Z", 1), ("(LPlatesSing$Net;I)V", 2), ("(LPlatesSing$Net;II)I", 3), ("(LPlatesSing$Net;II)V", 3), ("(LPlatesSing$Net;IIII)V", 5), ("(LPlatesSing$Shape;)I", 1), ("(LPlatesSing$Shape;)V", 1), ("(LPlatesSing$Shape;)Z", 1), ("(LPlatesSing$Shape;I)I", 2), ("(LPlatesSing$Shape;I)V", 2), ("(LPlatesSing$Shape;I)Z", 2), ("(LPlatesSing$Shape;II)Z", 3), ("(LPlatesSing$Shape;III)I", 4), ("(LPlatesSing$Shape;IIII)V", 5), ("(LPlatesSing$Shape;ILPlatesSing$Shape;I)Z", 4), ("(LPlatesSing$Shape;LPlatesSing$Net;)V", 2), ("(LPlatesSing$Shape;LPlatesSing$Net;I)V", 3), ("(LPlatesSing$Shape;LPlatesSing$Net;II)V", 4), ("(LPlatesSing$Shape;LPlatesSing$Net;II)Z", 4), ("(LPlatesSing$Shape;LPlatesSing$Net;IIII)V", 6), ("(LPlatesSing$Shape;LPlatesSing$Shape;)V", 2), ("(LPlatesSing$Shape;LPlatesSing$Shape;I)V", 3), ("(LPlatesSing$Shape;[I)Z", 2), ("([I)Z", 1), ("([II)V", 2), ("([JJ)V", 2)]
theorem mx_PDok : ∀ q ∈ mx_PD, (parseMethodDescriptor q.1).map (fun d => d.parameters.length) = some q.2 := by decide +kernel
def mx_pd (s : String) (n : Nat) : Bool := mx_PD.any (fun q => sq_s q.1 s && Nat.beq q.2 n)
theorem mx_pd_s {s : String} {n : Nat} (h : mx_pd s n = true) : (parseMethodDescriptor s).map (fun d => d.parameters.length) = some n := by
  obtain ⟨q, hq, e⟩ := List.any_eq_true.mp h
  rw [Bool.and_eq_true] at e
  have r := mx_PDok q hq
  rw [sq_i e.1, Nat.eq_of_beq_eq_true e.2] at r
  exact r
def mx_PN : List String := ["PlatesSing$Blows", "PlatesSing$Hearing", "PlatesSing$History", "PlatesSing$Net", "PlatesSing$Parts", "PlatesSing$Plan", "PlatesSing$Ratios", "PlatesSing$Shape", "PlatesSing$Shelves", "PlatesSing$Tape", "PlatesSing$Turns", "PlatesSing", "PlatesSingModel", "PlatesSingLaw"]
theorem mx_PNok : ∀ s ∈ mx_PN, plainName s = true := by decide +kernel
def mx_pn (s : String) : Bool := mx_PN.any (fun c => sq_s c s) || plainName s
theorem mx_pn_s {s : String} (h : mx_pn s = true) : plainName s = true := by
  unfold mx_pn at h
  rw [Bool.or_eq_true] at h
  rcases h with h | h
  · obtain ⟨c, hc, e⟩ := List.any_eq_true.mp h
    rw [← sq_i e]
    exact mx_PNok c hc
  · exact h
def mx_MKc (mid p2 : Nat) : Bool := mx_pn (mx_y mid).cls && (sq_s (mx_y mid).cls (mx_ow mid) && (mx_hw p2 (Cond.initialized (mx_y mid).cls) && ((!sq_s (mx_y mid).cls "java/lang/invoke/MethodHandle" && !sq_s (mx_y mid).cls "java/lang/invoke/VarHandle") && Nat.ble (mx_nL mid) 21)))
abbrev mx_CD (mid : Nat) : Prop := Cond.code (mx_y mid) (mx_by mid) (mx_nL mid) (mx_rt mid) ∈ mx_ws
theorem mx_CDi {mid : Nat} (k i : Nat) (h : (mx_sub k)[i]? = some (Cond.code (mx_y mid) (mx_by mid) (mx_nL mid) (mx_rt mid))) : mx_CD mid := List.mem_filter.mpr ⟨List.mem_append_right _ (mx_sub_t _ (List.mem_of_getElem? h)), rfl⟩
theorem mx_MKc_s {mid p2 : Nat} (hc : mx_CD mid) (h : mx_MKc mid p2 = true) : mx_MK mid := by
  unfold mx_MKc at h
  simp only [Bool.and_eq_true] at h
  obtain ⟨h1, h2, h4, h5, h6⟩ := h
  exact ⟨mx_pn_s h1, sq_i h2, hc, mx_hw_s h4, ⟨sq_n h5.1, sq_n h5.2⟩, Nat.le_of_ble_eq_true h6⟩
def mx_LKb (o idx callee n kd : Nat) (nest : Bool) (p1 p2 p3 : Nat) : Bool :=
  mx_pd (mx_y callee).desc n &&
  ((bif nest then mx_hn p1 (mx_cn o) idx (mx_y callee) "PlatesSing" else mx_hw p1 (Cond.methodLink (mx_cn o) idx (mx_y callee))) &&
  (bif Nat.beq kd 0 then mx_hw p2 (Cond.static (mx_y callee)) else bif Nat.beq kd 1 then mx_hw p2 (Cond.instanceMethod (mx_y callee)) && mx_hw p3 (Cond.selects (mx_y callee).cls (mx_y callee) (mx_y callee)) else mx_hw p2 (Cond.instanceMethod (mx_y callee)) && (sq_s (mx_y callee).name "<init>" && decide (mx_rt callee = none))))
theorem mx_LKb_s {o idx callee n kd : Nat} {nest : Bool} {p1 p2 p3 : Nat} (h : mx_LKb o idx callee n kd nest p1 p2 p3 = true) : mx_LKo o idx callee n kd nest := by
  unfold mx_LKb at h
  rw [Bool.and_eq_true, Bool.and_eq_true] at h
  obtain ⟨h1, h2, h3⟩ := h
  refine ⟨mx_pd_s h1, ?_, ?_⟩
  · cases nest
    · exact mx_hw_s h2
    · exact ⟨_, mx_hn_s h2⟩
  · cases hb : Nat.beq kd 0 with
    | true =>
      rw [hb, cond_true] at h3
      rw [if_pos (Nat.eq_of_beq_eq_true hb)]
      exact mx_hw_s h3
    | false =>
      rw [hb, cond_false] at h3
      rw [if_neg (Nat.ne_of_beq_eq_false hb)]
      cases hb2 : Nat.beq kd 1 with
      | true =>
        rw [hb2, cond_true, Bool.and_eq_true] at h3
        rw [if_pos (Nat.eq_of_beq_eq_true hb2)]
        exact ⟨mx_hw_s h3.1, mx_hw_s h3.2⟩
      | false =>
        rw [hb2, cond_false, Bool.and_eq_true, Bool.and_eq_true] at h3
        rw [if_neg (Nat.ne_of_beq_eq_false hb2)]
        exact ⟨mx_hw_s h3.1, sq_i h3.2.1, of_decide_eq_true h3.2.2⟩
def mx_MWb (o i : Nat) (x : MethodName) (c : ByteArray) (n : Nat) (r : Option FieldType) (p1 p2 p3 p4 : Nat) : Bool := mx_hw p1 (Cond.methodLink (mx_cn o) i x) && (mx_hw p2 (Cond.static x) && (mx_hw p3 (Cond.initialized "java/lang/Math") && mx_hw p4 (Cond.code x c n r)))
theorem mx_MWb_s {o i : Nat} {x : MethodName} {c : ByteArray} {n : Nat} {r : Option FieldType} {p1 p2 p3 p4 : Nat} (h : mx_MWb o i x c n r p1 p2 p3 p4 = true) : mx_MW o i x c n r := by
  unfold mx_MWb at h
  simp only [Bool.and_eq_true] at h
  exact ⟨mx_hw_s h.1, mx_hw_s h.2.1, mx_hw_s h.2.2.1, mx_hw_s h.2.2.2⟩
