/-! ===== steps as a relation; what holds of every run; the judgement that takes it along ===== -/
abbrev mx_F : Type := Nat → Option mx_V
def mx_co (lv : mx_Lv) (f : mx_F) : Prop := ∀ q ∈ lv, f q.1 = some q.2
def mx_fu (f : mx_F) (i : Nat) (v : mx_V) : mx_F := fun j => if j = i then some v else f j
/-- how a step goes on: place, locals, stack, heap; or the answer; or a call: which, with what, the rest of the stack, the place behind it -/
abbrev mx_O : Type := (Nat × mx_F × List mx_V × mx_H) ⊕ (Option mx_V) ⊕ (Nat × List mx_V × List mx_V × Nat)
theorem ml_cog {lv : mx_Lv} {f : mx_F} {i : Nat} {v : mx_V} (hf : mx_co lv f) (h : mx_get lv i = some v) : f i = some v := hf (i, v) (mx_get_mem h)
theorem ml_co1 {lv : mx_Lv} {f : mx_F} {i : Nat} {v : mx_V} (hf : mx_co lv f) : mx_co (mx_set1 lv i v) (mx_fu f i v) := by
  intro q hq
  unfold mx_set1 at hq
  rcases List.mem_cons.mp hq with e | hq
  · subst e
    exact if_pos rfl
  · obtain ⟨h1, h2⟩ := List.mem_filter.mp hq
    have h3 : ¬ q.1 = i := fun e => by
      rw [e] at h2
      simp at h2
    exact (if_neg h3).trans (hf q h1)
theorem ml_co2 {lv : mx_Lv} {f : mx_F} {i : Nat} {v : mx_V} (hf : mx_co lv f) : mx_co (mx_set2 lv i v) (mx_fu f i v) := by
  intro q hq
  unfold mx_set2 at hq
  rcases List.mem_cons.mp hq with e | hq
  · subst e
    exact if_pos rfl
  · obtain ⟨h1, h2⟩ := List.mem_filter.mp hq
    have h3 : ¬ q.1 = i := fun e => by
      rw [e] at h2
      simp at h2
    exact (if_neg h3).trans (hf q h1)
theorem ml_if {b : Bool} {P : Prop} (h : b = true) (p : P) : mx_if b P := by
  subst h
  exact p
def ml_i (b : Bool) (P : Prop) : Prop := match b with
  | true => P
  | false => True
theorem ml_it {b : Bool} {P : Prop} (h : b = true) (p : ml_i b P) : P := by
  subst h
  exact p
/-- what a field may be read as -/
def ml_rd (h : mx_H) (a : mx_A) (ci k : Nat) (v : mx_V) : Prop :=
  (mx_ff ci k = 2 ∧ ((∃ b, mx_fn true a k = some b ∧ v = .inr b) ∨ (mx_fn true a k = none ∧ ((∃ j, h.2.2.2 a k = some (.inr (j, 0)) ∧ v = .inr (.inr (j, 0))) ∨ (h.2.2.2 a k = none ∧ v = .inl .null))))) ∨
  (¬ mx_ff ci k = 2 ∧ v = .inl (.int (h.2.1 a k)))
def ml_rl (h : mx_H) (a : mx_A) (ci k : Nat) (κ : mx_V → Prop) : Prop :=
  match mx_ff ci k with
  | 2 => match mx_fn true a k with
    | some b => κ (.inr b)
    | none => (∀ j, h.2.2.2 a k = some (.inr (j, 0)) → κ (.inr (.inr (j, 0)))) ∧ (h.2.2.2 a k = none → κ (.inl .null))
  | _ => κ (.inl (.int (h.2.1 a k)))
theorem ml_rl_s {h : mx_H} {a : mx_A} {ci k : Nat} {κ : mx_V → Prop} {v : mx_V} (hk : ml_rl h a ci k κ) (s : ml_rd h a ci k v) : κ v := by
  unfold ml_rl at hk
  split at hk
  · next hq =>
    rcases s with ⟨-, ⟨b, e, rfl⟩ | ⟨e, ⟨j, r, rfl⟩ | ⟨r, rfl⟩⟩⟩ | ⟨s, -⟩
    · rw [e] at hk
      exact hk
    · rw [e] at hk
      exact hk.1 j r
    · rw [e] at hk
      exact hk.2 r
    · exact absurd hq s
  · next hq =>
    rcases s with ⟨s, -⟩ | ⟨-, rfl⟩
    · exact absurd s hq
    · exact hk
theorem ml_rd_m {md : Bool} {h : mx_H} {x : mx_A} {a b : Nat} {κ κ' : mx_V → Prop} (hm : md = true ∨ ¬ mx_ff a b = 2) (kk : ∀ v, ml_rd h x a b v → κ v → κ' v) (hk : mx_rdf md h x a b κ) : mx_rdf md h x a b κ' := by
  unfold mx_rdf at hk ⊢
  by_cases hq : mx_ff a b = 2
  · have hm : md = true := hm.elim id (fun q => absurd hq q)
    subst hm
    simp only [hq] at hk ⊢
    cases e : mx_fn true x b with
    | some t =>
      simp only [e] at hk ⊢
      exact kk _ (Or.inl ⟨hq, Or.inl ⟨t, e, rfl⟩⟩) hk
    | none =>
      simp only [e] at hk ⊢
      exact ⟨fun j q => kk _ (Or.inl ⟨hq, Or.inr ⟨e, Or.inl ⟨j, q, rfl⟩⟩⟩) (hk.1 j q), fun q => kk _ (Or.inl ⟨hq, Or.inr ⟨e, Or.inr ⟨q, rfl⟩⟩⟩) (hk.2.1 q), hk.2.2⟩
  · split at hk
    · next q => exact absurd q hq
    · exact kk _ (Or.inr ⟨hq, rfl⟩) hk
theorem ml_rd_2 {md : Bool} {h : mx_H} {x : mx_A} {a b : Nat} {κ : mx_V → Prop} {v : mx_V} (hm : md = true ∨ ¬ mx_ff a b = 2) (s : ml_rd h x a b v) (hk : mx_rdf md h x a b κ) : κ v := by
  unfold mx_rdf at hk
  rcases s with ⟨hq, s⟩ | ⟨hq, rfl⟩
  · have hm : md = true := hm.elim id (fun q => absurd hq q)
    subst hm
    simp only [hq] at hk
    rcases s with ⟨t, e, rfl⟩ | ⟨e, ⟨j, r, rfl⟩ | ⟨r, rfl⟩⟩
    · simp only [e] at hk
      exact hk
    · simp only [e] at hk
      exact hk.1 j r
    · simp only [e] at hk
      exact hk.2.1 r
  · split at hk
    · next q => exact absurd q hq
    · exact hk
theorem mx_rb_m {r : Option FieldType} {x : Int32} {P P' : Prop} (h : mx_rb r x P) (k : P → P') : mx_rb r x P' := by
  unfold mx_rb at h ⊢
  split at h
  · exact ⟨h.1, k h.2⟩
  · exact k h
theorem mx_rb_2 {r : Option FieldType} {x : Int32} {A P G : Prop} (h : mx_rb r x A) (h2 : mx_rb r x P) (k : A → P → G) : G := by
  unfold mx_rb at h h2
  split at h
  · exact k h.2 h2.2
  · next hq =>
    split at h2
    · exact absurd rfl hq
    · exact k h h2
def ml_rb (r : Option FieldType) (x : Int32) (P : Prop) : Prop := match r with
  | some .boolean => (x = 0 ∨ x = 1) → P
  | _ => P
theorem ml_rb_s {r : Option FieldType} {x : Int32} {A P G : Prop} (h : mx_rb r x A) (h2 : ml_rb r x P) (k : A → P → G) : G := by
  unfold mx_rb at h
  unfold ml_rb at h2
  split at h
  · exact k h.2 (h2 h.1)
  · next hq =>
    split at h2
    · exact absurd rfl hq
    · exact k h h2
def ml_pk (ci k : Nat) (v : mx_V) (P : Prop) : Prop := match mx_ff ci k, v with
  | 0, .inl (.int _) => P
  | 1, .inl (.int x) => (x = 0 ∨ x = 1) → P
  | 2, .inr _ => P
  | 2, .inl .null => P
  | _, _ => True
theorem ml_pkm {ci k : Nat} {v : mx_V} {P P' : Prop} (h : mx_pkb ci k v P) (kk : P → P') : mx_pkb ci k v P' := by
  unfold mx_pkb at h ⊢
  split at h
  · exact kk h
  · exact ⟨h.1, kk h.2⟩
  · exact kk h
  · exact kk h
  · exact h.elim
theorem ml_pk_2 {ci k : Nat} {v : mx_V} {A P G : Prop} (h : mx_pkb ci k v A) (h2 : mx_pkb ci k v P) (kk : A → P → G) : G := by
  unfold mx_pkb at h h2
  split at h
  · next h1 => simp only [h1] at h2; exact kk h h2
  · next h1 => simp only [h1] at h2; exact kk h.2 h2.2
  · next h1 => simp only [h1] at h2; exact kk h h2
  · next h1 => simp only [h1] at h2; exact kk h h2
  · exact h.elim
theorem ml_pk_s {ci k : Nat} {v : mx_V} {A P G : Prop} (h : mx_pkb ci k v A) (h2 : ml_pk ci k v P) (kk : A → P → G) : G := by
  unfold mx_pkb at h
  unfold ml_pk at h2
  split at h
  · next h1 => simp only [h1] at h2; exact kk h h2
  · next h1 => simp only [h1] at h2; exact kk h.2 (h2 h.1)
  · next h1 => simp only [h1] at h2; exact kk h h2
  · next h1 => simp only [h1] at h2; exact kk h h2
  · exact h.elim
def ml_nor (ins : Instr) (a b : Nat) : Bool := match ins with
  | .getfield _ => !(Nat.beq (mx_ff a b) 2)
  | _ => true
theorem ml_nor_g {md : Bool} {n a b : Nat} (h : (md || ml_nor (.getfield n) a b) = true) : md = true ∨ ¬ mx_ff a b = 2 := by
  rcases (Bool.or_eq_true _ _).mp h with h | h
  · exact Or.inl h
  · refine Or.inr (fun e => ?_)
    have h' : (!(Nat.beq (mx_ff a b) 2)) = true := h
    rw [e] at h'
    cases h'
/-- an answer of a method's type; what is asked behind a call -/
def mx_wt (r : Option FieldType) (v : Option mx_V) : Prop := match r with
  | none => v = none
  | some .long => ∃ x, v = some (.inl (.long x))
  | some (.object _) => (∃ j, v = some (.inr (.inr (j, 0)))) ∨ v = some (.inl .null)
  | _ => ∃ x, v = some (.inl (.int x))
def ml_rc (r : Option FieldType) (v : Option mx_V) (κ : List mx_V → Prop) : Prop := match r with
  | none => v = none → κ []
  | some .long => ∀ x, v = some (.inl (.long x)) → κ [.inl (.long x)]
  | some (.object _) => (∀ j, v = some (.inr (.inr (j, 0))) → κ [.inr (.inr (j, 0))]) ∧ (v = some (.inl .null) → κ [.inl .null])
  | _ => ∀ x, v = some (.inl (.int x)) → κ [.inl (.int x)]
theorem ml_rc_s {r : Option FieldType} {v : Option mx_V} {κ : List mx_V → Prop} (h : ml_rc r v κ) (w : mx_wt r v) : κ v.toList := by
  unfold ml_rc at h
  unfold mx_wt at w
  split at h
  · have w' : v = none := w
    subst w'
    exact h rfl
  · obtain ⟨x, rfl⟩ : ∃ x, v = some (.inl (.long x)) := w
    exact h x rfl
  · have w' : (∃ j, v = some (.inr (.inr (j, 0)))) ∨ v = some (.inl .null) := w
    rcases w' with ⟨j, rfl⟩ | rfl
    · exact h.1 j rfl
    · exact h.2 rfl
  · next n1 n2 n3 =>
    split at w
    · exact absurd rfl n1
    · exact absurd rfl n2
    · exact absurd rfl (n3 _)
    · obtain ⟨x, rfl⟩ := w
      exact h x rfl
theorem ml_rc_2 {r : Option FieldType} {v : Option mx_V} {κ : List mx_V → Prop} (h : mx_rc r v κ) (w : mx_wt r v) : κ v.toList := by
  refine ml_rc_s (r := r) (v := v) ?_ w
  unfold mx_rc at h
  unfold ml_rc
  split at h
  · exact h
  · exact h
  · exact ⟨h.1, h.2.1⟩
  · next n1 n2 n3 =>
    split
    · exact absurd rfl n1
    · exact absurd rfl n2
    · exact absurd rfl (n3 _)
    · exact h
theorem ml_rc_m {r : Option FieldType} {v : Option mx_V} {κ κ' : List mx_V → Prop} (h : mx_rc r v κ) (k : mx_wt r v → κ v.toList → κ' v.toList) : mx_rc r v κ' := by
  unfold mx_rc at h ⊢
  unfold mx_wt at k
  split at h
  · intro e
    subst e
    exact k rfl (h rfl)
  · intro x e
    subst e
    exact k ⟨x, rfl⟩ (h x rfl)
  · refine ⟨fun j e => ?_, fun e => ?_, h.2.2⟩
    · subst e
      exact k (Or.inl ⟨j, rfl⟩) (h.1 j rfl)
    · subst e
      exact k (Or.inr rfl) (h.2.1 rfl)
  · next n1 n2 n3 =>
    intro x e
    subst e
    refine k ?_ (h x rfl)
    split
    · exact absurd rfl n1
    · exact absurd rfl n2
    · exact absurd rfl (n3 _)
    · exact ⟨x, rfl⟩
theorem ml_mth {a : Nat} {st : List mx_V} {κ : List mx_V → Prop} (h : mx_mth a st κ) : ∃ r, κ r ∧ ∀ κ' : List mx_V → Prop, κ' r → mx_mth a st κ' := by
  unfold mx_mth at h
  split at h
  · exact ⟨_, (mx_if_t h).2, fun κ' k => ml_if (mx_if_t h).1 k⟩
  · exact ⟨_, (mx_if_t h).2, fun κ' k => ml_if (mx_if_t h).1 k⟩
  · exact ⟨_, (mx_if_t h).2, fun κ' k => ml_if (mx_if_t h).1 k⟩
  · exact ⟨_, (mx_if_t h).2, fun κ' k => ml_if (mx_if_t h).1 k⟩
  · exact ⟨_, (mx_if_t h).2, fun κ' k => ml_if (mx_if_t h).1 k⟩
  · exact ⟨_, (mx_if_t h).2, fun κ' k => ml_if (mx_if_t h).1 k⟩
  · exact h.elim
theorem ml_mth2 {a : Nat} {st : List mx_V} {κ κ2 : List mx_V → Prop} (h : mx_mth a st κ) (h2 : mx_mth a st κ2) : ∃ r, κ r ∧ κ2 r := by
  unfold mx_mth at h
  split at h
  · exact ⟨_, (mx_if_t h).2, (mx_if_t h2).2⟩
  · exact ⟨_, (mx_if_t h).2, (mx_if_t h2).2⟩
  · exact ⟨_, (mx_if_t h).2, (mx_if_t h2).2⟩
  · exact ⟨_, (mx_if_t h).2, (mx_if_t h2).2⟩
  · exact ⟨_, (mx_if_t h).2, (mx_if_t h2).2⟩
  · exact ⟨_, (mx_if_t h).2, (mx_if_t h2).2⟩
  · exact h.elim

def ml_s1 (E : mx_Ev) (mid pc : Nat) (ins : Instr) (a b z : Nat) (c : Int32) (l : Int64) (f : mx_F) (st : List mx_V) (h : mx_H) (o : mx_O) : Prop := match ins with
  | .iconst n => o = .inl ((pc + 1), f, .inl (.int c) :: st, h)
  | .bipush n => o = .inl ((pc + 2), f, .inl (.int c) :: st, h)
  | .sipush n => o = .inl ((pc + 3), f, .inl (.int c) :: st, h)
  | .lconst n => o = .inl ((pc + 1), f, .inl (.long l) :: st, h)
  | .ldc n => o = .inl ((pc + 2), f, .inl (.int c) :: st, h)
  | .ldc_w n => o = .inl ((pc + 3), f, .inl (.int c) :: st, h)
  | .ldc2_w n => o = .inl ((pc + 3), f, .inl (.long l) :: st, h)
  | .aconst_null => o = .inl ((pc + 1), f, .inl .null :: st, h)
  | .goto k => o = .inl (a, f, st, h)
  | .iload_n n => ∃ x, f n.val = some (.inl (.int x)) ∧ o = .inl (pc + 1, f, .inl (.int x) :: st, h)
  | .iload n => ∃ x, f n = some (.inl (.int x)) ∧ o = .inl (pc + 2, f, .inl (.int x) :: st, h)
  | .lload_n n => ∃ x, f n.val = some (.inl (.long x)) ∧ o = .inl (pc + 1, f, .inl (.long x) :: st, h)
  | .lload n => ∃ x, f n = some (.inl (.long x)) ∧ o = .inl (pc + 2, f, .inl (.long x) :: st, h)
  | .aload_n n => ∃ x, f n.val = some x ∧ o = .inl (pc + 1, f, x :: st, h)
  | .aload n => ∃ x, f n = some x ∧ o = .inl (pc + 2, f, x :: st, h)
  | .istore_n n => match st with | .inl (.int x) :: r => o = .inl ((pc + 1), mx_fu f n.val (.inl (.int x)), r, h) | _ => False
  | .istore n => match st with | .inl (.int x) :: r => o = .inl ((pc + 2), mx_fu f n (.inl (.int x)), r, h) | _ => False
  | .lstore_n n => match st with | .inl (.long x) :: r => o = .inl ((pc + 1), mx_fu f n.val (.inl (.long x)), r, h) | _ => False
  | .lstore n => match st with | .inl (.long x) :: r => o = .inl ((pc + 2), mx_fu f n (.inl (.long x)), r, h) | _ => False
  | .astore_n n => match st with | x :: r => o = .inl ((pc + 1), mx_fu f n.val x, r, h) | _ => False
  | .astore n => match st with | x :: r => o = .inl ((pc + 2), mx_fu f n x, r, h) | _ => False
  | .iinc n k => ∃ x, f n = some (.inl (.int x)) ∧ o = .inl (pc + 3, mx_fu f n (.inl (.int (x + c))), st, h)
  | .iadd => match st with | .inl (.int y) :: .inl (.int x) :: r => o = .inl ((pc + 1), f, .inl (.int (x + y)) :: r, h) | _ => False
  | .isub => match st with | .inl (.int y) :: .inl (.int x) :: r => o = .inl ((pc + 1), f, .inl (.int (x - y)) :: r, h) | _ => False
  | .imul => match st with | .inl (.int y) :: .inl (.int x) :: r => o = .inl ((pc + 1), f, .inl (.int (x * y)) :: r, h) | _ => False
  | .iand => match st with | .inl (.int y) :: .inl (.int x) :: r => o = .inl ((pc + 1), f, .inl (.int (x &&& y)) :: r, h) | _ => False
  | .ior => match st with | .inl (.int y) :: .inl (.int x) :: r => o = .inl ((pc + 1), f, .inl (.int (x ||| y)) :: r, h) | _ => False
  | .ixor => match st with | .inl (.int y) :: .inl (.int x) :: r => o = .inl ((pc + 1), f, .inl (.int (x ^^^ y)) :: r, h) | _ => False
  | .ishl => match st with | .inl (.int y) :: .inl (.int x) :: r => o = .inl ((pc + 1), f, .inl (.int (x <<< (y &&& 31))) :: r, h) | _ => False
  | .ishr => match st with | .inl (.int y) :: .inl (.int x) :: r => o = .inl ((pc + 1), f, .inl (.int (x >>> (y &&& 31))) :: r, h) | _ => False
  | .iushr => match st with | .inl (.int y) :: .inl (.int x) :: r => o = .inl ((pc + 1), f, .inl (.int ((x.toUInt32 >>> (y.toUInt32 &&& Int32.toUInt32 31)).toInt32)) :: r, h) | _ => False
  | .idiv => match st with | .inl (.int y) :: .inl (.int x) :: r => (¬ y = 0) ∧ o = .inl ((pc + 1), f, .inl (.int (x / y)) :: r, h) | _ => False
  | .irem => match st with | .inl (.int y) :: .inl (.int x) :: r => (¬ y = 0) ∧ o = .inl ((pc + 1), f, .inl (.int (x - x / y * y)) :: r, h) | _ => False
  | .ladd => match st with | .inl (.long y) :: .inl (.long x) :: r => o = .inl ((pc + 1), f, .inl (.long (x + y)) :: r, h) | _ => False
  | .lsub => match st with | .inl (.long y) :: .inl (.long x) :: r => o = .inl ((pc + 1), f, .inl (.long (x - y)) :: r, h) | _ => False
  | .lmul => match st with | .inl (.long y) :: .inl (.long x) :: r => o = .inl ((pc + 1), f, .inl (.long (x * y)) :: r, h) | _ => False
  | .land => match st with | .inl (.long y) :: .inl (.long x) :: r => o = .inl ((pc + 1), f, .inl (.long (x &&& y)) :: r, h) | _ => False
  | .lor => match st with | .inl (.long y) :: .inl (.long x) :: r => o = .inl ((pc + 1), f, .inl (.long (x ||| y)) :: r, h) | _ => False
  | .ldiv => match st with | .inl (.long y) :: .inl (.long x) :: r => (¬ y = 0) ∧ o = .inl ((pc + 1), f, .inl (.long (x / y)) :: r, h) | _ => False
  | .lshl => match st with | .inl (.int y) :: .inl (.long x) :: r => o = .inl ((pc + 1), f, .inl (.long (x <<< (y.toInt64 &&& 63))) :: r, h) | _ => False
  | .lcmp => match st with | .inl (.long y) :: .inl (.long x) :: r => o = .inl ((pc + 1), f, .inl (.int (lg_cmp x y)) :: r, h) | _ => False
  | .ineg => match st with | .inl (.int x) :: r => o = .inl ((pc + 1), f, .inl (.int (-x)) :: r, h) | _ => False
  | .lneg => match st with | .inl (.long x) :: r => o = .inl ((pc + 1), f, .inl (.long (-x)) :: r, h) | _ => False
  | .i2l => match st with | .inl (.int x) :: r => o = .inl ((pc + 1), f, .inl (.long (x.toInt64)) :: r, h) | _ => False
  | .l2i => match st with | .inl (.long x) :: r => o = .inl ((pc + 1), f, .inl (.int (x.toInt32)) :: r, h) | _ => False
  | .i2b => match st with | .inl (.int x) :: r => o = .inl ((pc + 1), f, .inl (.int (x.toInt8.toInt32)) :: r, h) | _ => False
  | .i2s => match st with | .inl (.int x) :: r => o = .inl ((pc + 1), f, .inl (.int (x.toInt16.toInt32)) :: r, h) | _ => False
  | .pop => match st with | x :: r => o = .inl ((pc + 1), f, r, h) | _ => False
  | .pop2 => match st with | x :: r => o = .inl ((pc + 1), f, r, h) | _ => False
  | .dup => match st with | x :: r => o = .inl ((pc + 1), f, x :: x :: r, h) | _ => False
  | .dup2 => match st with | x :: y :: r => o = .inl ((pc + 1), f, x :: y :: x :: y :: r, h) | _ => False
  | .ifCond cd k => match st with | .inl (.int x) :: r => (mx_cnd cd x 0 ∧ o = .inl (a, f, r, h)) ∨ (¬ mx_cnd cd x 0 ∧ o = .inl (pc + 3, f, r, h)) | _ => False
  | .if_icmp cd k => match st with | .inl (.int y) :: .inl (.int x) :: r => (mx_cnd cd x y ∧ o = .inl (a, f, r, h)) ∨ (¬ mx_cnd cd x y ∧ o = .inl (pc + 3, f, r, h)) | _ => False
  | .ifnull k => match st with | .inr _ :: r => o = .inl ((pc + 3), f, r, h) | .inl .null :: r => o = .inl (a, f, r, h) | _ => False
  | .ifnonnull k => match st with | .inr _ :: r => o = .inl (a, f, r, h) | .inl .null :: r => o = .inl ((pc + 3), f, r, h) | _ => False
  | .tableswitch df lo hi offs => match st with | .inl (.int x) :: r => ∃ tgt : Nat, (((x.toInt < lo ∨ hi < x.toInt) ∧ (pc : Int) + df = tgt) ∨ (lo ≤ x.toInt ∧ x.toInt ≤ hi ∧ ∃ o, offs[(x.toInt - lo).toNat]? = some o ∧ (pc : Int) + o = tgt)) ∧ o = .inl (tgt, f, r, h) | _ => False
  | .lookupswitch df ps => match st with | .inl (.int x) :: r => (0 ≤ (pc : Int) + Op.lookupswitch.offset ps.toList df x.toInt) ∧ o = .inl (((pc : Int) + Op.lookupswitch.offset ps.toList df x.toInt).toNat, f, r, h) | _ => False
  | .ireturn => match st with | [.inl (.int x)] => mx_rb (mx_rt mid) x (o = .inr (.inl (some (.inl (.int x))))) | _ => False
  | .lreturn => match st with | [.inl (.long x)] => o = .inr (.inl (some (.inl (.long x)))) | _ => False
  | .areturn => match st with | [.inl .null] => o = .inr (.inl (some (.inl .null))) | [.inr x] => o = .inr (.inl (some (.inr x))) | _ => False
  | .return_ => match st with | [] => o = .inr (.inl (none)) | _ => False
  | .iaload => match st with | .inl (.int i) :: .inr x :: r => (Nat.beq (mx_lo x).1 100) = true ∧ vp_in i (mx_lo x).2 ∧ o = .inl (pc + 1, f, .inl (.int (h.2.1 x i.toNatClampNeg)) :: r, h) | .inl (.int i) :: .inl (.float u) :: r => vp_in i (mx_slen E u) ∧ o = .inl (pc + 1, f, .inl (.int (mx_sval E u i.toNatClampNeg)) :: r, h) | _ => False
  | .baload => match st with | .inl (.int i) :: .inr x :: r => (Nat.beq (mx_lo x).1 102 || Nat.beq (mx_lo x).1 103) = true ∧ vp_in i (mx_lo x).2 ∧ o = .inl (pc + 1, f, .inl (.int (h.2.1 x i.toNatClampNeg)) :: r, h) | _ => False
  | .laload => match st with | .inl (.int i) :: .inr x :: r => (Nat.beq (mx_lo x).1 101) = true ∧ vp_in i (mx_lo x).2 ∧ o = .inl (pc + 1, f, .inl (.long (h.2.2.1 x i.toNatClampNeg)) :: r, h) | _ => False
  | .aaload => match st with | .inl (.int i) :: .inr x :: r => ((mx_lo x).1 = 104 ∧ vp_in i (mx_lo x).2 ∧ ((∃ j, h.2.2.2 x i.toNatClampNeg = some (.inr (j, 0)) ∧ o = .inl (pc + 1, f, .inr (.inr (j, 0)) :: r, h)) ∨ (h.2.2.2 x i.toNatClampNeg = none ∧ o = .inl (pc + 1, f, .inl .null :: r, h)))) ∨ ((mx_lo x).1 = 105 ∧ vp_in i (mx_lo x).2 ∧ o = .inl (pc + 1, f, .inr (.inr (i.toNatClampNeg, 20)) :: r, h)) | _ => False
  | .arraylength => match st with | .inr x :: r => o = .inl ((pc + 1), f, .inl (.int (Int32.ofNat (mx_lo x).2)) :: r, h) | .inl (.float u) :: r => o = .inl (pc + 1, f, .inl (.int (Int32.ofNat (mx_slen E u))) :: r, h) | _ => False
  | .iastore => match st with | .inl (.int y) :: .inl (.int i) :: .inr x :: r => Nat.beq (mx_lo x).1 100 = true ∧ vp_in i (mx_lo x).2 ∧ o = .inl (pc + 1, f, r, mx_uI h x i.toNatClampNeg y) | _ => False
  | .lastore => match st with | .inl (.long y) :: .inl (.int i) :: .inr x :: r => Nat.beq (mx_lo x).1 101 = true ∧ vp_in i (mx_lo x).2 ∧ o = .inl (pc + 1, f, r, mx_uL h x i.toNatClampNeg y) | _ => False
  | .bastore => match st with | .inl (.int y) :: .inl (.int i) :: .inr x :: r => ((mx_lo x).1 = 102 ∧ vp_in i (mx_lo x).2 ∧ o = .inl (pc + 1, f, r, mx_uI h x i.toNatClampNeg (vp_nar .byte y))) ∨ ((mx_lo x).1 = 103 ∧ vp_in i (mx_lo x).2 ∧ o = .inl (pc + 1, f, r, mx_uI h x i.toNatClampNeg (vp_nar .boolean y))) | _ => False
  | .aastore => match st with | .inr (.inr (j, 0)) :: .inl (.int i) :: .inr x :: r => vp_in i (mx_lo x).2 ∧ o = .inl (pc + 1, f, r, mx_uR h x i.toNatClampNeg (some (.inr (j, 0)))) | .inl .null :: .inl (.int i) :: .inr x :: r => vp_in i (mx_lo x).2 ∧ o = .inl (pc + 1, f, r, mx_uR h x i.toNatClampNeg none) | _ => False
  | .getfield n => match st with | .inr x :: r => ∃ v, ml_rd h x a b v ∧ o = .inl (pc + 3, f, v :: r, h) | _ => False
  | .putfield n => match st with | v :: .inr x :: r => mx_pkb a b v (o = .inl (pc + 3, f, r, mx_pf h x b v)) | _ => False
  | .getstatic n => (a = 0 ∧ o = .inl (pc + 3, f, .inl (.float 0) :: st, h)) ∨ (a = 1 ∧ o = .inl (pc + 3, f, .inl (.float 1) :: st, h))
  | .new n => ∃ x, mx_pos x = h.1 ∧ mx_va x ∧ mx_lo x = (a, (mx_cr a).2.2) ∧ o = .inl (pc + 3, f, .inr x :: st, mx_nw h x)
  | .newarray t => match st with | .inl (.int n) :: r => ∃ x, mx_pos x = h.1 ∧ mx_va x ∧ mx_lo x = (100 + mx_ak t, n.toNatClampNeg) ∧ o = .inl (pc + 2, f, .inr x :: r, mx_nw h x) | _ => False
  | .anewarray w => match st with | .inl (.int n) :: r => ∃ x, mx_pos x = h.1 ∧ mx_va x ∧ mx_lo x = (104, n.toNatClampNeg) ∧ o = .inl (pc + 3, f, .inr x :: r, mx_nw h x) | _ => False
  | .invokestatic n => (Nat.beq z 2 = true ∧ mx_mth a st (fun r => o = .inl (pc + 3, f, r, h))) ∨ (Nat.beq z 2 = false ∧ o = .inr (.inr (a, (st.take b).reverse, st.drop b, pc + 3)))
  | .invokevirtual n => ∃ x r, st.drop b = .inr x :: r ∧ o = .inr (.inr (a, .inr x :: (st.take b).reverse, r, pc + 3))
  | .invokespecial n => (Nat.beq a 1000 = true ∧ ∃ x r, st = .inr x :: r ∧ o = .inl (pc + 3, f, r, h)) ∨ (Nat.beq a 1000 = false ∧ ∃ x r, st.drop b = .inr x :: r ∧ o = .inr (.inr (a, .inr x :: (st.take b).reverse, r, pc + 3)))
  | _ => False
/-- what an instruction asks of what follows, if nothing is asked of the machine -/
def ml_l1 (E : mx_Ev) (mid pc : Nat) (ins : Instr) (a b z : Nat) (c : Int32) (l : Int64) (lv : mx_Lv) (st : List mx_V) (h : mx_H) (Q : Option mx_V → mx_H → Prop) (CC : Nat → List mx_V → mx_H → (Option mx_V → mx_H → Prop) → Prop) (κ TT : Nat → mx_Lv → List mx_V → mx_H → Prop) : Prop := match ins with
  | .iconst n => κ (pc + 1) lv (.inl (.int c) :: st) h
  | .bipush n => κ (pc + 2) lv (.inl (.int c) :: st) h
  | .sipush n => κ (pc + 3) lv (.inl (.int c) :: st) h
  | .lconst n => κ (pc + 1) lv (.inl (.long l) :: st) h
  | .ldc n => κ (pc + 2) lv (.inl (.int c) :: st) h
  | .ldc_w n => κ (pc + 3) lv (.inl (.int c) :: st) h
  | .ldc2_w n => κ (pc + 3) lv (.inl (.long l) :: st) h
  | .aconst_null => κ (pc + 1) lv (.inl .null :: st) h
  | .goto k => κ a lv (st) h
  | .iload_n n => match mx_get lv n.val with | some (.inl (.int x)) => κ (pc + 1) lv (.inl (.int x) :: st) h | _ => False
  | .iload n => match mx_get lv n with | some (.inl (.int x)) => κ (pc + 2) lv (.inl (.int x) :: st) h | _ => False
  | .lload_n n => match mx_get lv n.val with | some (.inl (.long x)) => κ (pc + 1) lv (.inl (.long x) :: st) h | _ => False
  | .lload n => match mx_get lv n with | some (.inl (.long x)) => κ (pc + 2) lv (.inl (.long x) :: st) h | _ => False
  | .aload_n n => match mx_get lv n.val with | some x => κ (pc + 1) lv (x :: st) h | none => False
  | .aload n => match mx_get lv n with | some x => κ (pc + 2) lv (x :: st) h | none => False
  | .istore_n n => match st with | .inl (.int x) :: r => κ (pc + 1) (mx_set1 lv n.val (.inl (.int x))) (r) h | _ => False
  | .istore n => match st with | .inl (.int x) :: r => κ (pc + 2) (mx_set1 lv n (.inl (.int x))) (r) h | _ => False
  | .lstore_n n => match st with | .inl (.long x) :: r => κ (pc + 1) (mx_set2 lv n.val (.inl (.long x))) (r) h | _ => False
  | .lstore n => match st with | .inl (.long x) :: r => κ (pc + 2) (mx_set2 lv n (.inl (.long x))) (r) h | _ => False
  | .astore_n n => match st with | x :: r => κ (pc + 1) (mx_set1 lv n.val x) (r) h | _ => False
  | .astore n => match st with | x :: r => κ (pc + 2) (mx_set1 lv n x) (r) h | _ => False
  | .iinc n k => match mx_get lv n with | some (.inl (.int x)) => κ (pc + 3) (mx_set1 lv n (.inl (.int (x + c)))) st h | _ => False
  | .iadd => match st with | .inl (.int y) :: .inl (.int x) :: r => κ (pc + 1) lv (.inl (.int (x + y)) :: r) h | _ => False
  | .isub => match st with | .inl (.int y) :: .inl (.int x) :: r => κ (pc + 1) lv (.inl (.int (x - y)) :: r) h | _ => False
  | .imul => match st with | .inl (.int y) :: .inl (.int x) :: r => κ (pc + 1) lv (.inl (.int (x * y)) :: r) h | _ => False
  | .iand => match st with | .inl (.int y) :: .inl (.int x) :: r => κ (pc + 1) lv (.inl (.int (x &&& y)) :: r) h | _ => False
  | .ior => match st with | .inl (.int y) :: .inl (.int x) :: r => κ (pc + 1) lv (.inl (.int (x ||| y)) :: r) h | _ => False
  | .ixor => match st with | .inl (.int y) :: .inl (.int x) :: r => κ (pc + 1) lv (.inl (.int (x ^^^ y)) :: r) h | _ => False
  | .ishl => match st with | .inl (.int y) :: .inl (.int x) :: r => κ (pc + 1) lv (.inl (.int (x <<< (y &&& 31))) :: r) h | _ => False
  | .ishr => match st with | .inl (.int y) :: .inl (.int x) :: r => κ (pc + 1) lv (.inl (.int (x >>> (y &&& 31))) :: r) h | _ => False
  | .iushr => match st with | .inl (.int y) :: .inl (.int x) :: r => κ (pc + 1) lv (.inl (.int ((x.toUInt32 >>> (y.toUInt32 &&& Int32.toUInt32 31)).toInt32)) :: r) h | _ => False
  | .idiv => match st with | .inl (.int y) :: .inl (.int x) :: r => (¬ y = 0) → κ (pc + 1) lv (.inl (.int (x / y)) :: r) h | _ => False
  | .irem => match st with | .inl (.int y) :: .inl (.int x) :: r => (¬ y = 0) → κ (pc + 1) lv (.inl (.int (x - x / y * y)) :: r) h | _ => False
  | .ladd => match st with | .inl (.long y) :: .inl (.long x) :: r => κ (pc + 1) lv (.inl (.long (x + y)) :: r) h | _ => False
  | .lsub => match st with | .inl (.long y) :: .inl (.long x) :: r => κ (pc + 1) lv (.inl (.long (x - y)) :: r) h | _ => False
  | .lmul => match st with | .inl (.long y) :: .inl (.long x) :: r => κ (pc + 1) lv (.inl (.long (x * y)) :: r) h | _ => False
  | .land => match st with | .inl (.long y) :: .inl (.long x) :: r => κ (pc + 1) lv (.inl (.long (x &&& y)) :: r) h | _ => False
  | .lor => match st with | .inl (.long y) :: .inl (.long x) :: r => κ (pc + 1) lv (.inl (.long (x ||| y)) :: r) h | _ => False
  | .ldiv => match st with | .inl (.long y) :: .inl (.long x) :: r => (¬ y = 0) → κ (pc + 1) lv (.inl (.long (x / y)) :: r) h | _ => False
  | .lshl => match st with | .inl (.int y) :: .inl (.long x) :: r => κ (pc + 1) lv (.inl (.long (x <<< (y.toInt64 &&& 63))) :: r) h | _ => False
  | .lcmp => match st with | .inl (.long y) :: .inl (.long x) :: r => κ (pc + 1) lv (.inl (.int (lg_cmp x y)) :: r) h | _ => False
  | .ineg => match st with | .inl (.int x) :: r => κ (pc + 1) lv (.inl (.int (-x)) :: r) h | _ => False
  | .lneg => match st with | .inl (.long x) :: r => κ (pc + 1) lv (.inl (.long (-x)) :: r) h | _ => False
  | .i2l => match st with | .inl (.int x) :: r => κ (pc + 1) lv (.inl (.long (x.toInt64)) :: r) h | _ => False
  | .l2i => match st with | .inl (.long x) :: r => κ (pc + 1) lv (.inl (.int (x.toInt32)) :: r) h | _ => False
  | .i2b => match st with | .inl (.int x) :: r => κ (pc + 1) lv (.inl (.int (x.toInt8.toInt32)) :: r) h | _ => False
  | .i2s => match st with | .inl (.int x) :: r => κ (pc + 1) lv (.inl (.int (x.toInt16.toInt32)) :: r) h | _ => False
  | .pop => match st with | x :: r => κ (pc + 1) lv (r) h | _ => False
  | .pop2 => match st with | x :: r => κ (pc + 1) lv (r) h | _ => False
  | .dup => match st with | x :: r => κ (pc + 1) lv (x :: x :: r) h | _ => False
  | .dup2 => match st with | x :: y :: r => κ (pc + 1) lv (x :: y :: x :: y :: r) h | _ => False
  | .ifCond cd k => match st with | .inl (.int x) :: r => (mx_cnd cd x 0 → κ a lv r h) ∧ (¬ mx_cnd cd x 0 → κ (pc + 3) lv r h) | _ => False
  | .if_icmp cd k => match st with | .inl (.int y) :: .inl (.int x) :: r => (mx_cnd cd x y → κ a lv r h) ∧ (¬ mx_cnd cd x y → κ (pc + 3) lv r h) | _ => False
  | .ifnull k => match st with | .inr _ :: r => κ (pc + 3) lv (r) h | .inl .null :: r => κ a lv (r) h | _ => False
  | .ifnonnull k => match st with | .inr _ :: r => κ a lv (r) h | .inl .null :: r => κ (pc + 3) lv (r) h | _ => False
  | .tableswitch df lo hi offs => match st with | .inl (.int x) :: r => ∀ tgt : Nat, ((x.toInt < lo ∨ hi < x.toInt) ∧ (pc : Int) + df = tgt) ∨ (lo ≤ x.toInt ∧ x.toInt ≤ hi ∧ ∃ o, offs[(x.toInt - lo).toNat]? = some o ∧ (pc : Int) + o = tgt) → TT tgt lv r h | _ => False
  | .lookupswitch df ps => match st with | .inl (.int x) :: r => (0 ≤ (pc : Int) + Op.lookupswitch.offset ps.toList df x.toInt) → TT ((pc : Int) + Op.lookupswitch.offset ps.toList df x.toInt).toNat lv r h | _ => False
  | .ireturn => match st with | [.inl (.int x)] => ml_rb (mx_rt mid) x (Q (some (.inl (.int x))) h) | _ => False
  | .lreturn => match st with | [.inl (.long x)] => Q (some (.inl (.long x))) h | _ => False
  | .areturn => match st with | [.inl .null] => Q (some (.inl .null)) h | [.inr x] => Q (some (.inr x)) h | _ => False
  | .return_ => match st with | [] => Q (none) h | _ => False
  | .iaload => match st with | .inl (.int i) :: .inr x :: r => ml_i (Nat.beq (mx_lo x).1 100) (vp_in i (mx_lo x).2 → κ (pc + 1) lv (.inl (.int (h.2.1 x i.toNatClampNeg)) :: r) h) | .inl (.int i) :: .inl (.float u) :: r => vp_in i (mx_slen E u) → κ (pc + 1) lv (.inl (.int (mx_sval E u i.toNatClampNeg)) :: r) h | .inl (.int i) :: .inl .null :: _ => True | _ => False
  | .baload => match st with | .inl (.int i) :: .inr x :: r => ml_i (Nat.beq (mx_lo x).1 102 || Nat.beq (mx_lo x).1 103) (vp_in i (mx_lo x).2 → κ (pc + 1) lv (.inl (.int (h.2.1 x i.toNatClampNeg)) :: r) h) | .inl (.int i) :: .inl .null :: _ => True | _ => False
  | .laload => match st with | .inl (.int i) :: .inr x :: r => ml_i (Nat.beq (mx_lo x).1 101) (vp_in i (mx_lo x).2 → κ (pc + 1) lv (.inl (.long (h.2.2.1 x i.toNatClampNeg)) :: r) h) | .inl (.int i) :: .inl .null :: _ => True | _ => False
  | .aaload => match st with | .inl (.int i) :: .inr x :: r => (match (mx_lo x).1 with | 104 => vp_in i (mx_lo x).2 → (∀ j, h.2.2.2 x i.toNatClampNeg = some (.inr (j, 0)) → κ (pc + 1) lv (.inr (.inr (j, 0)) :: r) h) ∧ (h.2.2.2 x i.toNatClampNeg = none → κ (pc + 1) lv (.inl .null :: r) h) | 105 => vp_in i (mx_lo x).2 → κ (pc + 1) lv (.inr (.inr (i.toNatClampNeg, 20)) :: r) h | _ => False) | _ => False
  | .arraylength => match st with | .inr x :: r => κ (pc + 1) lv (.inl (.int (Int32.ofNat (mx_lo x).2)) :: r) h | .inl (.float u) :: r => κ (pc + 1) lv (.inl (.int (Int32.ofNat (mx_slen E u))) :: r) h | _ => False
  | .iastore => match st with | .inl (.int y) :: .inl (.int i) :: .inr x :: r => ml_i (Nat.beq (mx_lo x).1 100) (vp_in i (mx_lo x).2 → κ (pc + 1) lv r (mx_uI h x i.toNatClampNeg y)) | _ => False
  | .lastore => match st with | .inl (.long y) :: .inl (.int i) :: .inr x :: r => ml_i (Nat.beq (mx_lo x).1 101) (vp_in i (mx_lo x).2 → κ (pc + 1) lv r (mx_uL h x i.toNatClampNeg y)) | _ => False
  | .bastore => match st with | .inl (.int y) :: .inl (.int i) :: .inr x :: r => (match (mx_lo x).1 with | 102 => vp_in i (mx_lo x).2 → κ (pc + 1) lv r (mx_uI h x i.toNatClampNeg (vp_nar .byte y)) | 103 => vp_in i (mx_lo x).2 → κ (pc + 1) lv r (mx_uI h x i.toNatClampNeg (vp_nar .boolean y)) | _ => False) | _ => False
  | .aastore => match st with | .inr (.inr (j, 0)) :: .inl (.int i) :: .inr x :: r => vp_in i (mx_lo x).2 → κ (pc + 1) lv r (mx_uR h x i.toNatClampNeg (some (.inr (j, 0)))) | .inl .null :: .inl (.int i) :: .inr x :: r => vp_in i (mx_lo x).2 → κ (pc + 1) lv r (mx_uR h x i.toNatClampNeg none) | _ => False
  | .getfield n => match st with | .inr x :: r => ml_rl h x a b (fun v => κ (pc + 3) lv (v :: r) h) | .inl .null :: _ => True | _ => False
  | .putfield n => match st with | v :: .inr x :: r => ml_pk a b v (κ (pc + 3) lv r (mx_pf h x b v)) | _ :: .inl .null :: _ => True | _ => False
  | .getstatic n => match a with | 0 => κ (pc + 3) lv (.inl (.float 0) :: st) h | 1 => κ (pc + 3) lv (.inl (.float 1) :: st) h | _ => False
  | .new n => ∀ x, mx_pos x = h.1 → mx_va x → mx_lo x = (a, (mx_cr a).2.2) → κ (pc + 3) lv (.inr x :: st) (mx_nw h x)
  | .newarray t => match st with | .inl (.int n) :: r => ∀ x, mx_pos x = h.1 → mx_va x → mx_lo x = (100 + mx_ak t, n.toNatClampNeg) → κ (pc + 2) lv (.inr x :: r) (mx_nw h x) | _ => False
  | .anewarray w => match st with | .inl (.int n) :: r => ∀ x, mx_pos x = h.1 → mx_va x → mx_lo x = (104, n.toNatClampNeg) → κ (pc + 3) lv (.inr x :: r) (mx_nw h x) | _ => False
  | .invokestatic n => match Nat.beq z 2 with | true => mx_mth a st (fun r => κ (pc + 3) lv r h) | false => CC a (st.take b).reverse h (fun v h' => ml_rc (mx_rt a) v (fun s => κ (pc + 3) lv (s ++ st.drop b) h'))
  | .invokevirtual n => match st.drop b with | .inr x :: r => CC a (.inr x :: (st.take b).reverse) h (fun v h' => ml_rc (mx_rt a) v (fun s => κ (pc + 3) lv (s ++ r) h')) | .inl .null :: _ => True | _ => False
  | .invokespecial n => match Nat.beq a 1000 with | true => (match st with | .inr _ :: r => κ (pc + 3) lv r h | _ => False) | false => (match st.drop b with | .inr x :: r => CC a (.inr x :: (st.take b).reverse) h (fun v h' => ml_rc (mx_rt a) v (fun s => κ (pc + 3) lv (s ++ r) h')) | _ => False)
  | _ => False
def ml_K (κ TT : Nat → mx_Lv → List mx_V → mx_H → Prop) (CC : Nat → List mx_V → mx_H → (Option mx_V → mx_H → Prop) → Prop) (Q : Option mx_V → mx_H → Prop) (h : mx_H) (lv : mx_Lv) : mx_O → Prop
  | .inl (pc', f', st', h') => ∃ lv', mx_co lv' f' ∧ (κ pc' lv' st' h' ∨ TT pc' lv' st' h')
  | .inr (.inl v) => Q v h
  | .inr (.inr (a, av, rest, pc')) => CC a av h (fun v h' => ml_rc (mx_rt a) v (fun s => κ pc' lv (s ++ rest) h'))
def ml_K2 (κ TT : Nat → Nat → Nat → mx_Lv → List mx_V → mx_H → Prop) (CC : Nat → Nat → List mx_V → mx_H → (Option mx_V → mx_H → Prop) → Prop) (Q : Option mx_V → mx_H → Prop) (h : mx_H) (lv : mx_Lv) : mx_O → Prop
  | .inl (pc', f', st', h') => ∃ bc bs lv', mx_co lv' f' ∧ (κ bc bs pc' lv' st' h' ∨ TT bc bs pc' lv' st' h')
  | .inr (.inl v) => Q v h
  | .inr (.inr (a, av, rest, pc')) => ∃ e bc bs, CC e a av h (fun v h' => mx_rc (mx_rt a) v (fun s => κ bc bs pc' lv (s ++ rest) h'))
section MLK
variable {Q : Option mx_V → mx_H → Prop} {h h' : mx_H} {lv lv' : mx_Lv} {pc' bc bs : Nat} {f' : mx_F} {st' : List mx_V}
theorem ml_Ki {κ TT : Nat → mx_Lv → List mx_V → mx_H → Prop} {CC : Nat → List mx_V → mx_H → (Option mx_V → mx_H → Prop) → Prop} (hf : mx_co lv' f') (hk : κ pc' lv' st' h') : ml_K κ TT CC Q h lv (.inl (pc', f', st', h')) := ⟨lv', hf, Or.inl hk⟩
theorem ml_Kt {κ TT : Nat → mx_Lv → List mx_V → mx_H → Prop} {CC : Nat → List mx_V → mx_H → (Option mx_V → mx_H → Prop) → Prop} (hf : mx_co lv' f') (hk : TT pc' lv' st' h') : ml_K κ TT CC Q h lv (.inl (pc', f', st', h')) := ⟨lv', hf, Or.inr hk⟩
theorem ml_Kj {κ TT : Nat → Nat → Nat → mx_Lv → List mx_V → mx_H → Prop} {CC : Nat → Nat → List mx_V → mx_H → (Option mx_V → mx_H → Prop) → Prop} (hf : mx_co lv' f') (hk : κ bc bs pc' lv' st' h') : ml_K2 κ TT CC Q h lv (.inl (pc', f', st', h')) := ⟨bc, bs, lv', hf, Or.inl hk⟩
theorem ml_Ku {κ TT : Nat → Nat → Nat → mx_Lv → List mx_V → mx_H → Prop} {CC : Nat → Nat → List mx_V → mx_H → (Option mx_V → mx_H → Prop) → Prop} (hf : mx_co lv' f') (hk : TT bc bs pc' lv' st' h') : ml_K2 κ TT CC Q h lv (.inl (pc', f', st', h')) := ⟨bc, bs, lv', hf, Or.inr hk⟩
end MLK

set_option maxHeartbeats 4000000 in
theorem ml_A {E : mx_Ev} {mid pc : Nat} {ins : Instr} {a b z : Nat} {c : Int32} {l : Int64} {lv : mx_Lv} {f : mx_F} {st : List mx_V} {h : mx_H} {md : Bool} {d bc bs : Nat} {Q Q' : Option mx_V → mx_H → Prop} {CC CC' : Nat → Nat → List mx_V → mx_H → (Option mx_V → mx_H → Prop) → Prop} {κ κ' TT TT' : Nat → Nat → Nat → mx_Lv → List mx_V → mx_H → Prop}
    (hm : (md || ml_nor ins a b) = true) (hf : mx_co lv f)
    (kg : ∀ bc bs pc' lv' f' st' h', mx_co lv' f' → ml_s1 E mid pc ins a b z c l f st h (.inl (pc', f', st', h')) → κ bc bs pc' lv' st' h' → κ' bc bs pc' lv' st' h')
    (kt : ∀ bc bs pc' lv' f' st' h', mx_co lv' f' → ml_s1 E mid pc ins a b z c l f st h (.inl (pc', f', st', h')) → TT bc bs pc' lv' st' h' → TT' bc bs pc' lv' st' h')
    (kr : ∀ v, ml_s1 E mid pc ins a b z c l f st h (.inr (.inl v)) → Q v h → Q' v h)
    (kc : ∀ e bc bs a' av rest pc', ml_s1 E mid pc ins a b z c l f st h (.inr (.inr (a', av, rest, pc'))) → CC e a' av h (fun v h' => mx_rc (mx_rt a') v (fun s => κ bc bs pc' lv (s ++ rest) h')) → CC' e a' av h (fun v h' => mx_rc (mx_rt a') v (fun s => κ' bc bs pc' lv (s ++ rest) h')))
    (hk : mx_one E md d bc bs mid pc ins a b z c l lv st h Q CC κ TT) : mx_one E md d bc bs mid pc ins a b z c l lv st h Q' CC' κ' TT' := by
  cases ins with
  | iconst n =>
    simp only [mx_one] at hk ⊢
    exact kg _ _ _ _ _ _ _ hf rfl hk
  | bipush n =>
    simp only [mx_one] at hk ⊢
    exact kg _ _ _ _ _ _ _ hf rfl hk
  | sipush n =>
    simp only [mx_one] at hk ⊢
    exact kg _ _ _ _ _ _ _ hf rfl hk
  | lconst n =>
    simp only [mx_one] at hk ⊢
    exact kg _ _ _ _ _ _ _ hf rfl hk
  | ldc n =>
    simp only [mx_one] at hk ⊢
    exact kg _ _ _ _ _ _ _ hf rfl hk
  | ldc_w n =>
    simp only [mx_one] at hk ⊢
    exact kg _ _ _ _ _ _ _ hf rfl hk
  | ldc2_w n =>
    simp only [mx_one] at hk ⊢
    exact kg _ _ _ _ _ _ _ hf rfl hk
  | aconst_null =>
    simp only [mx_one] at hk ⊢
    exact kg _ _ _ _ _ _ _ hf rfl hk
  | goto k =>
    simp only [mx_one] at hk ⊢
    exact kg _ _ _ _ _ _ _ hf rfl hk
  | iload_n n =>
    simp only [mx_one] at hk ⊢
    split at hk
    · next x hx =>
      exact kg _ _ _ _ _ _ _ hf ⟨x, ml_cog hf hx, rfl⟩ hk
    · exact hk.elim
  | iload n =>
    simp only [mx_one] at hk ⊢
    split at hk
    · next x hx =>
      exact kg _ _ _ _ _ _ _ hf ⟨x, ml_cog hf hx, rfl⟩ hk
    · exact hk.elim
  | lload_n n =>
    simp only [mx_one] at hk ⊢
    split at hk
    · next x hx =>
      exact kg _ _ _ _ _ _ _ hf ⟨x, ml_cog hf hx, rfl⟩ hk
    · exact hk.elim
  | lload n =>
    simp only [mx_one] at hk ⊢
    split at hk
    · next x hx =>
      exact kg _ _ _ _ _ _ _ hf ⟨x, ml_cog hf hx, rfl⟩ hk
    · exact hk.elim
  | aload_n n =>
    simp only [mx_one] at hk ⊢
    split at hk
    · next x hx =>
      obtain ⟨q1, q2⟩ := mx_if_t hk
      exact ml_if q1 (kg _ _ _ _ _ _ _ hf ⟨x, ml_cog hf hx, rfl⟩ q2)
    · exact hk.elim
  | aload n =>
    simp only [mx_one] at hk ⊢
    split at hk
    · next x hx =>
      obtain ⟨q1, q2⟩ := mx_if_t hk
      exact ml_if q1 (kg _ _ _ _ _ _ _ hf ⟨x, ml_cog hf hx, rfl⟩ q2)
    · exact hk.elim
  | istore_n n =>
    simp only [mx_one] at hk ⊢
    split at hk
    · exact kg _ _ _ _ _ _ _ (ml_co1 hf) rfl hk
    · exact hk.elim
  | istore n =>
    simp only [mx_one] at hk ⊢
    split at hk
    · exact kg _ _ _ _ _ _ _ (ml_co1 hf) rfl hk
    · exact hk.elim
  | lstore_n n =>
    simp only [mx_one] at hk ⊢
    split at hk
    · exact kg _ _ _ _ _ _ _ (ml_co2 hf) rfl hk
    · exact hk.elim
  | lstore n =>
    simp only [mx_one] at hk ⊢
    split at hk
    · exact kg _ _ _ _ _ _ _ (ml_co2 hf) rfl hk
    · exact hk.elim
  | astore_n n =>
    simp only [mx_one] at hk ⊢
    split at hk
    · exact ml_if (mx_if_t hk).1 (kg _ _ _ _ _ _ _ (ml_co1 hf) rfl (mx_if_t hk).2)
    · exact hk.elim
  | astore n =>
    simp only [mx_one] at hk ⊢
    split at hk
    · exact ml_if (mx_if_t hk).1 (kg _ _ _ _ _ _ _ (ml_co1 hf) rfl (mx_if_t hk).2)
    · exact hk.elim
  | iinc n k =>
    simp only [mx_one] at hk ⊢
    split at hk
    · next x hx =>
      exact kg _ _ _ _ _ _ _ (ml_co1 hf) ⟨x, ml_cog hf hx, rfl⟩ hk
    · exact hk.elim
  | iadd =>
    simp only [mx_one] at hk ⊢
    split at hk
    · exact kg _ _ _ _ _ _ _ hf rfl hk
    · exact hk.elim
  | isub =>
    simp only [mx_one] at hk ⊢
    split at hk
    · exact kg _ _ _ _ _ _ _ hf rfl hk
    · exact hk.elim
  | imul =>
    simp only [mx_one] at hk ⊢
    split at hk
    · exact kg _ _ _ _ _ _ _ hf rfl hk
    · exact hk.elim
  | iand =>
    simp only [mx_one] at hk ⊢
    split at hk
    · exact kg _ _ _ _ _ _ _ hf rfl hk
    · exact hk.elim
  | ior =>
    simp only [mx_one] at hk ⊢
    split at hk
    · exact kg _ _ _ _ _ _ _ hf rfl hk
    · exact hk.elim
  | ixor =>
    simp only [mx_one] at hk ⊢
    split at hk
    · exact kg _ _ _ _ _ _ _ hf rfl hk
    · exact hk.elim
  | ishl =>
    simp only [mx_one] at hk ⊢
    split at hk
    · exact kg _ _ _ _ _ _ _ hf rfl hk
    · exact hk.elim
  | ishr =>
    simp only [mx_one] at hk ⊢
    split at hk
    · exact kg _ _ _ _ _ _ _ hf rfl hk
    · exact hk.elim
  | iushr =>
    simp only [mx_one] at hk ⊢
    split at hk
    · exact kg _ _ _ _ _ _ _ hf rfl hk
    · exact hk.elim
  | idiv =>
    simp only [mx_one] at hk ⊢
    split at hk
    · exact ⟨hk.1, kg _ _ _ _ _ _ _ hf ⟨hk.1, rfl⟩ hk.2⟩
    · exact hk.elim
  | irem =>
    simp only [mx_one] at hk ⊢
    split at hk
    · exact ⟨hk.1, kg _ _ _ _ _ _ _ hf ⟨hk.1, rfl⟩ hk.2⟩
    · exact hk.elim
  | ladd =>
    simp only [mx_one] at hk ⊢
    split at hk
    · exact kg _ _ _ _ _ _ _ hf rfl hk
    · exact hk.elim
  | lsub =>
    simp only [mx_one] at hk ⊢
    split at hk
    · exact kg _ _ _ _ _ _ _ hf rfl hk
    · exact hk.elim
  | lmul =>
    simp only [mx_one] at hk ⊢
    split at hk
    · exact kg _ _ _ _ _ _ _ hf rfl hk
    · exact hk.elim
  | land =>
    simp only [mx_one] at hk ⊢
    split at hk
    · exact kg _ _ _ _ _ _ _ hf rfl hk
    · exact hk.elim
  | lor =>
    simp only [mx_one] at hk ⊢
    split at hk
    · exact kg _ _ _ _ _ _ _ hf rfl hk
    · exact hk.elim
  | ldiv =>
    simp only [mx_one] at hk ⊢
    split at hk
    · exact ⟨hk.1, kg _ _ _ _ _ _ _ hf ⟨hk.1, rfl⟩ hk.2⟩
    · exact hk.elim
  | lshl =>
    simp only [mx_one] at hk ⊢
    split at hk
    · exact kg _ _ _ _ _ _ _ hf rfl hk
    · exact hk.elim
  | lcmp =>
    simp only [mx_one] at hk ⊢
    split at hk
    · exact kg _ _ _ _ _ _ _ hf rfl hk
    · exact hk.elim
  | ineg =>
    simp only [mx_one] at hk ⊢
    split at hk
    · exact kg _ _ _ _ _ _ _ hf rfl hk
    · exact hk.elim
  | lneg =>
    simp only [mx_one] at hk ⊢
    split at hk
    · exact kg _ _ _ _ _ _ _ hf rfl hk
    · exact hk.elim
  | i2l =>
    simp only [mx_one] at hk ⊢
    split at hk
    · exact kg _ _ _ _ _ _ _ hf rfl hk
    · exact hk.elim
  | l2i =>
    simp only [mx_one] at hk ⊢
    split at hk
    · exact kg _ _ _ _ _ _ _ hf rfl hk
    · exact hk.elim
  | i2b =>
    simp only [mx_one] at hk ⊢
    split at hk
    · exact kg _ _ _ _ _ _ _ hf rfl hk
    · exact hk.elim
  | i2s =>
    simp only [mx_one] at hk ⊢
    split at hk
    · exact kg _ _ _ _ _ _ _ hf rfl hk
    · exact hk.elim
  | pop =>
    simp only [mx_one] at hk ⊢
    split at hk
    · exact ml_if (mx_if_t hk).1 (kg _ _ _ _ _ _ _ hf rfl (mx_if_t hk).2)
    · exact hk.elim
  | pop2 =>
    simp only [mx_one] at hk ⊢
    split at hk
    · exact ml_if (mx_if_t hk).1 (kg _ _ _ _ _ _ _ hf rfl (mx_if_t hk).2)
    · exact hk.elim
  | dup =>
    simp only [mx_one] at hk ⊢
    split at hk
    · exact ml_if (mx_if_t hk).1 (kg _ _ _ _ _ _ _ hf rfl (mx_if_t hk).2)
    · exact hk.elim
  | dup2 =>
    simp only [mx_one] at hk ⊢
    split at hk
    · exact ml_if (mx_if_t hk).1 (kg _ _ _ _ _ _ _ hf rfl (mx_if_t hk).2)
    · exact hk.elim
  | ifCond cd k =>
    simp only [mx_one] at hk ⊢
    split at hk
    · exact ⟨fun q => kg _ _ _ _ _ _ _ hf (Or.inl ⟨q, rfl⟩) (hk.1 q), fun q => kg _ _ _ _ _ _ _ hf (Or.inr ⟨q, rfl⟩) (hk.2 q)⟩
    · exact hk.elim
  | if_icmp cd k =>
    simp only [mx_one] at hk ⊢
    split at hk
    · exact ⟨fun q => kg _ _ _ _ _ _ _ hf (Or.inl ⟨q, rfl⟩) (hk.1 q), fun q => kg _ _ _ _ _ _ _ hf (Or.inr ⟨q, rfl⟩) (hk.2 q)⟩
    · exact hk.elim
  | ifnull k =>
    simp only [mx_one] at hk ⊢
    split at hk
    · exact kg _ _ _ _ _ _ _ hf rfl hk
    · exact kg _ _ _ _ _ _ _ hf rfl hk
    · exact hk.elim
  | ifnonnull k =>
    simp only [mx_one] at hk ⊢
    split at hk
    · exact kg _ _ _ _ _ _ _ hf rfl hk
    · exact kg _ _ _ _ _ _ _ hf rfl hk
    · exact hk.elim
  | tableswitch df lo hi offs =>
    simp only [mx_one] at hk ⊢
    split at hk
    · exact fun tgt q => kt _ _ _ _ _ _ _ hf ⟨tgt, q, rfl⟩ (hk tgt q)
    · exact hk.elim
  | lookupswitch df ps =>
    simp only [mx_one] at hk ⊢
    split at hk
    · exact ⟨hk.1, kt _ _ _ _ _ _ _ hf ⟨hk.1, rfl⟩ hk.2⟩
    · exact hk.elim
  | ireturn =>
    simp only [mx_one] at hk ⊢
    split at hk
    · exact mx_rb_m hk (kr _ (mx_rb_m hk (fun _ => rfl)))
    · exact hk.elim
  | lreturn =>
    simp only [mx_one] at hk ⊢
    split at hk
    · exact kr _ rfl hk
    · exact hk.elim
  | areturn =>
    simp only [mx_one] at hk ⊢
    split at hk
    · exact kr _ rfl hk
    · exact kr _ rfl hk
    · exact hk.elim
  | return_ =>
    simp only [mx_one] at hk ⊢
    split at hk
    · exact kr _ rfl hk
    · exact hk.elim
  | iaload =>
    simp only [mx_one] at hk ⊢
    split at hk
    · obtain ⟨q1, q2, q3⟩ := mx_if_t hk
      exact ml_if q1 ⟨q2, kg _ _ _ _ _ _ _ hf ⟨q1, q2, rfl⟩ q3⟩
    · exact ⟨hk.1, hk.2.1, kg _ _ _ _ _ _ _ hf ⟨hk.2.1, rfl⟩ hk.2.2⟩
    · exact hk.elim
  | baload =>
    simp only [mx_one] at hk ⊢
    split at hk
    · obtain ⟨q1, q2, q3⟩ := mx_if_t hk
      exact ml_if q1 ⟨q2, kg _ _ _ _ _ _ _ hf ⟨q1, q2, rfl⟩ q3⟩
    · exact hk.elim
  | laload =>
    simp only [mx_one] at hk ⊢
    split at hk
    · obtain ⟨q1, q2, q3⟩ := mx_if_t hk
      exact ml_if q1 ⟨q2, kg _ _ _ _ _ _ _ hf ⟨q1, q2, rfl⟩ q3⟩
    · exact hk.elim
  | aaload =>
    simp only [mx_one] at hk ⊢
    split at hk
    · next i x r =>
      split at hk
      · next hq =>
        obtain ⟨q1, q2, q3, q4⟩ := hk
        exact ⟨q1, fun j q => kg _ _ _ _ _ _ _ hf (Or.inl ⟨hq, q1, Or.inl ⟨j, q, rfl⟩⟩) (q2 j q), fun q => kg _ _ _ _ _ _ _ hf (Or.inl ⟨hq, q1, Or.inr ⟨q, rfl⟩⟩) (q3 q), q4⟩
      · next hq =>
        exact ⟨hk.1, hk.2.1, kg _ _ _ _ _ _ _ hf (Or.inr ⟨hq, hk.1, rfl⟩) hk.2.2⟩
      · exact hk.elim
    · exact hk.elim
  | arraylength =>
    simp only [mx_one] at hk ⊢
    split at hk
    · exact ml_if (mx_if_t hk).1 (kg _ _ _ _ _ _ _ hf rfl (mx_if_t hk).2)
    · exact ⟨hk.1, kg _ _ _ _ _ _ _ hf rfl hk.2⟩
    · exact hk.elim
  | iastore =>
    simp only [mx_one] at hk ⊢
    split at hk
    · obtain ⟨q1, q2, q3⟩ := mx_if_t hk
      exact ml_if q1 ⟨q2, kg _ _ _ _ _ _ _ hf ⟨q1, q2, rfl⟩ q3⟩
    · exact hk.elim
  | lastore =>
    simp only [mx_one] at hk ⊢
    split at hk
    · obtain ⟨q1, q2, q3⟩ := mx_if_t hk
      exact ml_if q1 ⟨q2, kg _ _ _ _ _ _ _ hf ⟨q1, q2, rfl⟩ q3⟩
    · exact hk.elim
  | bastore =>
    simp only [mx_one] at hk ⊢
    split at hk
    · next y i x r =>
      split at hk
      · next hq =>
        exact ⟨hk.1, kg _ _ _ _ _ _ _ hf (Or.inl ⟨hq, hk.1, rfl⟩) hk.2⟩
      · next hq =>
        exact ⟨hk.1, kg _ _ _ _ _ _ _ hf (Or.inr ⟨hq, hk.1, rfl⟩) hk.2⟩
      · exact hk.elim
    · exact hk.elim
  | aastore =>
    simp only [mx_one] at hk ⊢
    split at hk
    · obtain ⟨q1, q2, q3, q4⟩ := mx_if_t hk
      exact ml_if q1 ⟨q2, q3, kg _ _ _ _ _ _ _ hf ⟨q2, rfl⟩ q4⟩
    · obtain ⟨q1, q2, q3, q4⟩ := mx_if_t hk
      exact ml_if q1 ⟨q2, q3, kg _ _ _ _ _ _ _ hf ⟨q2, rfl⟩ q4⟩
    · exact hk.elim
  | getfield n =>
    simp only [mx_one] at hk ⊢
    split at hk
    · obtain ⟨q1, q2⟩ := mx_if_t hk
      exact ml_if q1 (ml_rd_m (ml_nor_g hm) (fun v s q => kg _ _ _ _ _ _ _ hf ⟨v, s, rfl⟩ q) q2)
    · exact hk.elim
  | putfield n =>
    simp only [mx_one] at hk ⊢
    split at hk
    · next v x r =>
      obtain ⟨q1, q2⟩ := mx_if_t hk
      refine ml_if q1 (ml_pkm q2 (fun q => ?_))
      split at q
      · next hn =>
        exact kg _ _ _ _ _ _ _ hf (ml_pkm q2 (fun _ => rfl)) q
      · exact q.elim
    · exact hk.elim
  | getstatic n =>
    simp only [mx_one] at hk ⊢
    split at hk
    · exact kg _ _ _ _ _ _ _ hf (Or.inl ⟨rfl, rfl⟩) hk
    · exact kg _ _ _ _ _ _ _ hf (Or.inr ⟨rfl, rfl⟩) hk
    · exact hk.elim
  | new n =>
    simp only [mx_one] at hk ⊢
    obtain ⟨q1, x, p1, p2, p3, q2⟩ := mx_if_t hk
    exact ml_if q1 ⟨x, p1, p2, p3, kg _ _ _ _ _ _ _ hf ⟨x, p1, p2, p3, rfl⟩ q2⟩
  | newarray t =>
    simp only [mx_one] at hk ⊢
    split at hk
    · obtain ⟨q1, q0, x, p1, p2, p3, q2⟩ := mx_if_t hk
      exact ml_if q1 ⟨q0, x, p1, p2, p3, kg _ _ _ _ _ _ _ hf ⟨x, p1, p2, p3, rfl⟩ q2⟩
    · exact hk.elim
  | anewarray w =>
    simp only [mx_one] at hk ⊢
    split at hk
    · obtain ⟨q1, q0, x, p1, p2, p3, q2⟩ := mx_if_t hk
      exact ml_if q1 ⟨q0, x, p1, p2, p3, kg _ _ _ _ _ _ _ hf ⟨x, p1, p2, p3, rfl⟩ q2⟩
    · exact hk.elim
  | invokestatic n =>
    simp only [mx_one] at hk ⊢
    split at hk
    · exact hk.elim
    · split at hk
      · next hq =>
        obtain ⟨r, q1, q2⟩ := ml_mth hk
        exact q2 _ (kg _ _ _ _ _ _ _ hf (Or.inl ⟨hq, q2 _ rfl⟩) q1)
      · next hq =>
        obtain ⟨q1, q2⟩ := mx_if_t hk
        exact ml_if q1 (kc _ _ _ _ _ _ _ (Or.inr ⟨hq, rfl⟩) q2)
  | invokevirtual n =>
    simp only [mx_one] at hk ⊢
    split at hk
    · exact hk.elim
    · split at hk
      · next x r hx =>
        obtain ⟨q1, q2⟩ := mx_if_t hk
        exact ml_if q1 (kc _ _ _ _ _ _ _ ⟨x, r, hx, rfl⟩ q2)
      · exact hk.elim
  | invokespecial n =>
    simp only [mx_one] at hk ⊢
    split at hk
    · exact hk.elim
    · split at hk
      · next hq =>
        split at hk
        · obtain ⟨q1, q2⟩ := mx_if_t hk
          exact ml_if q1 (kg _ _ _ _ _ _ _ hf (Or.inl ⟨hq, _, _, rfl, rfl⟩) q2)
        · exact hk.elim
      · next hq =>
        split at hk
        · next x r hx =>
          obtain ⟨q1, q2⟩ := mx_if_t hk
          exact ml_if q1 (kc _ _ _ _ _ _ _ (Or.inr ⟨hq, x, r, hx, rfl⟩) q2)
        · exact hk.elim
  | _ => exact False.elim hk
set_option maxHeartbeats 4000000 in
theorem ml_B {E : mx_Ev} {mid pc : Nat} {ins : Instr} {a b z : Nat} {c : Int32} {l : Int64} {lv : mx_Lv} {f : mx_F} {st : List mx_V} {h : mx_H} {o : mx_O} {Q : Option mx_V → mx_H → Prop} {CC : Nat → List mx_V → mx_H → (Option mx_V → mx_H → Prop) → Prop} {κ TT : Nat → mx_Lv → List mx_V → mx_H → Prop}
    (hf : mx_co lv f) (hs : ml_s1 E mid pc ins a b z c l f st h o) (hk : ml_l1 E mid pc ins a b z c l lv st h Q CC κ TT) : ml_K κ TT CC Q h lv o := by
  cases ins with
  | iconst n =>
    simp only [ml_s1] at hs
    simp only [ml_l1] at hk
    subst hs
    exact ml_Ki hf hk
  | bipush n =>
    simp only [ml_s1] at hs
    simp only [ml_l1] at hk
    subst hs
    exact ml_Ki hf hk
  | sipush n =>
    simp only [ml_s1] at hs
    simp only [ml_l1] at hk
    subst hs
    exact ml_Ki hf hk
  | lconst n =>
    simp only [ml_s1] at hs
    simp only [ml_l1] at hk
    subst hs
    exact ml_Ki hf hk
  | ldc n =>
    simp only [ml_s1] at hs
    simp only [ml_l1] at hk
    subst hs
    exact ml_Ki hf hk
  | ldc_w n =>
    simp only [ml_s1] at hs
    simp only [ml_l1] at hk
    subst hs
    exact ml_Ki hf hk
  | ldc2_w n =>
    simp only [ml_s1] at hs
    simp only [ml_l1] at hk
    subst hs
    exact ml_Ki hf hk
  | aconst_null =>
    simp only [ml_s1] at hs
    simp only [ml_l1] at hk
    subst hs
    exact ml_Ki hf hk
  | goto k =>
    simp only [ml_s1] at hs
    simp only [ml_l1] at hk
    subst hs
    exact ml_Ki hf hk
  | iload_n n =>
    simp only [ml_s1] at hs
    simp only [ml_l1] at hk
    obtain ⟨x, e1, rfl⟩ := hs
    split at hk
    · next y hy =>
      have e2 := ml_cog hf hy
      rw [e1] at e2
      cases e2
      exact ml_Ki hf hk
    · exact hk.elim
  | iload n =>
    simp only [ml_s1] at hs
    simp only [ml_l1] at hk
    obtain ⟨x, e1, rfl⟩ := hs
    split at hk
    · next y hy =>
      have e2 := ml_cog hf hy
      rw [e1] at e2
      cases e2
      exact ml_Ki hf hk
    · exact hk.elim
  | lload_n n =>
    simp only [ml_s1] at hs
    simp only [ml_l1] at hk
    obtain ⟨x, e1, rfl⟩ := hs
    split at hk
    · next y hy =>
      have e2 := ml_cog hf hy
      rw [e1] at e2
      cases e2
      exact ml_Ki hf hk
    · exact hk.elim
  | lload n =>
    simp only [ml_s1] at hs
    simp only [ml_l1] at hk
    obtain ⟨x, e1, rfl⟩ := hs
    split at hk
    · next y hy =>
      have e2 := ml_cog hf hy
      rw [e1] at e2
      cases e2
      exact ml_Ki hf hk
    · exact hk.elim
  | aload_n n =>
    simp only [ml_s1] at hs
    simp only [ml_l1] at hk
    obtain ⟨x, e1, rfl⟩ := hs
    split at hk
    · next y hy =>
      have e2 := ml_cog hf hy
      rw [e1] at e2
      cases e2
      exact ml_Ki hf hk
    · exact hk.elim
  | aload n =>
    simp only [ml_s1] at hs
    simp only [ml_l1] at hk
    obtain ⟨x, e1, rfl⟩ := hs
    split at hk
    · next y hy =>
      have e2 := ml_cog hf hy
      rw [e1] at e2
      cases e2
      exact ml_Ki hf hk
    · exact hk.elim
  | istore_n n =>
    simp only [ml_s1] at hs
    split at hs
    · simp only [ml_l1] at hk
      subst hs
      exact ml_Ki (ml_co1 hf) hk
    · exact hs.elim
  | istore n =>
    simp only [ml_s1] at hs
    split at hs
    · simp only [ml_l1] at hk
      subst hs
      exact ml_Ki (ml_co1 hf) hk
    · exact hs.elim
  | lstore_n n =>
    simp only [ml_s1] at hs
    split at hs
    · simp only [ml_l1] at hk
      subst hs
      exact ml_Ki (ml_co2 hf) hk
    · exact hs.elim
  | lstore n =>
    simp only [ml_s1] at hs
    split at hs
    · simp only [ml_l1] at hk
      subst hs
      exact ml_Ki (ml_co2 hf) hk
    · exact hs.elim
  | astore_n n =>
    simp only [ml_s1] at hs
    split at hs
    · simp only [ml_l1] at hk
      subst hs
      exact ml_Ki (ml_co1 hf) hk
    · exact hs.elim
  | astore n =>
    simp only [ml_s1] at hs
    split at hs
    · simp only [ml_l1] at hk
      subst hs
      exact ml_Ki (ml_co1 hf) hk
    · exact hs.elim
  | iinc n k =>
    simp only [ml_s1] at hs
    simp only [ml_l1] at hk
    obtain ⟨x, e1, rfl⟩ := hs
    split at hk
    · next y hy =>
      have e2 := ml_cog hf hy
      rw [e1] at e2
      cases e2
      exact ml_Ki (ml_co1 hf) hk
    · exact hk.elim
  | iadd =>
    simp only [ml_s1] at hs
    split at hs
    · simp only [ml_l1] at hk
      subst hs
      exact ml_Ki hf hk
    · exact hs.elim
  | isub =>
    simp only [ml_s1] at hs
    split at hs
    · simp only [ml_l1] at hk
      subst hs
      exact ml_Ki hf hk
    · exact hs.elim
  | imul =>
    simp only [ml_s1] at hs
    split at hs
    · simp only [ml_l1] at hk
      subst hs
      exact ml_Ki hf hk
    · exact hs.elim
  | iand =>
    simp only [ml_s1] at hs
    split at hs
    · simp only [ml_l1] at hk
      subst hs
      exact ml_Ki hf hk
    · exact hs.elim
  | ior =>
    simp only [ml_s1] at hs
    split at hs
    · simp only [ml_l1] at hk
      subst hs
      exact ml_Ki hf hk
    · exact hs.elim
  | ixor =>
    simp only [ml_s1] at hs
    split at hs
    · simp only [ml_l1] at hk
      subst hs
      exact ml_Ki hf hk
    · exact hs.elim
  | ishl =>
    simp only [ml_s1] at hs
    split at hs
    · simp only [ml_l1] at hk
      subst hs
      exact ml_Ki hf hk
    · exact hs.elim
  | ishr =>
    simp only [ml_s1] at hs
    split at hs
    · simp only [ml_l1] at hk
      subst hs
      exact ml_Ki hf hk
    · exact hs.elim
  | iushr =>
    simp only [ml_s1] at hs
    split at hs
    · simp only [ml_l1] at hk
      subst hs
      exact ml_Ki hf hk
    · exact hs.elim
  | idiv =>
    simp only [ml_s1] at hs
    split at hs
    · simp only [ml_l1] at hk
      obtain ⟨q, rfl⟩ := hs
      exact ml_Ki hf (hk q)
    · exact hs.elim
  | irem =>
    simp only [ml_s1] at hs
    split at hs
    · simp only [ml_l1] at hk
      obtain ⟨q, rfl⟩ := hs
      exact ml_Ki hf (hk q)
    · exact hs.elim
  | ladd =>
    simp only [ml_s1] at hs
    split at hs
    · simp only [ml_l1] at hk
      subst hs
      exact ml_Ki hf hk
    · exact hs.elim
  | lsub =>
    simp only [ml_s1] at hs
    split at hs
    · simp only [ml_l1] at hk
      subst hs
      exact ml_Ki hf hk
    · exact hs.elim
  | lmul =>
    simp only [ml_s1] at hs
    split at hs
    · simp only [ml_l1] at hk
      subst hs
      exact ml_Ki hf hk
    · exact hs.elim
  | land =>
    simp only [ml_s1] at hs
    split at hs
    · simp only [ml_l1] at hk
      subst hs
      exact ml_Ki hf hk
    · exact hs.elim
  | lor =>
    simp only [ml_s1] at hs
    split at hs
    · simp only [ml_l1] at hk
      subst hs
      exact ml_Ki hf hk
    · exact hs.elim
  | ldiv =>
    simp only [ml_s1] at hs
    split at hs
    · simp only [ml_l1] at hk
      obtain ⟨q, rfl⟩ := hs
      exact ml_Ki hf (hk q)
    · exact hs.elim
  | lshl =>
    simp only [ml_s1] at hs
    split at hs
    · simp only [ml_l1] at hk
      subst hs
      exact ml_Ki hf hk
    · exact hs.elim
  | lcmp =>
    simp only [ml_s1] at hs
    split at hs
    · simp only [ml_l1] at hk
      subst hs
      exact ml_Ki hf hk
    · exact hs.elim
  | ineg =>
    simp only [ml_s1] at hs
    split at hs
    · simp only [ml_l1] at hk
      subst hs
      exact ml_Ki hf hk
    · exact hs.elim
  | lneg =>
    simp only [ml_s1] at hs
    split at hs
    · simp only [ml_l1] at hk
      subst hs
      exact ml_Ki hf hk
    · exact hs.elim
  | i2l =>
    simp only [ml_s1] at hs
    split at hs
    · simp only [ml_l1] at hk
      subst hs
      exact ml_Ki hf hk
    · exact hs.elim
  | l2i =>
    simp only [ml_s1] at hs
    split at hs
    · simp only [ml_l1] at hk
      subst hs
      exact ml_Ki hf hk
    · exact hs.elim
  | i2b =>
    simp only [ml_s1] at hs
    split at hs
    · simp only [ml_l1] at hk
      subst hs
      exact ml_Ki hf hk
    · exact hs.elim
  | i2s =>
    simp only [ml_s1] at hs
    split at hs
    · simp only [ml_l1] at hk
      subst hs
      exact ml_Ki hf hk
    · exact hs.elim
  | pop =>
    simp only [ml_s1] at hs
    split at hs
    · simp only [ml_l1] at hk
      subst hs
      exact ml_Ki hf hk
    · exact hs.elim
  | pop2 =>
    simp only [ml_s1] at hs
    split at hs
    · simp only [ml_l1] at hk
      subst hs
      exact ml_Ki hf hk
    · exact hs.elim
  | dup =>
    simp only [ml_s1] at hs
    split at hs
    · simp only [ml_l1] at hk
      subst hs
      exact ml_Ki hf hk
    · exact hs.elim
  | dup2 =>
    simp only [ml_s1] at hs
    split at hs
    · simp only [ml_l1] at hk
      subst hs
      exact ml_Ki hf hk
    · exact hs.elim
  | ifCond cd k =>
    simp only [ml_s1] at hs
    split at hs
    · simp only [ml_l1] at hk
      rcases hs with ⟨q, rfl⟩ | ⟨q, rfl⟩
      · exact ml_Ki hf (hk.1 q)
      · exact ml_Ki hf (hk.2 q)
    · exact hs.elim
  | if_icmp cd k =>
    simp only [ml_s1] at hs
    split at hs
    · simp only [ml_l1] at hk
      rcases hs with ⟨q, rfl⟩ | ⟨q, rfl⟩
      · exact ml_Ki hf (hk.1 q)
      · exact ml_Ki hf (hk.2 q)
    · exact hs.elim
  | ifnull k =>
    simp only [ml_s1] at hs
    split at hs
    · simp only [ml_l1] at hk
      subst hs
      exact ml_Ki hf hk
    · simp only [ml_l1] at hk
      subst hs
      exact ml_Ki hf hk
    · exact hs.elim
  | ifnonnull k =>
    simp only [ml_s1] at hs
    split at hs
    · simp only [ml_l1] at hk
      subst hs
      exact ml_Ki hf hk
    · simp only [ml_l1] at hk
      subst hs
      exact ml_Ki hf hk
    · exact hs.elim
  | tableswitch df lo hi offs =>
    simp only [ml_s1] at hs
    split at hs
    · simp only [ml_l1] at hk
      obtain ⟨tgt, q, rfl⟩ := hs
      exact ml_Kt hf (hk tgt q)
    · exact hs.elim
  | lookupswitch df ps =>
    simp only [ml_s1] at hs
    split at hs
    · simp only [ml_l1] at hk
      obtain ⟨q, rfl⟩ := hs
      exact ml_Kt hf (hk q)
    · exact hs.elim
  | ireturn =>
    simp only [ml_s1] at hs
    split at hs
    · simp only [ml_l1] at hk
      exact ml_rb_s hs hk (fun e q => by subst e; exact q)
    · exact hs.elim
  | lreturn =>
    simp only [ml_s1] at hs
    split at hs
    · simp only [ml_l1] at hk
      subst hs
      exact hk
    · exact hs.elim
  | areturn =>
    simp only [ml_s1] at hs
    split at hs
    · simp only [ml_l1] at hk
      subst hs
      exact hk
    · simp only [ml_l1] at hk
      subst hs
      exact hk
    · exact hs.elim
  | return_ =>
    simp only [ml_s1] at hs
    split at hs
    · simp only [ml_l1] at hk
      subst hs
      exact hk
    · exact hs.elim
  | iaload =>
    simp only [ml_s1] at hs
    split at hs
    · simp only [ml_l1] at hk
      obtain ⟨q0, q, rfl⟩ := hs
      exact ml_Ki hf (ml_it q0 hk q)
    · simp only [ml_l1] at hk
      obtain ⟨q, rfl⟩ := hs
      exact ml_Ki hf (hk q)
    · exact hs.elim
  | baload =>
    simp only [ml_s1] at hs
    split at hs
    · simp only [ml_l1] at hk
      obtain ⟨q0, q, rfl⟩ := hs
      exact ml_Ki hf (ml_it q0 hk q)
    · exact hs.elim
  | laload =>
    simp only [ml_s1] at hs
    split at hs
    · simp only [ml_l1] at hk
      obtain ⟨q0, q, rfl⟩ := hs
      exact ml_Ki hf (ml_it q0 hk q)
    · exact hs.elim
  | aaload =>
    simp only [ml_s1] at hs
    split at hs
    · simp only [ml_l1] at hk
      rcases hs with ⟨hq, q1, ⟨j, q, rfl⟩ | ⟨q, rfl⟩⟩ | ⟨hq, q1, rfl⟩
      · rw [hq] at hk
        exact ml_Ki hf ((hk q1).1 j q)
      · rw [hq] at hk
        exact ml_Ki hf ((hk q1).2 q)
      · rw [hq] at hk
        exact ml_Ki hf (hk q1)
    · exact hs.elim
  | arraylength =>
    simp only [ml_s1] at hs
    split at hs
    · simp only [ml_l1] at hk
      subst hs
      exact ml_Ki hf hk
    · simp only [ml_l1] at hk
      subst hs
      exact ml_Ki hf hk
    · exact hs.elim
  | iastore =>
    simp only [ml_s1] at hs
    split at hs
    · simp only [ml_l1] at hk
      obtain ⟨q0, q, rfl⟩ := hs
      exact ml_Ki hf (ml_it q0 hk q)
    · exact hs.elim
  | lastore =>
    simp only [ml_s1] at hs
    split at hs
    · simp only [ml_l1] at hk
      obtain ⟨q0, q, rfl⟩ := hs
      exact ml_Ki hf (ml_it q0 hk q)
    · exact hs.elim
  | bastore =>
    simp only [ml_s1] at hs
    split at hs
    · simp only [ml_l1] at hk
      rcases hs with ⟨hq, q1, rfl⟩ | ⟨hq, q1, rfl⟩
      · rw [hq] at hk
        exact ml_Ki hf (hk q1)
      · rw [hq] at hk
        exact ml_Ki hf (hk q1)
    · exact hs.elim
  | aastore =>
    simp only [ml_s1] at hs
    split at hs
    · simp only [ml_l1] at hk
      obtain ⟨q, rfl⟩ := hs
      exact ml_Ki hf (hk q)
    · simp only [ml_l1] at hk
      obtain ⟨q, rfl⟩ := hs
      exact ml_Ki hf (hk q)
    · exact hs.elim
  | getfield n =>
    simp only [ml_s1] at hs
    split at hs
    · simp only [ml_l1] at hk
      obtain ⟨v, s, rfl⟩ := hs
      exact ml_Ki hf (ml_rl_s hk s)
    · exact hs.elim
  | putfield n =>
    simp only [ml_s1] at hs
    split at hs
    · simp only [ml_l1] at hk
      exact ml_pk_s hs hk (fun e q => by subst e; exact ml_Ki hf q)
    · exact hs.elim
  | getstatic n =>
    simp only [ml_s1] at hs
    simp only [ml_l1] at hk
    rcases hs with ⟨rfl, rfl⟩ | ⟨rfl, rfl⟩
    · exact ml_Ki hf hk
    · exact ml_Ki hf hk
  | new n =>
    simp only [ml_s1] at hs
    simp only [ml_l1] at hk
    obtain ⟨x, p1, p2, p3, rfl⟩ := hs
    exact ml_Ki hf (hk x p1 p2 p3)
  | newarray t =>
    simp only [ml_s1] at hs
    split at hs
    · simp only [ml_l1] at hk
      obtain ⟨x, p1, p2, p3, rfl⟩ := hs
      exact ml_Ki hf (hk x p1 p2 p3)
    · exact hs.elim
  | anewarray w =>
    simp only [ml_s1] at hs
    split at hs
    · simp only [ml_l1] at hk
      obtain ⟨x, p1, p2, p3, rfl⟩ := hs
      exact ml_Ki hf (hk x p1 p2 p3)
    · exact hs.elim
  | invokestatic n =>
    simp only [ml_s1] at hs
    simp only [ml_l1] at hk
    rcases hs with ⟨hq, hs⟩ | ⟨hq, rfl⟩
    · rw [hq] at hk
      obtain ⟨r, q1, q2⟩ := ml_mth2 hs hk
      subst q1
      exact ml_Ki hf q2
    · rw [hq] at hk
      exact hk
  | invokevirtual n =>
    simp only [ml_s1] at hs
    simp only [ml_l1] at hk
    obtain ⟨x, r, hx, rfl⟩ := hs
    rw [hx] at hk
    exact hk
  | invokespecial n =>
    simp only [ml_s1] at hs
    simp only [ml_l1] at hk
    rcases hs with ⟨hq, x, r, rfl, rfl⟩ | ⟨hq, x, r, hx, rfl⟩
    · rw [hq] at hk
      exact ml_Ki hf hk
    · rw [hq] at hk
      simp only [hx] at hk
      exact hk
  | _ => exact False.elim hs
set_option maxHeartbeats 4000000 in
theorem ml_C {E : mx_Ev} {mid pc : Nat} {ins : Instr} {a b z : Nat} {c : Int32} {l : Int64} {lv : mx_Lv} {f : mx_F} {st : List mx_V} {h : mx_H} {md : Bool} {d bc bs : Nat} {o : mx_O} {Q : Option mx_V → mx_H → Prop} {CC : Nat → Nat → List mx_V → mx_H → (Option mx_V → mx_H → Prop) → Prop} {κ TT : Nat → Nat → Nat → mx_Lv → List mx_V → mx_H → Prop}
    (hm : (md || ml_nor ins a b) = true) (hf : mx_co lv f) (hs : ml_s1 E mid pc ins a b z c l f st h o) (hk : mx_one E md d bc bs mid pc ins a b z c l lv st h Q CC κ TT) : ml_K2 κ TT CC Q h lv o := by
  cases ins with
  | iconst n =>
    simp only [ml_s1] at hs
    simp only [mx_one] at hk
    subst hs
    exact ml_Kj hf hk
  | bipush n =>
    simp only [ml_s1] at hs
    simp only [mx_one] at hk
    subst hs
    exact ml_Kj hf hk
  | sipush n =>
    simp only [ml_s1] at hs
    simp only [mx_one] at hk
    subst hs
    exact ml_Kj hf hk
  | lconst n =>
    simp only [ml_s1] at hs
    simp only [mx_one] at hk
    subst hs
    exact ml_Kj hf hk
  | ldc n =>
    simp only [ml_s1] at hs
    simp only [mx_one] at hk
    subst hs
    exact ml_Kj hf hk
  | ldc_w n =>
    simp only [ml_s1] at hs
    simp only [mx_one] at hk
    subst hs
    exact ml_Kj hf hk
  | ldc2_w n =>
    simp only [ml_s1] at hs
    simp only [mx_one] at hk
    subst hs
    exact ml_Kj hf hk
  | aconst_null =>
    simp only [ml_s1] at hs
    simp only [mx_one] at hk
    subst hs
    exact ml_Kj hf hk
  | goto k =>
    simp only [ml_s1] at hs
    simp only [mx_one] at hk
    subst hs
    exact ml_Kj hf hk
  | iload_n n =>
    simp only [ml_s1] at hs
    simp only [mx_one] at hk
    obtain ⟨x, e1, rfl⟩ := hs
    split at hk
    · next y hy =>
      have e2 := ml_cog hf hy
      rw [e1] at e2
      cases e2
      exact ml_Kj hf hk
    · exact hk.elim
  | iload n =>
    simp only [ml_s1] at hs
    simp only [mx_one] at hk
    obtain ⟨x, e1, rfl⟩ := hs
    split at hk
    · next y hy =>
      have e2 := ml_cog hf hy
      rw [e1] at e2
      cases e2
      exact ml_Kj hf hk
    · exact hk.elim
  | lload_n n =>
    simp only [ml_s1] at hs
    simp only [mx_one] at hk
    obtain ⟨x, e1, rfl⟩ := hs
    split at hk
    · next y hy =>
      have e2 := ml_cog hf hy
      rw [e1] at e2
      cases e2
      exact ml_Kj hf hk
    · exact hk.elim
  | lload n =>
    simp only [ml_s1] at hs
    simp only [mx_one] at hk
    obtain ⟨x, e1, rfl⟩ := hs
    split at hk
    · next y hy =>
      have e2 := ml_cog hf hy
      rw [e1] at e2
      cases e2
      exact ml_Kj hf hk
    · exact hk.elim
  | aload_n n =>
    simp only [ml_s1] at hs
    simp only [mx_one] at hk
    obtain ⟨x, e1, rfl⟩ := hs
    split at hk
    · next y hy =>
      have e2 := ml_cog hf hy
      rw [e1] at e2
      cases e2
      exact ml_Kj hf (mx_if_t hk).2
    · exact hk.elim
  | aload n =>
    simp only [ml_s1] at hs
    simp only [mx_one] at hk
    obtain ⟨x, e1, rfl⟩ := hs
    split at hk
    · next y hy =>
      have e2 := ml_cog hf hy
      rw [e1] at e2
      cases e2
      exact ml_Kj hf (mx_if_t hk).2
    · exact hk.elim
  | istore_n n =>
    simp only [ml_s1] at hs
    split at hs
    · simp only [mx_one] at hk
      subst hs
      exact ml_Kj (ml_co1 hf) hk
    · exact hs.elim
  | istore n =>
    simp only [ml_s1] at hs
    split at hs
    · simp only [mx_one] at hk
      subst hs
      exact ml_Kj (ml_co1 hf) hk
    · exact hs.elim
  | lstore_n n =>
    simp only [ml_s1] at hs
    split at hs
    · simp only [mx_one] at hk
      subst hs
      exact ml_Kj (ml_co2 hf) hk
    · exact hs.elim
  | lstore n =>
    simp only [ml_s1] at hs
    split at hs
    · simp only [mx_one] at hk
      subst hs
      exact ml_Kj (ml_co2 hf) hk
    · exact hs.elim
  | astore_n n =>
    simp only [ml_s1] at hs
    split at hs
    · simp only [mx_one] at hk
      subst hs
      exact ml_Kj (ml_co1 hf) (mx_if_t hk).2
    · exact hs.elim
  | astore n =>
    simp only [ml_s1] at hs
    split at hs
    · simp only [mx_one] at hk
      subst hs
      exact ml_Kj (ml_co1 hf) (mx_if_t hk).2
    · exact hs.elim
  | iinc n k =>
    simp only [ml_s1] at hs
    simp only [mx_one] at hk
    obtain ⟨x, e1, rfl⟩ := hs
    split at hk
    · next y hy =>
      have e2 := ml_cog hf hy
      rw [e1] at e2
      cases e2
      exact ml_Kj (ml_co1 hf) hk
    · exact hk.elim
  | iadd =>
    simp only [ml_s1] at hs
    split at hs
    · simp only [mx_one] at hk
      subst hs
      exact ml_Kj hf hk
    · exact hs.elim
  | isub =>
    simp only [ml_s1] at hs
    split at hs
    · simp only [mx_one] at hk
      subst hs
      exact ml_Kj hf hk
    · exact hs.elim
  | imul =>
    simp only [ml_s1] at hs
    split at hs
    · simp only [mx_one] at hk
      subst hs
      exact ml_Kj hf hk
    · exact hs.elim
  | iand =>
    simp only [ml_s1] at hs
    split at hs
    · simp only [mx_one] at hk
      subst hs
      exact ml_Kj hf hk
    · exact hs.elim
  | ior =>
    simp only [ml_s1] at hs
    split at hs
    · simp only [mx_one] at hk
      subst hs
      exact ml_Kj hf hk
    · exact hs.elim
  | ixor =>
    simp only [ml_s1] at hs
    split at hs
    · simp only [mx_one] at hk
      subst hs
      exact ml_Kj hf hk
    · exact hs.elim
  | ishl =>
    simp only [ml_s1] at hs
    split at hs
    · simp only [mx_one] at hk
      subst hs
      exact ml_Kj hf hk
    · exact hs.elim
  | ishr =>
    simp only [ml_s1] at hs
    split at hs
    · simp only [mx_one] at hk
      subst hs
      exact ml_Kj hf hk
    · exact hs.elim
  | iushr =>
    simp only [ml_s1] at hs
    split at hs
    · simp only [mx_one] at hk
      subst hs
      exact ml_Kj hf hk
    · exact hs.elim
  | idiv =>
    simp only [ml_s1] at hs
    split at hs
    · simp only [mx_one] at hk
      obtain ⟨q, rfl⟩ := hs
      exact ml_Kj hf hk.2
    · exact hs.elim
  | irem =>
    simp only [ml_s1] at hs
    split at hs
    · simp only [mx_one] at hk
      obtain ⟨q, rfl⟩ := hs
      exact ml_Kj hf hk.2
    · exact hs.elim
  | ladd =>
    simp only [ml_s1] at hs
    split at hs
    · simp only [mx_one] at hk
      subst hs
      exact ml_Kj hf hk
    · exact hs.elim
  | lsub =>
    simp only [ml_s1] at hs
    split at hs
    · simp only [mx_one] at hk
      subst hs
      exact ml_Kj hf hk
    · exact hs.elim
  | lmul =>
    simp only [ml_s1] at hs
    split at hs
    · simp only [mx_one] at hk
      subst hs
      exact ml_Kj hf hk
    · exact hs.elim
  | land =>
    simp only [ml_s1] at hs
    split at hs
    · simp only [mx_one] at hk
      subst hs
      exact ml_Kj hf hk
    · exact hs.elim
  | lor =>
    simp only [ml_s1] at hs
    split at hs
    · simp only [mx_one] at hk
      subst hs
      exact ml_Kj hf hk
    · exact hs.elim
  | ldiv =>
    simp only [ml_s1] at hs
    split at hs
    · simp only [mx_one] at hk
      obtain ⟨q, rfl⟩ := hs
      exact ml_Kj hf hk.2
    · exact hs.elim
  | lshl =>
    simp only [ml_s1] at hs
    split at hs
    · simp only [mx_one] at hk
      subst hs
      exact ml_Kj hf hk
    · exact hs.elim
  | lcmp =>
    simp only [ml_s1] at hs
    split at hs
    · simp only [mx_one] at hk
      subst hs
      exact ml_Kj hf hk
    · exact hs.elim
  | ineg =>
    simp only [ml_s1] at hs
    split at hs
    · simp only [mx_one] at hk
      subst hs
      exact ml_Kj hf hk
    · exact hs.elim
  | lneg =>
    simp only [ml_s1] at hs
    split at hs
    · simp only [mx_one] at hk
      subst hs
      exact ml_Kj hf hk
    · exact hs.elim
  | i2l =>
    simp only [ml_s1] at hs
    split at hs
    · simp only [mx_one] at hk
      subst hs
      exact ml_Kj hf hk
    · exact hs.elim
  | l2i =>
    simp only [ml_s1] at hs
    split at hs
    · simp only [mx_one] at hk
      subst hs
      exact ml_Kj hf hk
    · exact hs.elim
  | i2b =>
    simp only [ml_s1] at hs
    split at hs
    · simp only [mx_one] at hk
      subst hs
      exact ml_Kj hf hk
    · exact hs.elim
  | i2s =>
    simp only [ml_s1] at hs
    split at hs
    · simp only [mx_one] at hk
      subst hs
      exact ml_Kj hf hk
    · exact hs.elim
  | pop =>
    simp only [ml_s1] at hs
    split at hs
    · simp only [mx_one] at hk
      subst hs
      exact ml_Kj hf (mx_if_t hk).2
    · exact hs.elim
  | pop2 =>
    simp only [ml_s1] at hs
    split at hs
    · simp only [mx_one] at hk
      subst hs
      exact ml_Kj hf (mx_if_t hk).2
    · exact hs.elim
  | dup =>
    simp only [ml_s1] at hs
    split at hs
    · simp only [mx_one] at hk
      subst hs
      exact ml_Kj hf (mx_if_t hk).2
    · exact hs.elim
  | dup2 =>
    simp only [ml_s1] at hs
    split at hs
    · simp only [mx_one] at hk
      subst hs
      exact ml_Kj hf (mx_if_t hk).2
    · exact hs.elim
  | ifCond cd k =>
    simp only [ml_s1] at hs
    split at hs
    · simp only [mx_one] at hk
      rcases hs with ⟨q, rfl⟩ | ⟨q, rfl⟩
      · exact ml_Kj hf (hk.1 q)
      · exact ml_Kj hf (hk.2 q)
    · exact hs.elim
  | if_icmp cd k =>
    simp only [ml_s1] at hs
    split at hs
    · simp only [mx_one] at hk
      rcases hs with ⟨q, rfl⟩ | ⟨q, rfl⟩
      · exact ml_Kj hf (hk.1 q)
      · exact ml_Kj hf (hk.2 q)
    · exact hs.elim
  | ifnull k =>
    simp only [ml_s1] at hs
    split at hs
    · simp only [mx_one] at hk
      subst hs
      exact ml_Kj hf hk
    · simp only [mx_one] at hk
      subst hs
      exact ml_Kj hf hk
    · exact hs.elim
  | ifnonnull k =>
    simp only [ml_s1] at hs
    split at hs
    · simp only [mx_one] at hk
      subst hs
      exact ml_Kj hf hk
    · simp only [mx_one] at hk
      subst hs
      exact ml_Kj hf hk
    · exact hs.elim
  | tableswitch df lo hi offs =>
    simp only [ml_s1] at hs
    split at hs
    · simp only [mx_one] at hk
      obtain ⟨tgt, q, rfl⟩ := hs
      exact ml_Ku hf (hk tgt q)
    · exact hs.elim
  | lookupswitch df ps =>
    simp only [ml_s1] at hs
    split at hs
    · simp only [mx_one] at hk
      obtain ⟨q, rfl⟩ := hs
      exact ml_Ku hf hk.2
    · exact hs.elim
  | ireturn =>
    simp only [ml_s1] at hs
    split at hs
    · simp only [mx_one] at hk
      exact mx_rb_2 hs hk (fun e q => by subst e; exact q)
    · exact hs.elim
  | lreturn =>
    simp only [ml_s1] at hs
    split at hs
    · simp only [mx_one] at hk
      subst hs
      exact hk
    · exact hs.elim
  | areturn =>
    simp only [ml_s1] at hs
    split at hs
    · simp only [mx_one] at hk
      subst hs
      exact hk
    · simp only [mx_one] at hk
      subst hs
      exact hk
    · exact hs.elim
  | return_ =>
    simp only [ml_s1] at hs
    split at hs
    · simp only [mx_one] at hk
      subst hs
      exact hk
    · exact hs.elim
  | iaload =>
    simp only [ml_s1] at hs
    split at hs
    · simp only [mx_one] at hk
      obtain ⟨q0, q, rfl⟩ := hs
      exact ml_Kj hf (mx_if_t hk).2.2
    · simp only [mx_one] at hk
      obtain ⟨q, rfl⟩ := hs
      exact ml_Kj hf hk.2.2
    · exact hs.elim
  | baload =>
    simp only [ml_s1] at hs
    split at hs
    · simp only [mx_one] at hk
      obtain ⟨q0, q, rfl⟩ := hs
      exact ml_Kj hf (mx_if_t hk).2.2
    · exact hs.elim
  | laload =>
    simp only [ml_s1] at hs
    split at hs
    · simp only [mx_one] at hk
      obtain ⟨q0, q, rfl⟩ := hs
      exact ml_Kj hf (mx_if_t hk).2.2
    · exact hs.elim
  | aaload =>
    simp only [ml_s1] at hs
    split at hs
    · simp only [mx_one] at hk
      rcases hs with ⟨hq, q1, ⟨j, q, rfl⟩ | ⟨q, rfl⟩⟩ | ⟨hq, q1, rfl⟩
      · rw [hq] at hk
        exact ml_Kj hf (hk.2.1 j q)
      · rw [hq] at hk
        exact ml_Kj hf (hk.2.2.1 q)
      · rw [hq] at hk
        exact ml_Kj hf hk.2.2
    · exact hs.elim
  | arraylength =>
    simp only [ml_s1] at hs
    split at hs
    · simp only [mx_one] at hk
      subst hs
      exact ml_Kj hf (mx_if_t hk).2
    · simp only [mx_one] at hk
      subst hs
      exact ml_Kj hf hk.2
    · exact hs.elim
  | iastore =>
    simp only [ml_s1] at hs
    split at hs
    · simp only [mx_one] at hk
      obtain ⟨q0, q, rfl⟩ := hs
      exact ml_Kj hf (mx_if_t hk).2.2
    · exact hs.elim
  | lastore =>
    simp only [ml_s1] at hs
    split at hs
    · simp only [mx_one] at hk
      obtain ⟨q0, q, rfl⟩ := hs
      exact ml_Kj hf (mx_if_t hk).2.2
    · exact hs.elim
  | bastore =>
    simp only [ml_s1] at hs
    split at hs
    · simp only [mx_one] at hk
      rcases hs with ⟨hq, q1, rfl⟩ | ⟨hq, q1, rfl⟩
      · rw [hq] at hk
        exact ml_Kj hf hk.2
      · rw [hq] at hk
        exact ml_Kj hf hk.2
    · exact hs.elim
  | aastore =>
    simp only [ml_s1] at hs
    split at hs
    · simp only [mx_one] at hk
      obtain ⟨q, rfl⟩ := hs
      exact ml_Kj hf (mx_if_t hk).2.2.2
    · simp only [mx_one] at hk
      obtain ⟨q, rfl⟩ := hs
      exact ml_Kj hf (mx_if_t hk).2.2.2
    · exact hs.elim
  | getfield n =>
    simp only [ml_s1] at hs
    split at hs
    · simp only [mx_one] at hk
      obtain ⟨v, s, rfl⟩ := hs
      exact ml_Kj hf (ml_rd_2 (ml_nor_g hm) s (mx_if_t hk).2)
    · exact hs.elim
  | putfield n =>
    simp only [ml_s1] at hs
    split at hs
    · simp only [mx_one] at hk
      refine ml_pk_2 hs (mx_if_t hk).2 (fun e q => ?_)
      subst e
      split at q
      · exact ml_Kj hf q
      · exact q.elim
    · exact hs.elim
  | getstatic n =>
    simp only [ml_s1] at hs
    simp only [mx_one] at hk
    rcases hs with ⟨rfl, rfl⟩ | ⟨rfl, rfl⟩
    · exact ml_Kj hf hk
    · exact ml_Kj hf hk
  | new n =>
    simp only [ml_s1] at hs
    simp only [mx_one] at hk
    obtain ⟨x, p1, p2, p3, rfl⟩ := hs
    obtain ⟨q1, y, r1, r2, r3, q2⟩ := mx_if_t hk
    have e := mx_pos_inj p2 r2 (p1.trans r1.symm)
    subst e
    exact ml_Kj hf q2
  | newarray t =>
    simp only [ml_s1] at hs
    split at hs
    · simp only [mx_one] at hk
      obtain ⟨x, p1, p2, p3, rfl⟩ := hs
      obtain ⟨q1, q0, y, r1, r2, r3, q2⟩ := mx_if_t hk
      have e := mx_pos_inj p2 r2 (p1.trans r1.symm)
      subst e
      exact ml_Kj hf q2
    · exact hs.elim
  | anewarray w =>
    simp only [ml_s1] at hs
    split at hs
    · simp only [mx_one] at hk
      obtain ⟨x, p1, p2, p3, rfl⟩ := hs
      obtain ⟨q1, q0, y, r1, r2, r3, q2⟩ := mx_if_t hk
      have e := mx_pos_inj p2 r2 (p1.trans r1.symm)
      subst e
      exact ml_Kj hf q2
    · exact hs.elim
  | invokestatic n =>
    simp only [ml_s1] at hs
    simp only [mx_one] at hk
    split at hk
    · exact hk.elim
    · rcases hs with ⟨hq, hs⟩ | ⟨hq, rfl⟩
      · rw [hq] at hk
        obtain ⟨r, q1, q2⟩ := ml_mth2 hs hk
        subst q1
        exact ml_Kj hf q2
      · rw [hq] at hk
        exact ⟨_, _, _, (mx_if_t hk).2⟩
  | invokevirtual n =>
    simp only [ml_s1] at hs
    simp only [mx_one] at hk
    split at hk
    · exact hk.elim
    · obtain ⟨x, r, hx, rfl⟩ := hs
      rw [hx] at hk
      exact ⟨_, _, _, (mx_if_t hk).2⟩
  | invokespecial n =>
    simp only [ml_s1] at hs
    simp only [mx_one] at hk
    split at hk
    · exact hk.elim
    · rcases hs with ⟨hq, x, r, rfl, rfl⟩ | ⟨hq, x, r, hx, rfl⟩
      · rw [hq] at hk
        exact ml_Kj hf (mx_if_t hk).2
      · rw [hq] at hk
        simp only [hx] at hk
        exact ⟨_, _, _, (mx_if_t hk).2⟩
  | _ => exact False.elim hs
