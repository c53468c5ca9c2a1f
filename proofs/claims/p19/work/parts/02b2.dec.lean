/-! ===== decoding: a short table of opcodes, each row of it shown once ===== -/
section DLA
variable {α β : Type}
theorem dl_run (x : Decoder α) (f : α → Decoder β) (B : ByteArray) (p : Nat) : Reader.runAt (x >>= f) B p = (match Reader.runAt x B p with | .ok (a, q) => Reader.runAt (f a) B q | .error e => .error e) := by
  show (Except.bind (x B p) fun v => f v.1 B v.2) = (match x B p with | .ok (a, q) => f a B q | .error e => .error e)
  cases x B p with
  | error e => rfl
  | ok v => rfl
theorem dl_mapr (g : α → β) (x : Decoder α) (B : ByteArray) (p : Nat) : Reader.runAt (g <$> x) B p = (match Reader.runAt x B p with | .ok (a, q) => .ok (g a, q) | .error e => .error e) := by
  show (g <$> x : Decoder β) B p = (match x B p with | .ok (a, q) => .ok (g a, q) | .error e => .error e)
  show (Except.bind (x B p) fun v => Except.ok (g v.1, v.2)) = _
  cases x B p with
  | error e => rfl
  | ok v => rfl
theorem dl_lt {L : List UInt8} {p : Nat} {x : UInt8} {t : List UInt8} (h : L.drop p = x :: t) : ∃ hp : p < L.length, L[p] = x ∧ L.drop (p + 1) = t := by
  by_cases hp : p < L.length
  · have e := List.drop_eq_getElem_cons hp
    rw [h] at e
    injection e with e1 e2
    exact ⟨hp, e1.symm, e2.symm⟩
  · rw [List.drop_eq_nil_of_le (by omega)] at h
    cases h
theorem dl_u1r {L : List UInt8} {p : Nat} {x : UInt8} {t : List UInt8} (h : L.drop p = x :: t) : Reader.runAt (Reader.u1 : Decoder Nat) ⟨⟨L⟩⟩ p = .ok (x.toNat, p + 1) := by
  obtain ⟨hp, e1, -⟩ := dl_lt h
  show (dite (p < ByteArray.size ⟨⟨L⟩⟩) (fun h => (do set (p + 1); pure (((⟨⟨L⟩⟩ : ByteArray)[p]'h).toNat) : Decoder Nat)) (fun _ => throw (HasTruncated.truncated p)) : Decoder Nat) ⟨⟨L⟩⟩ p = _
  rw [dif_pos (show p < ByteArray.size ⟨⟨L⟩⟩ from hp), ← e1]
  rfl
theorem dl_u2r {L : List UInt8} {p : Nat} {x y : UInt8} {t : List UInt8} (h : L.drop p = x :: y :: t) : Reader.runAt (Reader.u2 : Decoder Nat) ⟨⟨L⟩⟩ p = .ok (x.toNat * 256 + y.toNat, p + 2) := by
  obtain ⟨-, -, h1⟩ := dl_lt h
  show Reader.runAt (Reader.u1 >>= fun hi => Reader.u1 >>= fun lo => pure (hi * 256 + lo) : Decoder Nat) ⟨⟨L⟩⟩ p = _
  rw [dl_run, dl_u1r h]
  show Reader.runAt (Reader.u1 >>= fun lo => pure (x.toNat * 256 + lo) : Decoder Nat) ⟨⟨L⟩⟩ (p + 1) = _
  rw [dl_run, dl_u1r h1]
  rfl
theorem dl_s1r {L : List UInt8} {p : Nat} {x : UInt8} {t : List UInt8} (h : L.drop p = x :: t) : Reader.runAt (Reader.s1 : Decoder Int) ⟨⟨L⟩⟩ p = .ok (Reader.signed 8 x.toNat, p + 1) := by
  show Reader.runAt (Reader.signed 8 <$> (Reader.u1 : Decoder Nat)) ⟨⟨L⟩⟩ p = _
  rw [dl_mapr, dl_u1r h]
theorem dl_s2r {L : List UInt8} {p : Nat} {x y : UInt8} {t : List UInt8} (h : L.drop p = x :: y :: t) : Reader.runAt (Reader.s2 : Decoder Int) ⟨⟨L⟩⟩ p = .ok (Reader.signed 16 (x.toNat * 256 + y.toNat), p + 2) := by
  show Reader.runAt (Reader.signed 16 <$> (Reader.u2 : Decoder Nat)) ⟨⟨L⟩⟩ p = _
  rw [dl_mapr, dl_u2r h]
end DLA
abbrev fd_Q : Type := Nat × Nat × (Nat → Nat → Instr)
/-- what stands behind the opcode: 0 nothing, 1 a byte, 2 two, 3 a signed one, 4 two signed, 5 a byte and a signed one, 6 an array's kind -/
def fd_val (f : Nat) (mk : Nat → Nat → Instr) (t : List UInt8) : Option (Instr × Nat) := match f, t with
  | 0, _ => some (mk 0 0, 1)
  | 1, a :: _ => some (mk a.toNat 0, 2)
  | 2, a :: b :: _ => some (mk (a.toNat * 256 + b.toNat) 0, 3)
  | 3, a :: _ => some (mk a.toNat 0, 2)
  | 4, a :: b :: _ => some (mk (a.toNat * 256 + b.toNat) 0, 3)
  | 5, a :: b :: _ => some (mk a.toNat b.toNat, 3)
  | 6, a :: _ => if a.toNat = 10 then some (.newarray .int, 2) else if a.toNat = 11 then some (.newarray .long, 2) else if a.toNat = 4 then some (.newarray .boolean, 2) else if a.toNat = 8 then some (.newarray .byte, 2) else none
  | _, _ => none
def fd_B0 (mk : Nat → Nat → Instr) (b : Decoder Instr) : Prop := b = Pure.pure (mk 0 0)
def fd_B1 (mk : Nat → Nat → Instr) (b : Decoder Instr) : Prop := b = (Reader.u1 : Decoder Nat) >>= fun a => Pure.pure (mk a 0)
def fd_B2 (mk : Nat → Nat → Instr) (b : Decoder Instr) : Prop := b = (Reader.u2 : Decoder Nat) >>= fun a => Pure.pure (mk a 0)
def fd_B3 (mk : Nat → Nat → Instr) (b : Decoder Instr) : Prop := ∃ f : Int → Instr, (mk = fun a _ => f (Reader.signed 8 a)) ∧ b = (Reader.s1 : Decoder Int) >>= fun a => Pure.pure (f a)
def fd_B4 (mk : Nat → Nat → Instr) (b : Decoder Instr) : Prop := ∃ f : Int → Instr, (mk = fun a _ => f (Reader.signed 16 a)) ∧ b = (Reader.s2 : Decoder Int) >>= fun a => Pure.pure (f a)
def fd_B5 (mk : Nat → Nat → Instr) (b : Decoder Instr) : Prop := (mk = fun a c => .iinc a (Reader.signed 8 c)) ∧ b = (Reader.u1 : Decoder Nat) >>= fun a => (Reader.s1 : Decoder Int) >>= fun c => Pure.pure (Instr.iinc a c)
def fd_B6 (b : Decoder Instr) : Prop := ∃ pc : Nat, b = Decoder.newarray pc
def fd_B (q : fd_Q) (b : Decoder Instr) : Prop := if q.2.1 = 0 then fd_B0 q.2.2 b else if q.2.1 = 1 then fd_B1 q.2.2 b else if q.2.1 = 2 then fd_B2 q.2.2 b else if q.2.1 = 3 then fd_B3 q.2.2 b else if q.2.1 = 4 then fd_B4 q.2.2 b else if q.2.1 = 5 then fd_B5 q.2.2 b else if q.2.1 = 6 then fd_B6 b else False
section FDB
variable {o : Nat} {mk : Nat → Nat → Instr} {b : Decoder Instr}
theorem fd_b0 (h : b = Pure.pure (mk 0 0)) : fd_B (o, 0, mk) b := h
theorem fd_b1 (h : b = (Reader.u1 : Decoder Nat) >>= fun a => Pure.pure (mk a 0)) : fd_B (o, 1, mk) b := h
theorem fd_b2 (h : b = (Reader.u2 : Decoder Nat) >>= fun a => Pure.pure (mk a 0)) : fd_B (o, 2, mk) b := h
theorem fd_b3 {f : Int → Instr} (h1 : mk = fun a _ => f (Reader.signed 8 a)) (h2 : b = (Reader.s1 : Decoder Int) >>= fun a => Pure.pure (f a)) : fd_B (o, 3, mk) b := (show fd_B3 mk b from ⟨f, h1, h2⟩)
theorem fd_b4 {f : Int → Instr} (h1 : mk = fun a _ => f (Reader.signed 16 a)) (h2 : b = (Reader.s2 : Decoder Int) >>= fun a => Pure.pure (f a)) : fd_B (o, 4, mk) b := (show fd_B4 mk b from ⟨f, h1, h2⟩)
theorem fd_b5 (h1 : mk = fun a c => .iinc a (Reader.signed 8 c)) (h2 : b = (Reader.u1 : Decoder Nat) >>= fun a => (Reader.s1 : Decoder Int) >>= fun c => Pure.pure (Instr.iinc a c)) : fd_B (o, 5, mk) b := (show fd_B5 mk b from ⟨h1, h2⟩)
theorem fd_b6 {pc : Nat} (h : b = Decoder.newarray pc) : fd_B (o, 6, mk) b := (show fd_B6 b from ⟨pc, h⟩)
end FDB
theorem fd_nn {α : Type} {a : α} {P : Prop} (h : (none : Option α) = some a) : P := by cases h
theorem fd_s {q : fd_Q} {b : Decoder Instr} (hb : fd_B q b) {L : List UInt8} {p : Nat} {t rest : List UInt8} (h : L.drop (p + 1) = t ++ rest) {r : Instr × Nat} (v : fd_val q.2.1 q.2.2 t = some r) : Reader.runAt b ⟨⟨L⟩⟩ (p + 1) = .ok (r.1, p + r.2) := by
  obtain ⟨o, f, mk⟩ := q
  unfold fd_B at hb
  dsimp only at hb v
  by_cases c0 : f = 0
  · rw [if_pos c0] at hb
    subst c0
    have v' : some (mk 0 0, 1) = some r := v
    cases v'
    rw [show b = Pure.pure (mk 0 0) from hb]
    rfl
  rw [if_neg c0] at hb
  by_cases c1 : f = 1
  · rw [if_pos c1] at hb
    subst c1
    cases t with
    | nil => exact fd_nn v
    | cons a t =>
      have v' : some (mk a.toNat 0, 2) = some r := v
      cases v'
      rw [show b = (Reader.u1 : Decoder Nat) >>= fun a => Pure.pure (mk a 0) from hb, dl_run, dl_u1r h]
      rfl
  rw [if_neg c1] at hb
  by_cases c2 : f = 2
  · rw [if_pos c2] at hb
    subst c2
    cases t with
    | nil => exact fd_nn v
    | cons a t =>
      cases t with
      | nil => exact fd_nn v
      | cons c t =>
        have v' : some (mk (a.toNat * 256 + c.toNat) 0, 3) = some r := v
        cases v'
        rw [show b = (Reader.u2 : Decoder Nat) >>= fun a => Pure.pure (mk a 0) from hb, dl_run, dl_u2r h]
        rfl
  rw [if_neg c2] at hb
  by_cases c3 : f = 3
  · rw [if_pos c3] at hb
    subst c3
    obtain ⟨g, e1, e2⟩ : ∃ f : Int → Instr, (mk = fun a _ => f (Reader.signed 8 a)) ∧ b = (Reader.s1 : Decoder Int) >>= fun a => Pure.pure (f a) := hb
    cases t with
    | nil => exact fd_nn v
    | cons a t =>
      have v' : some (mk a.toNat 0, 2) = some r := v
      cases v'
      rw [e2, dl_run, dl_s1r h, e1]
      rfl
  rw [if_neg c3] at hb
  by_cases c4 : f = 4
  · rw [if_pos c4] at hb
    subst c4
    obtain ⟨g, e1, e2⟩ : ∃ f : Int → Instr, (mk = fun a _ => f (Reader.signed 16 a)) ∧ b = (Reader.s2 : Decoder Int) >>= fun a => Pure.pure (f a) := hb
    cases t with
    | nil => exact fd_nn v
    | cons a t =>
      cases t with
      | nil => exact fd_nn v
      | cons c t =>
        have v' : some (mk (a.toNat * 256 + c.toNat) 0, 3) = some r := v
        cases v'
        rw [e2, dl_run, dl_s2r h, e1]
        rfl
  rw [if_neg c4] at hb
  by_cases c5 : f = 5
  · rw [if_pos c5] at hb
    subst c5
    obtain ⟨e1, e2⟩ : (mk = fun a c => .iinc a (Reader.signed 8 c)) ∧ b = (Reader.u1 : Decoder Nat) >>= fun a => (Reader.s1 : Decoder Int) >>= fun c => Pure.pure (Instr.iinc a c) := hb
    cases t with
    | nil => exact fd_nn v
    | cons a t =>
      cases t with
      | nil => exact fd_nn v
      | cons c t =>
        have v' : some (mk a.toNat c.toNat, 3) = some r := v
        cases v'
        obtain ⟨-, -, h1⟩ := dl_lt h
        rw [e2, dl_run, dl_u1r h]
        show Reader.runAt ((Reader.s1 : Decoder Int) >>= fun c => Pure.pure (Instr.iinc a.toNat c)) ⟨⟨L⟩⟩ (p + 1 + 1) = _
        rw [dl_run, dl_s1r h1, e1]
        rfl
  rw [if_neg c5] at hb
  by_cases c6 : f = 6
  · rw [if_pos c6] at hb
    subst c6
    obtain ⟨pc, e2⟩ : ∃ pc : Nat, b = Decoder.newarray pc := hb
    cases t with
    | nil => exact fd_nn v
    | cons a t =>
      have v' : (if a.toNat = 10 then some (Instr.newarray .int, 2) else if a.toNat = 11 then some (.newarray .long, 2) else if a.toNat = 4 then some (.newarray .boolean, 2) else if a.toNat = 8 then some (.newarray .byte, 2) else none) = some r := v
      unfold Decoder.newarray at e2
      rw [e2, dl_run, dl_u1r h]
      dsimp only
      by_cases d1 : a.toNat = 10
      · rw [if_pos d1] at v'
        cases v'
        rw [d1]
        rfl
      · rw [if_neg d1] at v'
        by_cases d2 : a.toNat = 11
        · rw [if_pos d2] at v'
          cases v'
          rw [d2]
          rfl
        · rw [if_neg d2] at v'
          by_cases d3 : a.toNat = 4
          · rw [if_pos d3] at v'
            cases v'
            rw [d3]
            rfl
          · rw [if_neg d3] at v'
            by_cases d4 : a.toNat = 8
            · rw [if_pos d4] at v'
              cases v'
              rw [d4]
              rfl
            · rw [if_neg d4] at v'
              exact fd_nn v'
  rw [if_neg c6] at hb
  exact hb.elim
def fd_T : List fd_Q := [(42, 0, fun _ _ => .aload_n 0), (180, 2, fun a _ => .getfield a), (21, 1, fun a _ => .iload a), (29, 0, fun _ _ => .iload_n 3), (46, 0, fun _ _ => .iaload), (27, 0, fun _ _ => .iload_n 1), (182, 2, fun a _ => .invokevirtual a), (16, 3, fun a _ => .bipush (Reader.signed 8 a)), (28, 0, fun _ _ => .iload_n 2), (96, 0, fun _ _ => .iadd), (172, 0, fun _ _ => .ireturn), (3, 0, fun _ _ => .iconst 0), (4, 0, fun _ _ => .iconst 1), (167, 4, fun a _ => .goto (Reader.signed 16 a)), (181, 2, fun a _ => .putfield a), (184, 2, fun a _ => .invokestatic a), (153, 4, fun a _ => .ifCond .eq (Reader.signed 16 a)), (54, 1, fun a _ => .istore a), (79, 0, fun _ _ => .iastore), (2, 0, fun _ _ => .iconst (-1)), (154, 4, fun a _ => .ifCond .ne (Reader.signed 16 a)), (162, 4, fun a _ => .if_icmp .ge (Reader.signed 16 a)), (132, 5, fun a c => .iinc a (Reader.signed 8 c)), (43, 0, fun _ _ => .aload_n 1), (5, 0, fun _ _ => .iconst 2), (104, 0, fun _ _ => .imul), (100, 0, fun _ _ => .isub), (188, 6, fun _ _ => .arraylength), (160, 4, fun a _ => .if_icmp .ne (Reader.signed 16 a)), (87, 0, fun _ _ => .pop), (89, 0, fun _ _ => .dup), (177, 0, fun _ _ => .return_), (44, 0, fun _ _ => .aload_n 2), (25, 1, fun a _ => .aload a), (62, 0, fun _ _ => .istore_n 3), (6, 0, fun _ _ => .iconst 3), (7, 0, fun _ _ => .iconst 4), (61, 0, fun _ _ => .istore_n 2), (159, 4, fun a _ => .if_icmp .eq (Reader.signed 16 a)), (26, 0, fun _ _ => .iload_n 0), (112, 0, fun _ _ => .irem), (108, 0, fun _ _ => .idiv), (155, 4, fun a _ => .ifCond .lt (Reader.signed 16 a)), (17, 4, fun a _ => .sipush (Reader.signed 16 a)), (60, 0, fun _ _ => .istore_n 1), (163, 4, fun a _ => .if_icmp .gt (Reader.signed 16 a)), (161, 4, fun a _ => .if_icmp .lt (Reader.signed 16 a)), (133, 0, fun _ _ => .i2l), (47, 0, fun _ _ => .laload), (156, 4, fun a _ => .ifCond .ge (Reader.signed 16 a)), (183, 2, fun a _ => .invokespecial a), (22, 1, fun a _ => .lload a), (158, 4, fun a _ => .ifCond .le (Reader.signed 16 a)), (9, 0, fun _ _ => .lconst 0), (33, 0, fun _ _ => .lload_n 3), (45, 0, fun _ _ => .aload_n 3), (80, 0, fun _ _ => .lastore), (173, 0, fun _ _ => .lreturn), (164, 4, fun a _ => .if_icmp .le (Reader.signed 16 a)), (8, 0, fun _ _ => .iconst 5), (58, 1, fun a _ => .astore a), (148, 0, fun _ _ => .lcmp), (51, 0, fun _ _ => .baload), (126, 0, fun _ _ => .iand), (92, 0, fun _ _ => .dup2), (198, 4, fun a _ => .ifnull (Reader.signed 16 a)), (55, 1, fun a _ => .lstore a), (105, 0, fun _ _ => .lmul), (187, 2, fun a _ => .new a), (20, 2, fun a _ => .ldc2_w a), (50, 0, fun _ _ => .aaload), (66, 0, fun _ _ => .lstore_n 3), (97, 0, fun _ _ => .ladd), (19, 2, fun a _ => .ldc_w a), (84, 0, fun _ _ => .bastore), (122, 0, fun _ _ => .ishr), (116, 0, fun _ _ => .ineg), (31, 0, fun _ _ => .lload_n 1), (178, 2, fun a _ => .getstatic a), (120, 0, fun _ _ => .ishl), (136, 0, fun _ _ => .l2i), (18, 1, fun a _ => .ldc a), (10, 0, fun _ _ => .lconst 1), (117, 0, fun _ _ => .lneg), (130, 0, fun _ _ => .ixor), (78, 0, fun _ _ => .astore_n 3), (199, 4, fun a _ => .ifnonnull (Reader.signed 16 a)), (109, 0, fun _ _ => .ldiv), (124, 0, fun _ _ => .iushr), (190, 0, fun _ _ => .arraylength), (59, 0, fun _ _ => .istore_n 0), (83, 0, fun _ _ => .aastore), (157, 4, fun a _ => .ifCond .gt (Reader.signed 16 a)), (77, 0, fun _ _ => .astore_n 2), (88, 0, fun _ _ => .pop2), (189, 2, fun a _ => .anewarray a), (145, 0, fun _ _ => .i2b), (128, 0, fun _ _ => .ior), (1, 0, fun _ _ => .aconst_null), (64, 0, fun _ _ => .lstore_n 1), (147, 0, fun _ _ => .i2s), (176, 0, fun _ _ => .areturn), (101, 0, fun _ _ => .lsub), (65, 0, fun _ _ => .lstore_n 2), (32, 0, fun _ _ => .lload_n 2), (121, 0, fun _ _ => .lshl), (127, 0, fun _ _ => .land), (129, 0, fun _ _ => .lor), (76, 0, fun _ _ => .astore_n 1)]
def fd_al (P : fd_Q → Prop) : List fd_Q → Prop
  | [] => True
  | q :: l => P q ∧ fd_al P l
theorem fd_al_s {P : fd_Q → Prop} : ∀ (l : List fd_Q), fd_al P l → ∀ q ∈ l, P q
  | [], _ => fun _ h => absurd h List.not_mem_nil
  | _ :: l, h => fun q hq => by
    rcases List.mem_cons.mp hq with e | e
    · rw [e]
      exact h.1
    · exact fd_al_s l h.2 q e
set_option maxRecDepth 100000 in
set_option maxHeartbeats 8000000 in
theorem fd_ex : ∃ B : Nat → Nat → Decoder Instr, (∀ pc, Decoder.instr pc = (Reader.u1 : Decoder Nat) >>= B pc) ∧ ∀ pc, fd_al (fun q => fd_B q (B pc q.1)) fd_T := by
  refine ⟨_, fun pc => rfl, fun pc => ?_⟩
  exact And.intro (fd_b0 rfl) (And.intro (fd_b2 rfl) (And.intro (fd_b1 rfl) (And.intro (fd_b0 rfl) (And.intro (fd_b0 rfl) (And.intro (fd_b0 rfl) (And.intro (fd_b2 rfl) (And.intro (fd_b3 (f := fun a => .bipush a) rfl rfl) (And.intro (fd_b0 rfl) (And.intro (fd_b0 rfl) (And.intro (fd_b0 rfl) (And.intro (fd_b0 rfl) (And.intro (fd_b0 rfl) (And.intro (fd_b4 (f := fun a => .goto a) rfl rfl) (And.intro (fd_b2 rfl) (And.intro (fd_b2 rfl) (And.intro (fd_b4 (f := fun a => .ifCond .eq a) rfl rfl) (And.intro (fd_b1 rfl) (And.intro (fd_b0 rfl) (And.intro (fd_b0 rfl) (And.intro (fd_b4 (f := fun a => .ifCond .ne a) rfl rfl) (And.intro (fd_b4 (f := fun a => .if_icmp .ge a) rfl rfl) (And.intro (fd_b5 rfl rfl) (And.intro (fd_b0 rfl) (And.intro (fd_b0 rfl) (And.intro (fd_b0 rfl) (And.intro (fd_b0 rfl) (And.intro (fd_b6 (pc := pc) rfl) (And.intro (fd_b4 (f := fun a => .if_icmp .ne a) rfl rfl) (And.intro (fd_b0 rfl) (And.intro (fd_b0 rfl) (And.intro (fd_b0 rfl) (And.intro (fd_b0 rfl) (And.intro (fd_b1 rfl) (And.intro (fd_b0 rfl) (And.intro (fd_b0 rfl) (And.intro (fd_b0 rfl) (And.intro (fd_b0 rfl) (And.intro (fd_b4 (f := fun a => .if_icmp .eq a) rfl rfl) (And.intro (fd_b0 rfl) (And.intro (fd_b0 rfl) (And.intro (fd_b0 rfl) (And.intro (fd_b4 (f := fun a => .ifCond .lt a) rfl rfl) (And.intro (fd_b4 (f := fun a => .sipush a) rfl rfl) (And.intro (fd_b0 rfl) (And.intro (fd_b4 (f := fun a => .if_icmp .gt a) rfl rfl) (And.intro (fd_b4 (f := fun a => .if_icmp .lt a) rfl rfl) (And.intro (fd_b0 rfl) (And.intro (fd_b0 rfl) (And.intro (fd_b4 (f := fun a => .ifCond .ge a) rfl rfl) (And.intro (fd_b2 rfl) (And.intro (fd_b1 rfl) (And.intro (fd_b4 (f := fun a => .ifCond .le a) rfl rfl) (And.intro (fd_b0 rfl) (And.intro (fd_b0 rfl) (And.intro (fd_b0 rfl) (And.intro (fd_b0 rfl) (And.intro (fd_b0 rfl) (And.intro (fd_b4 (f := fun a => .if_icmp .le a) rfl rfl) (And.intro (fd_b0 rfl) (And.intro (fd_b1 rfl) (And.intro (fd_b0 rfl) (And.intro (fd_b0 rfl) (And.intro (fd_b0 rfl) (And.intro (fd_b0 rfl) (And.intro (fd_b4 (f := fun a => .ifnull a) rfl rfl) (And.intro (fd_b1 rfl) (And.intro (fd_b0 rfl) (And.intro (fd_b2 rfl) (And.intro (fd_b2 rfl) (And.intro (fd_b0 rfl) (And.intro (fd_b0 rfl) (And.intro (fd_b0 rfl) (And.intro (fd_b2 rfl) (And.intro (fd_b0 rfl) (And.intro (fd_b0 rfl) (And.intro (fd_b0 rfl) (And.intro (fd_b0 rfl) (And.intro (fd_b2 rfl) (And.intro (fd_b0 rfl) (And.intro (fd_b0 rfl) (And.intro (fd_b1 rfl) (And.intro (fd_b0 rfl) (And.intro (fd_b0 rfl) (And.intro (fd_b0 rfl) (And.intro (fd_b0 rfl) (And.intro (fd_b4 (f := fun a => .ifnonnull a) rfl rfl) (And.intro (fd_b0 rfl) (And.intro (fd_b0 rfl) (And.intro (fd_b0 rfl) (And.intro (fd_b0 rfl) (And.intro (fd_b0 rfl) (And.intro (fd_b4 (f := fun a => .ifCond .gt a) rfl rfl) (And.intro (fd_b0 rfl) (And.intro (fd_b0 rfl) (And.intro (fd_b2 rfl) (And.intro (fd_b0 rfl) (And.intro (fd_b0 rfl) (And.intro (fd_b0 rfl) (And.intro (fd_b0 rfl) (And.intro (fd_b0 rfl) (And.intro (fd_b0 rfl) (And.intro (fd_b0 rfl) (And.intro (fd_b0 rfl) (And.intro (fd_b0 rfl) (And.intro (fd_b0 rfl) (And.intro (fd_b0 rfl) (And.intro (fd_b0 rfl) (And.intro (fd_b0 rfl) (trivial)))))))))))))))))))))))))))))))))))))))))))))))))))))))))))))))))))))))))))))))))))))))))))))))))))))))))))))
def fd_find (o : Nat) : List fd_Q → Option fd_Q
  | [] => none
  | q :: l => bif Nat.beq q.1 o then some q else fd_find o l
theorem fd_find_s {o : Nat} {q : fd_Q} : ∀ (l : List fd_Q), fd_find o l = some q → q ∈ l ∧ q.1 = o
  | [], h => fd_nn h
  | a :: l, h => by
    have h' : (bif Nat.beq a.1 o then some a else fd_find o l) = some q := h
    cases e : Nat.beq a.1 o with
    | true =>
      rw [e, cond_true] at h'
      cases h'
      exact ⟨List.mem_cons_self, Nat.eq_of_beq_eq_true e⟩
    | false =>
      rw [e, cond_false] at h'
      obtain ⟨h1, h2⟩ := fd_find_s l h'
      exact ⟨List.mem_cons_of_mem _ h1, h2⟩
/-- one entry, checked on a short list of bytes that begins at K -/
def dl_ck (c : List UInt8) (K pc : Nat) (ins : Instr) (len : Nat) : Bool := Nat.ble K pc && (match c.drop (pc - K) with
  | [] => false
  | x :: t => match fd_find x.toNat fd_T with
    | none => false
    | some q => match fd_val q.2.1 q.2.2 t with
      | none => false
      | some r => decide (r.1 = ins) && Nat.beq r.2 len)
theorem dl_ck_s {c L rest : List UInt8} {K pc len : Nat} {ins : Instr} (hL : L.drop K = c ++ rest) (h : dl_ck c K pc ins len = true) : decode ⟨⟨L⟩⟩ pc = .ok (ins, len) := by
  unfold dl_ck at h
  rw [Bool.and_eq_true] at h
  obtain ⟨h1, h2⟩ := h
  have h1 := Nat.ble_eq.mp h1
  cases hd : c.drop (pc - K) with
  | nil =>
    rw [hd] at h2
    exact absurd h2 Bool.false_ne_true
  | cons x t =>
    rw [hd] at h2
    dsimp only at h2
    cases hf : fd_find x.toNat fd_T with
    | none =>
      rw [hf] at h2
      exact absurd h2 Bool.false_ne_true
    | some q =>
      rw [hf] at h2
      dsimp only at h2
      cases hv : fd_val q.2.1 q.2.2 t with
      | none =>
        rw [hv] at h2
        exact absurd h2 Bool.false_ne_true
      | some r =>
        rw [hv] at h2
        dsimp only at h2
        rw [Bool.and_eq_true] at h2
        obtain ⟨hm, ho⟩ := fd_find_s _ hf
        obtain ⟨hp, -, -⟩ := dl_lt hd
        have e : L.drop pc = c.drop (pc - K) ++ rest := by
          rw [show pc = K + (pc - K) by omega, ← List.drop_drop, hL, List.drop_append_of_le_length (by omega), show K + (pc - K) - K = pc - K by omega]
        rw [hd] at e
        have e' : L.drop pc = x :: (t ++ rest) := e
        obtain ⟨-, -, e1⟩ := dl_lt e'
        obtain ⟨B, b1, b2⟩ := fd_ex
        have run : Reader.runAt (Decoder.instr pc) ⟨⟨L⟩⟩ pc = .ok (r.1, pc + r.2) := by
          rw [b1, dl_run, dl_u1r e']
          show Reader.runAt (B pc x.toNat) ⟨⟨L⟩⟩ (pc + 1) = _
          rw [← ho]
          exact fd_s (fd_al_s _ (b2 pc) q hm) e1 hv
        unfold decode
        rw [run]
        show (Except.ok (r.1, pc + r.2 - pc) : Except DecodeError (Instr × Nat)) = _
        rw [of_decide_eq_true h2.1, Nat.eq_of_beq_eq_true h2.2, show pc + len - pc = len by omega]
/-- these are decoded over all bytes -/
def dl_sw : Instr → Bool
  | .tableswitch .. => true
  | .lookupswitch .. => true
  | .multianewarray .. => true
  | _ => false
def dl_wk (mid : Nat) (LL : List mx_L5) (KL : List (Nat × Int32)) (JL : List (Nat × Int64)) : Nat → List (List UInt8) → List (Nat × List mx_En) → Bool
  | _, _, [] => true
  | _, [], _ :: _ => false
  | K, c :: cs, q :: tb => q.2.all (fun en => (bif dl_sw en.2.1 then decide (decode (mx_by mid) en.1 = .ok (en.2.1, en.2.2.1)) else dl_ck c K en.1 en.2.1 en.2.2.1) && mx_gb mid LL KL JL en.1 en.2.1 en.2.2.1 en.2.2.2.1 en.2.2.2.2.1 en.2.2.2.2.2.1 en.2.2.2.2.2.2.1 en.2.2.2.2.2.2.2) && dl_wk mid LL KL JL (K + c.length) cs tb
theorem dl_wk_s {mid : Nat} {LL : List mx_L5} {KL : List (Nat × Int32)} {JL : List (Nat × Int64)} (hL : ∀ q ∈ LL, mx_PL (mx_me mid).1 q) (hK : ∀ q ∈ KL, Cond.constant (mx_ow mid) q.1 q.2 ∈ mx_ws) (hJ : ∀ q ∈ JL, Cond.constantLong (mx_ow mid) q.1 q.2 ∈ mx_ws) (hA : ∀ t, mx_ak t ≤ 3 → Cond.arrayClass (newarray.typeOf t) ∈ mx_ws) {rest : List UInt8} : ∀ (cs : List (List UInt8)) (tb : List (Nat × List mx_En)) (K : Nat), (mx_by mid).data.toList.drop K = cs.flatten ++ rest → dl_wk mid LL KL JL K cs tb = true → ∀ q ∈ tb, ∀ en ∈ q.2, mx_gd mid en
  | _, [], _, _, _ => fun q hq => absurd hq List.not_mem_nil
  | [], _ :: _, _, _, h => by cases h
  | c :: cs, r :: tb, K, e, h => by
    unfold dl_wk at h
    rw [Bool.and_eq_true] at h
    have e' : (mx_by mid).data.toList.drop K = c ++ (cs.flatten ++ rest) := by
      rw [e, List.flatten_cons, List.append_assoc]
    intro q hq en he
    rcases List.mem_cons.mp hq with rfl | hq
    · have h1 := List.all_eq_true.mp h.1 en he
      rw [Bool.and_eq_true] at h1
      refine ⟨?_, mx_gb_s hL hK hJ hA h1.2⟩
      have h2 := h1.1
      cases s : dl_sw en.2.1 with
      | true =>
        rw [s, cond_true] at h2
        exact of_decide_eq_true h2
      | false =>
        rw [s, cond_false] at h2
        exact dl_ck_s (L := (mx_by mid).data.toList) e' h2
    · refine dl_wk_s (rest := rest) hL hK hJ hA cs tb (K + c.length) ?_ h.2 q hq en he
      rw [← List.drop_drop, e', List.drop_left]
/-- the bytes of a method, cut: those from K on -/
def dl_at (mid K : Nat) (cs : List (List UInt8)) : Prop := ∃ rest, (mx_by mid).data.toList.drop K = cs.flatten ++ rest
theorem dl_at.left {mid K : Nat} {cs ds : List (List UInt8)} (h : dl_at mid K (cs ++ ds)) : dl_at mid K cs := by
  obtain ⟨r, e⟩ := h
  exact ⟨ds.flatten ++ r, by rw [e, List.flatten_append, List.append_assoc]⟩
theorem dl_at.right {mid K M : Nat} {cs ds : List (List UInt8)} (h : dl_at mid K (cs ++ ds)) (hM : K + cs.flatten.length = M) : dl_at mid M ds := by
  obtain ⟨r, e⟩ := h
  refine ⟨r, ?_⟩
  rw [← hM, ← List.drop_drop, e, List.flatten_append, List.append_assoc, List.drop_left]
theorem dl_gt {mid K : Nat} {LL : List mx_L5} {KL : List (Nat × Int32)} {JL : List (Nat × Int64)} {cs : List (List UInt8)} {tb : List (Nat × List mx_En)} (hL : ∀ q ∈ LL, mx_PL (mx_me mid).1 q) (hK : ∀ q ∈ KL, Cond.constant (mx_ow mid) q.1 q.2 ∈ mx_ws) (hJ : ∀ q ∈ JL, Cond.constantLong (mx_ow mid) q.1 q.2 ∈ mx_ws) (hA : ∀ t, mx_ak t ≤ 3 → Cond.arrayClass (newarray.typeOf t) ∈ mx_ws) (a : dl_at mid K cs) (h : dl_wk mid LL KL JL K cs tb = true) : ∀ q ∈ tb, ∀ en ∈ q.2, mx_gd mid en := by
  obtain ⟨r, e⟩ := a
  exact dl_wk_s hL hK hJ hA cs tb K e h
