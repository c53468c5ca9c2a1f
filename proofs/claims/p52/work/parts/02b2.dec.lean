/-! ===== decoding reads only what lies ahead: the bytes may be cut into short lists ===== -/
section DLA
variable {α β : Type}
/-- where a reader succeeds on few bytes it succeeds on more, alike -/
def dl_m (r : Decoder α) : Prop := ∀ (L1 L2 rest : List UInt8) (p1 p2 q : Nat) (a : α), L1.drop p1 = L2.drop p2 ++ rest → Reader.runAt r ⟨⟨L2⟩⟩ p2 = .ok (a, q) → ∃ n, q = p2 + n ∧ Reader.runAt r ⟨⟨L1⟩⟩ p1 = .ok (a, p1 + n) ∧ L1.drop (p1 + n) = L2.drop (p2 + n) ++ rest
theorem dl_pure {a : α} : dl_m (pure a : Decoder α) := fun L1 L2 rest p1 p2 q b h e => by
  have e' : (Except.ok (a, p2) : Except DecodeError (α × Nat)) = .ok (b, q) := e
  cases e'
  exact ⟨0, rfl, rfl, h⟩
theorem dl_throw {er : DecodeError} : dl_m (throw er : Decoder α) := fun L1 L2 rest p1 p2 q b h e => by
  have e' : (Except.error er : Except DecodeError (α × Nat)) = .ok (b, q) := e
  cases e'
theorem dl_run (x : Decoder α) (f : α → Decoder β) (B : ByteArray) (p : Nat) : Reader.runAt (x >>= f) B p = (match Reader.runAt x B p with | .ok (a, q) => Reader.runAt (f a) B q | .error e => .error e) := by
  show (Except.bind (x B p) fun v => f v.1 B v.2) = (match x B p with | .ok (a, q) => f a B q | .error e => .error e)
  cases x B p with
  | error e => rfl
  | ok v => rfl
theorem dl_mapr (g : α → β) (x : Decoder α) (B : ByteArray) (p : Nat) : Reader.runAt (g <$> x) B p = (match Reader.runAt x B p with | .ok (a, q) => .ok (g a, q) | .error e => .error e) := by
  show (g <$> x : Decoder β) B p = (match x B p with | .ok (a, q) => .ok (g a, q) | .error e => .error e)
  show (Except.bind (x B p) fun v => Except.ok (g v.1, v.2)) = _
  cases x B p with
  | error e => rfl
  | ok v => rfl
theorem dl_bind {x : Decoder α} {f : α → Decoder β} (hx : dl_m x) (hf : ∀ a, dl_m (f a)) : dl_m (x >>= f) := fun L1 L2 rest p1 p2 q b h e => by
  rw [dl_run] at e
  cases c : Reader.runAt x ⟨⟨L2⟩⟩ p2 with
  | error er =>
    rw [c] at e
    cases e
  | ok v =>
    obtain ⟨a, q1⟩ := v
    rw [c] at e
    obtain ⟨n, n1, n2, n3⟩ := hx L1 L2 rest p1 p2 q1 a h c
    subst n1
    obtain ⟨m, m1, m2, m3⟩ := hf a L1 L2 rest (p1 + n) (p2 + n) q b n3 e
    refine ⟨n + m, by omega, ?_, ?_⟩
    · rw [dl_run, n2]
      show Reader.runAt (f a) ⟨⟨L1⟩⟩ (p1 + n) = _
      rw [m2, Nat.add_assoc]
    · rw [← Nat.add_assoc, ← Nat.add_assoc]
      exact m3
theorem dl_map {g : α → β} {x : Decoder α} (hx : dl_m x) : dl_m (g <$> x : Decoder β) := fun L1 L2 rest p1 p2 q b h e => by
  rw [dl_mapr] at e
  cases c : Reader.runAt x ⟨⟨L2⟩⟩ p2 with
  | error er =>
    rw [c] at e
    cases e
  | ok v =>
    obtain ⟨a, q1⟩ := v
    rw [c] at e
    obtain ⟨n, n1, n2, n3⟩ := hx L1 L2 rest p1 p2 q1 a h c
    cases e
    refine ⟨n, n1, ?_, n3⟩
    rw [dl_mapr, n2]
theorem dl_lt {L : List UInt8} {p : Nat} {x : UInt8} {t : List UInt8} (h : L.drop p = x :: t) : ∃ hp : p < L.length, L[p] = x ∧ L.drop (p + 1) = t := by
  by_cases hp : p < L.length
  · have e := List.drop_eq_getElem_cons hp
    rw [h] at e
    injection e with e1 e2
    exact ⟨hp, e1.symm, e2.symm⟩
  · rw [List.drop_eq_nil_of_le (by omega)] at h
    cases h
theorem dl_u1r {L : List UInt8} {p : Nat} {x : UInt8} {t : List UInt8} (h : L.drop p = x :: t) : Reader.runAt (Reader.u1 : Decoder Nat) ⟨⟨L⟩⟩ p = .ok (x.toNat, p + 1) := by
  obtain ⟨hp, e1, -⟩ := dl_lt h
  show (dite (p < ByteArray.size ⟨⟨L⟩⟩) (fun h => (do set (p + 1); pure (((⟨⟨L⟩⟩ : ByteArray)[p]'h).toNat) : Decoder Nat)) (fun _ => throw (HasTruncated.truncated p)) : Decoder Nat) ⟨⟨L⟩⟩ p = _
  rw [dif_pos (show p < ByteArray.size ⟨⟨L⟩⟩ from hp), ← e1]
  rfl
theorem dl_u1e {L : List UInt8} {p : Nat} (h : L.drop p = []) : ∃ er, Reader.runAt (Reader.u1 : Decoder Nat) ⟨⟨L⟩⟩ p = .error er := by
  have hp : ¬ p < L.length := fun q => by
    have := List.drop_eq_getElem_cons q
    rw [h] at this
    cases this
  refine ⟨HasTruncated.truncated p, ?_⟩
  show (dite (p < ByteArray.size ⟨⟨L⟩⟩) (fun h => (do set (p + 1); pure (((⟨⟨L⟩⟩ : ByteArray)[p]'h).toNat) : Decoder Nat)) (fun _ => throw (HasTruncated.truncated p)) : Decoder Nat) ⟨⟨L⟩⟩ p = _
  rw [dif_neg (show ¬ p < ByteArray.size ⟨⟨L⟩⟩ from hp)]
  rfl
theorem dl_u1 : dl_m (Reader.u1 : Decoder Nat) := fun L1 L2 rest p1 p2 q b h e => by
  cases hd : L2.drop p2 with
  | nil =>
    obtain ⟨er, c⟩ := dl_u1e hd
    rw [c] at e
    cases e
  | cons x t =>
    rw [dl_u1r hd] at e
    cases e
    rw [hd] at h
    have h' : L1.drop p1 = x :: (t ++ rest) := h
    refine ⟨1, rfl, dl_u1r h', ?_⟩
    rw [(dl_lt h').2.2, (dl_lt hd).2.2]
theorem dl_u2 : dl_m (Reader.u2 : Decoder Nat) := dl_bind dl_u1 (fun _ => dl_bind dl_u1 (fun _ => dl_pure))
theorem dl_s1 : dl_m (Reader.s1 : Decoder Int) := dl_map dl_u1
theorem dl_s2 : dl_m (Reader.s2 : Decoder Int) := dl_map dl_u2
theorem dl_new {pc : Nat} : dl_m (Decoder.newarray pc) := by
  unfold Decoder.newarray
  refine dl_bind dl_u1 (fun a => ?_)
  split <;> first | exact dl_pure | exact dl_throw
end DLA
/-- opcodes that read a fixed number of bytes -/
def dl_us (op : Nat) : Bool := !(Nat.beq op 170 || (Nat.beq op 171 || (Nat.beq op 185 || (Nat.beq op 186 || (Nat.beq op 196 || (Nat.beq op 197 || (Nat.beq op 200 || Nat.beq op 201)))))))
set_option maxHeartbeats 8000000 in
set_option maxRecDepth 100000 in
theorem dl_instr {pc p1 p2 q : Nat} {L1 L2 rest t : List UInt8} {x : UInt8} {a : Instr} (hd : L2.drop p2 = x :: t) (hu : dl_us x.toNat = true) (h : L1.drop p1 = L2.drop p2 ++ rest) (e : Reader.runAt (Decoder.instr pc) ⟨⟨L2⟩⟩ p2 = .ok (a, q)) : ∃ n, q = p2 + n ∧ Reader.runAt (Decoder.instr pc) ⟨⟨L1⟩⟩ p1 = .ok (a, p1 + n) := by
  have h' : L1.drop p1 = x :: (t ++ rest) := by
    rw [h, hd]
    rfl
  have d1 := (dl_lt h').2.2
  have d2 := (dl_lt hd).2.2
  have go : ∀ r : Decoder Instr, dl_m r → Reader.runAt r ⟨⟨L2⟩⟩ (p2 + 1) = .ok (a, q) → ∃ n, q = p2 + n ∧ Reader.runAt r ⟨⟨L1⟩⟩ (p1 + 1) = .ok (a, p1 + n) := fun r hr e => by
    obtain ⟨n, n1, n2, -⟩ := hr L1 L2 rest (p1 + 1) (p2 + 1) q a (by rw [d1, d2]) e
    exact ⟨1 + n, by omega, by rw [n2, Nat.add_assoc]⟩
  unfold Decoder.instr at e ⊢
  rw [dl_run, dl_u1r hd] at e
  rw [dl_run, dl_u1r h']
  dsimp only at e ⊢
  generalize x.toNat = op at hu e ⊢
  refine go _ ?_ e
  clear e go
  split <;> first | exact absurd hu (by decide) | exact dl_pure | exact dl_bind dl_u1 (fun _ => dl_pure) | exact dl_bind dl_u2 (fun _ => dl_pure) | exact dl_bind dl_s1 (fun _ => dl_pure) | exact dl_bind dl_s2 (fun _ => dl_pure) | exact dl_bind dl_u1 (fun _ => dl_bind dl_s1 (fun _ => dl_pure)) | exact dl_new | exact dl_throw
/-- one entry, checked on a short list of bytes that begins at K -/
def dl_ck (c : List UInt8) (K pc : Nat) (ins : Instr) (len : Nat) : Bool := Nat.ble K pc && ((match c.drop (pc - K) with | x :: _ => dl_us x.toNat | [] => false) && decide (Reader.runAt (Decoder.instr pc) ⟨⟨c⟩⟩ (pc - K) = .ok (ins, pc - K + len)))
theorem dl_ck_s {c L rest : List UInt8} {K pc len : Nat} {ins : Instr} (hL : L.drop K = c ++ rest) (h : dl_ck c K pc ins len = true) : decode ⟨⟨L⟩⟩ pc = .ok (ins, len) := by
  unfold dl_ck at h
  simp only [Bool.and_eq_true] at h
  obtain ⟨h1, h2, h3⟩ := h
  have h1 := Nat.ble_eq.mp h1
  have h3 := of_decide_eq_true h3
  cases hd : c.drop (pc - K) with
  | nil =>
    rw [hd] at h2
    cases h2
  | cons x t =>
    rw [hd] at h2
    obtain ⟨hp, -, -⟩ := dl_lt hd
    have e : L.drop pc = c.drop (pc - K) ++ rest := by
      rw [show pc = K + (pc - K) by omega, ← List.drop_drop, hL, List.drop_append_of_le_length (by omega), show K + (pc - K) - K = pc - K by omega]
    obtain ⟨n, n1, n2⟩ := dl_instr (pc := pc) hd h2 e h3
    unfold decode
    rw [n2]
    show (Except.ok (ins, pc + n - pc) : Except DecodeError (Instr × Nat)) = _
    rw [show pc + n - pc = len by omega]
/-- switches are decoded over all bytes -/
def dl_sw : Instr → Bool
  | .tableswitch .. => true
  | .lookupswitch .. => true
  | _ => false
def dl_wk (mid : Nat) (LL : List mx_L5) (KL : List (Nat × Int32)) (JL : List (Nat × Int64)) : Nat → List (List UInt8) → List (Nat × List mx_En) → Bool
  | _, _, [] => true
  | _, [], _ :: _ => false
  | K, c :: cs, q :: tb => q.2.all (fun en => (bif dl_sw en.2.1 then decide (decode (mx_by mid) en.1 = .ok (en.2.1, en.2.2.1)) else dl_ck c K en.1 en.2.1 en.2.2.1) && mx_gb mid LL KL JL en.1 en.2.1 en.2.2.1 en.2.2.2.1 en.2.2.2.2.1 en.2.2.2.2.2.1 en.2.2.2.2.2.2.1 en.2.2.2.2.2.2.2) && dl_wk mid LL KL JL (K + c.length) cs tb
theorem dl_wk_s {mid : Nat} {LL : List mx_L5} {KL : List (Nat × Int32)} {JL : List (Nat × Int64)} (hL : ∀ q ∈ LL, mx_PL (mx_me mid).1 q) (hK : ∀ q ∈ KL, Cond.constant (mx_ow mid) q.1 q.2 ∈ mx_ws) (hJ : ∀ q ∈ JL, Cond.constantLong (mx_ow mid) q.1 q.2 ∈ mx_ws) (hA : ∀ t, mx_ak t ≤ 3 → Cond.arrayClass (newarray.typeOf t) ∈ mx_ws) {rest : List UInt8} : ∀ (cs : List (List UInt8)) (tb : List (Nat × List mx_En)) (K : Nat), (mx_by mid).data.toList.drop K = cs.flatten ++ rest → dl_wk mid LL KL JL K cs tb = true → ∀ q ∈ tb, ∀ en ∈ q.2, mx_gd mid en
  | _, [], _, _, _ => fun q hq => absurd hq List.not_mem_nil
  | [], _ :: _, _, _, h => by cases h
  | c :: cs, r :: tb, K, e, h => by
    unfold dl_wk at h
    rw [Bool.and_eq_true] at h
    have e' : (mx_by mid).data.toList.drop K = c ++ (cs.flatten ++ rest) := by
      rw [e, List.flatten_cons, List.append_assoc]
    intro q hq en he
    rcases List.mem_cons.mp hq with rfl | hq
    · have h1 := List.all_eq_true.mp h.1 en he
      rw [Bool.and_eq_true] at h1
      refine ⟨?_, mx_gb_s hL hK hJ hA h1.2⟩
      have h2 := h1.1
      cases s : dl_sw en.2.1 with
      | true =>
        rw [s, cond_true] at h2
        exact of_decide_eq_true h2
      | false =>
        rw [s, cond_false] at h2
        exact dl_ck_s (L := (mx_by mid).data.toList) e' h2
    · refine dl_wk_s (rest := rest) hL hK hJ hA cs tb (K + c.length) ?_ h.2 q hq en he
      rw [← List.drop_drop, e', List.drop_left]
/-- the bytes of a method, cut: those from K on -/
def dl_at (mid K : Nat) (cs : List (List UInt8)) : Prop := ∃ rest, (mx_by mid).data.toList.drop K = cs.flatten ++ rest
theorem dl_at.left {mid K : Nat} {cs ds : List (List UInt8)} (h : dl_at mid K (cs ++ ds)) : dl_at mid K cs := by
  obtain ⟨r, e⟩ := h
  exact ⟨ds.flatten ++ r, by rw [e, List.flatten_append, List.append_assoc]⟩
theorem dl_at.right {mid K M : Nat} {cs ds : List (List UInt8)} (h : dl_at mid K (cs ++ ds)) (hM : K + cs.flatten.length = M) : dl_at mid M ds := by
  obtain ⟨r, e⟩ := h
  refine ⟨r, ?_⟩
  rw [← hM, ← List.drop_drop, e, List.flatten_append, List.append_assoc, List.drop_left]
theorem dl_gt {mid K : Nat} {LL : List mx_L5} {KL : List (Nat × Int32)} {JL : List (Nat × Int64)} {cs : List (List UInt8)} {tb : List (Nat × List mx_En)} (hL : ∀ q ∈ LL, mx_PL (mx_me mid).1 q) (hK : ∀ q ∈ KL, Cond.constant (mx_ow mid) q.1 q.2 ∈ mx_ws) (hJ : ∀ q ∈ JL, Cond.constantLong (mx_ow mid) q.1 q.2 ∈ mx_ws) (hA : ∀ t, mx_ak t ≤ 3 → Cond.arrayClass (newarray.typeOf t) ∈ mx_ws) (a : dl_at mid K cs) (h : dl_wk mid LL KL JL K cs tb = true) : ∀ q ∈ tb, ∀ en ∈ q.2, mx_gd mid en := by
  obtain ⟨r, e⟩ := a
  exact dl_wk_s hL hK hJ hA cs tb K e h
