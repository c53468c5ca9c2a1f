/-! ===== constructors, run by program: what they leave is computed ===== -/
noncomputable def mx_tc (mid : Nat) : List (Nat × List mx_En) := match mid with
  | 1 => mx_t1 | 11 => mx_t11 | 16 => mx_t16 | 21 => mx_t21 | 36 => mx_t36 | 42 => mx_t42 | 52 => mx_t52 | 58 => mx_t58 | 69 => mx_t69 | 84 => mx_t84 | 95 => mx_t95 | 101 => mx_t101 | 172 => mx_t172
  | _ => []
theorem mx_tc_ok (mid : Nat) : ∀ q ∈ mx_tc mid, ∀ en ∈ q.2, mx_gd mid en := by
  unfold mx_tc
  split
  · exact mx_ok1
  · exact mx_ok11
  · exact mx_ok16
  · exact mx_ok21
  · exact mx_ok36
  · exact mx_ok42
  · exact mx_ok52
  · exact mx_ok58
  · exact mx_ok69
  · exact mx_ok84
  · exact mx_ok95
  · exact mx_ok101
  · exact mx_ok172
  · exact fun q hq => absurd hq List.not_mem_nil
def mx_pkd (ci k : Nat) (v : mx_V) : Bool := match mx_ff ci k, v with
  | 0, .inl (.int _) => true
  | 2, .inr _ => true
  | 2, .inl .null => true
  | _, _ => false
theorem mx_pkd_s {ci k : Nat} {v : mx_V} {P : Prop} (h : mx_pkd ci k v = true) (hP : P) : mx_pkb ci k v P := by
  unfold mx_pkd at h
  unfold mx_pkb
  split at h <;> first | (cases h; done) | simp_all
/-- one instruction of a constructor -/
def mx_exi (rec : Nat → Nat → Nat → Nat → Nat → mx_Lv → List mx_V → mx_H → Option mx_H) (d bc bs mid pc : Nat) (ins : Instr) (a b : Nat) (c : Int32) (lv : mx_Lv) (st : List mx_V) (h : mx_H) : Option mx_H := match ins with
  | .iconst _ => rec d bc bs mid (pc + 1) lv (.inl (.int c) :: st) h
  | .bipush _ => rec d bc bs mid (pc + 2) lv (.inl (.int c) :: st) h
  | .sipush _ => rec d bc bs mid (pc + 3) lv (.inl (.int c) :: st) h
  | .aload_n n => match mx_get lv n.val with
    | some x => bif mx_isr x then rec d bc bs mid (pc + 1) lv (x :: st) h else none
    | none => none
  | .dup => match st with
    | x :: r => bif Nat.beq (mx_cat x) 1 then rec d bc bs mid (pc + 1) lv (x :: x :: r) h else none
    | _ => none
  | .return_ => match st with
    | [] => some h
    | _ => none
  | .iastore => match st with
    | .inl (.int y) :: .inl (.int i) :: .inr x :: r => bif Nat.beq (mx_lo x).1 100 && (decide (0 ≤ i) && Nat.blt i.toNatClampNeg (mx_lo x).2) then rec d bc bs mid (pc + 1) lv r (mx_uI h x i.toNatClampNeg y) else none
    | _ => none
  | .putfield _ => match st with
    | v :: .inr x :: r => bif (mx_lo x == (a, (mx_cr a).2.2)) && mx_pkd a b v then rec d bc bs mid (pc + 3) lv r (mx_pf h x b v) else none
    | _ => none
  | .new _ => bif (Nat.ble 1 bc && Nat.ble (mx_cr a).2.2 bs) && (mx_lo (mx_adr h.1) == (a, (mx_cr a).2.2)) then rec d (bc - 1) (bs - (mx_cr a).2.2) mid (pc + 3) lv (.inr (mx_adr h.1) :: st) (mx_nw h (mx_adr h.1)) else none
  | .newarray t => match st with
    | .inl (.int n) :: r => bif (Nat.ble 1 bc && Nat.ble n.toNatClampNeg bs && Nat.ble n.toNatClampNeg 60000) && (decide (¬ n < 0) && (mx_lo (mx_adr h.1) == (100 + mx_ak t, n.toNatClampNeg))) then rec d (bc - 1) (bs - n.toNatClampNeg) mid (pc + 2) lv (.inr (mx_adr h.1) :: r) (mx_nw h (mx_adr h.1)) else none
    | _ => none
  | .anewarray _ => match st with
    | .inl (.int n) :: r => bif (Nat.ble 1 bc && Nat.ble n.toNatClampNeg bs && Nat.ble n.toNatClampNeg 60000) && (decide (¬ n < 0) && (mx_lo (mx_adr h.1) == (104, n.toNatClampNeg))) then rec d (bc - 1) (bs - n.toNatClampNeg) mid (pc + 3) lv (.inr (mx_adr h.1) :: r) (mx_nw h (mx_adr h.1)) else none
    | _ => none
  | .invokespecial _ => match d with
    | 0 => none
    | e + 1 => bif Nat.beq a 1000 then (match st with
        | .inr _ :: r => bif Nat.ble ((r.map mx_cat).sum) 8 then rec (e + 1) bc bs mid (pc + 3) lv r h else none
        | _ => none)
      else (match st with
        | .inr x :: r => bif Nat.beq b 0 && (Nat.ble (1 + 0) (mx_nL a) && Nat.ble ((r.map mx_cat).sum) 8 && Nat.ble (mx_bu a).1 bc && Nat.ble (mx_bu a).2 bs) && (mx_rt a).isNone then
            (match rec e (mx_bu a).1 (mx_bu a).2 a 0 [(0, .inr x)] [] h with
              | some h1 => rec (e + 1) (bc - (mx_bu a).1) (bs - (mx_bu a).2) mid (pc + 3) lv r h1
              | none => none)
          else none
        | _ => none)
  | _ => none
noncomputable def mx_ex : Nat → Nat → Nat → Nat → Nat → Nat → mx_Lv → List mx_V → mx_H → Option mx_H
  | 0, _, _, _, _, _, _, _, _ => none
  | k + 1, d, bc, bs, mid, pc, lv, st, h => match mx_ft (mx_tc mid) pc with
    | some (_, ins, _, a, b, _, c, _) => mx_exi (mx_ex k) d bc bs mid pc ins a b c lv st h
    | none => match st with
      | .inl (.int y) :: .inl (.int x) :: r => bif Nat.beq mid 69 && (Nat.beq pc 63 && (Nat.beq h.1 98 && (Nat.ble 7 bc && (Nat.ble 366 bs && (decide (y = 60) && decide (x = 6)))))) then mx_ex k d (bc - 7) (bs - 366) mid (pc + 4) lv (.inr (.inl 98) :: r) (mx_mnh h) else none
      | _ => none
theorem mx_bif {b : Bool} {x : Option mx_H} {h' : mx_H} (h : (bif b then x else none) = some h') : b = true ∧ x = some h' := by
  cases b
  · cases h
  · exact ⟨rfl, h⟩
theorem mx_if_i {b : Bool} {P : Prop} (h : b = true) (p : P) : mx_if b P := by
  subst h
  exact p
set_option maxHeartbeats 4000000 in
theorem mx_ex_sound {E : mx_Ev} : ∀ (k : Nat) {d bc bs mid pc : Nat} {lv : mx_Lv} {st : List mx_V} {h h' : mx_H} {Q : Option mx_V → mx_H → Prop}, mx_ex k d bc bs mid pc lv st h = some h' → Q none h' → mx_T0 E (mx_fn false) d bc bs mid pc lv st h Q
  | 0, _, _, _, _, _, _, _, _, _, _, hx, _ => by cases hx
  | k + 1, d, bc, bs, mid, pc, lv, st, h, h', Q, hx, hQ => by
    unfold mx_ex at hx
    split at hx
    · next pc2 ins len a b z c l hf =>
      obtain ⟨rfl, q, hq, he⟩ := mx_ft_mem hf
      obtain ⟨g1, g2⟩ := mx_tc_ok mid q hq _ he
      refine mx_one_sound (CC := mx_C0 E (mx_fn false)) (κ := fun bc bs pc lv st h => mx_ex k d bc bs mid pc lv st h = some h') (TT := fun bc bs pc lv st h => mx_T0 E (mx_fn false) d bc bs mid pc lv st h Q) g1 g2 (fun bc bs pc lv st h q => mx_ex_sound k q hQ) (fun _ _ _ _ _ _ q => q) (fun _ _ _ _ _ q => q) ?_
      clear g1 g2 he hq hf
      unfold mx_exi at hx
      split at hx
      · exact hx
      · exact hx
      · exact hx
      · split at hx
        · next x hg =>
          simp only [mx_one, hg]
          exact mx_if_i (mx_bif hx).1 (mx_bif hx).2
        · cases hx
      · split at hx
        · exact mx_if_i (mx_bif hx).1 (mx_bif hx).2
        · cases hx
      · split at hx
        · cases hx
          exact hQ
        · cases hx
      · split at hx
        · obtain ⟨b1, b2⟩ := mx_bif hx
          simp only [Bool.and_eq_true] at b1
          exact mx_if_i b1.1 ⟨sp_vin (of_decide_eq_true b1.2.1) (Nat.blt_eq.mp b1.2.2), b2⟩
        · cases hx
      · split at hx
        · obtain ⟨b1, b2⟩ := mx_bif hx
          simp only [Bool.and_eq_true] at b1
          exact mx_if_i b1.1 (mx_pkd_s b1.2 b2)
        · cases hx
      · obtain ⟨b1, b2⟩ := mx_bif hx
        rw [Bool.and_eq_true] at b1
        exact mx_if_i b1.1 ⟨_, mx_pos_adr _, mx_va_adr _, eq_of_beq b1.2, b2⟩
      · split at hx
        · obtain ⟨b1, b2⟩ := mx_bif hx
          rw [Bool.and_eq_true] at b1
          obtain ⟨b3, b4⟩ := b1
          rw [Bool.and_eq_true] at b4
          exact mx_if_i b3 ⟨of_decide_eq_true b4.1, _, mx_pos_adr _, mx_va_adr _, eq_of_beq b4.2, b2⟩
        · cases hx
      · split at hx
        · obtain ⟨b1, b2⟩ := mx_bif hx
          rw [Bool.and_eq_true] at b1
          obtain ⟨b3, b4⟩ := b1
          rw [Bool.and_eq_true] at b4
          exact mx_if_i b3 ⟨of_decide_eq_true b4.1, _, mx_pos_adr _, mx_va_adr _, eq_of_beq b4.2, b2⟩
        · cases hx
      · split at hx
        · cases hx
        · next e =>
          simp only [mx_one]
          cases h1000 : Nat.beq a 1000 with
          | true =>
            rw [h1000, cond_true] at hx
            split at hx
            · exact mx_if_i (mx_bif hx).1 (mx_bif hx).2
            · cases hx
          | false =>
            rw [h1000, cond_false] at hx
            split at hx
            · obtain ⟨b1, b2⟩ := mx_bif hx
              simp only [Bool.and_eq_true] at b1
              obtain ⟨⟨b3, ⟨⟨b4, b5⟩, b6⟩, b7⟩, b8⟩ := b1
              have hb0 := Nat.eq_of_beq_eq_true b3
              subst hb0
              split at b2
              · next h1 hc =>
                refine mx_if_i (by simp only [Bool.and_eq_true]; exact ⟨⟨⟨⟨rfl, b4⟩, b5⟩, b6⟩, b7⟩) ?_
                refine mx_ex_sound k hc ?_
                have hrt : mx_rt _ = none := Option.isNone_iff_eq_none.mp b8
                rw [hrt]
                intro _
                exact b2
              · cases b2
            · cases hx
      · cases hx
    · split at hx
      · obtain ⟨b1, b2⟩ := mx_bif hx
        simp only [Bool.and_eq_true, decide_eq_true_eq] at b1
        obtain ⟨c1, c2, c3, c4, c5, rfl, rfl⟩ := b1
        have e1 := Nat.eq_of_beq_eq_true c1
        have e2 := Nat.eq_of_beq_eq_true c2
        subst e1
        subst e2
        exact mx_mna (by decide +kernel : decode (mx_by 69) 63 = .ok (.multianewarray 21 2, 4)) mx_mnw.1 mx_mnw.2 (Nat.eq_of_beq_eq_true c3) (Nat.le_of_ble_eq_true c4) (Nat.le_of_ble_eq_true c5) (mx_ex_sound k b2 hQ)
      · cases hx
