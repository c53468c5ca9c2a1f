/-! ===== the tables' check, by program; a stretch of code ===== -/
/-- what a stretch of code asks, up to the places of 'cuts' -/
def mx_wp (E : mx_Ev) (md : Bool) (d mid : Nat) (tb : List (Nat × List mx_En)) (cuts : List Nat) (Q : Option mx_V → mx_H → Prop) : Nat → Nat → Nat → Nat → mx_Lv → List mx_V → mx_H → Prop
  | 0, bc, bs, pc, lv, st, h => mx_T E (mx_fn md) d bc bs mid pc lv st h Q
  | k + 1, bc, bs, pc, lv, st, h => match mx_ft tb pc with
    | none => False
    | some (_, ins, _, a, b, z, c, l) => mx_one E md d bc bs mid pc ins a b z c l lv st h Q
        (fun bc bs pc lv st h => bif cuts.elem pc then mx_T E (mx_fn md) d bc bs mid pc lv st h Q else mx_wp E md d mid tb cuts Q k bc bs pc lv st h) (fun bc bs pc lv st h => mx_T E (mx_fn md) d bc bs mid pc lv st h Q)
theorem mx_wp_sound {E : mx_Ev} {md : Bool} {d mid : Nat} {tb : List (Nat × List mx_En)} {cuts : List Nat} {Q : Option mx_V → mx_H → Prop} (hok : ∀ q ∈ tb, ∀ en ∈ q.2, mx_gd mid en) :
    ∀ (k : Nat) {bc bs pc : Nat} {lv : mx_Lv} {st : List mx_V} {h : mx_H}, mx_wp E md d mid tb cuts Q k bc bs pc lv st h → mx_T E (mx_fn md) d bc bs mid pc lv st h Q
  | 0, _, _, _, _, _, _, h => h
  | k + 1, bc, bs, pc, lv, st, h, hk => by
    unfold mx_wp at hk
    split at hk
    · exact hk.elim
    · next pc2 ins len a b z c l hf =>
      obtain ⟨rfl, q, hq, he⟩ := mx_ft_mem hf
      obtain ⟨g1, g2⟩ := hok q hq _ he
      refine mx_one_sound g1 g2 (fun bc bs pc lv st h q => ?_) (fun _ _ _ _ _ _ q => q) hk
      cases hc : cuts.elem pc with
      | true => rw [hc, cond_true] at q; exact q
      | false => rw [hc, cond_false] at q; exact mx_wp_sound hok k q
