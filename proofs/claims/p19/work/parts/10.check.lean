/-! ===== a stretch of code ===== -/
theorem mx_T0.sub {E : mx_Ev} {fin : mx_A → Nat → Option mx_A} {d bc bs mid pc : Nat} {lv lv' : mx_Lv} {st : List mx_V} {h : mx_H} {Q : Option mx_V → mx_H → Prop} (hl : ∀ q ∈ lv', q ∈ lv) (hT : mx_T0 E fin d bc bs mid pc lv' st h Q) : mx_T0 E fin d bc bs mid pc lv st h Q :=
  fun p e R s m args below meth c H locs cells slots Qw ls hS hD h1 h2 h3 h4 h5 h6 => hT p e R s m args below meth c H locs cells slots Qw ls hS hD h1 h2 (fun q hq => h3 q (hl q hq)) h4
    ⟨h5.1, h5.2.1, fun q hq => by
      obtain ⟨x, hx, rfl⟩ := List.mem_map.mp hq
      exact h5.2.2 _ (List.mem_map.mpr ⟨x, hl x hx, rfl⟩)⟩ h6
/-- the locals that live on at a place, in their order -/
def mx_nrm (live : List Nat) (lv : mx_Lv) : mx_Lv := match live with
  | [] => []
  | i :: r => match mx_get lv i with
    | some v => (i, v) :: mx_nrm r lv
    | none => mx_nrm r lv
theorem mx_nrm_mem {lv : mx_Lv} : ∀ {live : List Nat}, ∀ q ∈ mx_nrm live lv, q ∈ lv
  | [], q, h => by cases h
  | i :: r, q, h => by
    unfold mx_nrm at h
    split at h
    · next v hv =>
      rcases List.mem_cons.mp h with rfl | h
      · exact mx_get_mem hv
      · exact mx_nrm_mem q h
    · exact mx_nrm_mem q h
def mx_cut : List (Nat × List Nat) → Nat → Option (List Nat)
  | [], _ => none
  | (p, l) :: r, pc => bif Nat.beq p pc then some l else mx_cut r pc
/-- what a stretch of code asks, up to the places of 'cuts' -/
def mx_wp0 (E : mx_Ev) (md : Bool) (d mid : Nat) (tb : List (Nat × List mx_En)) (cuts : List (Nat × List Nat)) (Q : Option mx_V → mx_H → Prop) : Nat → Nat → Nat → Nat → mx_Lv → List mx_V → mx_H → Prop
  | 0, bc, bs, pc, lv, st, h => mx_T0 E (mx_fn md) d bc bs mid pc lv st h Q
  | k + 1, bc, bs, pc, lv, st, h => match mx_ft tb pc with
    | none => False
    | some (_, ins, _, a, b, z, c, l) => mx_one E md d bc bs mid pc ins a b z c l lv st h Q (mx_C0 E (mx_fn md))
        (fun bc bs pc lv st h => match mx_cut cuts pc with | some live => mx_T0 E (mx_fn md) d bc bs mid pc (mx_nrm live lv) st h Q | none => mx_wp0 E md d mid tb cuts Q k bc bs pc lv st h) (fun bc bs pc lv st h => mx_T0 E (mx_fn md) d bc bs mid pc lv st h Q)
theorem mx_wp_sound0 {E : mx_Ev} {md : Bool} {d mid : Nat} {tb : List (Nat × List mx_En)} {cuts : List (Nat × List Nat)} {Q : Option mx_V → mx_H → Prop} (hok : ∀ q ∈ tb, ∀ en ∈ q.2, mx_gd mid en) :
    ∀ (k : Nat) {bc bs pc : Nat} {lv : mx_Lv} {st : List mx_V} {h : mx_H}, mx_wp0 E md d mid tb cuts Q k bc bs pc lv st h → mx_T0 E (mx_fn md) d bc bs mid pc lv st h Q
  | 0, _, _, _, _, _, _, h => h
  | k + 1, bc, bs, pc, lv, st, h, hk => by
    unfold mx_wp0 at hk
    split at hk
    · exact hk.elim
    · next pc2 ins len a b z c l hf =>
      obtain ⟨rfl, q, hq, he⟩ := mx_ft_mem hf
      obtain ⟨g1, g2⟩ := hok q hq _ he
      refine mx_one_sound g1 g2 (fun bc bs pc lv st h q => ?_) (fun _ _ _ _ _ _ q => q) (fun _ _ _ _ _ q => q) hk
      split at q
      · exact q.sub mx_nrm_mem
      · exact mx_wp_sound0 hok k q
