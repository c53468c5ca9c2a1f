/-! ===== constants' mode: in and out; the words of arraycopy and of new long[6][60] ===== -/
theorem mx_acw : Cond.methodLink (mx_cn 11) 473 arraycopyName ∈ mx_ws ∧ Cond.native arraycopyName ∈ mx_ws ∧ Cond.static arraycopyName ∈ mx_ws ∧ Cond.initialized "java/lang/System" ∈ mx_ws :=
  ⟨mx_hw_s (p := 5235) (by decide +kernel), mx_hw_s (p := 5237) (by decide +kernel), mx_hw_s (p := 5236) (by decide +kernel), mx_hw_s (p := 1017) (by decide +kernel)⟩
theorem mx_mnw : Cond.classLink (mx_cn 8) 21 ("[" ++ (FieldType.array .long).toString) ∈ mx_ws ∧ Cond.arrayClass .long ∈ mx_ws :=
  ⟨mx_hw_s (p := 2187) (by decide +kernel), mx_ARok .long (by decide)⟩
section MXX
variable {E : mx_Ev} {d bc bs mid pc : Nat} {lv : mx_Lv} {st : List mx_V} {h : mx_H} {Q : Option mx_V → mx_H → Prop}
/-- the constant references hold -/
def mx_Fi (h : mx_H) : Prop := ∀ a k b, mx_fn true a k = some b → mx_wfa h.1 a → h.2.2.2 a k = some b
theorem mx_T0.enter (hf : mx_Fi h) (hT : mx_T0 E (mx_fn true) d bc bs mid pc lv st h Q) : mx_T0 E (mx_fn false) d bc bs mid pc lv st h Q :=
  fun p e R s m args below meth c H locs cells slots Qw ls hS hD h1 h2 h3 h4 h5 h6 => hT p e R s m args below meth c H locs cells slots Qw ls hS ⟨hD.1, hD.2.1, hD.2.2.1, hD.2.2.2.1, hD.2.2.2.2.1, hf⟩ h1 h2 h3 h4 h5
    (fun v h' H' locs' cells' slots' pc' ls' ins q a1 a2 a3 a4 a5 a6 a7 => h6 v h' H' locs' cells' slots' pc' ls' ins q ⟨a1.1, a1.2.1, a1.2.2.1, a1.2.2.2.1, a1.2.2.2.2.1, fun a k b hb => by cases hb⟩ a2 a3 a4 a5 a6 a7)
theorem mx_T0.leave (hT : mx_T0 E (mx_fn false) d bc bs mid pc lv st h (fun v h' => Q v h' ∧ mx_Fi h')) : mx_T0 E (mx_fn true) d bc bs mid pc lv st h Q :=
  fun p e R s m args below meth c H locs cells slots Qw ls hS hD h1 h2 h3 h4 h5 h6 => hT p e R s m args below meth c H locs cells slots Qw ls hS ⟨hD.1, hD.2.1, hD.2.2.1, hD.2.2.2.1, hD.2.2.2.2.1, fun a k b hb => by cases hb⟩ h1 h2 h3 h4 h5
    (fun v h' H' locs' cells' slots' pc' ls' ins q a1 a2 a3 a4 a5 a6 a7 => h6 v h' H' locs' cells' slots' pc' ls' ins q.1 ⟨a1.1, a1.2.1, a1.2.2.1, a1.2.2.2.1, a1.2.2.2.2.1, q.2⟩ a2 a3 a4 a5 a6 a7)
end MXX
