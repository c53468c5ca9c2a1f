/-! ===== the law, on a script of at most six ints ===== -/
theorem ls {E : mx_Ev} {x : Int32} (hn : mx_sn E = 6) (h0 : 0 ≤ x) (h1 : x.toNatClampNeg < 6) : vp_in x (mx_slen E 2) := by
  have e6 : mx_slen E 2 = 6 := hn
  rw [e6]
  exact sp_vin h0 h1
theorem lw1_268 {E : mx_Ev} {h : mx_H} {Q : Option mx_V → mx_H → Prop} (hn : mx_sn E = 6) (hF : sp_FR h) (hM : sp_FM h) (hQ : ∀ h', Q (some (.inl (.int 1))) h') :
    mx_T E (mx_fn true) 1000 586 6306 0 268 [(0, .inl (.float 2)), (1, .inr (.inl 0)), (2, .inr (.inl 105)), (3, .inl (.int 0))] [] h Q := by
  refine sgL_268 (d := 999) (c := 576) (e := 6208) ⟨Or.inr (Or.inr rfl), ls hn (by decide) (by decide), Or.inr (Or.inr rfl), ls hn (by decide) (by decide), fc102 hF hM ?_⟩
  intro r h2 hr hM2
  refine hx_i ⟨Or.inr (Or.inr rfl), ls hn (by decide) (by decide), Or.inr (Or.inr rfl), ls hn (by decide) (by decide), fr184 hM2 ?_⟩
  intro r2 h3 hr2
  exact hx_i ⟨fun _ => sp_after (c := 576) (e := 6208) hn (hQ _), fun q => absurd (hr.trans hr2.symm) q⟩
theorem lw1_301 {E : mx_Ev} {h : mx_H} {Q : Option mx_V → mx_H → Prop} (hn : mx_sn E = 6) (hF : sp_FR h) (hM : sp_FM h) (hQ : ∀ h', Q (some (.inl (.int 1))) h') :
    mx_T E (mx_fn true) 1000 586 6306 0 301 [(0, .inl (.float 2)), (1, .inr (.inl 0)), (2, .inr (.inl 105)), (3, .inl (.int 0))] [] h Q := by
  refine sgL_301 (d := 999) (c := 576) (e := 6208) (fc103 hF hM ?_)
  intro r h2 hr hM2
  refine hx_i (fr194 hM2 ?_)
  intro r2 h3 hr2
  exact hx_i ⟨fun _ => sp_after (c := 567) (e := 6111) hn (hQ _), fun q => absurd (hr.trans hr2.symm) q⟩
theorem lw1_314 {E : mx_Ev} {h : mx_H} {Q : Option mx_V → mx_H → Prop} (hn : mx_sn E = 6) (hF : sp_FR h) (hM : sp_FM h) (hQ : ∀ h', Q (some (.inl (.int 1))) h') :
    mx_T E (mx_fn true) 1000 586 6306 0 314 [(0, .inl (.float 2)), (1, .inr (.inl 0)), (2, .inr (.inl 105)), (3, .inl (.int 0))] [] h Q := by
  refine sgL_314 (d := 999) (c := 576) (e := 6208) ⟨Or.inr (Or.inr rfl), ls hn (by decide) (by decide), Or.inr (Or.inr rfl), ls hn (by decide) (by decide), fc104 hF hM ?_⟩
  intro r h2 hr hM2
  refine hx_i ⟨Or.inr (Or.inr rfl), ls hn (by decide) (by decide), Or.inr (Or.inr rfl), ls hn (by decide) (by decide), fr196 hM2 ?_⟩
  intro r2 h3 hr2
  exact hx_i ⟨fun _ => sp_after (c := 576) (e := 6208) hn (hQ _), fun q => absurd (hr.trans hr2.symm) q⟩
theorem lw1_347 {E : mx_Ev} {h : mx_H} {Q : Option mx_V → mx_H → Prop} (hn : mx_sn E = 6) (hF : sp_FR h) (hM : sp_FM h) (hQ : ∀ h', Q (some (.inl (.int 1))) h') :
    mx_T E (mx_fn true) 1000 586 6306 0 347 [(0, .inl (.float 2)), (1, .inr (.inl 0)), (2, .inr (.inl 105)), (3, .inl (.int 0))] [] h Q := by
  refine sgL_347 (d := 999) (c := 576) (e := 6208) ⟨Or.inr (Or.inr rfl), ls hn (by decide) (by decide), Or.inr (Or.inr rfl), ls hn (by decide) (by decide), Or.inr (Or.inr rfl), ls hn (by decide) (by decide), Or.inr (Or.inr rfl), ls hn (by decide) (by decide), fc105 hF hM ?_⟩
  intro r h2 hr hM2
  refine hx_i ⟨Or.inr (Or.inr rfl), ls hn (by decide) (by decide), Or.inr (Or.inr rfl), ls hn (by decide) (by decide), Or.inr (Or.inr rfl), ls hn (by decide) (by decide), Or.inr (Or.inr rfl), ls hn (by decide) (by decide), fr197 hM2 ?_⟩
  intro r2 h3 hr2
  exact hx_i ⟨fun _ => sp_after (c := 576) (e := 6208) hn (hQ _), fun q => absurd (hr.trans hr2.symm) q⟩
theorem lw1_400 {E : mx_Ev} {h : mx_H} {Q : Option mx_V → mx_H → Prop} (hn : mx_sn E = 6) (hF : sp_FR h) (hM : sp_FM h) (hQ : ∀ h', Q (some (.inl (.int 1))) h') :
    mx_T E (mx_fn true) 1000 586 6306 0 400 [(0, .inl (.float 2)), (1, .inr (.inl 0)), (2, .inr (.inl 105)), (3, .inl (.int 0))] [] h Q := by
  refine sgL_400 (d := 999) (c := 576) (e := 6208) ⟨Or.inr (Or.inr rfl), ls hn (by decide) (by decide), Or.inr (Or.inr rfl), ls hn (by decide) (by decide), Or.inr (Or.inr rfl), ls hn (by decide) (by decide), Or.inr (Or.inr rfl), ls hn (by decide) (by decide), fc106 hF hM ?_⟩
  intro r h2 hr hM2
  refine hx_i ⟨Or.inr (Or.inr rfl), ls hn (by decide) (by decide), Or.inr (Or.inr rfl), ls hn (by decide) (by decide), Or.inr (Or.inr rfl), ls hn (by decide) (by decide), Or.inr (Or.inr rfl), ls hn (by decide) (by decide), fr201 hM2 ?_⟩
  intro r2 h3 hr2
  exact hx_i ⟨fun _ => sp_after (c := 576) (e := 6208) hn (hQ _), fun q => absurd (hr.trans hr2.symm) q⟩
theorem lw1_453 {E : mx_Ev} {h : mx_H} {Q : Option mx_V → mx_H → Prop} (hn : mx_sn E = 6) (hF : sp_FR h) (hM : sp_FM h) (hQ : ∀ h', Q (some (.inl (.int 1))) h') :
    mx_T E (mx_fn true) 1000 586 6306 0 453 [(0, .inl (.float 2)), (1, .inr (.inl 0)), (2, .inr (.inl 105)), (3, .inl (.int 0))] [] h Q := by
  refine sgL_453 (d := 999) (c := 576) (e := 6208) ⟨Or.inr (Or.inr rfl), ls hn (by decide) (by decide), Or.inr (Or.inr rfl), ls hn (by decide) (by decide), Or.inr (Or.inr rfl), ls hn (by decide) (by decide), Or.inr (Or.inr rfl), ls hn (by decide) (by decide), fc107 hF hM ?_⟩
  intro r h2 hr hM2
  refine hx_i ⟨Or.inr (Or.inr rfl), ls hn (by decide) (by decide), Or.inr (Or.inr rfl), ls hn (by decide) (by decide), Or.inr (Or.inr rfl), ls hn (by decide) (by decide), Or.inr (Or.inr rfl), ls hn (by decide) (by decide), fr202 hM2 ?_⟩
  intro r2 h3 hr2
  exact hx_i ⟨fun _ => sp_after (c := 576) (e := 6208) hn (hQ _), fun q => absurd (hr.trans hr2.symm) q⟩
theorem lw1_506 {E : mx_Ev} {h : mx_H} {Q : Option mx_V → mx_H → Prop} (hn : mx_sn E = 6) (hF : sp_FR h) (hM : sp_FM h) (hQ : ∀ h', Q (some (.inl (.int 1))) h') :
    mx_T E (mx_fn true) 1000 586 6306 0 506 [(0, .inl (.float 2)), (1, .inr (.inl 0)), (2, .inr (.inl 105)), (3, .inl (.int 0))] [] h Q := by
  refine sgL_506 (d := 999) (c := 576) (e := 6208) ⟨Or.inr (Or.inr rfl), ls hn (by decide) (by decide), Or.inr (Or.inr rfl), ls hn (by decide) (by decide), Or.inr (Or.inr rfl), ls hn (by decide) (by decide), fc108 hF hM ?_⟩
  intro r h2 hr hM2
  refine hx_i ⟨Or.inr (Or.inr rfl), ls hn (by decide) (by decide), Or.inr (Or.inr rfl), ls hn (by decide) (by decide), Or.inr (Or.inr rfl), ls hn (by decide) (by decide), fr203 hM2 ?_⟩
  intro r2 h3 hr2
  exact hx_i ⟨fun _ => sp_after (c := 576) (e := 6208) hn (hQ _), fun q => absurd (hr.trans hr2.symm) q⟩
theorem lw1_549 {E : mx_Ev} {h : mx_H} {Q : Option mx_V → mx_H → Prop} (hn : mx_sn E = 6) (hF : sp_FR h) (hM : sp_FM h) (hQ : ∀ h', Q (some (.inl (.int 1))) h') :
    mx_T E (mx_fn true) 1000 586 6306 0 549 [(0, .inl (.float 2)), (1, .inr (.inl 0)), (2, .inr (.inl 105)), (3, .inl (.int 0))] [] h Q := by
  refine sgL_549 (d := 999) (c := 576) (e := 6208) ⟨Or.inr (Or.inr rfl), ls hn (by decide) (by decide), Or.inr (Or.inr rfl), ls hn (by decide) (by decide), Or.inr (Or.inr rfl), ls hn (by decide) (by decide), fc109 hF hM ?_⟩
  intro r h2 hr hM2
  refine hx_i ⟨Or.inr (Or.inr rfl), ls hn (by decide) (by decide), Or.inr (Or.inr rfl), ls hn (by decide) (by decide), Or.inr (Or.inr rfl), ls hn (by decide) (by decide), fr216 hM2 ?_⟩
  intro r2 h3 hr2
  exact hx_i ⟨fun _ => sp_after (c := 576) (e := 6208) hn (hQ _), fun q => absurd (hr.trans hr2.symm) q⟩
theorem lw1_592 {E : mx_Ev} {h : mx_H} {Q : Option mx_V → mx_H → Prop} (hn : mx_sn E = 6) (hF : sp_FR h) (hM : sp_FM h) (hQ : ∀ h', Q (some (.inl (.int 1))) h') :
    mx_T E (mx_fn true) 1000 586 6306 0 592 [(0, .inl (.float 2)), (1, .inr (.inl 0)), (2, .inr (.inl 105)), (3, .inl (.int 0))] [] h Q := by
  refine sgL_592 (d := 999) (c := 576) (e := 6208) ⟨Or.inr (Or.inr rfl), ls hn (by decide) (by decide), Or.inr (Or.inr rfl), ls hn (by decide) (by decide), Or.inr (Or.inr rfl), ls hn (by decide) (by decide), fc110 hF hM ?_⟩
  intro r h2 hr hM2
  refine hx_l ⟨Or.inr (Or.inr rfl), ls hn (by decide) (by decide), Or.inr (Or.inr rfl), ls hn (by decide) (by decide), Or.inr (Or.inr rfl), ls hn (by decide) (by decide), fr217 hM2 ?_⟩
  intro r2 h3 hr2
  exact hx_l ⟨fun _ => sp_after (c := 576) (e := 6208) hn (hQ _), fun q => absurd (by rw [hr, hr2]; decide) q⟩
theorem lw1_636 {E : mx_Ev} {h : mx_H} {Q : Option mx_V → mx_H → Prop} (hn : mx_sn E = 6) (hF : sp_FR h) (hM : sp_FM h) (hQ : ∀ h', Q (some (.inl (.int 1))) h') :
    mx_T E (mx_fn true) 1000 586 6306 0 636 [(0, .inl (.float 2)), (1, .inr (.inl 0)), (2, .inr (.inl 105)), (3, .inl (.int 0))] [] h Q := by
  refine sgL_636 (d := 999) (c := 576) (e := 6208) ⟨Or.inr (Or.inr rfl), ls hn (by decide) (by decide), Or.inr (Or.inr rfl), ls hn (by decide) (by decide), Or.inr (Or.inr rfl), ls hn (by decide) (by decide), fc111 hF hM ?_⟩
  intro r h2 hr hM2
  refine hx_i ⟨Or.inr (Or.inr rfl), ls hn (by decide) (by decide), Or.inr (Or.inr rfl), ls hn (by decide) (by decide), Or.inr (Or.inr rfl), ls hn (by decide) (by decide), fr221 hM2 ?_⟩
  intro r2 h3 hr2
  exact hx_i ⟨fun _ => sp_after (c := 576) (e := 6208) hn (hQ _), fun q => absurd (hr.trans hr2.symm) q⟩
theorem lw1_679 {E : mx_Ev} {h : mx_H} {Q : Option mx_V → mx_H → Prop} (hn : mx_sn E = 6) (hF : sp_FR h) (hM : sp_FM h) (hQ : ∀ h', Q (some (.inl (.int 1))) h') :
    mx_T E (mx_fn true) 1000 586 6306 0 679 [(0, .inl (.float 2)), (1, .inr (.inl 0)), (2, .inr (.inl 105)), (3, .inl (.int 0))] [] h Q := by
  refine sgL_679 (d := 999) (c := 576) (e := 6208) ⟨Or.inr (Or.inr rfl), ls hn (by decide) (by decide), Or.inr (Or.inr rfl), ls hn (by decide) (by decide), Or.inr (Or.inr rfl), ls hn (by decide) (by decide), fc112 hF hM ?_⟩
  intro r h2 hr hM2
  refine hx_i ⟨Or.inr (Or.inr rfl), ls hn (by decide) (by decide), Or.inr (Or.inr rfl), ls hn (by decide) (by decide), Or.inr (Or.inr rfl), ls hn (by decide) (by decide), fr222 hM2 ?_⟩
  intro r2 h3 hr2
  exact hx_i ⟨fun _ => sp_after (c := 576) (e := 6208) hn (hQ _), fun q => absurd (hr.trans hr2.symm) q⟩
theorem lw1_722 {E : mx_Ev} {h : mx_H} {Q : Option mx_V → mx_H → Prop} (hn : mx_sn E = 6) (hF : sp_FR h) (hM : sp_FM h) (hQ : ∀ h', Q (some (.inl (.int 1))) h') :
    mx_T E (mx_fn true) 1000 586 6306 0 722 [(0, .inl (.float 2)), (1, .inr (.inl 0)), (2, .inr (.inl 105)), (3, .inl (.int 0))] [] h Q := by
  refine sgL_722 (d := 999) (c := 576) (e := 6208) ⟨Or.inr (Or.inr rfl), ls hn (by decide) (by decide), Or.inr (Or.inr rfl), ls hn (by decide) (by decide), Or.inr (Or.inr rfl), ls hn (by decide) (by decide), Or.inr (Or.inr rfl), ls hn (by decide) (by decide), fc113 hF hM ?_⟩
  intro r h2 hr hM2
  refine hx_i ⟨Or.inr (Or.inr rfl), ls hn (by decide) (by decide), Or.inr (Or.inr rfl), ls hn (by decide) (by decide), Or.inr (Or.inr rfl), ls hn (by decide) (by decide), Or.inr (Or.inr rfl), ls hn (by decide) (by decide), fr223 hM2 ?_⟩
  intro r2 h3 hr2
  exact hx_i ⟨fun _ => sp_after (c := 576) (e := 6208) hn (hQ _), fun q => absurd (hr.trans hr2.symm) q⟩
theorem lw1_775 {E : mx_Ev} {h : mx_H} {Q : Option mx_V → mx_H → Prop} (hn : mx_sn E = 6) (hF : sp_FR h) (hM : sp_FM h) (hQ : ∀ h', Q (some (.inl (.int 1))) h') :
    mx_T E (mx_fn true) 1000 586 6306 0 775 [(0, .inl (.float 2)), (1, .inr (.inl 0)), (2, .inr (.inl 105)), (3, .inl (.int 0))] [] h Q := by
  refine sgL_775 (d := 999) (c := 576) (e := 6208) ⟨Or.inr (Or.inr rfl), ls hn (by decide) (by decide), Or.inr (Or.inr rfl), ls hn (by decide) (by decide), Or.inr (Or.inr rfl), ls hn (by decide) (by decide), Or.inr (Or.inr rfl), ls hn (by decide) (by decide), Or.inr (Or.inr rfl), ls hn (by decide) (by decide), fc114 hF hM ?_⟩
  intro r h2 hr hM2
  refine hx_i ⟨Or.inr (Or.inr rfl), ls hn (by decide) (by decide), Or.inr (Or.inr rfl), ls hn (by decide) (by decide), Or.inr (Or.inr rfl), ls hn (by decide) (by decide), Or.inr (Or.inr rfl), ls hn (by decide) (by decide), Or.inr (Or.inr rfl), ls hn (by decide) (by decide), fr224 hM2 ?_⟩
  intro r2 h3 hr2
  exact hx_i ⟨fun _ => sp_after (c := 576) (e := 6208) hn (hQ _), fun q => absurd (hr.trans hr2.symm) q⟩
theorem lw1_838 {E : mx_Ev} {h : mx_H} {Q : Option mx_V → mx_H → Prop} (hn : mx_sn E = 6) (hF : sp_FR h) (hM : sp_FM h) (hQ : ∀ h', Q (some (.inl (.int 1))) h') :
    mx_T E (mx_fn true) 1000 586 6306 0 838 [(0, .inl (.float 2)), (1, .inr (.inl 0)), (2, .inr (.inl 105)), (3, .inl (.int 0))] [] h Q := by
  refine sgL_838 (d := 999) (c := 576) (e := 6208) ⟨Or.inr (Or.inr rfl), ls hn (by decide) (by decide), Or.inr (Or.inr rfl), ls hn (by decide) (by decide), Or.inr (Or.inr rfl), ls hn (by decide) (by decide), Or.inr (Or.inr rfl), ls hn (by decide) (by decide), fc115 hF hM ?_⟩
  intro r h2 hr hM2
  refine hx_i ⟨Or.inr (Or.inr rfl), ls hn (by decide) (by decide), Or.inr (Or.inr rfl), ls hn (by decide) (by decide), Or.inr (Or.inr rfl), ls hn (by decide) (by decide), Or.inr (Or.inr rfl), ls hn (by decide) (by decide), fr226 hM2 ?_⟩
  intro r2 h3 hr2
  exact hx_i ⟨fun _ => sp_after (c := 576) (e := 6208) hn (hQ _), fun q => absurd (hr.trans hr2.symm) q⟩
theorem lw1_891 {E : mx_Ev} {h : mx_H} {Q : Option mx_V → mx_H → Prop} (hn : mx_sn E = 6) (hF : sp_FR h) (hM : sp_FM h) (hQ : ∀ h', Q (some (.inl (.int 1))) h') :
    mx_T E (mx_fn true) 1000 586 6306 0 891 [(0, .inl (.float 2)), (1, .inr (.inl 0)), (2, .inr (.inl 105)), (3, .inl (.int 0))] [] h Q := by
  refine sgL_891 (d := 999) (c := 576) (e := 6208) ⟨Or.inr (Or.inr rfl), ls hn (by decide) (by decide), fc116 hF hM ?_⟩
  intro r h2 hr hM2
  refine hx_i ⟨Or.inr (Or.inr rfl), ls hn (by decide) (by decide), fr231 hM2 ?_⟩
  intro r2 h3 hr2
  exact hx_i ⟨fun _ => sp_after (c := 576) (e := 6208) hn (hQ _), fun q => absurd (hr.trans hr2.symm) q⟩
theorem lw1_914 {E : mx_Ev} {h : mx_H} {Q : Option mx_V → mx_H → Prop} (hn : mx_sn E = 6) (hF : sp_FR h) (hM : sp_FM h) (hQ : ∀ h', Q (some (.inl (.int 1))) h') :
    mx_T E (mx_fn true) 1000 586 6306 0 914 [(0, .inl (.float 2)), (1, .inr (.inl 0)), (2, .inr (.inl 105)), (3, .inl (.int 0))] [] h Q := by
  refine sgL_914 (d := 999) (c := 576) (e := 6208) ⟨Or.inr (Or.inr rfl), ls hn (by decide) (by decide), Or.inr (Or.inr rfl), ls hn (by decide) (by decide), fc117 hF hM ?_⟩
  intro r h2 hr hM2
  refine hx_i ⟨Or.inr (Or.inr rfl), ls hn (by decide) (by decide), Or.inr (Or.inr rfl), ls hn (by decide) (by decide), fr232 hM2 ?_⟩
  intro r2 h3 hr2
  exact hx_i ⟨fun _ => sp_after (c := 576) (e := 6208) hn (hQ _), fun q => absurd (hr.trans hr2.symm) q⟩
theorem lw1_947 {E : mx_Ev} {h : mx_H} {Q : Option mx_V → mx_H → Prop} (hn : mx_sn E = 6) (hF : sp_FR h) (hM : sp_FM h) (hQ : ∀ h', Q (some (.inl (.int 1))) h') :
    mx_T E (mx_fn true) 1000 586 6306 0 947 [(0, .inl (.float 2)), (1, .inr (.inl 0)), (2, .inr (.inl 105)), (3, .inl (.int 0))] [] h Q := by
  refine sgL_947 (d := 999) (c := 576) (e := 6208) ⟨Or.inr (Or.inr rfl), ls hn (by decide) (by decide), Or.inr (Or.inr rfl), ls hn (by decide) (by decide), fc118 hF hM ?_⟩
  intro r h2 hr hM2
  refine hx_i ⟨Or.inr (Or.inr rfl), ls hn (by decide) (by decide), Or.inr (Or.inr rfl), ls hn (by decide) (by decide), fr234 hM2 ?_⟩
  intro r2 h3 hr2
  exact hx_i ⟨fun _ => sp_after (c := 576) (e := 6208) hn (hQ _), fun q => absurd (hr.trans hr2.symm) q⟩
theorem lw1_980 {E : mx_Ev} {h : mx_H} {Q : Option mx_V → mx_H → Prop} (hn : mx_sn E = 6) (hF : sp_FR h) (hM : sp_FM h) (hQ : ∀ h', Q (some (.inl (.int 1))) h') :
    mx_T E (mx_fn true) 1000 586 6306 0 980 [(0, .inl (.float 2)), (1, .inr (.inl 0)), (2, .inr (.inl 105)), (3, .inl (.int 0))] [] h Q := by
  refine sgL_980 (d := 999) (c := 576) (e := 6208) ⟨Or.inr (Or.inr rfl), ls hn (by decide) (by decide), Or.inr (Or.inr rfl), ls hn (by decide) (by decide), Or.inr (Or.inr rfl), ls hn (by decide) (by decide), fc119 hF hM ?_⟩
  intro r h2 hr hM2
  refine hx_i ⟨Or.inr (Or.inr rfl), ls hn (by decide) (by decide), Or.inr (Or.inr rfl), ls hn (by decide) (by decide), Or.inr (Or.inr rfl), ls hn (by decide) (by decide), fr238 hM2 ?_⟩
  intro r2 h3 hr2
  exact hx_i ⟨fun _ => sp_after (c := 576) (e := 6208) hn (hQ _), fun q => absurd (hr.trans hr2.symm) q⟩
theorem lw1_1023 {E : mx_Ev} {h : mx_H} {Q : Option mx_V → mx_H → Prop} (hn : mx_sn E = 6) (hF : sp_FR h) (hM : sp_FM h) (hQ : ∀ h', Q (some (.inl (.int 1))) h') :
    mx_T E (mx_fn true) 1000 586 6306 0 1023 [(0, .inl (.float 2)), (1, .inr (.inl 0)), (2, .inr (.inl 105)), (3, .inl (.int 0))] [] h Q := by
  refine sgL_1023 (d := 999) (c := 576) (e := 6208) ⟨Or.inr (Or.inr rfl), ls hn (by decide) (by decide), Or.inr (Or.inr rfl), ls hn (by decide) (by decide), Or.inr (Or.inr rfl), ls hn (by decide) (by decide), Or.inr (Or.inr rfl), ls hn (by decide) (by decide), fc120 hF hM ?_⟩
  intro r h2 hr hM2
  refine hx_i ⟨Or.inr (Or.inr rfl), ls hn (by decide) (by decide), Or.inr (Or.inr rfl), ls hn (by decide) (by decide), Or.inr (Or.inr rfl), ls hn (by decide) (by decide), Or.inr (Or.inr rfl), ls hn (by decide) (by decide), fr239 hM2 ?_⟩
  intro r2 h3 hr2
  exact hx_i ⟨fun _ => sp_after (c := 576) (e := 6208) hn (hQ _), fun q => absurd (hr.trans hr2.symm) q⟩
theorem lw1_1076 {E : mx_Ev} {h : mx_H} {Q : Option mx_V → mx_H → Prop} (hn : mx_sn E = 6) (hF : sp_FR h) (hM : sp_FM h) (hQ : ∀ h', Q (some (.inl (.int 1))) h') :
    mx_T E (mx_fn true) 1000 586 6306 0 1076 [(0, .inl (.float 2)), (1, .inr (.inl 0)), (2, .inr (.inl 105)), (3, .inl (.int 0))] [] h Q := by
  refine sgL_1076 (d := 999) (c := 576) (e := 6208) ⟨Or.inr (Or.inr rfl), ls hn (by decide) (by decide), Or.inr (Or.inr rfl), ls hn (by decide) (by decide), Or.inr (Or.inr rfl), ls hn (by decide) (by decide), fc121 hF hM ?_⟩
  intro r h2 hr hM2
  refine hx_i ⟨Or.inr (Or.inr rfl), ls hn (by decide) (by decide), Or.inr (Or.inr rfl), ls hn (by decide) (by decide), Or.inr (Or.inr rfl), ls hn (by decide) (by decide), fr240 hM2 ?_⟩
  intro r2 h3 hr2
  exact hx_i ⟨fun _ => sp_after (c := 576) (e := 6208) hn (hQ _), fun q => absurd (hr.trans hr2.symm) q⟩
theorem lw1_1119 {E : mx_Ev} {h : mx_H} {Q : Option mx_V → mx_H → Prop} (hn : mx_sn E = 6) (hF : sp_FR h) (hM : sp_FM h) (hQ : ∀ h', Q (some (.inl (.int 1))) h') :
    mx_T E (mx_fn true) 1000 586 6306 0 1119 [(0, .inl (.float 2)), (1, .inr (.inl 0)), (2, .inr (.inl 105)), (3, .inl (.int 0))] [] h Q := by
  refine sgL_1119 (d := 999) (c := 576) (e := 6208) ⟨Or.inr (Or.inr rfl), ls hn (by decide) (by decide), Or.inr (Or.inr rfl), ls hn (by decide) (by decide), Or.inr (Or.inr rfl), ls hn (by decide) (by decide), fc122 hF hM ?_⟩
  intro r h2 hr hM2
  refine hx_i ⟨Or.inr (Or.inr rfl), ls hn (by decide) (by decide), Or.inr (Or.inr rfl), ls hn (by decide) (by decide), Or.inr (Or.inr rfl), ls hn (by decide) (by decide), fr242 hM2 ?_⟩
  intro r2 h3 hr2
  exact hx_i ⟨fun _ => sp_after (c := 576) (e := 6208) hn (hQ _), fun q => absurd (hr.trans hr2.symm) q⟩
theorem lw1_1162 {E : mx_Ev} {h : mx_H} {Q : Option mx_V → mx_H → Prop} (hn : mx_sn E = 6) (hF : sp_FR h) (hM : sp_FM h) (hQ : ∀ h', Q (some (.inl (.int 1))) h') :
    mx_T E (mx_fn true) 1000 586 6306 0 1162 [(0, .inl (.float 2)), (1, .inr (.inl 0)), (2, .inr (.inl 105)), (3, .inl (.int 0))] [] h Q := by
  refine sgL_1162 (d := 999) (c := 576) (e := 6208) ⟨Or.inr (Or.inr rfl), ls hn (by decide) (by decide), fc123 hF hM ?_⟩
  intro r h2 hr hM2
  refine hx_i ⟨Or.inr (Or.inr rfl), ls hn (by decide) (by decide), fr246 hM2 ?_⟩
  intro r2 h3 hr2
  exact hx_i ⟨fun _ => sp_after (c := 576) (e := 6208) hn (hQ _), fun q => absurd (hr.trans hr2.symm) q⟩
theorem lw1_1185 {E : mx_Ev} {h : mx_H} {Q : Option mx_V → mx_H → Prop} (hn : mx_sn E = 6) (hF : sp_FR h) (hM : sp_FM h) (hQ : ∀ h', Q (some (.inl (.int 1))) h') :
    mx_T E (mx_fn true) 1000 586 6306 0 1185 [(0, .inl (.float 2)), (1, .inr (.inl 0)), (2, .inr (.inl 105)), (3, .inl (.int 0))] [] h Q := by
  refine sgL_1185 (d := 999) (c := 576) (e := 6208) (fc124 hF hM ?_)
  intro r h2 hr hM2
  refine hx_i (fr247 hM2 ?_)
  intro r2 h3 hr2
  exact hx_i ⟨fun _ => sp_after (c := 576) (e := 6208) hn (hQ _), fun q => absurd (hr.trans hr2.symm) q⟩
theorem lw1_1198 {E : mx_Ev} {h : mx_H} {Q : Option mx_V → mx_H → Prop} (hn : mx_sn E = 6) (hF : sp_FR h) (hM : sp_FM h) (hQ : ∀ h', Q (some (.inl (.int 1))) h') :
    mx_T E (mx_fn true) 1000 586 6306 0 1198 [(0, .inl (.float 2)), (1, .inr (.inl 0)), (2, .inr (.inl 105)), (3, .inl (.int 0))] [] h Q := by
  refine sgL_1198 (d := 999) (c := 576) (e := 6208) ⟨Or.inr (Or.inr rfl), ls hn (by decide) (by decide), fc125 hF hM ?_⟩
  intro r h2 hr hM2
  refine hx_i ⟨Or.inr (Or.inr rfl), ls hn (by decide) (by decide), fr248 hM2 ?_⟩
  intro r2 h3 hr2
  exact hx_i ⟨fun _ => sp_after (c := 576) (e := 6208) hn (hQ _), fun q => absurd (hr.trans hr2.symm) q⟩
theorem lw1_1221 {E : mx_Ev} {h : mx_H} {Q : Option mx_V → mx_H → Prop} (hn : mx_sn E = 6) (hF : sp_FR h) (hM : sp_FM h) (hQ : ∀ h', Q (some (.inl (.int 1))) h') :
    mx_T E (mx_fn true) 1000 586 6306 0 1221 [(0, .inl (.float 2)), (1, .inr (.inl 0)), (2, .inr (.inl 105)), (3, .inl (.int 0))] [] h Q := by
  refine sgL_1221 (d := 999) (c := 576) (e := 6208) ⟨Or.inr (Or.inr rfl), ls hn (by decide) (by decide), Or.inr (Or.inr rfl), ls hn (by decide) (by decide), Or.inr (Or.inr rfl), ls hn (by decide) (by decide), fc126 hF hM ?_⟩
  intro r h2 hr hM2
  refine hx_i ⟨Or.inr (Or.inr rfl), ls hn (by decide) (by decide), Or.inr (Or.inr rfl), ls hn (by decide) (by decide), Or.inr (Or.inr rfl), ls hn (by decide) (by decide), fr252 hM2 ?_⟩
  intro r2 h3 hr2
  exact hx_i ⟨fun _ => sp_after (c := 576) (e := 6208) hn (hQ _), fun q => absurd (hr.trans hr2.symm) q⟩
theorem lw1_1264 {E : mx_Ev} {h : mx_H} {Q : Option mx_V → mx_H → Prop} (hn : mx_sn E = 6) (hF : sp_FR h) (hM : sp_FM h) (hQ : ∀ h', Q (some (.inl (.int 1))) h') :
    mx_T E (mx_fn true) 1000 586 6306 0 1264 [(0, .inl (.float 2)), (1, .inr (.inl 0)), (2, .inr (.inl 105)), (3, .inl (.int 0))] [] h Q := by
  refine sgL_1264 (d := 999) (c := 576) (e := 6208) ⟨Or.inr (Or.inr rfl), ls hn (by decide) (by decide), Or.inr (Or.inr rfl), ls hn (by decide) (by decide), fc127 hF hM ?_⟩
  intro r h2 hr hM2
  refine hx_i ⟨Or.inr (Or.inr rfl), ls hn (by decide) (by decide), Or.inr (Or.inr rfl), ls hn (by decide) (by decide), fr253 hM2 ?_⟩
  intro r2 h3 hr2
  exact hx_i ⟨fun _ => sp_after (c := 576) (e := 6208) hn (hQ _), fun q => absurd (hr.trans hr2.symm) q⟩
theorem lw1_1297 {E : mx_Ev} {h : mx_H} {Q : Option mx_V → mx_H → Prop} (hn : mx_sn E = 6) (hF : sp_FR h) (hM : sp_FM h) (hQ : ∀ h', Q (some (.inl (.int 1))) h') :
    mx_T E (mx_fn true) 1000 586 6306 0 1297 [(0, .inl (.float 2)), (1, .inr (.inl 0)), (2, .inr (.inl 105)), (3, .inl (.int 0))] [] h Q := by
  refine sgL_1297 (d := 999) (c := 576) (e := 6208) (fc128 hF hM ?_)
  intro r h2 hr hM2
  refine hx_i (fr249 hM2 ?_)
  intro r2 h3 hr2
  exact hx_i ⟨fun _ => sp_after (c := 576) (e := 6208) hn (hQ _), fun q => absurd (hr.trans hr2.symm) q⟩
theorem lw1_1310 {E : mx_Ev} {h : mx_H} {Q : Option mx_V → mx_H → Prop} (hn : mx_sn E = 6) (hF : sp_FR h) (hM : sp_FM h) (hQ : ∀ h', Q (some (.inl (.int 1))) h') :
    mx_T E (mx_fn true) 1000 586 6306 0 1310 [(0, .inl (.float 2)), (1, .inr (.inl 0)), (2, .inr (.inl 105)), (3, .inl (.int 0))] [] h Q := by
  refine sgL_1310 (d := 999) (c := 576) (e := 6208) ⟨Or.inr (Or.inr rfl), ls hn (by decide) (by decide), fc129 hF hM ?_⟩
  intro r h2 hr hM2
  refine hx_i ⟨Or.inr (Or.inr rfl), ls hn (by decide) (by decide), fr254 hM2 ?_⟩
  intro r2 h3 hr2
  exact hx_i ⟨fun _ => sp_after (c := 576) (e := 6208) hn (hQ _), fun q => absurd (hr.trans hr2.symm) q⟩
theorem lw1_1333 {E : mx_Ev} {h : mx_H} {Q : Option mx_V → mx_H → Prop} (hn : mx_sn E = 6) (hF : sp_FR h) (hM : sp_FM h) (hQ : ∀ h', Q (some (.inl (.int 1))) h') :
    mx_T E (mx_fn true) 1000 586 6306 0 1333 [(0, .inl (.float 2)), (1, .inr (.inl 0)), (2, .inr (.inl 105)), (3, .inl (.int 0))] [] h Q := by
  refine sgL_1333 (d := 999) (c := 576) (e := 6208) ⟨Or.inr (Or.inr rfl), ls hn (by decide) (by decide), Or.inr (Or.inr rfl), ls hn (by decide) (by decide), fc130 hF hM ?_⟩
  intro r h2 hr hM2
  refine hx_i ⟨Or.inr (Or.inr rfl), ls hn (by decide) (by decide), Or.inr (Or.inr rfl), ls hn (by decide) (by decide), fr256 hM2 ?_⟩
  intro r2 h3 hr2
  exact hx_i ⟨fun _ => sp_after (c := 576) (e := 6208) hn (hQ _), fun q => absurd (hr.trans hr2.symm) q⟩
theorem lw1_1366 {E : mx_Ev} {h : mx_H} {Q : Option mx_V → mx_H → Prop} (hn : mx_sn E = 6) (hF : sp_FR h) (hM : sp_FM h) (hQ : ∀ h', Q (some (.inl (.int 1))) h') :
    mx_T E (mx_fn true) 1000 586 6306 0 1366 [(0, .inl (.float 2)), (1, .inr (.inl 0)), (2, .inr (.inl 105)), (3, .inl (.int 0))] [] h Q := by
  refine sgL_1366 (d := 999) (c := 576) (e := 6208) ⟨Or.inr (Or.inr rfl), ls hn (by decide) (by decide), Or.inr (Or.inr rfl), ls hn (by decide) (by decide), Or.inr (Or.inr rfl), ls hn (by decide) (by decide), Or.inr (Or.inr rfl), ls hn (by decide) (by decide), fc131 hF hM ?_⟩
  intro r h2 hr hM2
  refine hx_i ⟨Or.inr (Or.inr rfl), ls hn (by decide) (by decide), Or.inr (Or.inr rfl), ls hn (by decide) (by decide), Or.inr (Or.inr rfl), ls hn (by decide) (by decide), Or.inr (Or.inr rfl), ls hn (by decide) (by decide), fr259 hM2 ?_⟩
  intro r2 h3 hr2
  exact hx_i ⟨fun _ => sp_after (c := 576) (e := 6208) hn (hQ _), fun q => absurd (hr.trans hr2.symm) q⟩
theorem lw1_1419 {E : mx_Ev} {h : mx_H} {Q : Option mx_V → mx_H → Prop} (hn : mx_sn E = 6) (hF : sp_FR h) (hM : sp_FM h) (hQ : ∀ h', Q (some (.inl (.int 1))) h') :
    mx_T E (mx_fn true) 1000 586 6306 0 1419 [(0, .inl (.float 2)), (1, .inr (.inl 0)), (2, .inr (.inl 105)), (3, .inl (.int 0))] [] h Q := by
  refine sgL_1419 (d := 999) (c := 576) (e := 6208) ⟨Or.inr (Or.inr rfl), ls hn (by decide) (by decide), Or.inr (Or.inr rfl), ls hn (by decide) (by decide), Or.inr (Or.inr rfl), ls hn (by decide) (by decide), fc132 hF hM ?_⟩
  intro r h2 hr hM2
  refine hx_i ⟨Or.inr (Or.inr rfl), ls hn (by decide) (by decide), Or.inr (Or.inr rfl), ls hn (by decide) (by decide), Or.inr (Or.inr rfl), ls hn (by decide) (by decide), fr260 hM2 ?_⟩
  intro r2 h3 hr2
  exact hx_i ⟨fun _ => sp_after (c := 576) (e := 6208) hn (hQ _), fun q => absurd (hr.trans hr2.symm) q⟩
theorem lw1_1462 {E : mx_Ev} {h : mx_H} {Q : Option mx_V → mx_H → Prop} (hn : mx_sn E = 6) (hF : sp_FR h) (hM : sp_FM h) (hQ : ∀ h', Q (some (.inl (.int 1))) h') :
    mx_T E (mx_fn true) 1000 586 6306 0 1462 [(0, .inl (.float 2)), (1, .inr (.inl 0)), (2, .inr (.inl 105)), (3, .inl (.int 0))] [] h Q := by
  refine sgL_1462 (d := 999) (c := 576) (e := 6208) ⟨Or.inr (Or.inr rfl), ls hn (by decide) (by decide), Or.inr (Or.inr rfl), ls hn (by decide) (by decide), fc133 hF hM ?_⟩
  intro r h2 hr hM2
  refine hx_i ⟨Or.inr (Or.inr rfl), ls hn (by decide) (by decide), Or.inr (Or.inr rfl), ls hn (by decide) (by decide), fr261 hM2 ?_⟩
  intro r2 h3 hr2
  exact hx_i ⟨fun _ => sp_after (c := 576) (e := 6208) hn (hQ _), fun q => absurd (hr.trans hr2.symm) q⟩
theorem lw1_1495 {E : mx_Ev} {h : mx_H} {Q : Option mx_V → mx_H → Prop} (hn : mx_sn E = 6) (hF : sp_FR h) (hM : sp_FM h) (hQ : ∀ h', Q (some (.inl (.int 1))) h') :
    mx_T E (mx_fn true) 1000 586 6306 0 1495 [(0, .inl (.float 2)), (1, .inr (.inl 0)), (2, .inr (.inl 105)), (3, .inl (.int 0))] [] h Q := by
  refine sgL_1495 (d := 999) (c := 576) (e := 6208) ⟨Or.inr (Or.inr rfl), ls hn (by decide) (by decide), Or.inr (Or.inr rfl), ls hn (by decide) (by decide), fc134 hF hM ?_⟩
  intro r h2 hr hM2
  refine hx_i ⟨Or.inr (Or.inr rfl), ls hn (by decide) (by decide), Or.inr (Or.inr rfl), ls hn (by decide) (by decide), fr262 hM2 ?_⟩
  intro r2 h3 hr2
  exact hx_i ⟨fun _ => sp_after (c := 576) (e := 6208) hn (hQ _), fun q => absurd (hr.trans hr2.symm) q⟩
theorem lw1_1528 {E : mx_Ev} {h : mx_H} {Q : Option mx_V → mx_H → Prop} (hn : mx_sn E = 6) (hF : sp_FR h) (hM : sp_FM h) (hQ : ∀ h', Q (some (.inl (.int 1))) h') :
    mx_T E (mx_fn true) 1000 586 6306 0 1528 [(0, .inl (.float 2)), (1, .inr (.inl 0)), (2, .inr (.inl 105)), (3, .inl (.int 0))] [] h Q := by
  refine sgL_1528 (d := 999) (c := 576) (e := 6208) ⟨Or.inr (Or.inr rfl), ls hn (by decide) (by decide), Or.inr (Or.inr rfl), ls hn (by decide) (by decide), fc135 hF hM ?_⟩
  intro r h2 hr hM2
  refine hx_i ⟨Or.inr (Or.inr rfl), ls hn (by decide) (by decide), Or.inr (Or.inr rfl), ls hn (by decide) (by decide), fr263 hM2 ?_⟩
  intro r2 h3 hr2
  exact hx_i ⟨fun _ => sp_after (c := 576) (e := 6208) hn (hQ _), fun q => absurd (hr.trans hr2.symm) q⟩
theorem lw1_1561 {E : mx_Ev} {h : mx_H} {Q : Option mx_V → mx_H → Prop} (hn : mx_sn E = 6) (hF : sp_FR h) (hM : sp_FM h) (hQ : ∀ h', Q (some (.inl (.int 1))) h') :
    mx_T E (mx_fn true) 1000 586 6306 0 1561 [(0, .inl (.float 2)), (1, .inr (.inl 0)), (2, .inr (.inl 105)), (3, .inl (.int 0))] [] h Q := by
  refine sgL_1561 (d := 999) (c := 576) (e := 6208) ⟨Or.inr (Or.inr rfl), ls hn (by decide) (by decide), Or.inr (Or.inr rfl), ls hn (by decide) (by decide), Or.inr (Or.inr rfl), ls hn (by decide) (by decide), Or.inr (Or.inr rfl), ls hn (by decide) (by decide), fc136 hF hM ?_⟩
  intro r h2 hr hM2
  refine hx_i ⟨Or.inr (Or.inr rfl), ls hn (by decide) (by decide), Or.inr (Or.inr rfl), ls hn (by decide) (by decide), Or.inr (Or.inr rfl), ls hn (by decide) (by decide), Or.inr (Or.inr rfl), ls hn (by decide) (by decide), fr266 hM2 ?_⟩
  intro r2 h3 hr2
  exact hx_i ⟨fun _ => sp_after (c := 576) (e := 6208) hn (hQ _), fun q => absurd (hr.trans hr2.symm) q⟩
theorem lw1_1614 {E : mx_Ev} {h : mx_H} {Q : Option mx_V → mx_H → Prop} (hn : mx_sn E = 6) (hF : sp_FR h) (hM : sp_FM h) (hQ : ∀ h', Q (some (.inl (.int 1))) h') :
    mx_T E (mx_fn true) 1000 586 6306 0 1614 [(0, .inl (.float 2)), (1, .inr (.inl 0)), (2, .inr (.inl 105)), (3, .inl (.int 0))] [] h Q := by
  refine sgL_1614 (d := 999) (c := 576) (e := 6208) ⟨Or.inr (Or.inr rfl), ls hn (by decide) (by decide), Or.inr (Or.inr rfl), ls hn (by decide) (by decide), fc137 hF hM ?_⟩
  intro r h2 hr hM2
  refine hx_i ⟨Or.inr (Or.inr rfl), ls hn (by decide) (by decide), Or.inr (Or.inr rfl), ls hn (by decide) (by decide), fr271 hM2 ?_⟩
  intro r2 h3 hr2
  exact hx_i ⟨fun _ => sp_after (c := 576) (e := 6208) hn (hQ _), fun q => absurd (hr.trans hr2.symm) q⟩
theorem lw1_1647 {E : mx_Ev} {h : mx_H} {Q : Option mx_V → mx_H → Prop} (hn : mx_sn E = 6) (hF : sp_FR h) (hM : sp_FM h) (hQ : ∀ h', Q (some (.inl (.int 1))) h') :
    mx_T E (mx_fn true) 1000 586 6306 0 1647 [(0, .inl (.float 2)), (1, .inr (.inl 0)), (2, .inr (.inl 105)), (3, .inl (.int 0))] [] h Q := by
  refine sgL_1647 (d := 999) (c := 576) (e := 6208) ⟨Or.inr (Or.inr rfl), ls hn (by decide) (by decide), fc138 hF hM ?_⟩
  intro r h2 hr hM2
  refine hx_i ⟨Or.inr (Or.inr rfl), ls hn (by decide) (by decide), fr272 hM2 ?_⟩
  intro r2 h3 hr2
  exact hx_i ⟨fun _ => sp_after (c := 576) (e := 6208) hn (hQ _), fun q => absurd (hr.trans hr2.symm) q⟩
theorem lw1_1670 {E : mx_Ev} {h : mx_H} {Q : Option mx_V → mx_H → Prop} (hn : mx_sn E = 6) (hF : sp_FR h) (hM : sp_FM h) (hQ : ∀ h', Q (some (.inl (.int 1))) h') :
    mx_T E (mx_fn true) 1000 586 6306 0 1670 [(0, .inl (.float 2)), (1, .inr (.inl 0)), (2, .inr (.inl 105)), (3, .inl (.int 0))] [] h Q := by
  refine sgL_1670 (d := 999) (c := 576) (e := 6208) ⟨Or.inr (Or.inr rfl), ls hn (by decide) (by decide), Or.inr (Or.inr rfl), ls hn (by decide) (by decide), fc139 hF hM ?_⟩
  intro r h2 hr hM2
  refine hx_i ⟨Or.inr (Or.inr rfl), ls hn (by decide) (by decide), Or.inr (Or.inr rfl), ls hn (by decide) (by decide), fr273 hM2 ?_⟩
  intro r2 h3 hr2
  exact hx_i ⟨fun _ => sp_after (c := 576) (e := 6208) hn (hQ _), fun q => absurd (hr.trans hr2.symm) q⟩
theorem lw1_1703 {E : mx_Ev} {h : mx_H} {Q : Option mx_V → mx_H → Prop} (hn : mx_sn E = 6) (hF : sp_FR h) (hM : sp_FM h) (hQ : ∀ h', Q (some (.inl (.int 1))) h') :
    mx_T E (mx_fn true) 1000 586 6306 0 1703 [(0, .inl (.float 2)), (1, .inr (.inl 0)), (2, .inr (.inl 105)), (3, .inl (.int 0))] [] h Q := by
  refine sgL_1703 (d := 999) (c := 576) (e := 6208) ⟨Or.inr (Or.inr rfl), ls hn (by decide) (by decide), Or.inr (Or.inr rfl), ls hn (by decide) (by decide), Or.inr (Or.inr rfl), ls hn (by decide) (by decide), Or.inr (Or.inr rfl), ls hn (by decide) (by decide), fc140 hF hM ?_⟩
  intro r h2 hr hM2
  refine hx_i ⟨Or.inr (Or.inr rfl), ls hn (by decide) (by decide), Or.inr (Or.inr rfl), ls hn (by decide) (by decide), Or.inr (Or.inr rfl), ls hn (by decide) (by decide), Or.inr (Or.inr rfl), ls hn (by decide) (by decide), fr277 hM2 ?_⟩
  intro r2 h3 hr2
  exact hx_i ⟨fun _ => sp_after (c := 576) (e := 6208) hn (hQ _), fun q => absurd (hr.trans hr2.symm) q⟩
theorem lw1_1756 {E : mx_Ev} {h : mx_H} {Q : Option mx_V → mx_H → Prop} (hn : mx_sn E = 6) (hF : sp_FR h) (hM : sp_FM h) (hQ : ∀ h', Q (some (.inl (.int 1))) h') :
    mx_T E (mx_fn true) 1000 586 6306 0 1756 [(0, .inl (.float 2)), (1, .inr (.inl 0)), (2, .inr (.inl 105)), (3, .inl (.int 0))] [] h Q := by
  refine sgL_1756 (d := 999) (c := 576) (e := 6208) (fc141 hF hM ?_)
  intro r h2 hr hM2
  refine hx_i (fr274 hM2 ?_)
  intro r2 h3 hr2
  exact hx_i ⟨fun _ => sp_after (c := 576) (e := 6208) hn (hQ _), fun q => absurd (hr.trans hr2.symm) q⟩
theorem lw1_1769 {E : mx_Ev} {h : mx_H} {Q : Option mx_V → mx_H → Prop} (hn : mx_sn E = 6) (hF : sp_FR h) (hM : sp_FM h) (hQ : ∀ h', Q (some (.inl (.int 1))) h') :
    mx_T E (mx_fn true) 1000 586 6306 0 1769 [(0, .inl (.float 2)), (1, .inr (.inl 0)), (2, .inr (.inl 105)), (3, .inl (.int 0))] [] h Q := by
  refine sgL_1769 (d := 999) (c := 576) (e := 6208) ⟨Or.inr (Or.inr rfl), ls hn (by decide) (by decide), Or.inr (Or.inr rfl), ls hn (by decide) (by decide), Or.inr (Or.inr rfl), ls hn (by decide) (by decide), Or.inr (Or.inr rfl), ls hn (by decide) (by decide), fc142 hF hM ?_⟩
  intro r h2 hr hM2
  refine hx_i ⟨Or.inr (Or.inr rfl), ls hn (by decide) (by decide), Or.inr (Or.inr rfl), ls hn (by decide) (by decide), Or.inr (Or.inr rfl), ls hn (by decide) (by decide), Or.inr (Or.inr rfl), ls hn (by decide) (by decide), fr280 hM2 ?_⟩
  intro r2 h3 hr2
  exact hx_i ⟨fun _ => sp_after (c := 567) (e := 6111) hn (hQ _), fun q => absurd (hr.trans hr2.symm) q⟩
theorem lw1_1822 {E : mx_Ev} {h : mx_H} {Q : Option mx_V → mx_H → Prop} (hn : mx_sn E = 6) (hF : sp_FR h) (hM : sp_FM h) (hQ : ∀ h', Q (some (.inl (.int 1))) h') :
    mx_T E (mx_fn true) 1000 586 6306 0 1822 [(0, .inl (.float 2)), (1, .inr (.inl 0)), (2, .inr (.inl 105)), (3, .inl (.int 0))] [] h Q := by
  refine sgL_1822 (d := 999) (c := 576) (e := 6208) ⟨Or.inr (Or.inr rfl), ls hn (by decide) (by decide), Or.inr (Or.inr rfl), ls hn (by decide) (by decide), fc143 hF hM ?_⟩
  intro r h2 hr hM2
  refine hx_i ⟨Or.inr (Or.inr rfl), ls hn (by decide) (by decide), Or.inr (Or.inr rfl), ls hn (by decide) (by decide), fr282 hM2 ?_⟩
  intro r2 h3 hr2
  exact hx_i ⟨fun _ => sp_after (c := 576) (e := 6208) hn (hQ _), fun q => absurd (hr.trans hr2.symm) q⟩
theorem lw1_1855 {E : mx_Ev} {h : mx_H} {Q : Option mx_V → mx_H → Prop} (hn : mx_sn E = 6) (hF : sp_FR h) (hM : sp_FM h) (hQ : ∀ h', Q (some (.inl (.int 1))) h') :
    mx_T E (mx_fn true) 1000 586 6306 0 1855 [(0, .inl (.float 2)), (1, .inr (.inl 0)), (2, .inr (.inl 105)), (3, .inl (.int 0))] [] h Q := by
  refine sgL_1855 (d := 999) (c := 576) (e := 6208) (fc144 hF hM ?_)
  intro r h2 hr hM2
  refine hx_i (fr204 hM2 ?_)
  intro r2 h3 hr2
  exact hx_i ⟨fun _ => sp_after (c := 576) (e := 6208) hn (hQ _), fun q => absurd (hr.trans hr2.symm) q⟩
theorem lw1_1868 {E : mx_Ev} {h : mx_H} {Q : Option mx_V → mx_H → Prop} (hn : mx_sn E = 6) (hF : sp_FR h) (hM : sp_FM h) (hQ : ∀ h', Q (some (.inl (.int 1))) h') :
    mx_T E (mx_fn true) 1000 586 6306 0 1868 [(0, .inl (.float 2)), (1, .inr (.inl 0)), (2, .inr (.inl 105)), (3, .inl (.int 0))] [] h Q := by
  refine sgL_1868 (d := 999) (c := 576) (e := 6208) (fc145 hF hM ?_)
  intro r h2 hr hM2
  refine hx_i (fr205 hM2 ?_)
  intro r2 h3 hr2
  exact hx_i ⟨fun _ => sp_after (c := 576) (e := 6208) hn (hQ _), fun q => absurd (hr.trans hr2.symm) q⟩
theorem lw1_1881 {E : mx_Ev} {h : mx_H} {Q : Option mx_V → mx_H → Prop} (hn : mx_sn E = 6) (hF : sp_FR h) (hM : sp_FM h) (hQ : ∀ h', Q (some (.inl (.int 1))) h') :
    mx_T E (mx_fn true) 1000 586 6306 0 1881 [(0, .inl (.float 2)), (1, .inr (.inl 0)), (2, .inr (.inl 105)), (3, .inl (.int 0))] [] h Q := by
  refine sgL_1881 (d := 999) (c := 576) (e := 6208) (fc146 hF hM ?_)
  intro r h2 hr hM2
  refine hx_i (fr206 hM2 ?_)
  intro r2 h3 hr2
  exact hx_i ⟨fun _ => sp_after (c := 576) (e := 6208) hn (hQ _), fun q => absurd (hr.trans hr2.symm) q⟩
theorem lw1_1894 {E : mx_Ev} {h : mx_H} {Q : Option mx_V → mx_H → Prop} (hn : mx_sn E = 6) (hF : sp_FR h) (hM : sp_FM h) (hQ : ∀ h', Q (some (.inl (.int 1))) h') :
    mx_T E (mx_fn true) 1000 586 6306 0 1894 [(0, .inl (.float 2)), (1, .inr (.inl 0)), (2, .inr (.inl 105)), (3, .inl (.int 0))] [] h Q := by
  refine sgL_1894 (d := 999) (c := 576) (e := 6208) ⟨Or.inr (Or.inr rfl), ls hn (by decide) (by decide), fc147 hF hM ?_⟩
  intro r h2 hr hM2
  refine hx_i ⟨Or.inr (Or.inr rfl), ls hn (by decide) (by decide), fr285 hM2 ?_⟩
  intro r2 h3 hr2
  exact hx_i ⟨fun _ => sp_after (c := 576) (e := 6208) hn (hQ _), fun q => absurd (hr.trans hr2.symm) q⟩
theorem lw1_1917 {E : mx_Ev} {h : mx_H} {Q : Option mx_V → mx_H → Prop} (hn : mx_sn E = 6) (hF : sp_FR h) (hM : sp_FM h) (hQ : ∀ h', Q (some (.inl (.int 1))) h') :
    mx_T E (mx_fn true) 1000 586 6306 0 1917 [(0, .inl (.float 2)), (1, .inr (.inl 0)), (2, .inr (.inl 105)), (3, .inl (.int 0))] [] h Q := by
  refine sgL_1917 (d := 999) (c := 576) (e := 6208) ⟨Or.inr (Or.inr rfl), ls hn (by decide) (by decide), Or.inr (Or.inr rfl), ls hn (by decide) (by decide), Or.inr (Or.inr rfl), ls hn (by decide) (by decide), fc148 hF hM ?_⟩
  intro r h2 hr hM2
  refine hx_i ⟨Or.inr (Or.inr rfl), ls hn (by decide) (by decide), Or.inr (Or.inr rfl), ls hn (by decide) (by decide), Or.inr (Or.inr rfl), ls hn (by decide) (by decide), fr297 hM2 ?_⟩
  intro r2 h3 hr2
  exact hx_i ⟨fun _ => sp_after (c := 576) (e := 6208) hn (hQ _), fun q => absurd (hr.trans hr2.symm) q⟩
theorem lw1_1960 {E : mx_Ev} {h : mx_H} {Q : Option mx_V → mx_H → Prop} (hn : mx_sn E = 6) (hF : sp_FR h) (hM : sp_FM h) (hQ : ∀ h', Q (some (.inl (.int 1))) h') :
    mx_T E (mx_fn true) 1000 586 6306 0 1960 [(0, .inl (.float 2)), (1, .inr (.inl 0)), (2, .inr (.inl 105)), (3, .inl (.int 0))] [] h Q := by
  refine sgL_1960 (d := 999) (c := 576) (e := 6208) ⟨Or.inr (Or.inr rfl), ls hn (by decide) (by decide), fc149 hF hM ?_⟩
  intro r h2 hr hM2
  refine hx_i ⟨Or.inr (Or.inr rfl), ls hn (by decide) (by decide), fr298 hM2 ?_⟩
  intro r2 h3 hr2
  exact hx_i ⟨fun _ => sp_after (c := 576) (e := 6208) hn (hQ _), fun q => absurd (hr.trans hr2.symm) q⟩
theorem lw1_1983 {E : mx_Ev} {h : mx_H} {Q : Option mx_V → mx_H → Prop} (hn : mx_sn E = 6) (hF : sp_FR h) (hM : sp_FM h) (hQ : ∀ h', Q (some (.inl (.int 1))) h') :
    mx_T E (mx_fn true) 1000 586 6306 0 1983 [(0, .inl (.float 2)), (1, .inr (.inl 0)), (2, .inr (.inl 105)), (3, .inl (.int 0))] [] h Q := by
  refine sgL_1983 (d := 999) (c := 576) (e := 6208) ⟨Or.inr (Or.inr rfl), ls hn (by decide) (by decide), Or.inr (Or.inr rfl), ls hn (by decide) (by decide), fc150 hF hM ?_⟩
  intro r h2 hr hM2
  refine hx_i ⟨Or.inr (Or.inr rfl), ls hn (by decide) (by decide), Or.inr (Or.inr rfl), ls hn (by decide) (by decide), fr301 hM2 ?_⟩
  intro r2 h3 hr2
  exact hx_i ⟨fun _ => sp_after (c := 576) (e := 6208) hn (hQ _), fun q => absurd (hr.trans hr2.symm) q⟩
theorem lw1_2016 {E : mx_Ev} {h : mx_H} {Q : Option mx_V → mx_H → Prop} (hn : mx_sn E = 6) (hF : sp_FR h) (hM : sp_FM h) (hQ : ∀ h', Q (some (.inl (.int 1))) h') :
    mx_T E (mx_fn true) 1000 586 6306 0 2016 [(0, .inl (.float 2)), (1, .inr (.inl 0)), (2, .inr (.inl 105)), (3, .inl (.int 0))] [] h Q := by
  refine sgL_2016 (d := 999) (c := 576) (e := 6208) ⟨Or.inr (Or.inr rfl), ls hn (by decide) (by decide), Or.inr (Or.inr rfl), ls hn (by decide) (by decide), Or.inr (Or.inr rfl), ls hn (by decide) (by decide), fc151 hF hM ?_⟩
  intro r h2 hr hM2
  refine hx_i ⟨Or.inr (Or.inr rfl), ls hn (by decide) (by decide), Or.inr (Or.inr rfl), ls hn (by decide) (by decide), Or.inr (Or.inr rfl), ls hn (by decide) (by decide), fr302 hM2 ?_⟩
  intro r2 h3 hr2
  exact hx_i ⟨fun _ => sp_after (c := 576) (e := 6208) hn (hQ _), fun q => absurd (hr.trans hr2.symm) q⟩
theorem lw1_2059 {E : mx_Ev} {h : mx_H} {Q : Option mx_V → mx_H → Prop} (hn : mx_sn E = 6) (hF : sp_FR h) (hM : sp_FM h) (hQ : ∀ h', Q (some (.inl (.int 1))) h') :
    mx_T E (mx_fn true) 1000 586 6306 0 2059 [(0, .inl (.float 2)), (1, .inr (.inl 0)), (2, .inr (.inl 105)), (3, .inl (.int 0))] [] h Q := by
  refine sgL_2059 (d := 999) (c := 576) (e := 6208) ⟨Or.inr (Or.inr rfl), ls hn (by decide) (by decide), Or.inr (Or.inr rfl), ls hn (by decide) (by decide), Or.inr (Or.inr rfl), ls hn (by decide) (by decide), Or.inr (Or.inr rfl), ls hn (by decide) (by decide), fc152 hF hM ?_⟩
  intro r h2 hr hM2
  refine hx_i ⟨Or.inr (Or.inr rfl), ls hn (by decide) (by decide), Or.inr (Or.inr rfl), ls hn (by decide) (by decide), Or.inr (Or.inr rfl), ls hn (by decide) (by decide), Or.inr (Or.inr rfl), ls hn (by decide) (by decide), fr304 hM2 ?_⟩
  intro r2 h3 hr2
  exact hx_i ⟨fun _ => sp_after (c := 576) (e := 6208) hn (hQ _), fun q => absurd (hr.trans hr2.symm) q⟩
theorem lw1_2132 {E : mx_Ev} {h : mx_H} {Q : Option mx_V → mx_H → Prop} (hn : mx_sn E = 6) (hF : sp_FR h) (hM : sp_FM h) (hQ : ∀ h', Q (some (.inl (.int 1))) h') :
    mx_T E (mx_fn true) 1000 586 6306 0 2132 [(0, .inl (.float 2)), (1, .inr (.inl 0)), (2, .inr (.inl 105)), (3, .inl (.int 0))] [] h Q := by
  refine sgL_2132 (d := 999) (c := 576) (e := 6208) ⟨Or.inr (Or.inr rfl), ls hn (by decide) (by decide), Or.inr (Or.inr rfl), ls hn (by decide) (by decide), fc153 hF hM ?_⟩
  intro r h2 hr hM2
  refine hx_l ⟨Or.inr (Or.inr rfl), ls hn (by decide) (by decide), Or.inr (Or.inr rfl), ls hn (by decide) (by decide), fr305 hM2 ?_⟩
  intro r2 h3 hr2
  exact hx_l ⟨fun _ => sp_after (c := 576) (e := 6208) hn (hQ _), fun q => absurd (by rw [hr, hr2]; decide) q⟩
theorem lw1_2166 {E : mx_Ev} {h : mx_H} {Q : Option mx_V → mx_H → Prop} (hn : mx_sn E = 6) (hF : sp_FR h) (hM : sp_FM h) (hQ : ∀ h', Q (some (.inl (.int 1))) h') :
    mx_T E (mx_fn true) 1000 586 6306 0 2166 [(0, .inl (.float 2)), (1, .inr (.inl 0)), (2, .inr (.inl 105)), (3, .inl (.int 0))] [] h Q := by
  refine sgL_2166 (d := 999) (c := 576) (e := 6208) ⟨Or.inr (Or.inr rfl), ls hn (by decide) (by decide), Or.inr (Or.inr rfl), ls hn (by decide) (by decide), Or.inr (Or.inr rfl), ls hn (by decide) (by decide), Or.inr (Or.inr rfl), ls hn (by decide) (by decide), Or.inr (Or.inr rfl), ls hn (by decide) (by decide), fc154 hF hM ?_⟩
  intro r h2 hr hM2
  refine hx_i ⟨Or.inr (Or.inr rfl), ls hn (by decide) (by decide), Or.inr (Or.inr rfl), ls hn (by decide) (by decide), Or.inr (Or.inr rfl), ls hn (by decide) (by decide), Or.inr (Or.inr rfl), ls hn (by decide) (by decide), Or.inr (Or.inr rfl), ls hn (by decide) (by decide), fr306 hM2 ?_⟩
  intro r2 h3 hr2
  exact hx_i ⟨fun _ => sp_after (c := 576) (e := 6208) hn (hQ _), fun q => absurd (hr.trans hr2.symm) q⟩
theorem lw1_2229 {E : mx_Ev} {h : mx_H} {Q : Option mx_V → mx_H → Prop} (hn : mx_sn E = 6) (hF : sp_FR h) (hM : sp_FM h) (hQ : ∀ h', Q (some (.inl (.int 1))) h') :
    mx_T E (mx_fn true) 1000 586 6306 0 2229 [(0, .inl (.float 2)), (1, .inr (.inl 0)), (2, .inr (.inl 105)), (3, .inl (.int 0))] [] h Q := by
  refine sgL_2229 (d := 999) (c := 576) (e := 6208) ⟨Or.inr (Or.inr rfl), ls hn (by decide) (by decide), Or.inr (Or.inr rfl), ls hn (by decide) (by decide), fc155 hF hM ?_⟩
  intro r h2 hr hM2
  refine hx_i ⟨Or.inr (Or.inr rfl), ls hn (by decide) (by decide), Or.inr (Or.inr rfl), ls hn (by decide) (by decide), fr307 hM2 ?_⟩
  intro r2 h3 hr2
  exact hx_i ⟨fun _ => sp_after (c := 576) (e := 6208) hn (hQ _), fun q => absurd (hr.trans hr2.symm) q⟩
theorem lw1_2262 {E : mx_Ev} {h : mx_H} {Q : Option mx_V → mx_H → Prop} (hn : mx_sn E = 6) (hF : sp_FR h) (hM : sp_FM h) (hQ : ∀ h', Q (some (.inl (.int 1))) h') :
    mx_T E (mx_fn true) 1000 586 6306 0 2262 [(0, .inl (.float 2)), (1, .inr (.inl 0)), (2, .inr (.inl 105)), (3, .inl (.int 0))] [] h Q := by
  refine sgL_2262 (d := 999) (c := 576) (e := 6208) ⟨Or.inr (Or.inr rfl), ls hn (by decide) (by decide), fc156 hF hM ?_⟩
  intro r h2 hr hM2
  refine hx_i ⟨Or.inr (Or.inr rfl), ls hn (by decide) (by decide), fr299 hM2 ?_⟩
  intro r2 h3 hr2
  exact hx_i ⟨fun _ => sp_after (c := 576) (e := 6208) hn (hQ _), fun q => absurd (hr.trans hr2.symm) q⟩
set_option maxRecDepth 100000 in
theorem lw1_18 {E : mx_Ev} {h : mx_H} {Q : Option mx_V → mx_H → Prop} (hn : mx_sn E ≤ 6) (hF : sp_FR h) (hM : sp_FM h) (hQ : ∀ h', Q (some (.inl (.int 1))) h') :
    mx_T E (mx_fn true) 1000 586 6306 0 18 [(0, .inl (.float 2)), (1, .inr (.inl 0)), (2, .inr (.inl 105)), (3, .inl (.int 0))] [] h Q := by
  refine sgL_18 (d := 999) (c := 576) (e := 6208) ⟨Or.inr (Or.inr rfl), fun _ => ⟨Or.inr rfl, hQ _⟩, fun h1 => ?_⟩
  have hn6 : mx_sn E = 6 := by
    rcases Nat.lt_or_ge (mx_sn E) 6 with q | q
    · refine absurd ?_ h1
      show Int32.ofNat (mx_sn E) - 6 < 0
      rcases (show mx_sn E = 0 ∨ mx_sn E = 1 ∨ mx_sn E = 2 ∨ mx_sn E = 3 ∨ mx_sn E = 4 ∨ mx_sn E = 5 by omega) with q | q | q | q | q | q <;> rw [q] <;> decide
    · omega
  refine ⟨Or.inr (Or.inr rfl), ls hn6 (by decide) (by decide), ?_⟩
  intro tgt ht
  rcases ht with ⟨-, h2⟩ | ⟨-, -, o, ho, h3⟩
  · have e : tgt = 2285 := by omega
    subst e
    exact sp_after (c := 576) (e := 6208) hn6 (hQ _)
  · have hm := Array.mem_of_getElem? ho
    simp only [List.mem_toArray, List.mem_cons, List.not_mem_nil, or_false] at hm
    rcases hm with rfl | rfl | rfl | rfl | rfl | rfl | rfl | rfl | rfl | rfl | rfl | rfl | rfl | rfl | rfl | rfl | rfl | rfl | rfl | rfl | rfl | rfl | rfl | rfl | rfl | rfl | rfl | rfl | rfl | rfl | rfl | rfl | rfl | rfl | rfl | rfl | rfl | rfl | rfl | rfl | rfl | rfl | rfl | rfl | rfl | rfl | rfl | rfl | rfl | rfl | rfl | rfl | rfl | rfl | rfl
    · have e : tgt = 268 := by omega
      subst e
      exact lw1_268 hn6 hF hM hQ
    · have e : tgt = 301 := by omega
      subst e
      exact lw1_301 hn6 hF hM hQ
    · have e : tgt = 314 := by omega
      subst e
      exact lw1_314 hn6 hF hM hQ
    · have e : tgt = 347 := by omega
      subst e
      exact lw1_347 hn6 hF hM hQ
    · have e : tgt = 400 := by omega
      subst e
      exact lw1_400 hn6 hF hM hQ
    · have e : tgt = 453 := by omega
      subst e
      exact lw1_453 hn6 hF hM hQ
    · have e : tgt = 506 := by omega
      subst e
      exact lw1_506 hn6 hF hM hQ
    · have e : tgt = 549 := by omega
      subst e
      exact lw1_549 hn6 hF hM hQ
    · have e : tgt = 592 := by omega
      subst e
      exact lw1_592 hn6 hF hM hQ
    · have e : tgt = 636 := by omega
      subst e
      exact lw1_636 hn6 hF hM hQ
    · have e : tgt = 679 := by omega
      subst e
      exact lw1_679 hn6 hF hM hQ
    · have e : tgt = 722 := by omega
      subst e
      exact lw1_722 hn6 hF hM hQ
    · have e : tgt = 775 := by omega
      subst e
      exact lw1_775 hn6 hF hM hQ
    · have e : tgt = 838 := by omega
      subst e
      exact lw1_838 hn6 hF hM hQ
    · have e : tgt = 891 := by omega
      subst e
      exact lw1_891 hn6 hF hM hQ
    · have e : tgt = 914 := by omega
      subst e
      exact lw1_914 hn6 hF hM hQ
    · have e : tgt = 947 := by omega
      subst e
      exact lw1_947 hn6 hF hM hQ
    · have e : tgt = 980 := by omega
      subst e
      exact lw1_980 hn6 hF hM hQ
    · have e : tgt = 1023 := by omega
      subst e
      exact lw1_1023 hn6 hF hM hQ
    · have e : tgt = 1076 := by omega
      subst e
      exact lw1_1076 hn6 hF hM hQ
    · have e : tgt = 1119 := by omega
      subst e
      exact lw1_1119 hn6 hF hM hQ
    · have e : tgt = 1162 := by omega
      subst e
      exact lw1_1162 hn6 hF hM hQ
    · have e : tgt = 1185 := by omega
      subst e
      exact lw1_1185 hn6 hF hM hQ
    · have e : tgt = 1198 := by omega
      subst e
      exact lw1_1198 hn6 hF hM hQ
    · have e : tgt = 1221 := by omega
      subst e
      exact lw1_1221 hn6 hF hM hQ
    · have e : tgt = 1264 := by omega
      subst e
      exact lw1_1264 hn6 hF hM hQ
    · have e : tgt = 1297 := by omega
      subst e
      exact lw1_1297 hn6 hF hM hQ
    · have e : tgt = 1310 := by omega
      subst e
      exact lw1_1310 hn6 hF hM hQ
    · have e : tgt = 1333 := by omega
      subst e
      exact lw1_1333 hn6 hF hM hQ
    · have e : tgt = 1366 := by omega
      subst e
      exact lw1_1366 hn6 hF hM hQ
    · have e : tgt = 1419 := by omega
      subst e
      exact lw1_1419 hn6 hF hM hQ
    · have e : tgt = 1462 := by omega
      subst e
      exact lw1_1462 hn6 hF hM hQ
    · have e : tgt = 1495 := by omega
      subst e
      exact lw1_1495 hn6 hF hM hQ
    · have e : tgt = 1528 := by omega
      subst e
      exact lw1_1528 hn6 hF hM hQ
    · have e : tgt = 1561 := by omega
      subst e
      exact lw1_1561 hn6 hF hM hQ
    · have e : tgt = 1614 := by omega
      subst e
      exact lw1_1614 hn6 hF hM hQ
    · have e : tgt = 1647 := by omega
      subst e
      exact lw1_1647 hn6 hF hM hQ
    · have e : tgt = 1670 := by omega
      subst e
      exact lw1_1670 hn6 hF hM hQ
    · have e : tgt = 1703 := by omega
      subst e
      exact lw1_1703 hn6 hF hM hQ
    · have e : tgt = 1756 := by omega
      subst e
      exact lw1_1756 hn6 hF hM hQ
    · have e : tgt = 1769 := by omega
      subst e
      exact lw1_1769 hn6 hF hM hQ
    · have e : tgt = 1822 := by omega
      subst e
      exact lw1_1822 hn6 hF hM hQ
    · have e : tgt = 1855 := by omega
      subst e
      exact lw1_1855 hn6 hF hM hQ
    · have e : tgt = 1868 := by omega
      subst e
      exact lw1_1868 hn6 hF hM hQ
    · have e : tgt = 1881 := by omega
      subst e
      exact lw1_1881 hn6 hF hM hQ
    · have e : tgt = 1894 := by omega
      subst e
      exact lw1_1894 hn6 hF hM hQ
    · have e : tgt = 1917 := by omega
      subst e
      exact lw1_1917 hn6 hF hM hQ
    · have e : tgt = 1960 := by omega
      subst e
      exact lw1_1960 hn6 hF hM hQ
    · have e : tgt = 1983 := by omega
      subst e
      exact lw1_1983 hn6 hF hM hQ
    · have e : tgt = 2016 := by omega
      subst e
      exact lw1_2016 hn6 hF hM hQ
    · have e : tgt = 2059 := by omega
      subst e
      exact lw1_2059 hn6 hF hM hQ
    · have e : tgt = 2132 := by omega
      subst e
      exact lw1_2132 hn6 hF hM hQ
    · have e : tgt = 2166 := by omega
      subst e
      exact lw1_2166 hn6 hF hM hQ
    · have e : tgt = 2229 := by omega
      subst e
      exact lw1_2229 hn6 hF hM hQ
    · have e : tgt = 2262 := by omega
      subst e
      exact lw1_2262 hn6 hF hM hQ
