/-! ===== the law: each call, and the loop ===== -/
theorem lp_268 {E : mx_Ev} {c e : Nat} {h : mx_H} {Q : Option mx_V → mx_H → Prop} {a3 : Int32} (v1 : vp_in (a3 + 1) (mx_slen E 2)) (v2 : vp_in (a3 + 2) (mx_slen E 2)) (v3 : vp_in (a3 + 3) (mx_slen E 2)) (v4 : vp_in (a3 + 4) (mx_slen E 2)) (v5 : vp_in (a3 + 5) (mx_slen E 2)) (hI : sf_I h) (hR : rt_Q h) (nxt : ∀ h', sf_I h' → rt_Q h' → mx_T E (mx_fn true) 1000 (c + 10) (e + 98) 0 2283 [(0, .inl (.float 2)), (1, .inr (.inl 0)), (2, .inr (.inl 105)), (3, .inl (.int a3))] [] h' Q) :
    mx_T E (mx_fn true) 1000 (c + 10) (e + 98) 0 268 [(0, .inl (.float 2)), (1, .inr (.inl 0)), (2, .inr (.inl 105)), (3, .inl (.int a3))] [] h Q :=
  sgL_268 (d := 999) ⟨Or.inr (Or.inr rfl), v1, Or.inr (Or.inr rfl), v2, rt_Ci (r := (f102 _ _ _)) (M := fun g => sf_E 163840 h g) (sf102 (iv_rng _) (iv_rng _) hI (fun x2 h2 I2 E2 X2 => ⟨x2, rfl, I2, E2⟩)) (fun _ => x102 (xk_i rfl)) (fun I2 E2 => hx_i ⟨Or.inr (Or.inr rfl), v1, Or.inr (Or.inr rfl), v2, rt_Ci (r := (f184 _ _ _)) (M := fun g => sf_E 2187250724783011924372502228884468430131553760476509937168689122237436896074994881345119378315673600 _ g) (sf184 (iv_rng _) (iv_rng _) I2 (fun x4 h4 I4 E4 X4 => ⟨x4, rfl, I4, E4⟩)) (fun _ => x184 (xk_i rfl)) (fun I4 E4 => hx_i (nxt _ I4 ⟨(rt_go hR.1 (by decide) E2.l (by decide) E4 (by decide) (by decide) (fun S N P => st_feed P ⟨by decide, by decide, by decide, by decide, by decide, by decide, by decide⟩ E2 (by decide) E4.l (by decide))), (rt_Bf (by decide) (by decide) E4.l (rt_Bf (by decide) (by decide) E2.l hR.2))⟩))⟩)⟩
theorem lp_301 {E : mx_Ev} {c e : Nat} {h : mx_H} {Q : Option mx_V → mx_H → Prop} {a3 : Int32} (v1 : vp_in (a3 + 1) (mx_slen E 2)) (v2 : vp_in (a3 + 2) (mx_slen E 2)) (v3 : vp_in (a3 + 3) (mx_slen E 2)) (v4 : vp_in (a3 + 4) (mx_slen E 2)) (v5 : vp_in (a3 + 5) (mx_slen E 2)) (hI : sf_I h) (hR : rt_Q h) (nxt : ∀ h', sf_I h' → rt_Q h' → mx_T E (mx_fn true) 1000 (c + 1) (e + 1) 0 2283 [(0, .inl (.float 2)), (1, .inr (.inl 0)), (2, .inr (.inl 105)), (3, .inl (.int a3))] [] h' Q) :
    mx_T E (mx_fn true) 1000 (c + 10) (e + 98) 0 301 [(0, .inl (.float 2)), (1, .inr (.inl 0)), (2, .inr (.inl 105)), (3, .inl (.int a3))] [] h Q :=
  sgL_301 (d := 999) (rt_Ci (r := (f103 _)) (M := fun g => sf_El 1862887453319671130553461982299578151529364904859901145530037279011111790160225641534390178439221559082035016942161750242474688524 h g) (sf103  hI (fun x2 h2 I2 E2 X2 => ⟨x2, rfl, I2, E2⟩)) (fun _ => x103 (xk_i rfl)) (fun I2 E2 => hx_i (rt_Ci (r := (f194 _)) (M := fun g => sf_E 67530832130916512937480407533443205100368203768325352750423564896418166766327142107240119214255636480 _ g) (sf194  I2 (fun x4 h4 I4 E4 X4 => ⟨x4, rfl, I4, E4⟩)) (fun _ => x194 (xk_i rfl)) (fun I4 E4 => hx_i (nxt _ I4 ⟨(rt_go hR.1 (by decide) E2 (by decide) E4 (by decide) (by decide) (fun S N P => st_shape hI P (by decide) E2 E4.l)), (rt_Bf (by decide) (by decide) E4.l (rt_Bf (by decide) (by decide) E2 hR.2))⟩)))))
theorem lp_314 {E : mx_Ev} {c e : Nat} {h : mx_H} {Q : Option mx_V → mx_H → Prop} {a3 : Int32} (v1 : vp_in (a3 + 1) (mx_slen E 2)) (v2 : vp_in (a3 + 2) (mx_slen E 2)) (v3 : vp_in (a3 + 3) (mx_slen E 2)) (v4 : vp_in (a3 + 4) (mx_slen E 2)) (v5 : vp_in (a3 + 5) (mx_slen E 2)) (hI : sf_I h) (hR : rt_Q h) (nxt : ∀ h', sf_I h' → rt_Q h' → mx_T E (mx_fn true) 1000 (c + 10) (e + 98) 0 2283 [(0, .inl (.float 2)), (1, .inr (.inl 0)), (2, .inr (.inl 105)), (3, .inl (.int a3))] [] h' Q) :
    mx_T E (mx_fn true) 1000 (c + 10) (e + 98) 0 314 [(0, .inl (.float 2)), (1, .inr (.inl 0)), (2, .inr (.inl 105)), (3, .inl (.int a3))] [] h Q :=
  sgL_314 (d := 999) ⟨Or.inr (Or.inr rfl), v1, Or.inr (Or.inr rfl), v2, sf104 (iv_rng _) (iv_rng _) hI (fun x2 h2 I2 E2 X2 => hx_i ⟨Or.inr (Or.inr rfl), v1, Or.inr (Or.inr rfl), v2, sf196 (iv_rng _) (iv_rng _) I2 (fun x4 h4 I4 E4 X4 => hx_i (nxt _ I4 (rt_Qf (by decide) (by decide) (by decide) (by decide) (by decide) E4 (rt_Qf (by decide) (by decide) (by decide) (by decide) (by decide) E2 hR))))⟩)⟩
theorem lp_347 {E : mx_Ev} {c e : Nat} {h : mx_H} {Q : Option mx_V → mx_H → Prop} {a3 : Int32} (v1 : vp_in (a3 + 1) (mx_slen E 2)) (v2 : vp_in (a3 + 2) (mx_slen E 2)) (v3 : vp_in (a3 + 3) (mx_slen E 2)) (v4 : vp_in (a3 + 4) (mx_slen E 2)) (v5 : vp_in (a3 + 5) (mx_slen E 2)) (hI : sf_I h) (hR : rt_Q h) (nxt : ∀ h', sf_I h' → rt_Q h' → mx_T E (mx_fn true) 1000 (c + 10) (e + 98) 0 2283 [(0, .inl (.float 2)), (1, .inr (.inl 0)), (2, .inr (.inl 105)), (3, .inl (.int a3))] [] h' Q) :
    mx_T E (mx_fn true) 1000 (c + 10) (e + 98) 0 347 [(0, .inl (.float 2)), (1, .inr (.inl 0)), (2, .inr (.inl 105)), (3, .inl (.int a3))] [] h Q :=
  sgL_347 (d := 999) ⟨Or.inr (Or.inr rfl), v1, Or.inr (Or.inr rfl), v2, Or.inr (Or.inr rfl), v3, Or.inr (Or.inr rfl), v4, sf105 (iv_rng _) (iv_rng _) (iv_rng _) (iv_rng _) hI (fun x2 h2 I2 E2 X2 => hx_i ⟨Or.inr (Or.inr rfl), v1, Or.inr (Or.inr rfl), v2, Or.inr (Or.inr rfl), v3, Or.inr (Or.inr rfl), v4, sf197 (iv_rng _) (iv_rng _) (iv_rng _) (iv_rng _) I2 (fun x4 h4 I4 E4 X4 => hx_i (nxt _ I4 (rt_Qf (by decide) (by decide) (by decide) (by decide) (by decide) E4 (rt_Qf (by decide) (by decide) (by decide) (by decide) (by decide) E2 hR))))⟩)⟩
theorem lp_400 {E : mx_Ev} {c e : Nat} {h : mx_H} {Q : Option mx_V → mx_H → Prop} {a3 : Int32} (v1 : vp_in (a3 + 1) (mx_slen E 2)) (v2 : vp_in (a3 + 2) (mx_slen E 2)) (v3 : vp_in (a3 + 3) (mx_slen E 2)) (v4 : vp_in (a3 + 4) (mx_slen E 2)) (v5 : vp_in (a3 + 5) (mx_slen E 2)) (hI : sf_I h) (hR : rt_Q h) (nxt : ∀ h', sf_I h' → rt_Q h' → mx_T E (mx_fn true) 1000 (c + 10) (e + 98) 0 2283 [(0, .inl (.float 2)), (1, .inr (.inl 0)), (2, .inr (.inl 105)), (3, .inl (.int a3))] [] h' Q) :
    mx_T E (mx_fn true) 1000 (c + 10) (e + 98) 0 400 [(0, .inl (.float 2)), (1, .inr (.inl 0)), (2, .inr (.inl 105)), (3, .inl (.int a3))] [] h Q :=
  sgL_400 (d := 999) ⟨Or.inr (Or.inr rfl), v1, Or.inr (Or.inr rfl), v2, Or.inr (Or.inr rfl), v3, Or.inr (Or.inr rfl), v4, rt_Ci (r := (f106 _ _ _ _ _)) (M := fun g => sf_E 173291857970542041082987128926033624451587699969774079368659923616335826541133162308722440336261867775457670660705822522807943168 h g) (sf106 (iv_rng _) (iv_rng _) (iv_rng _) (iv_rng _) hI (fun x2 h2 I2 E2 X2 => ⟨x2, rfl, I2, E2⟩)) (fun _ => x106 (xk_i rfl)) (fun I2 E2 => hx_i ⟨Or.inr (Or.inr rfl), v1, Or.inr (Or.inr rfl), v2, Or.inr (Or.inr rfl), v3, Or.inr (Or.inr rfl), v4, rt_Ci (r := (f201 _ _ _ _ _)) (M := fun g => sf_E 2169888354161528806767754294535960706739420512303208864955817498856277718958843346350045092292121853952 _ g) (sf201 (iv_rng _) (iv_rng _) (iv_rng _) (iv_rng _) I2 (fun x4 h4 I4 E4 X4 => ⟨x4, rfl, I4, E4⟩)) (fun _ => x201 (xk_i rfl)) (fun I4 E4 => hx_i (nxt _ I4 ⟨(rt_go hR.1 (by decide) E2.l (by decide) E4 (by decide) (by decide) (fun S N P => (st_put I2 P (by decide) (by decide) (by decide) (by decide) E2.l E4.l).2)), (rt_Bf (by decide) (by decide) E4.l (rt_Bf (by decide) (by decide) E2.l hR.2))⟩))⟩)⟩
theorem lp_453 {E : mx_Ev} {c e : Nat} {h : mx_H} {Q : Option mx_V → mx_H → Prop} {a3 : Int32} (v1 : vp_in (a3 + 1) (mx_slen E 2)) (v2 : vp_in (a3 + 2) (mx_slen E 2)) (v3 : vp_in (a3 + 3) (mx_slen E 2)) (v4 : vp_in (a3 + 4) (mx_slen E 2)) (v5 : vp_in (a3 + 5) (mx_slen E 2)) (hI : sf_I h) (hR : rt_Q h) (nxt : ∀ h', sf_I h' → rt_Q h' → mx_T E (mx_fn true) 1000 (c + 10) (e + 98) 0 2283 [(0, .inl (.float 2)), (1, .inr (.inl 0)), (2, .inr (.inl 105)), (3, .inl (.int a3))] [] h' Q) :
    mx_T E (mx_fn true) 1000 (c + 10) (e + 98) 0 453 [(0, .inl (.float 2)), (1, .inr (.inl 0)), (2, .inr (.inl 105)), (3, .inl (.int a3))] [] h Q :=
  sgL_453 (d := 999) ⟨Or.inr (Or.inr rfl), v1, Or.inr (Or.inr rfl), v2, Or.inr (Or.inr rfl), v3, Or.inr (Or.inr rfl), v4, rt_Ci (r := (f107 _ _ _ _ _)) (M := fun g => sf_E 173291857970542041082987128926033624451587699969774079368659923616335826541133162308722440336261867775457670660705822522807943168 h g) (sf107 (iv_rng _) (iv_rng _) (iv_rng _) (iv_rng _) hI (fun x2 h2 I2 E2 X2 => ⟨x2, rfl, I2, E2⟩)) (fun _ => x107 (xk_i rfl)) (fun I2 E2 => hx_i ⟨Or.inr (Or.inr rfl), v1, Or.inr (Or.inr rfl), v2, Or.inr (Or.inr rfl), v3, Or.inr (Or.inr rfl), v4, rt_Ci (r := (f202 _ _ _ _ _)) (M := fun g => sf_E 2169888354161528806767754294535960706739420512303208864955817498856277718958843346350045092292121853952 _ g) (sf202 (iv_rng _) (iv_rng _) (iv_rng _) (iv_rng _) I2 (fun x4 h4 I4 E4 X4 => ⟨x4, rfl, I4, E4⟩)) (fun _ => x202 (xk_i rfl)) (fun I4 E4 => hx_i (nxt _ I4 ⟨(rt_go hR.1 (by decide) E2.l (by decide) E4 (by decide) (by decide) (fun S N P => (st_crack I2 P (by decide) (by decide) (by decide) (by decide) E2.l E4.l).2)), (rt_Bf (by decide) (by decide) E4.l (rt_Bf (by decide) (by decide) E2.l hR.2))⟩))⟩)⟩
theorem lp_506 {E : mx_Ev} {c e : Nat} {h : mx_H} {Q : Option mx_V → mx_H → Prop} {a3 : Int32} (v1 : vp_in (a3 + 1) (mx_slen E 2)) (v2 : vp_in (a3 + 2) (mx_slen E 2)) (v3 : vp_in (a3 + 3) (mx_slen E 2)) (v4 : vp_in (a3 + 4) (mx_slen E 2)) (v5 : vp_in (a3 + 5) (mx_slen E 2)) (hI : sf_I h) (hR : rt_Q h) (nxt : ∀ h', sf_I h' → rt_Q h' → mx_T E (mx_fn true) 1000 (c + 10) (e + 98) 0 2283 [(0, .inl (.float 2)), (1, .inr (.inl 0)), (2, .inr (.inl 105)), (3, .inl (.int a3))] [] h' Q) :
    mx_T E (mx_fn true) 1000 (c + 10) (e + 98) 0 506 [(0, .inl (.float 2)), (1, .inr (.inl 0)), (2, .inr (.inl 105)), (3, .inl (.int a3))] [] h Q :=
  sgL_506 (d := 999) ⟨Or.inr (Or.inr rfl), v1, Or.inr (Or.inr rfl), v2, Or.inr (Or.inr rfl), v3, rt_Ci (r := (f108 _ _ _ _)) (M := fun g => sf_E 173291857970542041082987128926033624451587699969774079368659923616335826541133162308722440336261867775457670660705822522807943168 h g) (sf108 (iv_rng _) (iv_rng _) (iv_rng _) hI (fun x2 h2 I2 E2 X2 => ⟨x2, rfl, I2, E2⟩)) (fun _ => x108 (xk_i rfl)) (fun I2 E2 => hx_i ⟨Or.inr (Or.inr rfl), v1, Or.inr (Or.inr rfl), v2, Or.inr (Or.inr rfl), v3, rt_Ci (r := (f203 _ _ _ _)) (M := fun g => sf_E 2169873402252277360397177529384017519874618293371552368386427869565022963420762881866194931557513297920 _ g) (sf203 (iv_rng _) (iv_rng _) (iv_rng _) I2 (fun x4 h4 I4 E4 X4 => ⟨x4, rfl, I4, E4⟩)) (fun _ => x203 (xk_i rfl)) (fun I4 E4 => hx_i (nxt _ I4 ⟨(rt_go hR.1 (by decide) E2.l (by decide) E4 (by decide) (by decide) (fun S N P => (st_stroke I2 P (by decide) (by decide) (by decide) (by decide) E2.l E4.l).2)), (rt_Bf (by decide) (by decide) E4.l (rt_Bf (by decide) (by decide) E2.l hR.2))⟩))⟩)⟩
theorem lp_549 {E : mx_Ev} {c e : Nat} {h : mx_H} {Q : Option mx_V → mx_H → Prop} {a3 : Int32} (v1 : vp_in (a3 + 1) (mx_slen E 2)) (v2 : vp_in (a3 + 2) (mx_slen E 2)) (v3 : vp_in (a3 + 3) (mx_slen E 2)) (v4 : vp_in (a3 + 4) (mx_slen E 2)) (v5 : vp_in (a3 + 5) (mx_slen E 2)) (hI : sf_I h) (hR : rt_Q h) (nxt : ∀ h', sf_I h' → rt_Q h' → mx_T E (mx_fn true) 1000 (c + 10) (e + 98) 0 2283 [(0, .inl (.float 2)), (1, .inr (.inl 0)), (2, .inr (.inl 105)), (3, .inl (.int a3))] [] h' Q) :
    mx_T E (mx_fn true) 1000 (c + 10) (e + 98) 0 549 [(0, .inl (.float 2)), (1, .inr (.inl 0)), (2, .inr (.inl 105)), (3, .inl (.int a3))] [] h Q :=
  sgL_549 (d := 999) ⟨Or.inr (Or.inr rfl), v1, Or.inr (Or.inr rfl), v2, Or.inr (Or.inr rfl), v3, sf109 (iv_rng _) (iv_rng _) (iv_rng _) hI (fun x2 h2 I2 E2 X2 => hx_i ⟨Or.inr (Or.inr rfl), v1, Or.inr (Or.inr rfl), v2, Or.inr (Or.inr rfl), v3, sf216 (iv_rng _) (iv_rng _) (iv_rng _) I2 (fun x4 h4 I4 E4 X4 => hx_i (nxt _ I4 (rt_Qf (by decide) (by decide) (by decide) (by decide) (by decide) E4 (rt_Qf (by decide) (by decide) (by decide) (by decide) (by decide) E2 hR))))⟩)⟩
theorem lp_592 {E : mx_Ev} {c e : Nat} {h : mx_H} {Q : Option mx_V → mx_H → Prop} {a3 : Int32} (v1 : vp_in (a3 + 1) (mx_slen E 2)) (v2 : vp_in (a3 + 2) (mx_slen E 2)) (v3 : vp_in (a3 + 3) (mx_slen E 2)) (v4 : vp_in (a3 + 4) (mx_slen E 2)) (v5 : vp_in (a3 + 5) (mx_slen E 2)) (hI : sf_I h) (hR : rt_Q h) (nxt : ∀ h', sf_I h' → rt_Q h' → mx_T E (mx_fn true) 1000 (c + 10) (e + 98) 0 2283 [(0, .inl (.float 2)), (1, .inr (.inl 0)), (2, .inr (.inl 105)), (3, .inl (.int a3))] [] h' Q) :
    mx_T E (mx_fn true) 1000 (c + 10) (e + 98) 0 592 [(0, .inl (.float 2)), (1, .inr (.inl 0)), (2, .inr (.inl 105)), (3, .inl (.int a3))] [] h Q :=
  sgL_592 (d := 999) ⟨Or.inr (Or.inr rfl), v1, Or.inr (Or.inr rfl), v2, Or.inr (Or.inr rfl), v3, sf110 (iv_rng _) (iv_rng _) (iv_rng _) hI (fun x2 h2 I2 E2 => hx_l ⟨Or.inr (Or.inr rfl), v1, Or.inr (Or.inr rfl), v2, Or.inr (Or.inr rfl), v3, sf217 (iv_rng _) (iv_rng _) (iv_rng _) I2 (fun x4 h4 I4 E4 => hx_l (nxt _ I4 (rt_Qf (by decide) (by decide) (by decide) (by decide) (by decide) E4 (rt_Qf (by decide) (by decide) (by decide) (by decide) (by decide) E2 hR))))⟩)⟩
theorem lp_635 {E : mx_Ev} {c e : Nat} {h : mx_H} {Q : Option mx_V → mx_H → Prop} {a3 : Int32} (v1 : vp_in (a3 + 1) (mx_slen E 2)) (v2 : vp_in (a3 + 2) (mx_slen E 2)) (v3 : vp_in (a3 + 3) (mx_slen E 2)) (v4 : vp_in (a3 + 4) (mx_slen E 2)) (v5 : vp_in (a3 + 5) (mx_slen E 2)) (hI : sf_I h) (hR : rt_Q h) (nxt : ∀ h', sf_I h' → rt_Q h' → mx_T E (mx_fn true) 1000 (c + 10) (e + 98) 0 2283 [(0, .inl (.float 2)), (1, .inr (.inl 0)), (2, .inr (.inl 105)), (3, .inl (.int a3))] [] h' Q) :
    mx_T E (mx_fn true) 1000 (c + 10) (e + 98) 0 635 [(0, .inl (.float 2)), (1, .inr (.inl 0)), (2, .inr (.inl 105)), (3, .inl (.int a3))] [] h Q :=
  sgL_635 (d := 999) ⟨Or.inr (Or.inr rfl), v1, Or.inr (Or.inr rfl), v2, Or.inr (Or.inr rfl), v3, sf111 (iv_rng _) (iv_rng _) (iv_rng _) hI (fun x2 h2 I2 E2 X2 => hx_i ⟨Or.inr (Or.inr rfl), v1, Or.inr (Or.inr rfl), v2, Or.inr (Or.inr rfl), v3, sf221 (iv_rng _) (iv_rng _) (iv_rng _) I2 (fun x4 h4 I4 E4 X4 => hx_i (nxt _ I4 (rt_Qf (by decide) (by decide) (by decide) (by decide) (by decide) E4 (rt_Qf (by decide) (by decide) (by decide) (by decide) (by decide) E2 hR))))⟩)⟩
theorem lp_678 {E : mx_Ev} {c e : Nat} {h : mx_H} {Q : Option mx_V → mx_H → Prop} {a3 : Int32} (v1 : vp_in (a3 + 1) (mx_slen E 2)) (v2 : vp_in (a3 + 2) (mx_slen E 2)) (v3 : vp_in (a3 + 3) (mx_slen E 2)) (v4 : vp_in (a3 + 4) (mx_slen E 2)) (v5 : vp_in (a3 + 5) (mx_slen E 2)) (hI : sf_I h) (hR : rt_Q h) (nxt : ∀ h', sf_I h' → rt_Q h' → mx_T E (mx_fn true) 1000 (c + 10) (e + 98) 0 2283 [(0, .inl (.float 2)), (1, .inr (.inl 0)), (2, .inr (.inl 105)), (3, .inl (.int a3))] [] h' Q) :
    mx_T E (mx_fn true) 1000 (c + 10) (e + 98) 0 678 [(0, .inl (.float 2)), (1, .inr (.inl 0)), (2, .inr (.inl 105)), (3, .inl (.int a3))] [] h Q :=
  sgL_678 (d := 999) ⟨Or.inr (Or.inr rfl), v1, Or.inr (Or.inr rfl), v2, Or.inr (Or.inr rfl), v3, sf112 (iv_rng _) (iv_rng _) (iv_rng _) hI (fun x2 h2 I2 E2 X2 => hx_i ⟨Or.inr (Or.inr rfl), v1, Or.inr (Or.inr rfl), v2, Or.inr (Or.inr rfl), v3, sf222 (iv_rng _) (iv_rng _) (iv_rng _) I2 (fun x4 h4 I4 E4 X4 => hx_i (nxt _ I4 (rt_Qf (by decide) (by decide) (by decide) (by decide) (by decide) E4 (rt_Qf (by decide) (by decide) (by decide) (by decide) (by decide) E2 hR))))⟩)⟩
theorem lp_721 {E : mx_Ev} {c e : Nat} {h : mx_H} {Q : Option mx_V → mx_H → Prop} {a3 : Int32} (v1 : vp_in (a3 + 1) (mx_slen E 2)) (v2 : vp_in (a3 + 2) (mx_slen E 2)) (v3 : vp_in (a3 + 3) (mx_slen E 2)) (v4 : vp_in (a3 + 4) (mx_slen E 2)) (v5 : vp_in (a3 + 5) (mx_slen E 2)) (hI : sf_I h) (hR : rt_Q h) (nxt : ∀ h', sf_I h' → rt_Q h' → mx_T E (mx_fn true) 1000 (c + 10) (e + 98) 0 2283 [(0, .inl (.float 2)), (1, .inr (.inl 0)), (2, .inr (.inl 105)), (3, .inl (.int a3))] [] h' Q) :
    mx_T E (mx_fn true) 1000 (c + 10) (e + 98) 0 721 [(0, .inl (.float 2)), (1, .inr (.inl 0)), (2, .inr (.inl 105)), (3, .inl (.int a3))] [] h Q :=
  sgL_721 (d := 999) ⟨Or.inr (Or.inr rfl), v1, Or.inr (Or.inr rfl), v2, Or.inr (Or.inr rfl), v3, Or.inr (Or.inr rfl), v4, sf113 (iv_rng _) (iv_rng _) (iv_rng _) (iv_rng _) hI (fun x2 h2 I2 E2 X2 => hx_i ⟨Or.inr (Or.inr rfl), v1, Or.inr (Or.inr rfl), v2, Or.inr (Or.inr rfl), v3, Or.inr (Or.inr rfl), v4, sf223 (iv_rng _) (iv_rng _) (iv_rng _) (iv_rng _) I2 (fun x4 h4 I4 E4 X4 => hx_i (nxt _ I4 (rt_Qf (by decide) (by decide) (by decide) (by decide) (by decide) E4 (rt_Qf (by decide) (by decide) (by decide) (by decide) (by decide) E2 hR))))⟩)⟩
theorem lp_774 {E : mx_Ev} {c e : Nat} {h : mx_H} {Q : Option mx_V → mx_H → Prop} {a3 : Int32} (v1 : vp_in (a3 + 1) (mx_slen E 2)) (v2 : vp_in (a3 + 2) (mx_slen E 2)) (v3 : vp_in (a3 + 3) (mx_slen E 2)) (v4 : vp_in (a3 + 4) (mx_slen E 2)) (v5 : vp_in (a3 + 5) (mx_slen E 2)) (hI : sf_I h) (hR : rt_Q h) (nxt : ∀ h', sf_I h' → rt_Q h' → mx_T E (mx_fn true) 1000 (c + 10) (e + 98) 0 2283 [(0, .inl (.float 2)), (1, .inr (.inl 0)), (2, .inr (.inl 105)), (3, .inl (.int a3))] [] h' Q) :
    mx_T E (mx_fn true) 1000 (c + 10) (e + 98) 0 774 [(0, .inl (.float 2)), (1, .inr (.inl 0)), (2, .inr (.inl 105)), (3, .inl (.int a3))] [] h Q :=
  sgL_774 (d := 999) ⟨Or.inr (Or.inr rfl), v1, Or.inr (Or.inr rfl), v2, Or.inr (Or.inr rfl), v3, Or.inr (Or.inr rfl), v4, Or.inr (Or.inr rfl), v5, sf114 (iv_rng _) (iv_rng _) (iv_rng _) (iv_rng _) (iv_rng _) hI (fun x2 h2 I2 E2 X2 => hx_i ⟨Or.inr (Or.inr rfl), v1, Or.inr (Or.inr rfl), v2, Or.inr (Or.inr rfl), v3, Or.inr (Or.inr rfl), v4, Or.inr (Or.inr rfl), v5, sf224 (iv_rng _) (iv_rng _) (iv_rng _) (iv_rng _) (iv_rng _) I2 (fun x4 h4 I4 E4 X4 => hx_i (nxt _ I4 (rt_Qf (by decide) (by decide) (by decide) (by decide) (by decide) E4 (rt_Qf (by decide) (by decide) (by decide) (by decide) (by decide) E2 hR))))⟩)⟩
theorem lp_837 {E : mx_Ev} {c e : Nat} {h : mx_H} {Q : Option mx_V → mx_H → Prop} {a3 : Int32} (v1 : vp_in (a3 + 1) (mx_slen E 2)) (v2 : vp_in (a3 + 2) (mx_slen E 2)) (v3 : vp_in (a3 + 3) (mx_slen E 2)) (v4 : vp_in (a3 + 4) (mx_slen E 2)) (v5 : vp_in (a3 + 5) (mx_slen E 2)) (hI : sf_I h) (hR : rt_Q h) (nxt : ∀ h', sf_I h' → rt_Q h' → mx_T E (mx_fn true) 1000 (c + 10) (e + 98) 0 2283 [(0, .inl (.float 2)), (1, .inr (.inl 0)), (2, .inr (.inl 105)), (3, .inl (.int a3))] [] h' Q) :
    mx_T E (mx_fn true) 1000 (c + 10) (e + 98) 0 837 [(0, .inl (.float 2)), (1, .inr (.inl 0)), (2, .inr (.inl 105)), (3, .inl (.int a3))] [] h Q :=
  sgL_837 (d := 999) ⟨Or.inr (Or.inr rfl), v1, Or.inr (Or.inr rfl), v2, Or.inr (Or.inr rfl), v3, Or.inr (Or.inr rfl), v4, sf115 (iv_rng _) (iv_rng _) (iv_rng _) (iv_rng _) hI (fun x2 h2 I2 E2 X2 => hx_i ⟨Or.inr (Or.inr rfl), v1, Or.inr (Or.inr rfl), v2, Or.inr (Or.inr rfl), v3, Or.inr (Or.inr rfl), v4, sf226 (iv_rng _) (iv_rng _) (iv_rng _) (iv_rng _) I2 (fun x4 h4 I4 E4 X4 => hx_i (nxt _ I4 (rt_Qf (by decide) (by decide) (by decide) (by decide) (by decide) E4 (rt_Qf (by decide) (by decide) (by decide) (by decide) (by decide) E2 hR))))⟩)⟩
theorem lp_890 {E : mx_Ev} {c e : Nat} {h : mx_H} {Q : Option mx_V → mx_H → Prop} {a3 : Int32} (v1 : vp_in (a3 + 1) (mx_slen E 2)) (v2 : vp_in (a3 + 2) (mx_slen E 2)) (v3 : vp_in (a3 + 3) (mx_slen E 2)) (v4 : vp_in (a3 + 4) (mx_slen E 2)) (v5 : vp_in (a3 + 5) (mx_slen E 2)) (hI : sf_I h) (hR : rt_Q h) (nxt : ∀ h', sf_I h' → rt_Q h' → mx_T E (mx_fn true) 1000 (c + 10) (e + 98) 0 2283 [(0, .inl (.float 2)), (1, .inr (.inl 0)), (2, .inr (.inl 105)), (3, .inl (.int a3))] [] h' Q) :
    mx_T E (mx_fn true) 1000 (c + 10) (e + 98) 0 890 [(0, .inl (.float 2)), (1, .inr (.inl 0)), (2, .inr (.inl 105)), (3, .inl (.int a3))] [] h Q :=
  sgL_890 (d := 999) ⟨Or.inr (Or.inr rfl), v1, sf116 (iv_rng _) hI (fun x2 h2 I2 E2 X2 => hx_i ⟨Or.inr (Or.inr rfl), v1, sf231 (iv_rng _) I2 (fun x4 h4 I4 E4 X4 => hx_i (nxt _ I4 (rt_Qf (by decide) (by decide) (by decide) (by decide) (by decide) E4 (rt_Qf (by decide) (by decide) (by decide) (by decide) (by decide) E2 hR))))⟩)⟩
theorem lp_913 {E : mx_Ev} {c e : Nat} {h : mx_H} {Q : Option mx_V → mx_H → Prop} {a3 : Int32} (v1 : vp_in (a3 + 1) (mx_slen E 2)) (v2 : vp_in (a3 + 2) (mx_slen E 2)) (v3 : vp_in (a3 + 3) (mx_slen E 2)) (v4 : vp_in (a3 + 4) (mx_slen E 2)) (v5 : vp_in (a3 + 5) (mx_slen E 2)) (hI : sf_I h) (hR : rt_Q h) (nxt : ∀ h', sf_I h' → rt_Q h' → mx_T E (mx_fn true) 1000 (c + 10) (e + 98) 0 2283 [(0, .inl (.float 2)), (1, .inr (.inl 0)), (2, .inr (.inl 105)), (3, .inl (.int a3))] [] h' Q) :
    mx_T E (mx_fn true) 1000 (c + 10) (e + 98) 0 913 [(0, .inl (.float 2)), (1, .inr (.inl 0)), (2, .inr (.inl 105)), (3, .inl (.int a3))] [] h Q :=
  sgL_913 (d := 999) ⟨Or.inr (Or.inr rfl), v1, Or.inr (Or.inr rfl), v2, sf117 (iv_rng _) (iv_rng _) hI (fun x2 h2 I2 E2 X2 => hx_i ⟨Or.inr (Or.inr rfl), v1, Or.inr (Or.inr rfl), v2, sf232 (iv_rng _) (iv_rng _) I2 (fun x4 h4 I4 E4 X4 => hx_i (nxt _ I4 (rt_Qf (by decide) (by decide) (by decide) (by decide) (by decide) E4 (rt_Qf (by decide) (by decide) (by decide) (by decide) (by decide) E2 hR))))⟩)⟩
theorem lp_946 {E : mx_Ev} {c e : Nat} {h : mx_H} {Q : Option mx_V → mx_H → Prop} {a3 : Int32} (v1 : vp_in (a3 + 1) (mx_slen E 2)) (v2 : vp_in (a3 + 2) (mx_slen E 2)) (v3 : vp_in (a3 + 3) (mx_slen E 2)) (v4 : vp_in (a3 + 4) (mx_slen E 2)) (v5 : vp_in (a3 + 5) (mx_slen E 2)) (hI : sf_I h) (hR : rt_Q h) (nxt : ∀ h', sf_I h' → rt_Q h' → mx_T E (mx_fn true) 1000 (c + 10) (e + 98) 0 2283 [(0, .inl (.float 2)), (1, .inr (.inl 0)), (2, .inr (.inl 105)), (3, .inl (.int a3))] [] h' Q) :
    mx_T E (mx_fn true) 1000 (c + 10) (e + 98) 0 946 [(0, .inl (.float 2)), (1, .inr (.inl 0)), (2, .inr (.inl 105)), (3, .inl (.int a3))] [] h Q :=
  sgL_946 (d := 999) ⟨Or.inr (Or.inr rfl), v1, Or.inr (Or.inr rfl), v2, sf118 (iv_rng _) (iv_rng _) hI (fun x2 h2 I2 E2 X2 => hx_i ⟨Or.inr (Or.inr rfl), v1, Or.inr (Or.inr rfl), v2, sf234 (iv_rng _) (iv_rng _) I2 (fun x4 h4 I4 E4 X4 => hx_i (nxt _ I4 (rt_Qf (by decide) (by decide) (by decide) (by decide) (by decide) E4 (rt_Qf (by decide) (by decide) (by decide) (by decide) (by decide) E2 hR))))⟩)⟩
theorem lp_979 {E : mx_Ev} {c e : Nat} {h : mx_H} {Q : Option mx_V → mx_H → Prop} {a3 : Int32} (v1 : vp_in (a3 + 1) (mx_slen E 2)) (v2 : vp_in (a3 + 2) (mx_slen E 2)) (v3 : vp_in (a3 + 3) (mx_slen E 2)) (v4 : vp_in (a3 + 4) (mx_slen E 2)) (v5 : vp_in (a3 + 5) (mx_slen E 2)) (hI : sf_I h) (hR : rt_Q h) (nxt : ∀ h', sf_I h' → rt_Q h' → mx_T E (mx_fn true) 1000 (c + 10) (e + 98) 0 2283 [(0, .inl (.float 2)), (1, .inr (.inl 0)), (2, .inr (.inl 105)), (3, .inl (.int a3))] [] h' Q) :
    mx_T E (mx_fn true) 1000 (c + 10) (e + 98) 0 979 [(0, .inl (.float 2)), (1, .inr (.inl 0)), (2, .inr (.inl 105)), (3, .inl (.int a3))] [] h Q :=
  sgL_979 (d := 999) ⟨Or.inr (Or.inr rfl), v1, Or.inr (Or.inr rfl), v2, Or.inr (Or.inr rfl), v3, sf119 (iv_rng _) (iv_rng _) (iv_rng _) hI (fun x2 h2 I2 E2 X2 => hx_i ⟨Or.inr (Or.inr rfl), v1, Or.inr (Or.inr rfl), v2, Or.inr (Or.inr rfl), v3, sf238 (iv_rng _) (iv_rng _) (iv_rng _) I2 (fun x4 h4 I4 E4 X4 => hx_i (nxt _ I4 (rt_Qf (by decide) (by decide) (by decide) (by decide) (by decide) E4 (rt_Qf (by decide) (by decide) (by decide) (by decide) (by decide) E2 hR))))⟩)⟩
theorem lp_1022 {E : mx_Ev} {c e : Nat} {h : mx_H} {Q : Option mx_V → mx_H → Prop} {a3 : Int32} (v1 : vp_in (a3 + 1) (mx_slen E 2)) (v2 : vp_in (a3 + 2) (mx_slen E 2)) (v3 : vp_in (a3 + 3) (mx_slen E 2)) (v4 : vp_in (a3 + 4) (mx_slen E 2)) (v5 : vp_in (a3 + 5) (mx_slen E 2)) (hI : sf_I h) (hR : rt_Q h) (nxt : ∀ h', sf_I h' → rt_Q h' → mx_T E (mx_fn true) 1000 (c + 10) (e + 98) 0 2283 [(0, .inl (.float 2)), (1, .inr (.inl 0)), (2, .inr (.inl 105)), (3, .inl (.int a3))] [] h' Q) :
    mx_T E (mx_fn true) 1000 (c + 10) (e + 98) 0 1022 [(0, .inl (.float 2)), (1, .inr (.inl 0)), (2, .inr (.inl 105)), (3, .inl (.int a3))] [] h Q :=
  sgL_1022 (d := 999) ⟨Or.inr (Or.inr rfl), v1, Or.inr (Or.inr rfl), v2, Or.inr (Or.inr rfl), v3, Or.inr (Or.inr rfl), v4, sf120 (iv_rng _) (iv_rng _) (iv_rng _) (iv_rng _) hI (fun x2 h2 I2 E2 X2 => hx_i ⟨Or.inr (Or.inr rfl), v1, Or.inr (Or.inr rfl), v2, Or.inr (Or.inr rfl), v3, Or.inr (Or.inr rfl), v4, sf239 (iv_rng _) (iv_rng _) (iv_rng _) (iv_rng _) I2 (fun x4 h4 I4 E4 X4 => hx_i (nxt _ I4 (rt_Qf (by decide) (by decide) (by decide) (by decide) (by decide) E4 (rt_Qf (by decide) (by decide) (by decide) (by decide) (by decide) E2 hR))))⟩)⟩
theorem lp_1075 {E : mx_Ev} {c e : Nat} {h : mx_H} {Q : Option mx_V → mx_H → Prop} {a3 : Int32} (v1 : vp_in (a3 + 1) (mx_slen E 2)) (v2 : vp_in (a3 + 2) (mx_slen E 2)) (v3 : vp_in (a3 + 3) (mx_slen E 2)) (v4 : vp_in (a3 + 4) (mx_slen E 2)) (v5 : vp_in (a3 + 5) (mx_slen E 2)) (hI : sf_I h) (hR : rt_Q h) (nxt : ∀ h', sf_I h' → rt_Q h' → mx_T E (mx_fn true) 1000 (c + 10) (e + 98) 0 2283 [(0, .inl (.float 2)), (1, .inr (.inl 0)), (2, .inr (.inl 105)), (3, .inl (.int a3))] [] h' Q) :
    mx_T E (mx_fn true) 1000 (c + 10) (e + 98) 0 1075 [(0, .inl (.float 2)), (1, .inr (.inl 0)), (2, .inr (.inl 105)), (3, .inl (.int a3))] [] h Q :=
  sgL_1075 (d := 999) ⟨Or.inr (Or.inr rfl), v1, Or.inr (Or.inr rfl), v2, Or.inr (Or.inr rfl), v3, sf121 (iv_rng _) (iv_rng _) (iv_rng _) hI (fun x2 h2 I2 E2 X2 => hx_i ⟨Or.inr (Or.inr rfl), v1, Or.inr (Or.inr rfl), v2, Or.inr (Or.inr rfl), v3, sf240 (iv_rng _) (iv_rng _) (iv_rng _) I2 (fun x4 h4 I4 E4 X4 => hx_i (nxt _ I4 (rt_Qf (by decide) (by decide) (by decide) (by decide) (by decide) E4 (rt_Qf (by decide) (by decide) (by decide) (by decide) (by decide) E2 hR))))⟩)⟩
theorem lp_1118 {E : mx_Ev} {c e : Nat} {h : mx_H} {Q : Option mx_V → mx_H → Prop} {a3 : Int32} (v1 : vp_in (a3 + 1) (mx_slen E 2)) (v2 : vp_in (a3 + 2) (mx_slen E 2)) (v3 : vp_in (a3 + 3) (mx_slen E 2)) (v4 : vp_in (a3 + 4) (mx_slen E 2)) (v5 : vp_in (a3 + 5) (mx_slen E 2)) (hI : sf_I h) (hR : rt_Q h) (nxt : ∀ h', sf_I h' → rt_Q h' → mx_T E (mx_fn true) 1000 (c + 10) (e + 98) 0 2283 [(0, .inl (.float 2)), (1, .inr (.inl 0)), (2, .inr (.inl 105)), (3, .inl (.int a3))] [] h' Q) :
    mx_T E (mx_fn true) 1000 (c + 10) (e + 98) 0 1118 [(0, .inl (.float 2)), (1, .inr (.inl 0)), (2, .inr (.inl 105)), (3, .inl (.int a3))] [] h Q :=
  sgL_1118 (d := 999) ⟨Or.inr (Or.inr rfl), v1, Or.inr (Or.inr rfl), v2, Or.inr (Or.inr rfl), v3, sf122 (iv_rng _) (iv_rng _) (iv_rng _) hI (fun x2 h2 I2 E2 X2 => hx_i ⟨Or.inr (Or.inr rfl), v1, Or.inr (Or.inr rfl), v2, Or.inr (Or.inr rfl), v3, sf242 (iv_rng _) (iv_rng _) (iv_rng _) I2 (fun x4 h4 I4 E4 X4 => hx_i (nxt _ I4 (rt_Qf (by decide) (by decide) (by decide) (by decide) (by decide) E4 (rt_Qf (by decide) (by decide) (by decide) (by decide) (by decide) E2 hR))))⟩)⟩
theorem lp_1161 {E : mx_Ev} {c e : Nat} {h : mx_H} {Q : Option mx_V → mx_H → Prop} {a3 : Int32} (v1 : vp_in (a3 + 1) (mx_slen E 2)) (v2 : vp_in (a3 + 2) (mx_slen E 2)) (v3 : vp_in (a3 + 3) (mx_slen E 2)) (v4 : vp_in (a3 + 4) (mx_slen E 2)) (v5 : vp_in (a3 + 5) (mx_slen E 2)) (hI : sf_I h) (hR : rt_Q h) (nxt : ∀ h', sf_I h' → rt_Q h' → mx_T E (mx_fn true) 1000 (c + 10) (e + 98) 0 2283 [(0, .inl (.float 2)), (1, .inr (.inl 0)), (2, .inr (.inl 105)), (3, .inl (.int a3))] [] h' Q) :
    mx_T E (mx_fn true) 1000 (c + 10) (e + 98) 0 1161 [(0, .inl (.float 2)), (1, .inr (.inl 0)), (2, .inr (.inl 105)), (3, .inl (.int a3))] [] h Q :=
  sgL_1161 (d := 999) ⟨Or.inr (Or.inr rfl), v1, sf123 (iv_rng _) hI (fun x2 h2 I2 E2 X2 => hx_i ⟨Or.inr (Or.inr rfl), v1, sf246 (iv_rng _) I2 (fun x4 h4 I4 E4 X4 => hx_i (nxt _ I4 (rt_Qf (by decide) (by decide) (by decide) (by decide) (by decide) E4 (rt_Qf (by decide) (by decide) (by decide) (by decide) (by decide) E2 hR))))⟩)⟩
theorem lp_1184 {E : mx_Ev} {c e : Nat} {h : mx_H} {Q : Option mx_V → mx_H → Prop} {a3 : Int32} (v1 : vp_in (a3 + 1) (mx_slen E 2)) (v2 : vp_in (a3 + 2) (mx_slen E 2)) (v3 : vp_in (a3 + 3) (mx_slen E 2)) (v4 : vp_in (a3 + 4) (mx_slen E 2)) (v5 : vp_in (a3 + 5) (mx_slen E 2)) (hI : sf_I h) (hR : rt_Q h) (nxt : ∀ h', sf_I h' → rt_Q h' → mx_T E (mx_fn true) 1000 (c + 10) (e + 98) 0 2283 [(0, .inl (.float 2)), (1, .inr (.inl 0)), (2, .inr (.inl 105)), (3, .inl (.int a3))] [] h' Q) :
    mx_T E (mx_fn true) 1000 (c + 10) (e + 98) 0 1184 [(0, .inl (.float 2)), (1, .inr (.inl 0)), (2, .inr (.inl 105)), (3, .inl (.int a3))] [] h Q :=
  sgL_1184 (d := 999) (sf124  hI (fun x2 h2 I2 E2 X2 => hx_i (sf247  I2 (fun x4 h4 I4 E4 X4 => hx_i (nxt _ I4 (rt_Qf (by decide) (by decide) (by decide) (by decide) (by decide) E4 (rt_Qf (by decide) (by decide) (by decide) (by decide) (by decide) E2 hR)))))))
theorem lp_1197 {E : mx_Ev} {c e : Nat} {h : mx_H} {Q : Option mx_V → mx_H → Prop} {a3 : Int32} (v1 : vp_in (a3 + 1) (mx_slen E 2)) (v2 : vp_in (a3 + 2) (mx_slen E 2)) (v3 : vp_in (a3 + 3) (mx_slen E 2)) (v4 : vp_in (a3 + 4) (mx_slen E 2)) (v5 : vp_in (a3 + 5) (mx_slen E 2)) (hI : sf_I h) (hR : rt_Q h) (nxt : ∀ h', sf_I h' → rt_Q h' → mx_T E (mx_fn true) 1000 (c + 10) (e + 98) 0 2283 [(0, .inl (.float 2)), (1, .inr (.inl 0)), (2, .inr (.inl 105)), (3, .inl (.int a3))] [] h' Q) :
    mx_T E (mx_fn true) 1000 (c + 10) (e + 98) 0 1197 [(0, .inl (.float 2)), (1, .inr (.inl 0)), (2, .inr (.inl 105)), (3, .inl (.int a3))] [] h Q :=
  sgL_1197 (d := 999) ⟨Or.inr (Or.inr rfl), v1, sf125 (iv_rng _) hI (fun x2 h2 I2 E2 X2 => hx_i ⟨Or.inr (Or.inr rfl), v1, sf248 (iv_rng _) I2 (fun x4 h4 I4 E4 X4 => hx_i (nxt _ I4 (rt_Qf (by decide) (by decide) (by decide) (by decide) (by decide) E4 (rt_Qf (by decide) (by decide) (by decide) (by decide) (by decide) E2 hR))))⟩)⟩
theorem lp_1220 {E : mx_Ev} {c e : Nat} {h : mx_H} {Q : Option mx_V → mx_H → Prop} {a3 : Int32} (v1 : vp_in (a3 + 1) (mx_slen E 2)) (v2 : vp_in (a3 + 2) (mx_slen E 2)) (v3 : vp_in (a3 + 3) (mx_slen E 2)) (v4 : vp_in (a3 + 4) (mx_slen E 2)) (v5 : vp_in (a3 + 5) (mx_slen E 2)) (hI : sf_I h) (hR : rt_Q h) (nxt : ∀ h', sf_I h' → rt_Q h' → mx_T E (mx_fn true) 1000 (c + 10) (e + 98) 0 2283 [(0, .inl (.float 2)), (1, .inr (.inl 0)), (2, .inr (.inl 105)), (3, .inl (.int a3))] [] h' Q) :
    mx_T E (mx_fn true) 1000 (c + 10) (e + 98) 0 1220 [(0, .inl (.float 2)), (1, .inr (.inl 0)), (2, .inr (.inl 105)), (3, .inl (.int a3))] [] h Q :=
  sgL_1220 (d := 999) ⟨Or.inr (Or.inr rfl), v1, Or.inr (Or.inr rfl), v2, Or.inr (Or.inr rfl), v3, sf126 (iv_rng _) (iv_rng _) (iv_rng _) hI (fun x2 h2 I2 E2 X2 => hx_i ⟨Or.inr (Or.inr rfl), v1, Or.inr (Or.inr rfl), v2, Or.inr (Or.inr rfl), v3, sf252 (iv_rng _) (iv_rng _) (iv_rng _) I2 (fun x4 h4 I4 E4 X4 => hx_i (nxt _ I4 (rt_Qf (by decide) (by decide) (by decide) (by decide) (by decide) E4 (rt_Qf (by decide) (by decide) (by decide) (by decide) (by decide) E2 hR))))⟩)⟩
theorem lp_1263 {E : mx_Ev} {c e : Nat} {h : mx_H} {Q : Option mx_V → mx_H → Prop} {a3 : Int32} (v1 : vp_in (a3 + 1) (mx_slen E 2)) (v2 : vp_in (a3 + 2) (mx_slen E 2)) (v3 : vp_in (a3 + 3) (mx_slen E 2)) (v4 : vp_in (a3 + 4) (mx_slen E 2)) (v5 : vp_in (a3 + 5) (mx_slen E 2)) (hI : sf_I h) (hR : rt_Q h) (nxt : ∀ h', sf_I h' → rt_Q h' → mx_T E (mx_fn true) 1000 (c + 10) (e + 98) 0 2283 [(0, .inl (.float 2)), (1, .inr (.inl 0)), (2, .inr (.inl 105)), (3, .inl (.int a3))] [] h' Q) :
    mx_T E (mx_fn true) 1000 (c + 10) (e + 98) 0 1263 [(0, .inl (.float 2)), (1, .inr (.inl 0)), (2, .inr (.inl 105)), (3, .inl (.int a3))] [] h Q :=
  sgL_1263 (d := 999) ⟨Or.inr (Or.inr rfl), v1, Or.inr (Or.inr rfl), v2, sf127 (iv_rng _) (iv_rng _) hI (fun x2 h2 I2 E2 X2 => hx_i ⟨Or.inr (Or.inr rfl), v1, Or.inr (Or.inr rfl), v2, sf253 (iv_rng _) (iv_rng _) I2 (fun x4 h4 I4 E4 X4 => hx_i (nxt _ I4 (rt_Qf (by decide) (by decide) (by decide) (by decide) (by decide) E4 (rt_Qf (by decide) (by decide) (by decide) (by decide) (by decide) E2 hR))))⟩)⟩
theorem lp_1296 {E : mx_Ev} {c e : Nat} {h : mx_H} {Q : Option mx_V → mx_H → Prop} {a3 : Int32} (v1 : vp_in (a3 + 1) (mx_slen E 2)) (v2 : vp_in (a3 + 2) (mx_slen E 2)) (v3 : vp_in (a3 + 3) (mx_slen E 2)) (v4 : vp_in (a3 + 4) (mx_slen E 2)) (v5 : vp_in (a3 + 5) (mx_slen E 2)) (hI : sf_I h) (hR : rt_Q h) (nxt : ∀ h', sf_I h' → rt_Q h' → mx_T E (mx_fn true) 1000 (c + 10) (e + 98) 0 2283 [(0, .inl (.float 2)), (1, .inr (.inl 0)), (2, .inr (.inl 105)), (3, .inl (.int a3))] [] h' Q) :
    mx_T E (mx_fn true) 1000 (c + 10) (e + 98) 0 1296 [(0, .inl (.float 2)), (1, .inr (.inl 0)), (2, .inr (.inl 105)), (3, .inl (.int a3))] [] h Q :=
  sgL_1296 (d := 999) (sf128  hI (fun x2 h2 I2 E2 X2 => hx_i (sf249  I2 (fun x4 h4 I4 E4 X4 => hx_i (nxt _ I4 (rt_Qf (by decide) (by decide) (by decide) (by decide) (by decide) E4 (rt_Qf (by decide) (by decide) (by decide) (by decide) (by decide) E2 hR)))))))
theorem lp_1309 {E : mx_Ev} {c e : Nat} {h : mx_H} {Q : Option mx_V → mx_H → Prop} {a3 : Int32} (v1 : vp_in (a3 + 1) (mx_slen E 2)) (v2 : vp_in (a3 + 2) (mx_slen E 2)) (v3 : vp_in (a3 + 3) (mx_slen E 2)) (v4 : vp_in (a3 + 4) (mx_slen E 2)) (v5 : vp_in (a3 + 5) (mx_slen E 2)) (hI : sf_I h) (hR : rt_Q h) (nxt : ∀ h', sf_I h' → rt_Q h' → mx_T E (mx_fn true) 1000 (c + 10) (e + 98) 0 2283 [(0, .inl (.float 2)), (1, .inr (.inl 0)), (2, .inr (.inl 105)), (3, .inl (.int a3))] [] h' Q) :
    mx_T E (mx_fn true) 1000 (c + 10) (e + 98) 0 1309 [(0, .inl (.float 2)), (1, .inr (.inl 0)), (2, .inr (.inl 105)), (3, .inl (.int a3))] [] h Q :=
  sgL_1309 (d := 999) ⟨Or.inr (Or.inr rfl), v1, sf129 (iv_rng _) hI (fun x2 h2 I2 E2 X2 => hx_i ⟨Or.inr (Or.inr rfl), v1, sf254 (iv_rng _) I2 (fun x4 h4 I4 E4 X4 => hx_i (nxt _ I4 (rt_Qf (by decide) (by decide) (by decide) (by decide) (by decide) E4 (rt_Qf (by decide) (by decide) (by decide) (by decide) (by decide) E2 hR))))⟩)⟩
theorem lp_1332 {E : mx_Ev} {c e : Nat} {h : mx_H} {Q : Option mx_V → mx_H → Prop} {a3 : Int32} (v1 : vp_in (a3 + 1) (mx_slen E 2)) (v2 : vp_in (a3 + 2) (mx_slen E 2)) (v3 : vp_in (a3 + 3) (mx_slen E 2)) (v4 : vp_in (a3 + 4) (mx_slen E 2)) (v5 : vp_in (a3 + 5) (mx_slen E 2)) (hI : sf_I h) (hR : rt_Q h) (nxt : ∀ h', sf_I h' → rt_Q h' → mx_T E (mx_fn true) 1000 (c + 10) (e + 98) 0 2283 [(0, .inl (.float 2)), (1, .inr (.inl 0)), (2, .inr (.inl 105)), (3, .inl (.int a3))] [] h' Q) :
    mx_T E (mx_fn true) 1000 (c + 10) (e + 98) 0 1332 [(0, .inl (.float 2)), (1, .inr (.inl 0)), (2, .inr (.inl 105)), (3, .inl (.int a3))] [] h Q :=
  sgL_1332 (d := 999) ⟨Or.inr (Or.inr rfl), v1, Or.inr (Or.inr rfl), v2, sf130 (iv_rng _) (iv_rng _) hI (fun x2 h2 I2 E2 X2 => hx_i ⟨Or.inr (Or.inr rfl), v1, Or.inr (Or.inr rfl), v2, sf256 (iv_rng _) (iv_rng _) I2 (fun x4 h4 I4 E4 X4 => hx_i (nxt _ I4 (rt_Qf (by decide) (by decide) (by decide) (by decide) (by decide) E4 (rt_Qf (by decide) (by decide) (by decide) (by decide) (by decide) E2 hR))))⟩)⟩
theorem lp_1365 {E : mx_Ev} {c e : Nat} {h : mx_H} {Q : Option mx_V → mx_H → Prop} {a3 : Int32} (v1 : vp_in (a3 + 1) (mx_slen E 2)) (v2 : vp_in (a3 + 2) (mx_slen E 2)) (v3 : vp_in (a3 + 3) (mx_slen E 2)) (v4 : vp_in (a3 + 4) (mx_slen E 2)) (v5 : vp_in (a3 + 5) (mx_slen E 2)) (hI : sf_I h) (hR : rt_Q h) (nxt : ∀ h', sf_I h' → rt_Q h' → mx_T E (mx_fn true) 1000 (c + 10) (e + 98) 0 2283 [(0, .inl (.float 2)), (1, .inr (.inl 0)), (2, .inr (.inl 105)), (3, .inl (.int a3))] [] h' Q) :
    mx_T E (mx_fn true) 1000 (c + 10) (e + 98) 0 1365 [(0, .inl (.float 2)), (1, .inr (.inl 0)), (2, .inr (.inl 105)), (3, .inl (.int a3))] [] h Q :=
  sgL_1365 (d := 999) ⟨Or.inr (Or.inr rfl), v1, Or.inr (Or.inr rfl), v2, Or.inr (Or.inr rfl), v3, Or.inr (Or.inr rfl), v4, sf131 (iv_rng _) (iv_rng _) (iv_rng _) (iv_rng _) hI (fun x2 h2 I2 E2 X2 => hx_i ⟨Or.inr (Or.inr rfl), v1, Or.inr (Or.inr rfl), v2, Or.inr (Or.inr rfl), v3, Or.inr (Or.inr rfl), v4, sf259 (iv_rng _) (iv_rng _) (iv_rng _) (iv_rng _) I2 (fun x4 h4 I4 E4 X4 => hx_i (nxt _ I4 (rt_Qf (by decide) (by decide) (by decide) (by decide) (by decide) E4 (rt_Qf (by decide) (by decide) (by decide) (by decide) (by decide) E2 hR))))⟩)⟩
theorem lp_1418 {E : mx_Ev} {c e : Nat} {h : mx_H} {Q : Option mx_V → mx_H → Prop} {a3 : Int32} (v1 : vp_in (a3 + 1) (mx_slen E 2)) (v2 : vp_in (a3 + 2) (mx_slen E 2)) (v3 : vp_in (a3 + 3) (mx_slen E 2)) (v4 : vp_in (a3 + 4) (mx_slen E 2)) (v5 : vp_in (a3 + 5) (mx_slen E 2)) (hI : sf_I h) (hR : rt_Q h) (nxt : ∀ h', sf_I h' → rt_Q h' → mx_T E (mx_fn true) 1000 (c + 10) (e + 98) 0 2283 [(0, .inl (.float 2)), (1, .inr (.inl 0)), (2, .inr (.inl 105)), (3, .inl (.int a3))] [] h' Q) :
    mx_T E (mx_fn true) 1000 (c + 10) (e + 98) 0 1418 [(0, .inl (.float 2)), (1, .inr (.inl 0)), (2, .inr (.inl 105)), (3, .inl (.int a3))] [] h Q :=
  sgL_1418 (d := 999) ⟨Or.inr (Or.inr rfl), v1, Or.inr (Or.inr rfl), v2, Or.inr (Or.inr rfl), v3, rt_Ci (r := (f132 _ _ _ _)) (M := fun g => sf_E 10730461941414475697684910336589567232955429205133230080 h g) (sf132 (iv_rng _) (iv_rng _) (iv_rng _) hI (fun x2 h2 I2 E2 X2 => ⟨x2, rfl, I2, E2⟩)) (fun _ => x132 (xk_i rfl)) (fun I2 E2 => hx_i ⟨Or.inr (Or.inr rfl), v1, Or.inr (Or.inr rfl), v2, Or.inr (Or.inr rfl), v3, rt_Ci (r := (f260 _ _ _ _)) (M := fun g => sf_E 2104294154165354572205270902533921865218759129329129629442144457642186776507778288938309352950859451566080917504 _ g) (sf260 (iv_rng _) (iv_rng _) (iv_rng _) I2 (fun x4 h4 I4 E4 X4 => ⟨x4, rfl, I4, E4⟩)) (fun _ => x260 (xk_i rfl)) (fun I4 E4 => hx_i (nxt _ I4 ⟨(rt_f (by decide) (by decide) (by decide) E4 (rt_f (by decide) (by decide) (by decide) E2 hR.1)), (rt_Bc (by decide) E4.l (st_roll hI (rt_Br (by decide) E2.l hR.2)).2)⟩))⟩)⟩
theorem lp_1461 {E : mx_Ev} {c e : Nat} {h : mx_H} {Q : Option mx_V → mx_H → Prop} {a3 : Int32} (v1 : vp_in (a3 + 1) (mx_slen E 2)) (v2 : vp_in (a3 + 2) (mx_slen E 2)) (v3 : vp_in (a3 + 3) (mx_slen E 2)) (v4 : vp_in (a3 + 4) (mx_slen E 2)) (v5 : vp_in (a3 + 5) (mx_slen E 2)) (hI : sf_I h) (hR : rt_Q h) (nxt : ∀ h', sf_I h' → rt_Q h' → mx_T E (mx_fn true) 1000 (c + 10) (e + 98) 0 2283 [(0, .inl (.float 2)), (1, .inr (.inl 0)), (2, .inr (.inl 105)), (3, .inl (.int a3))] [] h' Q) :
    mx_T E (mx_fn true) 1000 (c + 10) (e + 98) 0 1461 [(0, .inl (.float 2)), (1, .inr (.inl 0)), (2, .inr (.inl 105)), (3, .inl (.int a3))] [] h Q :=
  sgL_1461 (d := 999) ⟨Or.inr (Or.inr rfl), v1, Or.inr (Or.inr rfl), v2, rt_Ci (r := (f133 _ _ _)) (M := fun g => sf_E 158656014759537750657049329847037052570691453617220321851828541525213931984138000859053711825081468821364976169258835318407168 h g) (sf133 (iv_rng _) (iv_rng _) hI (fun x2 h2 I2 E2 X2 => ⟨x2, rfl, I2, E2⟩)) (fun _ => x133 (xk_i rfl)) (fun I2 E2 => hx_i ⟨Or.inr (Or.inr rfl), v1, Or.inr (Or.inr rfl), v2, rt_Ci (r := (f261 _ _ _)) (M := fun g => sf_E 291219313860126452942164299168272436469677383348254880884001787720837233798714998523598817896593309381116821504 _ g) (sf261 (iv_rng _) (iv_rng _) I2 (fun x4 h4 I4 E4 X4 => ⟨x4, rfl, I4, E4⟩)) (fun _ => x261 (xk_i rfl)) (fun I4 E4 => hx_i (nxt _ I4 ⟨(rt_f (by decide) (by decide) (by decide) E4 (rt_f (by decide) (by decide) (by decide) E2 hR.1)), (rt_Bc (by decide) E4.l (rt_eq hR.1 (by decide) E2.l (fun S N P => st_rolled P.1 (rt_Br (by decide) E2.l hR.2))))⟩))⟩)⟩
theorem lp_1494 {E : mx_Ev} {c e : Nat} {h : mx_H} {Q : Option mx_V → mx_H → Prop} {a3 : Int32} (v1 : vp_in (a3 + 1) (mx_slen E 2)) (v2 : vp_in (a3 + 2) (mx_slen E 2)) (v3 : vp_in (a3 + 3) (mx_slen E 2)) (v4 : vp_in (a3 + 4) (mx_slen E 2)) (v5 : vp_in (a3 + 5) (mx_slen E 2)) (hI : sf_I h) (hR : rt_Q h) (nxt : ∀ h', sf_I h' → rt_Q h' → mx_T E (mx_fn true) 1000 (c + 10) (e + 98) 0 2283 [(0, .inl (.float 2)), (1, .inr (.inl 0)), (2, .inr (.inl 105)), (3, .inl (.int a3))] [] h' Q) :
    mx_T E (mx_fn true) 1000 (c + 10) (e + 98) 0 1494 [(0, .inl (.float 2)), (1, .inr (.inl 0)), (2, .inr (.inl 105)), (3, .inl (.int a3))] [] h Q :=
  sgL_1494 (d := 999) ⟨Or.inr (Or.inr rfl), v1, Or.inr (Or.inr rfl), v2, sf134 (iv_rng _) (iv_rng _) hI (fun x2 h2 I2 E2 X2 => hx_i ⟨Or.inr (Or.inr rfl), v1, Or.inr (Or.inr rfl), v2, sf262 (iv_rng _) (iv_rng _) I2 (fun x4 h4 I4 E4 X4 => hx_i (nxt _ I4 (rt_Qf (by decide) (by decide) (by decide) (by decide) (by decide) E4 (rt_Qf (by decide) (by decide) (by decide) (by decide) (by decide) E2 hR))))⟩)⟩
theorem lp_1527 {E : mx_Ev} {c e : Nat} {h : mx_H} {Q : Option mx_V → mx_H → Prop} {a3 : Int32} (v1 : vp_in (a3 + 1) (mx_slen E 2)) (v2 : vp_in (a3 + 2) (mx_slen E 2)) (v3 : vp_in (a3 + 3) (mx_slen E 2)) (v4 : vp_in (a3 + 4) (mx_slen E 2)) (v5 : vp_in (a3 + 5) (mx_slen E 2)) (hI : sf_I h) (hR : rt_Q h) (nxt : ∀ h', sf_I h' → rt_Q h' → mx_T E (mx_fn true) 1000 (c + 10) (e + 98) 0 2283 [(0, .inl (.float 2)), (1, .inr (.inl 0)), (2, .inr (.inl 105)), (3, .inl (.int a3))] [] h' Q) :
    mx_T E (mx_fn true) 1000 (c + 10) (e + 98) 0 1527 [(0, .inl (.float 2)), (1, .inr (.inl 0)), (2, .inr (.inl 105)), (3, .inl (.int a3))] [] h Q :=
  sgL_1527 (d := 999) ⟨Or.inr (Or.inr rfl), v1, Or.inr (Or.inr rfl), v2, sf135 (iv_rng _) (iv_rng _) hI (fun x2 h2 I2 E2 X2 => hx_i ⟨Or.inr (Or.inr rfl), v1, Or.inr (Or.inr rfl), v2, sf263 (iv_rng _) (iv_rng _) I2 (fun x4 h4 I4 E4 X4 => hx_i (nxt _ I4 (rt_Qf (by decide) (by decide) (by decide) (by decide) (by decide) E4 (rt_Qf (by decide) (by decide) (by decide) (by decide) (by decide) E2 hR))))⟩)⟩
theorem lp_1560 {E : mx_Ev} {c e : Nat} {h : mx_H} {Q : Option mx_V → mx_H → Prop} {a3 : Int32} (v1 : vp_in (a3 + 1) (mx_slen E 2)) (v2 : vp_in (a3 + 2) (mx_slen E 2)) (v3 : vp_in (a3 + 3) (mx_slen E 2)) (v4 : vp_in (a3 + 4) (mx_slen E 2)) (v5 : vp_in (a3 + 5) (mx_slen E 2)) (hI : sf_I h) (hR : rt_Q h) (nxt : ∀ h', sf_I h' → rt_Q h' → mx_T E (mx_fn true) 1000 (c + 10) (e + 98) 0 2283 [(0, .inl (.float 2)), (1, .inr (.inl 0)), (2, .inr (.inl 105)), (3, .inl (.int a3))] [] h' Q) :
    mx_T E (mx_fn true) 1000 (c + 10) (e + 98) 0 1560 [(0, .inl (.float 2)), (1, .inr (.inl 0)), (2, .inr (.inl 105)), (3, .inl (.int a3))] [] h Q :=
  sgL_1560 (d := 999) ⟨Or.inr (Or.inr rfl), v1, Or.inr (Or.inr rfl), v2, Or.inr (Or.inr rfl), v3, Or.inr (Or.inr rfl), v4, sf136 (iv_rng _) (iv_rng _) (iv_rng _) (iv_rng _) hI (fun x2 h2 I2 E2 X2 => hx_i ⟨Or.inr (Or.inr rfl), v1, Or.inr (Or.inr rfl), v2, Or.inr (Or.inr rfl), v3, Or.inr (Or.inr rfl), v4, sf266 (iv_rng _) (iv_rng _) (iv_rng _) (iv_rng _) I2 (fun x4 h4 I4 E4 X4 => hx_i (nxt _ I4 (rt_Qf (by decide) (by decide) (by decide) (by decide) (by decide) E4 (rt_Qf (by decide) (by decide) (by decide) (by decide) (by decide) E2 hR))))⟩)⟩
theorem lp_1613 {E : mx_Ev} {c e : Nat} {h : mx_H} {Q : Option mx_V → mx_H → Prop} {a3 : Int32} (v1 : vp_in (a3 + 1) (mx_slen E 2)) (v2 : vp_in (a3 + 2) (mx_slen E 2)) (v3 : vp_in (a3 + 3) (mx_slen E 2)) (v4 : vp_in (a3 + 4) (mx_slen E 2)) (v5 : vp_in (a3 + 5) (mx_slen E 2)) (hI : sf_I h) (hR : rt_Q h) (nxt : ∀ h', sf_I h' → rt_Q h' → mx_T E (mx_fn true) 1000 (c + 10) (e + 98) 0 2283 [(0, .inl (.float 2)), (1, .inr (.inl 0)), (2, .inr (.inl 105)), (3, .inl (.int a3))] [] h' Q) :
    mx_T E (mx_fn true) 1000 (c + 10) (e + 98) 0 1613 [(0, .inl (.float 2)), (1, .inr (.inl 0)), (2, .inr (.inl 105)), (3, .inl (.int a3))] [] h Q :=
  sgL_1613 (d := 999) ⟨Or.inr (Or.inr rfl), v1, Or.inr (Or.inr rfl), v2, sf137 (iv_rng _) (iv_rng _) hI (fun x2 h2 I2 E2 X2 => hx_i ⟨Or.inr (Or.inr rfl), v1, Or.inr (Or.inr rfl), v2, sf271 (iv_rng _) (iv_rng _) I2 (fun x4 h4 I4 E4 X4 => hx_i (nxt _ I4 (rt_Qf (by decide) (by decide) (by decide) (by decide) (by decide) E4 (rt_Qf (by decide) (by decide) (by decide) (by decide) (by decide) E2 hR))))⟩)⟩
theorem lp_1646 {E : mx_Ev} {c e : Nat} {h : mx_H} {Q : Option mx_V → mx_H → Prop} {a3 : Int32} (v1 : vp_in (a3 + 1) (mx_slen E 2)) (v2 : vp_in (a3 + 2) (mx_slen E 2)) (v3 : vp_in (a3 + 3) (mx_slen E 2)) (v4 : vp_in (a3 + 4) (mx_slen E 2)) (v5 : vp_in (a3 + 5) (mx_slen E 2)) (hI : sf_I h) (hR : rt_Q h) (nxt : ∀ h', sf_I h' → rt_Q h' → mx_T E (mx_fn true) 1000 (c + 10) (e + 98) 0 2283 [(0, .inl (.float 2)), (1, .inr (.inl 0)), (2, .inr (.inl 105)), (3, .inl (.int a3))] [] h' Q) :
    mx_T E (mx_fn true) 1000 (c + 10) (e + 98) 0 1646 [(0, .inl (.float 2)), (1, .inr (.inl 0)), (2, .inr (.inl 105)), (3, .inl (.int a3))] [] h Q :=
  sgL_1646 (d := 999) ⟨Or.inr (Or.inr rfl), v1, sf138 (iv_rng _) hI (fun x2 h2 I2 E2 X2 => hx_i ⟨Or.inr (Or.inr rfl), v1, sf272 (iv_rng _) I2 (fun x4 h4 I4 E4 X4 => hx_i (nxt _ I4 (rt_Qf (by decide) (by decide) (by decide) (by decide) (by decide) E4 (rt_Qf (by decide) (by decide) (by decide) (by decide) (by decide) E2 hR))))⟩)⟩
theorem lp_1669 {E : mx_Ev} {c e : Nat} {h : mx_H} {Q : Option mx_V → mx_H → Prop} {a3 : Int32} (v1 : vp_in (a3 + 1) (mx_slen E 2)) (v2 : vp_in (a3 + 2) (mx_slen E 2)) (v3 : vp_in (a3 + 3) (mx_slen E 2)) (v4 : vp_in (a3 + 4) (mx_slen E 2)) (v5 : vp_in (a3 + 5) (mx_slen E 2)) (hI : sf_I h) (hR : rt_Q h) (nxt : ∀ h', sf_I h' → rt_Q h' → mx_T E (mx_fn true) 1000 (c + 10) (e + 98) 0 2283 [(0, .inl (.float 2)), (1, .inr (.inl 0)), (2, .inr (.inl 105)), (3, .inl (.int a3))] [] h' Q) :
    mx_T E (mx_fn true) 1000 (c + 10) (e + 98) 0 1669 [(0, .inl (.float 2)), (1, .inr (.inl 0)), (2, .inr (.inl 105)), (3, .inl (.int a3))] [] h Q :=
  sgL_1669 (d := 999) ⟨Or.inr (Or.inr rfl), v1, Or.inr (Or.inr rfl), v2, sf139 (iv_rng _) (iv_rng _) hI (fun x2 h2 I2 E2 X2 => hx_i ⟨Or.inr (Or.inr rfl), v1, Or.inr (Or.inr rfl), v2, sf273 (iv_rng _) (iv_rng _) I2 (fun x4 h4 I4 E4 X4 => hx_i (nxt _ I4 (rt_Qf (by decide) (by decide) (by decide) (by decide) (by decide) E4 (rt_Qf (by decide) (by decide) (by decide) (by decide) (by decide) E2 hR))))⟩)⟩
theorem lp_1702 {E : mx_Ev} {c e : Nat} {h : mx_H} {Q : Option mx_V → mx_H → Prop} {a3 : Int32} (v1 : vp_in (a3 + 1) (mx_slen E 2)) (v2 : vp_in (a3 + 2) (mx_slen E 2)) (v3 : vp_in (a3 + 3) (mx_slen E 2)) (v4 : vp_in (a3 + 4) (mx_slen E 2)) (v5 : vp_in (a3 + 5) (mx_slen E 2)) (hI : sf_I h) (hR : rt_Q h) (nxt : ∀ h', sf_I h' → rt_Q h' → mx_T E (mx_fn true) 1000 (c + 10) (e + 98) 0 2283 [(0, .inl (.float 2)), (1, .inr (.inl 0)), (2, .inr (.inl 105)), (3, .inl (.int a3))] [] h' Q) :
    mx_T E (mx_fn true) 1000 (c + 10) (e + 98) 0 1702 [(0, .inl (.float 2)), (1, .inr (.inl 0)), (2, .inr (.inl 105)), (3, .inl (.int a3))] [] h Q :=
  sgL_1702 (d := 999) ⟨Or.inr (Or.inr rfl), v1, Or.inr (Or.inr rfl), v2, Or.inr (Or.inr rfl), v3, Or.inr (Or.inr rfl), v4, sf140 (iv_rng _) (iv_rng _) (iv_rng _) (iv_rng _) hI (fun x2 h2 I2 E2 X2 => hx_i ⟨Or.inr (Or.inr rfl), v1, Or.inr (Or.inr rfl), v2, Or.inr (Or.inr rfl), v3, Or.inr (Or.inr rfl), v4, sf277 (iv_rng _) (iv_rng _) (iv_rng _) (iv_rng _) I2 (fun x4 h4 I4 E4 X4 => hx_i (nxt _ I4 (rt_Qf (by decide) (by decide) (by decide) (by decide) (by decide) E4 (rt_Qf (by decide) (by decide) (by decide) (by decide) (by decide) E2 hR))))⟩)⟩
theorem lp_1755 {E : mx_Ev} {c e : Nat} {h : mx_H} {Q : Option mx_V → mx_H → Prop} {a3 : Int32} (v1 : vp_in (a3 + 1) (mx_slen E 2)) (v2 : vp_in (a3 + 2) (mx_slen E 2)) (v3 : vp_in (a3 + 3) (mx_slen E 2)) (v4 : vp_in (a3 + 4) (mx_slen E 2)) (v5 : vp_in (a3 + 5) (mx_slen E 2)) (hI : sf_I h) (hR : rt_Q h) (nxt : ∀ h', sf_I h' → rt_Q h' → mx_T E (mx_fn true) 1000 (c + 10) (e + 98) 0 2283 [(0, .inl (.float 2)), (1, .inr (.inl 0)), (2, .inr (.inl 105)), (3, .inl (.int a3))] [] h' Q) :
    mx_T E (mx_fn true) 1000 (c + 10) (e + 98) 0 1755 [(0, .inl (.float 2)), (1, .inr (.inl 0)), (2, .inr (.inl 105)), (3, .inl (.int a3))] [] h Q :=
  sgL_1755 (d := 999) (sf141  hI (fun x2 h2 I2 E2 X2 => hx_i (sf274  I2 (fun x4 h4 I4 E4 X4 => hx_i (nxt _ I4 (rt_Qf (by decide) (by decide) (by decide) (by decide) (by decide) E4 (rt_Qf (by decide) (by decide) (by decide) (by decide) (by decide) E2 hR)))))))
theorem lp_1768 {E : mx_Ev} {c e : Nat} {h : mx_H} {Q : Option mx_V → mx_H → Prop} {a3 : Int32} (v1 : vp_in (a3 + 1) (mx_slen E 2)) (v2 : vp_in (a3 + 2) (mx_slen E 2)) (v3 : vp_in (a3 + 3) (mx_slen E 2)) (v4 : vp_in (a3 + 4) (mx_slen E 2)) (v5 : vp_in (a3 + 5) (mx_slen E 2)) (hI : sf_I h) (hR : rt_Q h) (nxt : ∀ h', sf_I h' → rt_Q h' → mx_T E (mx_fn true) 1000 (c + 1) (e + 1) 0 2283 [(0, .inl (.float 2)), (1, .inr (.inl 0)), (2, .inr (.inl 105)), (3, .inl (.int a3))] [] h' Q) :
    mx_T E (mx_fn true) 1000 (c + 10) (e + 98) 0 1768 [(0, .inl (.float 2)), (1, .inr (.inl 0)), (2, .inr (.inl 105)), (3, .inl (.int a3))] [] h Q :=
  sgL_1768 (d := 999) ⟨Or.inr (Or.inr rfl), v1, Or.inr (Or.inr rfl), v2, Or.inr (Or.inr rfl), v3, Or.inr (Or.inr rfl), v4, rt_Ci (r := (f142 _ _ _ _ _)) (M := fun g => sf_El 1862887453319671130553461982299578151529364904859901145530037279011111790160225641534390178439221559082035016942161750242474590220 h g) (sf142 (iv_rng _) (iv_rng _) (iv_rng _) (iv_rng _) hI (fun x2 h2 I2 E2 X2 => ⟨x2, rfl, I2, E2⟩)) (fun _ => x142 (xk_i rfl)) (fun I2 E2 => hx_i ⟨Or.inr (Or.inr rfl), v1, Or.inr (Or.inr rfl), v2, Or.inr (Or.inr rfl), v3, Or.inr (Or.inr rfl), v4, rt_Ci (r := (f280 _ _ _ _ _)) (M := fun g => sf_E 2186716728024031696851903471801560838766502076641168701059890292508562462111502029113570031302606848 _ g) (sf280 (iv_rng _) (iv_rng _) (iv_rng _) (iv_rng _) I2 (fun x4 h4 I4 E4 X4 => ⟨x4, rfl, I4, E4⟩)) (fun _ => x280 (xk_i rfl)) (fun I4 E4 => hx_i (nxt _ I4 ⟨(rt_go hR.1 (by decide) E2 (by decide) E4 (by decide) (by decide) (fun S N P => (st_join I2 P (by decide) (by decide) (by decide) (by decide) (by decide) E2 E4.l).2)), (rt_Bf (by decide) (by decide) E4.l (rt_Bf (by decide) (by decide) E2 hR.2))⟩))⟩)⟩
theorem lp_1821 {E : mx_Ev} {c e : Nat} {h : mx_H} {Q : Option mx_V → mx_H → Prop} {a3 : Int32} (v1 : vp_in (a3 + 1) (mx_slen E 2)) (v2 : vp_in (a3 + 2) (mx_slen E 2)) (v3 : vp_in (a3 + 3) (mx_slen E 2)) (v4 : vp_in (a3 + 4) (mx_slen E 2)) (v5 : vp_in (a3 + 5) (mx_slen E 2)) (hI : sf_I h) (hR : rt_Q h) (nxt : ∀ h', sf_I h' → rt_Q h' → mx_T E (mx_fn true) 1000 (c + 10) (e + 98) 0 2283 [(0, .inl (.float 2)), (1, .inr (.inl 0)), (2, .inr (.inl 105)), (3, .inl (.int a3))] [] h' Q) :
    mx_T E (mx_fn true) 1000 (c + 10) (e + 98) 0 1821 [(0, .inl (.float 2)), (1, .inr (.inl 0)), (2, .inr (.inl 105)), (3, .inl (.int a3))] [] h Q :=
  sgL_1821 (d := 999) ⟨Or.inr (Or.inr rfl), v1, Or.inr (Or.inr rfl), v2, sf143 (iv_rng _) (iv_rng _) hI (fun x2 h2 I2 E2 X2 => hx_i ⟨Or.inr (Or.inr rfl), v1, Or.inr (Or.inr rfl), v2, sf282 (iv_rng _) (iv_rng _) I2 (fun x4 h4 I4 E4 X4 => hx_i (nxt _ I4 (rt_Qf (by decide) (by decide) (by decide) (by decide) (by decide) E4 (rt_Qf (by decide) (by decide) (by decide) (by decide) (by decide) E2 hR))))⟩)⟩
theorem lp_1854 {E : mx_Ev} {c e : Nat} {h : mx_H} {Q : Option mx_V → mx_H → Prop} {a3 : Int32} (v1 : vp_in (a3 + 1) (mx_slen E 2)) (v2 : vp_in (a3 + 2) (mx_slen E 2)) (v3 : vp_in (a3 + 3) (mx_slen E 2)) (v4 : vp_in (a3 + 4) (mx_slen E 2)) (v5 : vp_in (a3 + 5) (mx_slen E 2)) (hI : sf_I h) (hR : rt_Q h) (nxt : ∀ h', sf_I h' → rt_Q h' → mx_T E (mx_fn true) 1000 (c + 10) (e + 98) 0 2283 [(0, .inl (.float 2)), (1, .inr (.inl 0)), (2, .inr (.inl 105)), (3, .inl (.int a3))] [] h' Q) :
    mx_T E (mx_fn true) 1000 (c + 10) (e + 98) 0 1854 [(0, .inl (.float 2)), (1, .inr (.inl 0)), (2, .inr (.inl 105)), (3, .inl (.int a3))] [] h Q :=
  sgL_1854 (d := 999) (rt_Ci (r := (f144 _)) (M := fun g => sf_E 2087991112359336242417090892986810382758785543420504949827915968785615589655190757596906864784611261714391413810364678144 h g) (sf144  hI (fun x2 h2 I2 E2 X2 => ⟨x2, rfl, I2, E2⟩)) (fun _ => x144 (xk_i rfl)) (fun I2 E2 => hx_i (rt_Ci (r := (f204 _)) (M := fun g => sf_E 135635176780977790232085235280312309076436857142128021453057297604343753062430512320020685252460544 _ g) (sf204  I2 (fun x4 h4 I4 E4 X4 => ⟨x4, rfl, I4, E4⟩)) (fun _ => x204 (xk_i rfl)) (fun I4 E4 => hx_i (nxt _ I4 ⟨(rt_go hR.1 (by decide) E2.l (by decide) E4 (by decide) (by decide) (fun S N P => (st_undo P (by decide) (by decide) (by decide) (by decide) E2.l E4.l).2)), (rt_Bf (by decide) (by decide) E4.l (rt_Bf (by decide) (by decide) E2.l hR.2))⟩)))))
theorem lp_1867 {E : mx_Ev} {c e : Nat} {h : mx_H} {Q : Option mx_V → mx_H → Prop} {a3 : Int32} (v1 : vp_in (a3 + 1) (mx_slen E 2)) (v2 : vp_in (a3 + 2) (mx_slen E 2)) (v3 : vp_in (a3 + 3) (mx_slen E 2)) (v4 : vp_in (a3 + 4) (mx_slen E 2)) (v5 : vp_in (a3 + 5) (mx_slen E 2)) (hI : sf_I h) (hR : rt_Q h) (nxt : ∀ h', sf_I h' → rt_Q h' → mx_T E (mx_fn true) 1000 (c + 10) (e + 98) 0 2283 [(0, .inl (.float 2)), (1, .inr (.inl 0)), (2, .inr (.inl 105)), (3, .inl (.int a3))] [] h' Q) :
    mx_T E (mx_fn true) 1000 (c + 10) (e + 98) 0 1867 [(0, .inl (.float 2)), (1, .inr (.inl 0)), (2, .inr (.inl 105)), (3, .inl (.int a3))] [] h Q :=
  sgL_1867 (d := 999) (rt_Ci (r := (f145 _)) (M := fun g => sf_E 2087991112359336242417090892986810382758785543420504949827915968785615589655190757596906864784611261714391413810364678144 h g) (sf145  hI (fun x2 h2 I2 E2 X2 => ⟨x2, rfl, I2, E2⟩)) (fun _ => x145 (xk_i rfl)) (fun I2 E2 => hx_i (rt_Ci (r := (f205 _)) (M := fun g => sf_E 135635176780977790232085235280312309076436857142128021453057297604343753062430512320020685252460544 _ g) (sf205  I2 (fun x4 h4 I4 E4 X4 => ⟨x4, rfl, I4, E4⟩)) (fun _ => x205 (xk_i rfl)) (fun I4 E4 => hx_i (nxt _ I4 ⟨(rt_go hR.1 (by decide) E2.l (by decide) E4 (by decide) (by decide) (fun S N P => (st_redo P (by decide) (by decide) (by decide) (by decide) E2.l E4.l).2)), (rt_Bf (by decide) (by decide) E4.l (rt_Bf (by decide) (by decide) E2.l hR.2))⟩)))))
theorem lp_1880 {E : mx_Ev} {c e : Nat} {h : mx_H} {Q : Option mx_V → mx_H → Prop} {a3 : Int32} (v1 : vp_in (a3 + 1) (mx_slen E 2)) (v2 : vp_in (a3 + 2) (mx_slen E 2)) (v3 : vp_in (a3 + 3) (mx_slen E 2)) (v4 : vp_in (a3 + 4) (mx_slen E 2)) (v5 : vp_in (a3 + 5) (mx_slen E 2)) (hI : sf_I h) (hR : rt_Q h) (nxt : ∀ h', sf_I h' → rt_Q h' → mx_T E (mx_fn true) 1000 (c + 10) (e + 98) 0 2283 [(0, .inl (.float 2)), (1, .inr (.inl 0)), (2, .inr (.inl 105)), (3, .inl (.int a3))] [] h' Q) :
    mx_T E (mx_fn true) 1000 (c + 10) (e + 98) 0 1880 [(0, .inl (.float 2)), (1, .inr (.inl 0)), (2, .inr (.inl 105)), (3, .inl (.int a3))] [] h Q :=
  sgL_1880 (d := 999) (sf146  hI (fun x2 h2 I2 E2 X2 => hx_i (sf206  I2 (fun x4 h4 I4 E4 X4 => hx_i (nxt _ I4 (rt_Qf (by decide) (by decide) (by decide) (by decide) (by decide) E4 (rt_Qf (by decide) (by decide) (by decide) (by decide) (by decide) E2 hR)))))))
theorem lp_1893 {E : mx_Ev} {c e : Nat} {h : mx_H} {Q : Option mx_V → mx_H → Prop} {a3 : Int32} (v1 : vp_in (a3 + 1) (mx_slen E 2)) (v2 : vp_in (a3 + 2) (mx_slen E 2)) (v3 : vp_in (a3 + 3) (mx_slen E 2)) (v4 : vp_in (a3 + 4) (mx_slen E 2)) (v5 : vp_in (a3 + 5) (mx_slen E 2)) (hI : sf_I h) (hR : rt_Q h) (nxt : ∀ h', sf_I h' → rt_Q h' → mx_T E (mx_fn true) 1000 (c + 10) (e + 98) 0 2283 [(0, .inl (.float 2)), (1, .inr (.inl 0)), (2, .inr (.inl 105)), (3, .inl (.int a3))] [] h' Q) :
    mx_T E (mx_fn true) 1000 (c + 10) (e + 98) 0 1893 [(0, .inl (.float 2)), (1, .inr (.inl 0)), (2, .inr (.inl 105)), (3, .inl (.int a3))] [] h Q :=
  sgL_1893 (d := 999) ⟨Or.inr (Or.inr rfl), v1, rt_Ci (r := (f147 _ _)) (M := fun g => sf_E 346583711765101857447301773017885462929554634421977071896309947577039779297545389596368339759206480725706832165354775132881551360 h g) (sf147 (iv_rng _) hI (fun x2 h2 I2 E2 X2 => ⟨x2, rfl, I2, E2⟩)) (fun _ => x147 (xk_i rfl)) (fun I2 E2 => hx_i ⟨Or.inr (Or.inr rfl), v1, rt_Ci (r := (f285 _ _)) (M := fun g => sf_E 1640438043587258943279376670448643965563526093768865421115760362046682492954258127300235270348079104 _ g) (sf285 (iv_rng _) I2 (fun x4 h4 I4 E4 X4 => ⟨x4, rfl, I4, E4⟩)) (fun _ => x285 (xk_i rfl)) (fun I4 E4 => hx_i ⟨fun _ => nxt _ I4 ⟨(rt_go hR.1 (by decide) E2.l (by decide) E4 (by decide) (by decide) (fun S N P => (st_body P (by decide) (by decide) (by decide) (by decide) (by decide) (by decide) (by decide) E2 E4.l).2)), (rt_Bf (by decide) (by decide) E4.l (rt_Bf (by decide) (by decide) E2.l hR.2))⟩, fun q => absurd (rt_eq hR.1 (by decide) E2.l (fun S N P => (st_body P (by decide) (by decide) (by decide) (by decide) (by decide) (by decide) (by decide) E2 E4.l).1)) q⟩)⟩)⟩
theorem lp_1916 {E : mx_Ev} {c e : Nat} {h : mx_H} {Q : Option mx_V → mx_H → Prop} {a3 : Int32} (v1 : vp_in (a3 + 1) (mx_slen E 2)) (v2 : vp_in (a3 + 2) (mx_slen E 2)) (v3 : vp_in (a3 + 3) (mx_slen E 2)) (v4 : vp_in (a3 + 4) (mx_slen E 2)) (v5 : vp_in (a3 + 5) (mx_slen E 2)) (hI : sf_I h) (hR : rt_Q h) (nxt : ∀ h', sf_I h' → rt_Q h' → mx_T E (mx_fn true) 1000 (c + 10) (e + 98) 0 2283 [(0, .inl (.float 2)), (1, .inr (.inl 0)), (2, .inr (.inl 105)), (3, .inl (.int a3))] [] h' Q) :
    mx_T E (mx_fn true) 1000 (c + 10) (e + 98) 0 1916 [(0, .inl (.float 2)), (1, .inr (.inl 0)), (2, .inr (.inl 105)), (3, .inl (.int a3))] [] h Q :=
  sgL_1916 (d := 999) ⟨Or.inr (Or.inr rfl), v1, Or.inr (Or.inr rfl), v2, Or.inr (Or.inr rfl), v3, sf148 (iv_rng _) (iv_rng _) (iv_rng _) hI (fun x2 h2 I2 E2 X2 => hx_i ⟨Or.inr (Or.inr rfl), v1, Or.inr (Or.inr rfl), v2, Or.inr (Or.inr rfl), v3, sf297 (iv_rng _) (iv_rng _) (iv_rng _) I2 (fun x4 h4 I4 E4 X4 => hx_i (nxt _ I4 (rt_Qf (by decide) (by decide) (by decide) (by decide) (by decide) E4 (rt_Qf (by decide) (by decide) (by decide) (by decide) (by decide) E2 hR))))⟩)⟩
theorem lp_1959 {E : mx_Ev} {c e : Nat} {h : mx_H} {Q : Option mx_V → mx_H → Prop} {a3 : Int32} (v1 : vp_in (a3 + 1) (mx_slen E 2)) (v2 : vp_in (a3 + 2) (mx_slen E 2)) (v3 : vp_in (a3 + 3) (mx_slen E 2)) (v4 : vp_in (a3 + 4) (mx_slen E 2)) (v5 : vp_in (a3 + 5) (mx_slen E 2)) (hI : sf_I h) (hR : rt_Q h) (nxt : ∀ h', sf_I h' → rt_Q h' → mx_T E (mx_fn true) 1000 (c + 10) (e + 98) 0 2283 [(0, .inl (.float 2)), (1, .inr (.inl 0)), (2, .inr (.inl 105)), (3, .inl (.int a3))] [] h' Q) :
    mx_T E (mx_fn true) 1000 (c + 10) (e + 98) 0 1959 [(0, .inl (.float 2)), (1, .inr (.inl 0)), (2, .inr (.inl 105)), (3, .inl (.int a3))] [] h Q :=
  sgL_1959 (d := 999) ⟨Or.inr (Or.inr rfl), v1, sf149 (iv_rng _) hI (fun x2 h2 I2 E2 X2 => hx_i ⟨Or.inr (Or.inr rfl), v1, sf298 (iv_rng _) I2 (fun x4 h4 I4 E4 X4 => hx_i (nxt _ I4 (rt_Qf (by decide) (by decide) (by decide) (by decide) (by decide) E4 (rt_Qf (by decide) (by decide) (by decide) (by decide) (by decide) E2 hR))))⟩)⟩
theorem lp_1982 {E : mx_Ev} {c e : Nat} {h : mx_H} {Q : Option mx_V → mx_H → Prop} {a3 : Int32} (v1 : vp_in (a3 + 1) (mx_slen E 2)) (v2 : vp_in (a3 + 2) (mx_slen E 2)) (v3 : vp_in (a3 + 3) (mx_slen E 2)) (v4 : vp_in (a3 + 4) (mx_slen E 2)) (v5 : vp_in (a3 + 5) (mx_slen E 2)) (hI : sf_I h) (hR : rt_Q h) (nxt : ∀ h', sf_I h' → rt_Q h' → mx_T E (mx_fn true) 1000 (c + 10) (e + 98) 0 2283 [(0, .inl (.float 2)), (1, .inr (.inl 0)), (2, .inr (.inl 105)), (3, .inl (.int a3))] [] h' Q) :
    mx_T E (mx_fn true) 1000 (c + 10) (e + 98) 0 1982 [(0, .inl (.float 2)), (1, .inr (.inl 0)), (2, .inr (.inl 105)), (3, .inl (.int a3))] [] h Q :=
  sgL_1982 (d := 999) ⟨Or.inr (Or.inr rfl), v1, Or.inr (Or.inr rfl), v2, rt_Ci (r := (f150 _ _ _)) (M := fun g => sf_E 184296510419975076721356548446423256558066416950960944695044210688 h g) (sf150 (iv_rng _) (iv_rng _) hI (fun x2 h2 I2 E2 X2 => ⟨x2, rfl, I2, E2⟩)) (fun _ => x150 (xk_i rfl)) (fun I2 E2 => hx_i ⟨Or.inr (Or.inr rfl), v1, Or.inr (Or.inr rfl), v2, rt_Ci (r := (f301 _ _ _)) (M := fun g => sf_E 76957043352332967211482500195592995713046365762627825523336510555167425334955489475418488779072100860950445293568 _ g) (sf301 (iv_rng _) (iv_rng _) I2 (fun x4 h4 I4 E4 X4 => ⟨x4, rfl, I4, E4⟩)) (fun _ => x301 (xk_i rfl)) (fun I4 E4 => hx_i (nxt _ I4 ⟨(rt_goS hR.1 (by decide) (by decide) E2 (by decide) (by decide) E4 (by decide) (by decide) (fun S N A K => st_keep A K)), (rt_Bf (by decide) (by decide) E4.l (rt_Bf (by decide) (by decide) E2.l hR.2))⟩))⟩)⟩
theorem lp_2015 {E : mx_Ev} {c e : Nat} {h : mx_H} {Q : Option mx_V → mx_H → Prop} {a3 : Int32} (v1 : vp_in (a3 + 1) (mx_slen E 2)) (v2 : vp_in (a3 + 2) (mx_slen E 2)) (v3 : vp_in (a3 + 3) (mx_slen E 2)) (v4 : vp_in (a3 + 4) (mx_slen E 2)) (v5 : vp_in (a3 + 5) (mx_slen E 2)) (hI : sf_I h) (hR : rt_Q h) (nxt : ∀ h', sf_I h' → rt_Q h' → mx_T E (mx_fn true) 1000 (c + 10) (e + 98) 0 2283 [(0, .inl (.float 2)), (1, .inr (.inl 0)), (2, .inr (.inl 105)), (3, .inl (.int a3))] [] h' Q) :
    mx_T E (mx_fn true) 1000 (c + 10) (e + 98) 0 2015 [(0, .inl (.float 2)), (1, .inr (.inl 0)), (2, .inr (.inl 105)), (3, .inl (.int a3))] [] h Q :=
  sgL_2015 (d := 999) ⟨Or.inr (Or.inr rfl), v1, Or.inr (Or.inr rfl), v2, Or.inr (Or.inr rfl), v3, rt_Ci (r := (f151 _ _ _ _)) (M := fun g => sf_E 10830740992659433045228180406808920716548582325686783496759685940760083235033615113438420786597119466114255968229816143190163456 h g) (sf151 (iv_rng _) (iv_rng _) (iv_rng _) hI (fun x2 h2 I2 E2 X2 => ⟨x2, rfl, I2, E2⟩)) (fun _ => x151 (xk_i rfl)) (fun I2 E2 => hx_i ⟨Or.inr (Or.inr rfl), v1, Or.inr (Or.inr rfl), v2, Or.inr (Or.inr rfl), v3, rt_Ci (r := (f302 _ _ _ _)) (M := fun g => sf_E 538699303466330770480377501369150969991324560338394778663355573886171977344688426327929421453504706026653117054976 _ g) (sf302 (iv_rng _) (iv_rng _) (iv_rng _) I2 (fun x4 h4 I4 E4 X4 => ⟨x4, rfl, I4, E4⟩)) (fun _ => x302 (xk_i rfl)) (fun I4 E4 => hx_i (nxt _ I4 ⟨(rt_goS hR.1 (by decide) (by decide) E2 (by decide) (by decide) E4 (by decide) (by decide) (fun S N A K => st_row K)), (rt_Bf (by decide) (by decide) E4.l (rt_Bf (by decide) (by decide) E2.l hR.2))⟩))⟩)⟩
theorem lp_2058 {E : mx_Ev} {c e : Nat} {h : mx_H} {Q : Option mx_V → mx_H → Prop} {a3 : Int32} (v1 : vp_in (a3 + 1) (mx_slen E 2)) (v2 : vp_in (a3 + 2) (mx_slen E 2)) (v3 : vp_in (a3 + 3) (mx_slen E 2)) (v4 : vp_in (a3 + 4) (mx_slen E 2)) (v5 : vp_in (a3 + 5) (mx_slen E 2)) (hI : sf_I h) (hR : rt_Q h) (nxt : ∀ h', sf_I h' → rt_Q h' → mx_T E (mx_fn true) 1000 (c + 10) (e + 98) 0 2283 [(0, .inl (.float 2)), (1, .inr (.inl 0)), (2, .inr (.inl 105)), (3, .inl (.int a3))] [] h' Q) :
    mx_T E (mx_fn true) 1000 (c + 10) (e + 98) 0 2058 [(0, .inl (.float 2)), (1, .inr (.inl 0)), (2, .inr (.inl 105)), (3, .inl (.int a3))] [] h Q :=
  sgL_2058 (d := 999) ⟨Or.inr (Or.inr rfl), v1, Or.inr (Or.inr rfl), v2, Or.inr (Or.inr rfl), v3, Or.inr (Or.inr rfl), v4, sf152 (iv_rng _) (iv_rng _) hI (fun x2 h2 I2 E2 X2 => hx_i ⟨Or.inr (Or.inr rfl), v1, Or.inr (Or.inr rfl), v2, Or.inr (Or.inr rfl), v3, Or.inr (Or.inr rfl), v4, sf304 (iv_rng _) (iv_rng _) I2 (fun x4 h4 I4 E4 X4 => hx_i (nxt _ I4 (rt_Qf (by decide) (by decide) (by decide) (by decide) (by decide) E4 (rt_Qf (by decide) (by decide) (by decide) (by decide) (by decide) E2 hR))))⟩)⟩
theorem lp_2131 {E : mx_Ev} {c e : Nat} {h : mx_H} {Q : Option mx_V → mx_H → Prop} {a3 : Int32} (v1 : vp_in (a3 + 1) (mx_slen E 2)) (v2 : vp_in (a3 + 2) (mx_slen E 2)) (v3 : vp_in (a3 + 3) (mx_slen E 2)) (v4 : vp_in (a3 + 4) (mx_slen E 2)) (v5 : vp_in (a3 + 5) (mx_slen E 2)) (hI : sf_I h) (hR : rt_Q h) (nxt : ∀ h', sf_I h' → rt_Q h' → mx_T E (mx_fn true) 1000 (c + 10) (e + 98) 0 2283 [(0, .inl (.float 2)), (1, .inr (.inl 0)), (2, .inr (.inl 105)), (3, .inl (.int a3))] [] h' Q) :
    mx_T E (mx_fn true) 1000 (c + 10) (e + 98) 0 2131 [(0, .inl (.float 2)), (1, .inr (.inl 0)), (2, .inr (.inl 105)), (3, .inl (.int a3))] [] h Q :=
  sgL_2131 (d := 999) ⟨Or.inr (Or.inr rfl), v1, Or.inr (Or.inr rfl), v2, sf153 (iv_rng _) (iv_rng _) hI (fun x2 h2 I2 E2 => hx_l ⟨Or.inr (Or.inr rfl), v1, Or.inr (Or.inr rfl), v2, sf305 (iv_rng _) (iv_rng _) I2 (fun x4 h4 I4 E4 => hx_l (nxt _ I4 (rt_Qf (by decide) (by decide) (by decide) (by decide) (by decide) E4 (rt_Qf (by decide) (by decide) (by decide) (by decide) (by decide) E2 hR))))⟩)⟩
theorem lp_2164 {E : mx_Ev} {c e : Nat} {h : mx_H} {Q : Option mx_V → mx_H → Prop} {a3 : Int32} (v1 : vp_in (a3 + 1) (mx_slen E 2)) (v2 : vp_in (a3 + 2) (mx_slen E 2)) (v3 : vp_in (a3 + 3) (mx_slen E 2)) (v4 : vp_in (a3 + 4) (mx_slen E 2)) (v5 : vp_in (a3 + 5) (mx_slen E 2)) (hI : sf_I h) (hR : rt_Q h) (nxt : ∀ h', sf_I h' → rt_Q h' → mx_T E (mx_fn true) 1000 (c + 10) (e + 98) 0 2283 [(0, .inl (.float 2)), (1, .inr (.inl 0)), (2, .inr (.inl 105)), (3, .inl (.int a3))] [] h' Q) :
    mx_T E (mx_fn true) 1000 (c + 10) (e + 98) 0 2164 [(0, .inl (.float 2)), (1, .inr (.inl 0)), (2, .inr (.inl 105)), (3, .inl (.int a3))] [] h Q :=
  sgL_2164 (d := 999) ⟨Or.inr (Or.inr rfl), v1, Or.inr (Or.inr rfl), v2, Or.inr (Or.inr rfl), v3, Or.inr (Or.inr rfl), v4, Or.inr (Or.inr rfl), v5, sf154 (iv_rng _) (iv_rng _) (iv_rng _) (iv_rng _) (iv_rng _) hI (fun x2 h2 I2 E2 X2 => hx_i ⟨Or.inr (Or.inr rfl), v1, Or.inr (Or.inr rfl), v2, Or.inr (Or.inr rfl), v3, Or.inr (Or.inr rfl), v4, Or.inr (Or.inr rfl), v5, sf306 (iv_rng _) (iv_rng _) (iv_rng _) (iv_rng _) (iv_rng _) I2 (fun x4 h4 I4 E4 X4 => hx_i (nxt _ I4 (rt_Qf (by decide) (by decide) (by decide) (by decide) (by decide) E4 (rt_Qf (by decide) (by decide) (by decide) (by decide) (by decide) E2 hR))))⟩)⟩
theorem lp_2227 {E : mx_Ev} {c e : Nat} {h : mx_H} {Q : Option mx_V → mx_H → Prop} {a3 : Int32} (v1 : vp_in (a3 + 1) (mx_slen E 2)) (v2 : vp_in (a3 + 2) (mx_slen E 2)) (v3 : vp_in (a3 + 3) (mx_slen E 2)) (v4 : vp_in (a3 + 4) (mx_slen E 2)) (v5 : vp_in (a3 + 5) (mx_slen E 2)) (hI : sf_I h) (hR : rt_Q h) (nxt : ∀ h', sf_I h' → rt_Q h' → mx_T E (mx_fn true) 1000 (c + 10) (e + 98) 0 2283 [(0, .inl (.float 2)), (1, .inr (.inl 0)), (2, .inr (.inl 105)), (3, .inl (.int a3))] [] h' Q) :
    mx_T E (mx_fn true) 1000 (c + 10) (e + 98) 0 2227 [(0, .inl (.float 2)), (1, .inr (.inl 0)), (2, .inr (.inl 105)), (3, .inl (.int a3))] [] h Q :=
  sgL_2227 (d := 999) ⟨Or.inr (Or.inr rfl), v1, Or.inr (Or.inr rfl), v2, sf155 (iv_rng _) (iv_rng _) hI (fun x2 h2 I2 E2 X2 => hx_i ⟨Or.inr (Or.inr rfl), v1, Or.inr (Or.inr rfl), v2, sf307 (iv_rng _) (iv_rng _) I2 (fun x4 h4 I4 E4 X4 => hx_i (nxt _ I4 (rt_Qf (by decide) (by decide) (by decide) (by decide) (by decide) E4 (rt_Qf (by decide) (by decide) (by decide) (by decide) (by decide) E2 hR))))⟩)⟩
theorem lp_2260 {E : mx_Ev} {c e : Nat} {h : mx_H} {Q : Option mx_V → mx_H → Prop} {a3 : Int32} (v1 : vp_in (a3 + 1) (mx_slen E 2)) (v2 : vp_in (a3 + 2) (mx_slen E 2)) (v3 : vp_in (a3 + 3) (mx_slen E 2)) (v4 : vp_in (a3 + 4) (mx_slen E 2)) (v5 : vp_in (a3 + 5) (mx_slen E 2)) (hI : sf_I h) (hR : rt_Q h) (nxt : ∀ h', sf_I h' → rt_Q h' → mx_T E (mx_fn true) 1000 (c + 10) (e + 98) 0 2283 [(0, .inl (.float 2)), (1, .inr (.inl 0)), (2, .inr (.inl 105)), (3, .inl (.int a3))] [] h' Q) :
    mx_T E (mx_fn true) 1000 (c + 10) (e + 98) 0 2260 [(0, .inl (.float 2)), (1, .inr (.inl 0)), (2, .inr (.inl 105)), (3, .inl (.int a3))] [] h Q :=
  sgL_2260 (d := 999) ⟨Or.inr (Or.inr rfl), v1, sf156 (iv_rng _) hI (fun x2 h2 I2 E2 X2 => hx_i ⟨Or.inr (Or.inr rfl), v1, sf299 (iv_rng _) I2 (fun x4 h4 I4 E4 X4 => hx_i (nxt _ I4 (rt_Qf (by decide) (by decide) (by decide) (by decide) (by decide) E4 (rt_Qf (by decide) (by decide) (by decide) (by decide) (by decide) E2 hR))))⟩)⟩
set_option maxRecDepth 100000 in
theorem lp_18 {E : mx_Ev} {Q : Option mx_V → mx_H → Prop} (hL : mx_sn E ≤ 384) (hQ : ∀ h', Q (some (.inl (.int 1))) h') : ∀ (n k : Nat) {c e : Nat} {h : mx_H}, 64 - k < n → k ≤ 64 → 9 * (64 - k) ≤ c → 97 * (64 - k) ≤ e → sf_I h → rt_Q h → mx_T E (mx_fn true) 1000 (c + 10) (e + 98) 0 18 [(0, .inl (.float 2)), (1, .inr (.inl 0)), (2, .inr (.inl 105)), (3, .inl (.int (nI (6 * k))))] [] h Q
  | 0, _, _, _, _, hm, _, _, _, _, _ => absurd hm (Nat.not_lt_zero _)
  | n + 1, k, c, e, h, hm, hk, hc, he, hI, hR => by
    have sl : mx_slen E 2 = mx_sn E := rfl
    refine sgL_18 (d := 999) ⟨Or.inr (Or.inr rfl), fun _ => ⟨Or.inr rfl, hQ _⟩, fun g => ?_⟩
    have hL2 : 6 * k + 6 ≤ mx_sn E := by
      have g' := Int32.le_iff_toInt_le.mp (Int32.not_lt.mp g)
      rw [sl] at g'
      have e1 : (Int32.ofNat (mx_sn E)).toInt = mx_sn E := nI_toInt (by omega)
      have e2 : (Int32.ofNat (mx_sn E) - 6).toInt = (mx_sn E : Int) - 6 := li_sub (a := 0) (b := 384) (c := 6) (d := 6) ⟨by rw [e1]; omega, by rw [e1]; omega⟩ (iv_k (n := 6) rfl) (by decide) e1 rfl
      rw [e2, nI_toInt (by omega)] at g'
      omega
    have hv : ∀ j, j < 6 → vp_in (nI (6 * k + j)) (mx_slen E 2) := fun j hj => by
      rw [sl]
      exact vp_in_nI (by omega) (by omega)
    have v1 : vp_in (nI (6 * k) + 1) (mx_slen E 2) := by rw [show (1 : Int32) = nI 1 from rfl, nI_add]; exact hv 1 (by decide)
    have v2 : vp_in (nI (6 * k) + 2) (mx_slen E 2) := by rw [show (2 : Int32) = nI 2 from rfl, nI_add]; exact hv 2 (by decide)
    have v3 : vp_in (nI (6 * k) + 3) (mx_slen E 2) := by rw [show (3 : Int32) = nI 3 from rfl, nI_add]; exact hv 3 (by decide)
    have v4 : vp_in (nI (6 * k) + 4) (mx_slen E 2) := by rw [show (4 : Int32) = nI 4 from rfl, nI_add]; exact hv 4 (by decide)
    have v5 : vp_in (nI (6 * k) + 5) (mx_slen E 2) := by rw [show (5 : Int32) = nI 5 from rfl, nI_add]; exact hv 5 (by decide)
    obtain ⟨c', rfl⟩ : ∃ c', c = c' + 9 := ⟨c - 9, by omega⟩
    obtain ⟨e', rfl⟩ : ∃ e', e = e' + 97 := ⟨e - 97, by omega⟩
    have six : nI (6 * k) + 6 = nI (6 * (k + 1)) := by
      rw [show (6 : Int32) = nI 6 from rfl, nI_add]
      exact congrArg nI (by omega)
    have nxt : ∀ {c2 e2 : Nat} (_ : 9 * (63 - k) ≤ c2) (_ : 97 * (63 - k) ≤ e2) (h' : mx_H), sf_I h' → rt_Q h' → mx_T E (mx_fn true) 1000 (c2 + 10) (e2 + 98) 0 2283 [(0, .inl (.float 2)), (1, .inr (.inl 0)), (2, .inr (.inl 105)), (3, .inl (.int (nI (6 * k))))] [] h' Q := fun q1 q2 h' I' R' => by
      refine sgL_2283 (d := 999) ?_
      rw [six]
      exact lp_18 hL hQ n (k + 1) (by omega) (by omega) (by omega) (by omega) I' R'
    have nN := @nxt (c' + 9) (e' + 97) (by omega) (by omega)
    have nA := @nxt c' e' (by omega) (by omega)
    refine ⟨Or.inr (Or.inr rfl), hv 0 (by decide), ?_⟩
    intro tgt ht
    rcases ht with ⟨-, h2⟩ | ⟨-, -, o, ho, h3⟩
    · have ee : tgt = 2283 := by omega
      subst ee
      exact nN _ hI hR
    · have hm := Array.mem_of_getElem? ho
      simp only [List.mem_toArray, List.mem_cons, List.not_mem_nil, or_false] at hm
      rcases hm with rfl | rfl | rfl | rfl | rfl | rfl | rfl | rfl | rfl | rfl | rfl | rfl | rfl | rfl | rfl | rfl | rfl | rfl | rfl | rfl | rfl | rfl | rfl | rfl | rfl | rfl | rfl | rfl | rfl | rfl | rfl | rfl | rfl | rfl | rfl | rfl | rfl | rfl | rfl | rfl | rfl | rfl | rfl | rfl | rfl | rfl | rfl | rfl | rfl | rfl | rfl | rfl | rfl | rfl | rfl
      · have ee : tgt = 268 := by omega
        subst ee
        exact lp_268 v1 v2 v3 v4 v5 hI hR nN
      · have ee : tgt = 301 := by omega
        subst ee
        exact lp_301 v1 v2 v3 v4 v5 hI hR nA
      · have ee : tgt = 314 := by omega
        subst ee
        exact lp_314 v1 v2 v3 v4 v5 hI hR nN
      · have ee : tgt = 347 := by omega
        subst ee
        exact lp_347 v1 v2 v3 v4 v5 hI hR nN
      · have ee : tgt = 400 := by omega
        subst ee
        exact lp_400 v1 v2 v3 v4 v5 hI hR nN
      · have ee : tgt = 453 := by omega
        subst ee
        exact lp_453 v1 v2 v3 v4 v5 hI hR nN
      · have ee : tgt = 506 := by omega
        subst ee
        exact lp_506 v1 v2 v3 v4 v5 hI hR nN
      · have ee : tgt = 549 := by omega
        subst ee
        exact lp_549 v1 v2 v3 v4 v5 hI hR nN
      · have ee : tgt = 592 := by omega
        subst ee
        exact lp_592 v1 v2 v3 v4 v5 hI hR nN
      · have ee : tgt = 635 := by omega
        subst ee
        exact lp_635 v1 v2 v3 v4 v5 hI hR nN
      · have ee : tgt = 678 := by omega
        subst ee
        exact lp_678 v1 v2 v3 v4 v5 hI hR nN
      · have ee : tgt = 721 := by omega
        subst ee
        exact lp_721 v1 v2 v3 v4 v5 hI hR nN
      · have ee : tgt = 774 := by omega
        subst ee
        exact lp_774 v1 v2 v3 v4 v5 hI hR nN
      · have ee : tgt = 837 := by omega
        subst ee
        exact lp_837 v1 v2 v3 v4 v5 hI hR nN
      · have ee : tgt = 890 := by omega
        subst ee
        exact lp_890 v1 v2 v3 v4 v5 hI hR nN
      · have ee : tgt = 913 := by omega
        subst ee
        exact lp_913 v1 v2 v3 v4 v5 hI hR nN
      · have ee : tgt = 946 := by omega
        subst ee
        exact lp_946 v1 v2 v3 v4 v5 hI hR nN
      · have ee : tgt = 979 := by omega
        subst ee
        exact lp_979 v1 v2 v3 v4 v5 hI hR nN
      · have ee : tgt = 1022 := by omega
        subst ee
        exact lp_1022 v1 v2 v3 v4 v5 hI hR nN
      · have ee : tgt = 1075 := by omega
        subst ee
        exact lp_1075 v1 v2 v3 v4 v5 hI hR nN
      · have ee : tgt = 1118 := by omega
        subst ee
        exact lp_1118 v1 v2 v3 v4 v5 hI hR nN
      · have ee : tgt = 1161 := by omega
        subst ee
        exact lp_1161 v1 v2 v3 v4 v5 hI hR nN
      · have ee : tgt = 1184 := by omega
        subst ee
        exact lp_1184 v1 v2 v3 v4 v5 hI hR nN
      · have ee : tgt = 1197 := by omega
        subst ee
        exact lp_1197 v1 v2 v3 v4 v5 hI hR nN
      · have ee : tgt = 1220 := by omega
        subst ee
        exact lp_1220 v1 v2 v3 v4 v5 hI hR nN
      · have ee : tgt = 1263 := by omega
        subst ee
        exact lp_1263 v1 v2 v3 v4 v5 hI hR nN
      · have ee : tgt = 1296 := by omega
        subst ee
        exact lp_1296 v1 v2 v3 v4 v5 hI hR nN
      · have ee : tgt = 1309 := by omega
        subst ee
        exact lp_1309 v1 v2 v3 v4 v5 hI hR nN
      · have ee : tgt = 1332 := by omega
        subst ee
        exact lp_1332 v1 v2 v3 v4 v5 hI hR nN
      · have ee : tgt = 1365 := by omega
        subst ee
        exact lp_1365 v1 v2 v3 v4 v5 hI hR nN
      · have ee : tgt = 1418 := by omega
        subst ee
        exact lp_1418 v1 v2 v3 v4 v5 hI hR nN
      · have ee : tgt = 1461 := by omega
        subst ee
        exact lp_1461 v1 v2 v3 v4 v5 hI hR nN
      · have ee : tgt = 1494 := by omega
        subst ee
        exact lp_1494 v1 v2 v3 v4 v5 hI hR nN
      · have ee : tgt = 1527 := by omega
        subst ee
        exact lp_1527 v1 v2 v3 v4 v5 hI hR nN
      · have ee : tgt = 1560 := by omega
        subst ee
        exact lp_1560 v1 v2 v3 v4 v5 hI hR nN
      · have ee : tgt = 1613 := by omega
        subst ee
        exact lp_1613 v1 v2 v3 v4 v5 hI hR nN
      · have ee : tgt = 1646 := by omega
        subst ee
        exact lp_1646 v1 v2 v3 v4 v5 hI hR nN
      · have ee : tgt = 1669 := by omega
        subst ee
        exact lp_1669 v1 v2 v3 v4 v5 hI hR nN
      · have ee : tgt = 1702 := by omega
        subst ee
        exact lp_1702 v1 v2 v3 v4 v5 hI hR nN
      · have ee : tgt = 1755 := by omega
        subst ee
        exact lp_1755 v1 v2 v3 v4 v5 hI hR nN
      · have ee : tgt = 1768 := by omega
        subst ee
        exact lp_1768 v1 v2 v3 v4 v5 hI hR nA
      · have ee : tgt = 1821 := by omega
        subst ee
        exact lp_1821 v1 v2 v3 v4 v5 hI hR nN
      · have ee : tgt = 1854 := by omega
        subst ee
        exact lp_1854 v1 v2 v3 v4 v5 hI hR nN
      · have ee : tgt = 1867 := by omega
        subst ee
        exact lp_1867 v1 v2 v3 v4 v5 hI hR nN
      · have ee : tgt = 1880 := by omega
        subst ee
        exact lp_1880 v1 v2 v3 v4 v5 hI hR nN
      · have ee : tgt = 1893 := by omega
        subst ee
        exact lp_1893 v1 v2 v3 v4 v5 hI hR nN
      · have ee : tgt = 1916 := by omega
        subst ee
        exact lp_1916 v1 v2 v3 v4 v5 hI hR nN
      · have ee : tgt = 1959 := by omega
        subst ee
        exact lp_1959 v1 v2 v3 v4 v5 hI hR nN
      · have ee : tgt = 1982 := by omega
        subst ee
        exact lp_1982 v1 v2 v3 v4 v5 hI hR nN
      · have ee : tgt = 2015 := by omega
        subst ee
        exact lp_2015 v1 v2 v3 v4 v5 hI hR nN
      · have ee : tgt = 2058 := by omega
        subst ee
        exact lp_2058 v1 v2 v3 v4 v5 hI hR nN
      · have ee : tgt = 2131 := by omega
        subst ee
        exact lp_2131 v1 v2 v3 v4 v5 hI hR nN
      · have ee : tgt = 2164 := by omega
        subst ee
        exact lp_2164 v1 v2 v3 v4 v5 hI hR nN
      · have ee : tgt = 2227 := by omega
        subst ee
        exact lp_2227 v1 v2 v3 v4 v5 hI hR nN
      · have ee : tgt = 2260 := by omega
        subst ee
        exact lp_2260 v1 v2 v3 v4 v5 hI hR nN
