/-! ===== methods that end and keep their bounds: written by program, checked by Lean ===== -/
set_option maxRecDepth 10000 in
theorem sf147 {E : mx_Ev} {d : Nat} {h : mx_H} {Q : Option mx_V → mx_H → Prop} {a1 : Int32} (pa1 : sf_iv (-2147483648) 2147483647 a1) (hI : sf_I h) (hQ : ∀ x h', sf_I h' → sf_E 346583711765101857447301773017885462929554634421977071896309947577039779297545389596368339759206480725706832165354775132881551360 h h' → sf_iv (-3) 199 x → Q (some (.inl (.int x))) h') : mx_C E (mx_fn true) (d + 2) 147 [.inr (.inl 0), .inl (.int a1)] h Q :=
  sg147_0 (sg162_0 (sp_wi (fun g11 => hx_i ⟨Or.inr rfl, hx_i ⟨fun g12 => ⟨fun g13 => (sg37_null ⟨fun g14 => ⟨(iv_in (iv_w (c := 0) (d := 199) (iv_ltl g13 (srd_202_90_0 hI) ivk_200) (by decide +kernel)) (by decide +kernel)), ⟨(iv_in (iv_o (by decide +kernel) (iv_w (c := 0) (d := 199) (iv_ltl g13 (srd_202_90_0 hI) ivk_200) (by decide +kernel))) (by decide +kernel)), rfl, hx_i (hQ _ _ (sf_uI (r := 202) (sf_uR (n := 92) (sf_uI (r := 207) hI rfl (iv_w (c := 0) (d := 5) (iv_lel g11.2 (iv_w (c := 0) (d := 2147483647) (iv_ler g11.1 ivk_0 pa1) (by decide +kernel)) ivk_5) (by decide +kernel)) (by decide +kernel)) (by decide +kernel) sf_vn) rfl (iv_add (lo := 1) (hi := 200) (iv_o (by decide +kernel) (iv_w (c := 0) (d := 199) (iv_ltl g13 (srd_202_90_0 hI) ivk_200) (by decide +kernel))) ivk_1 (by decide +kernel)) (by decide +kernel)) (sf_Eu (r := 202) rfl (by decide +kernel) (sf_ER (r := 427) rfl (by decide +kernel) (sf_Eu (r := 207) rfl (by decide +kernel) (sf_E0 _ _)))) (iv_w (c := -3) (d := 199) (iv_sub (lo := 0) (hi := 199) (iv_s (iv_add (lo := 1) (hi := 200) (iv_o (by decide +kernel) (iv_w (c := 0) (d := 199) (iv_ltl g13 (srd_202_90_0 hI) ivk_200) (by decide +kernel))) ivk_1 (by decide +kernel))) ivk_1 (by decide +kernel)) (by decide +kernel))  )⟩⟩, fun g15 => absurd g13 g15⟩), fun g16 => hQ _ _ hI (sf_E0 _ _) (iv_w (c := -3) (d := 199) ivk_m3 (by decide +kernel))  ⟩, fun g17 => (iv_no (iv_eql (Decidable.not_not.mp g17) ivk_1 ivk_0) (by decide +kernel)).elim⟩⟩) (fun g18 => hx_i ⟨Or.inl rfl, hx_i ⟨fun g19 => (iv_no (iv_nel g19 ivk_0 ivk_0) (by decide +kernel)).elim, fun g20 => hQ _ _ hI (sf_E0 _ _) (iv_w (c := -3) (d := 199) ivk_m1 (by decide +kernel))  ⟩⟩)))
set_option maxRecDepth 10000 in
theorem sf154 {E : mx_Ev} {d : Nat} {h : mx_H} {Q : Option mx_V → mx_H → Prop} {a1 : Int32} {a2 : Int32} {a3 : Int32} {a4 : Int32} {a5 : Int32} (pa1 : sf_iv (-2147483648) 2147483647 a1) (pa2 : sf_iv (-2147483648) 2147483647 a2) (pa3 : sf_iv (-2147483648) 2147483647 a3) (pa4 : sf_iv (-2147483648) 2147483647 a4) (pa5 : sf_iv (-2147483648) 2147483647 a5) (hI : sf_I h) (hQ : ∀ x h', sf_I h' → sf_E 10830740992659433045228180406808920716548582325686783496759685861775864483615725089999900023844295226942934417817982702456930304 h h' → sf_iv (-13) 60 x → Q (some (.inl (.int x))) h') : mx_C E (mx_fn true) (d + 2) 154 [.inr (.inl 0), .inl (.int a1), .inl (.int a2), .inl (.int a3), .inl (.int a4), .inl (.int a5)] h Q :=
  sg154_0 (sg161_0 (sp_wi (fun g221 => hx_i ⟨Or.inr rfl, hx_i ⟨fun g222 => (iv_no (iv_eql g222 ivk_1 ivk_0) (by decide +kernel)).elim, fun g223 => (sg161_0 (sp_wi (fun g224 => hx_i ⟨Or.inr rfl, hx_i ⟨fun g225 => ⟨(iv_in (iv_w (c := 0) (d := 5) (iv_lel g221.2 (iv_w (c := 0) (d := 2147483647) (iv_ler g221.1 ivk_0 pa1) (by decide +kernel)) ivk_5) (by decide +kernel)) (by decide +kernel)), ⟨fun g226 => hQ _ _ hI (sf_E0 _ _) (iv_w (c := -13) (d := 60) ivk_m11 (by decide +kernel))  , fun g227 => ⟨(iv_in (iv_w (c := 0) (d := 5) (iv_lel g224.2 (iv_w (c := 0) (d := 2147483647) (iv_ler g224.1 ivk_0 pa3) (by decide +kernel)) ivk_5) (by decide +kernel)) (by decide +kernel)), ⟨fun g228 => ⟨fun g229 => hQ _ _ hI (sf_E0 _ _) (iv_w (c := -13) (d := 60) ivk_m12 (by decide +kernel))  , fun g230 => ⟨(iv_in (iv_w (c := 0) (d := 5) (iv_lel g224.2 (iv_w (c := 0) (d := 2147483647) (iv_ler g224.1 ivk_0 pa3) (by decide +kernel)) ivk_5) (by decide +kernel)) (by decide +kernel)), ⟨fun g231 => (sg75_0 ⟨fun g232 => ⟨Or.inl rfl, hx_i ⟨fun g233 => hQ _ _ hI (sf_E0 _ _) (iv_w (c := -13) (d := 60) ivk_m13 (by decide +kernel))  , fun g234 => (iv_no (iv_nel g234 ivk_0 ivk_0) (by decide +kernel)).elim⟩⟩, fun g235 => ⟨fun g236 => ⟨Or.inl rfl, hx_i ⟨fun g237 => hQ _ _ hI (sf_E0 _ _) (iv_w (c := -13) (d := 60) ivk_m13 (by decide +kernel))  , fun g238 => (iv_no (iv_nel g238 ivk_0 ivk_0) (by decide +kernel)).elim⟩⟩, fun g239 => ⟨(iv_in (iv_w (c := 0) (d := 5) (iv_lel g221.2 (iv_w (c := 0) (d := 2147483647) (iv_ler g221.1 ivk_0 pa1) (by decide +kernel)) ivk_5) (by decide +kernel)) (by decide +kernel)), ⟨fun g240 => ⟨Or.inl rfl, hx_i ⟨fun g241 => hQ _ _ hI (sf_E0 _ _) (iv_w (c := -13) (d := 60) ivk_m13 (by decide +kernel))  , fun g242 => (iv_no (iv_nel g242 ivk_0 ivk_0) (by decide +kernel)).elim⟩⟩, fun g243 => ⟨(iv_in (iv_w (c := 0) (d := 5) (iv_lel g221.2 (iv_w (c := 0) (d := 2147483647) (iv_ler g221.1 ivk_0 pa1) (by decide +kernel)) ivk_5) (by decide +kernel)) (by decide +kernel)), ⟨fun g244 => ⟨Or.inl rfl, hx_i ⟨fun g245 => hQ _ _ hI (sf_E0 _ _) (iv_w (c := -13) (d := 60) ivk_m13 (by decide +kernel))  , fun g246 => (iv_no (iv_nel g246 ivk_0 ivk_0) (by decide +kernel)).elim⟩⟩, fun g247 => ⟨Or.inr rfl, hx_i ⟨fun g248 => absurd g248 g223, fun g249 => (sg75_0 ⟨fun g250 => ⟨Or.inl rfl, hx_i ⟨fun g251 => (iv_no (iv_nel g251 ivk_0 ivk_0) (by decide +kernel)).elim, fun g252 => hQ _ _ hI (sf_E0 _ _) (iv_w (c := -13) (d := 60) ivk_m13 (by decide +kernel))  ⟩⟩, fun g253 => ⟨fun g254 => absurd g254 g239, fun g255 => ⟨(iv_in (iv_w (c := 0) (d := 5) (iv_lel g224.2 (iv_w (c := 0) (d := 2147483647) (iv_ler g224.1 ivk_0 pa3) (by decide +kernel)) ivk_5) (by decide +kernel)) (by decide +kernel)), ⟨fun g256 => ⟨Or.inl rfl, hx_i ⟨fun g257 => (iv_no (iv_nel g257 ivk_0 ivk_0) (by decide +kernel)).elim, fun g258 => hQ _ _ hI (sf_E0 _ _) (iv_w (c := -13) (d := 60) ivk_m13 (by decide +kernel))  ⟩⟩, fun g259 => ⟨(iv_in (iv_w (c := 0) (d := 5) (iv_lel g224.2 (iv_w (c := 0) (d := 2147483647) (iv_ler g224.1 ivk_0 pa3) (by decide +kernel)) ivk_5) (by decide +kernel)) (by decide +kernel)), ⟨fun g260 => ⟨Or.inl rfl, hx_i ⟨fun g261 => (iv_no (iv_nel g261 ivk_0 ivk_0) (by decide +kernel)).elim, fun g262 => hQ _ _ hI (sf_E0 _ _) (iv_w (c := -13) (d := 60) ivk_m13 (by decide +kernel))  ⟩⟩, fun g263 => ⟨Or.inr rfl, hx_i ⟨fun g264 => ⟨(iv_in (iv_w (c := 0) (d := 5) (iv_lel g221.2 (iv_w (c := 0) (d := 2147483647) (iv_ler g221.1 ivk_0 pa1) (by decide +kernel)) ivk_5) (by decide +kernel)) (by decide +kernel)), fn98 (iv_clamp (iv_w (c := 0) (d := 5) (iv_lel g221.2 (iv_w (c := 0) (d := 2147483647) (iv_ler g221.1 ivk_0 pa1) (by decide +kernel)) ivk_5) (by decide +kernel)) (by decide +kernel)), ⟨(iv_in (iv_w (c := 0) (d := 5) (iv_lel g224.2 (iv_w (c := 0) (d := 2147483647) (iv_ler g224.1 ivk_0 pa3) (by decide +kernel)) ivk_5) (by decide +kernel)) (by decide +kernel)), fn98 (iv_clamp (iv_w (c := 0) (d := 5) (iv_lel g224.2 (iv_w (c := 0) (d := 2147483647) (iv_ler g224.1 ivk_0 pa3) (by decide +kernel)) ivk_5) (by decide +kernel)) (by decide +kernel)), mx_copyT (by decide +kernel) mx_acw.1 mx_acw.2.1 mx_acw.2.2.1 mx_acw.2.2.2 rfl rfl (li_nn (show 0 ≤ (a2 : Int32).toInt from (by have ⟨b265, b265_⟩ := (show sf_iv 0 60 a5 from (iv_w (c := 0) (d := 60) (iv_lel (Int32.not_lt.mp g243) (iv_w (c := 0) (d := 2147483647) (iv_ler (Int32.not_lt.mp g239) ivk_0 pa5) (by decide +kernel)) (srd_215_96_x hI (Int32.toNatClampNeg a1))) (by decide +kernel))); have ⟨b266, b266_⟩ := (show sf_iv 0 60 (h.2.1 (.inl 96) (Int32.toNatClampNeg a3)) from (srd_215_96_x hI (Int32.toNatClampNeg a3))); have ⟨b267, b267_⟩ := (show sf_iv 0 60 a4 from (iv_w (c := 0) (d := 60) (iv_lel (Int32.not_lt.mp g263) (iv_w (c := 0) (d := 2147483647) (iv_ler (Int32.not_lt.mp g253) ivk_0 pa4) (by decide +kernel)) (iv_sub (lo := -60) (hi := 60) (srd_215_96_x hI (Int32.toNatClampNeg a3)) (iv_w (c := 0) (d := 60) (iv_lel (Int32.not_lt.mp g243) (iv_w (c := 0) (d := 2147483647) (iv_ler (Int32.not_lt.mp g239) ivk_0 pa5) (by decide +kernel)) (srd_215_96_x hI (Int32.toNatClampNeg a1))) (by decide +kernel)) (by decide +kernel))) (by decide +kernel))); have ⟨b268, b268_⟩ := (show sf_iv 0 60 (h.2.1 (.inl 96) (Int32.toNatClampNeg a1)) from (srd_215_96_x hI (Int32.toNatClampNeg a1))); have ⟨b269, b269_⟩ := (show sf_iv 0 60 a2 from (iv_w (c := 0) (d := 60) (iv_lel (Int32.not_lt.mp g247) (iv_w (c := 0) (d := 2147483647) (iv_ler (Int32.not_lt.mp g235) ivk_0 pa2) (by decide +kernel)) (iv_sub (lo := -60) (hi := 60) (srd_215_96_x hI (Int32.toNatClampNeg a1)) (iv_w (c := 0) (d := 60) (iv_lel (Int32.not_lt.mp g243) (iv_w (c := 0) (d := 2147483647) (iv_ler (Int32.not_lt.mp g239) ivk_0 pa5) (by decide +kernel)) (srd_215_96_x hI (Int32.toNatClampNeg a1))) (by decide +kernel)) (by decide +kernel))) (by decide +kernel))); have ⟨b270, b270_⟩ := (show sf_iv 0 4 (h.2.1 (.inl 95) (Int32.toNatClampNeg a3)) from (iv_w (c := 0) (d := 4) (iv_eql g231.symm (iv_w (c := -1) (d := 4) (iv_nel g228 (srd_214_95_x hI (Int32.toNatClampNeg a3)) ivk_m2) (by decide +kernel)) (iv_w (c := 0) (d := 4) (iv_nel g230 (iv_w (c := -1) (d := 4) (iv_nel g227 (srd_214_95_x hI (Int32.toNatClampNeg a1)) ivk_m2) (by decide +kernel)) ivk_m1) (by decide +kernel))) (by decide +kernel))); have ⟨b271, b271_⟩ := (show sf_iv 0 4 (h.2.1 (.inl 95) (Int32.toNatClampNeg a1)) from (iv_w (c := 0) (d := 4) (iv_nel g230 (iv_w (c := -1) (d := 4) (iv_nel g227 (srd_214_95_x hI (Int32.toNatClampNeg a1)) ivk_m2) (by decide +kernel)) ivk_m1) (by decide +kernel))); have ⟨b272, b272_⟩ := (show sf_iv 0 5 a3 from (iv_w (c := 0) (d := 5) (iv_lel g224.2 (iv_w (c := 0) (d := 2147483647) (iv_ler g224.1 ivk_0 pa3) (by decide +kernel)) ivk_5) (by decide +kernel))); have ⟨b273, b273_⟩ := (show sf_iv 0 5 a1 from (iv_w (c := 0) (d := 5) (iv_lel g221.2 (iv_w (c := 0) (d := 2147483647) (iv_ler g221.1 ivk_0 pa1) (by decide +kernel)) ivk_5) (by decide +kernel))); have f274 := li_le g221.1 ivt_0 (show (a1 : Int32).toInt = (a1).toInt from rfl); have f275 := li_le g221.2 (show (a1 : Int32).toInt = (a1).toInt from rfl) ivt_5; have f276 := li_ne g223 ivt_1 ivt_0; have f277 := li_le g224.1 ivt_0 (show (a3 : Int32).toInt = (a3).toInt from rfl); have f278 := li_le g224.2 (show (a3 : Int32).toInt = (a3).toInt from rfl) ivt_5; have f279 := li_ne g225 ivt_1 ivt_0; have f280 := li_ne g227 (show (h.2.1 (.inl 95) (Int32.toNatClampNeg a1) : Int32).toInt = (h.2.1 (.inl 95) (Int32.toNatClampNeg a1)).toInt from rfl) (show ((-2) : Int32).toInt = (-2) from rfl); have f281 := li_ne g228 (show (h.2.1 (.inl 95) (Int32.toNatClampNeg a3) : Int32).toInt = (h.2.1 (.inl 95) (Int32.toNatClampNeg a3)).toInt from rfl) (show ((-2) : Int32).toInt = (-2) from rfl); have f282 := li_ne g230 (show (h.2.1 (.inl 95) (Int32.toNatClampNeg a1) : Int32).toInt = (h.2.1 (.inl 95) (Int32.toNatClampNeg a1)).toInt from rfl) (show ((-1) : Int32).toInt = (-1) from rfl); have f283 := li_eq g231 (show (h.2.1 (.inl 95) (Int32.toNatClampNeg a1) : Int32).toInt = (h.2.1 (.inl 95) (Int32.toNatClampNeg a1)).toInt from rfl) (show (h.2.1 (.inl 95) (Int32.toNatClampNeg a3) : Int32).toInt = (h.2.1 (.inl 95) (Int32.toNatClampNeg a3)).toInt from rfl); have f284 := li_le (Int32.not_lt.mp g235) ivt_0 (show (a2 : Int32).toInt = (a2).toInt from rfl); have f285 := li_le (Int32.not_lt.mp g239) ivt_0 (show (a5 : Int32).toInt = (a5).toInt from rfl); have f286 := li_le (Int32.not_lt.mp g243) (show (a5 : Int32).toInt = (a5).toInt from rfl) (show (h.2.1 (.inl 96) (Int32.toNatClampNeg a1) : Int32).toInt = (h.2.1 (.inl 96) (Int32.toNatClampNeg a1)).toInt from rfl); have f287 := li_le (Int32.not_lt.mp g247) (show (a2 : Int32).toInt = (a2).toInt from rfl) (show ((h.2.1 (.inl 96) (Int32.toNatClampNeg a1)) - a5 : Int32).toInt = ((h.2.1 (.inl 96) (Int32.toNatClampNeg a1)).toInt - (a5).toInt) from (li_sub (srd_215_96_x hI (Int32.toNatClampNeg a1)) (iv_w (c := 0) (d := 60) (iv_lel (Int32.not_lt.mp g243) (iv_w (c := 0) (d := 2147483647) (iv_ler (Int32.not_lt.mp g239) ivk_0 pa5) (by decide +kernel)) (srd_215_96_x hI (Int32.toNatClampNeg a1))) (by decide +kernel)) (by decide +kernel) rfl rfl)); have f288 := li_ne g249 ivt_1 ivt_0; have f289 := li_le (Int32.not_lt.mp g253) ivt_0 (show (a4 : Int32).toInt = (a4).toInt from rfl); have f290 := li_le (Int32.not_lt.mp g255) ivt_0 (show (a5 : Int32).toInt = (a5).toInt from rfl); have f291 := li_le (Int32.not_lt.mp g259) (show (a5 : Int32).toInt = (a5).toInt from rfl) (show (h.2.1 (.inl 96) (Int32.toNatClampNeg a3) : Int32).toInt = (h.2.1 (.inl 96) (Int32.toNatClampNeg a3)).toInt from rfl); have f292 := li_le (Int32.not_lt.mp g263) (show (a4 : Int32).toInt = (a4).toInt from rfl) (show ((h.2.1 (.inl 96) (Int32.toNatClampNeg a3)) - a5 : Int32).toInt = ((h.2.1 (.inl 96) (Int32.toNatClampNeg a3)).toInt - (a5).toInt) from (li_sub (srd_215_96_x hI (Int32.toNatClampNeg a3)) (iv_w (c := 0) (d := 60) (iv_lel (Int32.not_lt.mp g243) (iv_w (c := 0) (d := 2147483647) (iv_ler (Int32.not_lt.mp g239) ivk_0 pa5) (by decide +kernel)) (srd_215_96_x hI (Int32.toNatClampNeg a1))) (by decide +kernel)) (by decide +kernel) rfl rfl)); have f293 := li_ne g264 ivt_1 ivt_0; omega))) (li_nn (show 0 ≤ (a4 : Int32).toInt from (by have ⟨b294, b294_⟩ := (show sf_iv 0 60 a5 from (iv_w (c := 0) (d := 60) (iv_lel (Int32.not_lt.mp g243) (iv_w (c := 0) (d := 2147483647) (iv_ler (Int32.not_lt.mp g239) ivk_0 pa5) (by decide +kernel)) (srd_215_96_x hI (Int32.toNatClampNeg a1))) (by decide +kernel))); have ⟨b295, b295_⟩ := (show sf_iv 0 60 (h.2.1 (.inl 96) (Int32.toNatClampNeg a3)) from (srd_215_96_x hI (Int32.toNatClampNeg a3))); have ⟨b296, b296_⟩ := (show sf_iv 0 60 a4 from (iv_w (c := 0) (d := 60) (iv_lel (Int32.not_lt.mp g263) (iv_w (c := 0) (d := 2147483647) (iv_ler (Int32.not_lt.mp g253) ivk_0 pa4) (by decide +kernel)) (iv_sub (lo := -60) (hi := 60) (srd_215_96_x hI (Int32.toNatClampNeg a3)) (iv_w (c := 0) (d := 60) (iv_lel (Int32.not_lt.mp g243) (iv_w (c := 0) (d := 2147483647) (iv_ler (Int32.not_lt.mp g239) ivk_0 pa5) (by decide +kernel)) (srd_215_96_x hI (Int32.toNatClampNeg a1))) (by decide +kernel)) (by decide +kernel))) (by decide +kernel))); have ⟨b297, b297_⟩ := (show sf_iv 0 60 (h.2.1 (.inl 96) (Int32.toNatClampNeg a1)) from (srd_215_96_x hI (Int32.toNatClampNeg a1))); have ⟨b298, b298_⟩ := (show sf_iv 0 60 a2 from (iv_w (c := 0) (d := 60) (iv_lel (Int32.not_lt.mp g247) (iv_w (c := 0) (d := 2147483647) (iv_ler (Int32.not_lt.mp g235) ivk_0 pa2) (by decide +kernel)) (iv_sub (lo := -60) (hi := 60) (srd_215_96_x hI (Int32.toNatClampNeg a1)) (iv_w (c := 0) (d := 60) (iv_lel (Int32.not_lt.mp g243) (iv_w (c := 0) (d := 2147483647) (iv_ler (Int32.not_lt.mp g239) ivk_0 pa5) (by decide +kernel)) (srd_215_96_x hI (Int32.toNatClampNeg a1))) (by decide +kernel)) (by decide +kernel))) (by decide +kernel))); have ⟨b299, b299_⟩ := (show sf_iv 0 4 (h.2.1 (.inl 95) (Int32.toNatClampNeg a3)) from (iv_w (c := 0) (d := 4) (iv_eql g231.symm (iv_w (c := -1) (d := 4) (iv_nel g228 (srd_214_95_x hI (Int32.toNatClampNeg a3)) ivk_m2) (by decide +kernel)) (iv_w (c := 0) (d := 4) (iv_nel g230 (iv_w (c := -1) (d := 4) (iv_nel g227 (srd_214_95_x hI (Int32.toNatClampNeg a1)) ivk_m2) (by decide +kernel)) ivk_m1) (by decide +kernel))) (by decide +kernel))); have ⟨b300, b300_⟩ := (show sf_iv 0 4 (h.2.1 (.inl 95) (Int32.toNatClampNeg a1)) from (iv_w (c := 0) (d := 4) (iv_nel g230 (iv_w (c := -1) (d := 4) (iv_nel g227 (srd_214_95_x hI (Int32.toNatClampNeg a1)) ivk_m2) (by decide +kernel)) ivk_m1) (by decide +kernel))); have ⟨b301, b301_⟩ := (show sf_iv 0 5 a3 from (iv_w (c := 0) (d := 5) (iv_lel g224.2 (iv_w (c := 0) (d := 2147483647) (iv_ler g224.1 ivk_0 pa3) (by decide +kernel)) ivk_5) (by decide +kernel))); have ⟨b302, b302_⟩ := (show sf_iv 0 5 a1 from (iv_w (c := 0) (d := 5) (iv_lel g221.2 (iv_w (c := 0) (d := 2147483647) (iv_ler g221.1 ivk_0 pa1) (by decide +kernel)) ivk_5) (by decide +kernel))); have f303 := li_le g221.1 ivt_0 (show (a1 : Int32).toInt = (a1).toInt from rfl); have f304 := li_le g221.2 (show (a1 : Int32).toInt = (a1).toInt from rfl) ivt_5; have f305 := li_ne g223 ivt_1 ivt_0; have f306 := li_le g224.1 ivt_0 (show (a3 : Int32).toInt = (a3).toInt from rfl); have f307 := li_le g224.2 (show (a3 : Int32).toInt = (a3).toInt from rfl) ivt_5; have f308 := li_ne g225 ivt_1 ivt_0; have f309 := li_ne g227 (show (h.2.1 (.inl 95) (Int32.toNatClampNeg a1) : Int32).toInt = (h.2.1 (.inl 95) (Int32.toNatClampNeg a1)).toInt from rfl) (show ((-2) : Int32).toInt = (-2) from rfl); have f310 := li_ne g228 (show (h.2.1 (.inl 95) (Int32.toNatClampNeg a3) : Int32).toInt = (h.2.1 (.inl 95) (Int32.toNatClampNeg a3)).toInt from rfl) (show ((-2) : Int32).toInt = (-2) from rfl); have f311 := li_ne g230 (show (h.2.1 (.inl 95) (Int32.toNatClampNeg a1) : Int32).toInt = (h.2.1 (.inl 95) (Int32.toNatClampNeg a1)).toInt from rfl) (show ((-1) : Int32).toInt = (-1) from rfl); have f312 := li_eq g231 (show (h.2.1 (.inl 95) (Int32.toNatClampNeg a1) : Int32).toInt = (h.2.1 (.inl 95) (Int32.toNatClampNeg a1)).toInt from rfl) (show (h.2.1 (.inl 95) (Int32.toNatClampNeg a3) : Int32).toInt = (h.2.1 (.inl 95) (Int32.toNatClampNeg a3)).toInt from rfl); have f313 := li_le (Int32.not_lt.mp g235) ivt_0 (show (a2 : Int32).toInt = (a2).toInt from rfl); have f314 := li_le (Int32.not_lt.mp g239) ivt_0 (show (a5 : Int32).toInt = (a5).toInt from rfl); have f315 := li_le (Int32.not_lt.mp g243) (show (a5 : Int32).toInt = (a5).toInt from rfl) (show (h.2.1 (.inl 96) (Int32.toNatClampNeg a1) : Int32).toInt = (h.2.1 (.inl 96) (Int32.toNatClampNeg a1)).toInt from rfl); have f316 := li_le (Int32.not_lt.mp g247) (show (a2 : Int32).toInt = (a2).toInt from rfl) (show ((h.2.1 (.inl 96) (Int32.toNatClampNeg a1)) - a5 : Int32).toInt = ((h.2.1 (.inl 96) (Int32.toNatClampNeg a1)).toInt - (a5).toInt) from (li_sub (srd_215_96_x hI (Int32.toNatClampNeg a1)) (iv_w (c := 0) (d := 60) (iv_lel (Int32.not_lt.mp g243) (iv_w (c := 0) (d := 2147483647) (iv_ler (Int32.not_lt.mp g239) ivk_0 pa5) (by decide +kernel)) (srd_215_96_x hI (Int32.toNatClampNeg a1))) (by decide +kernel)) (by decide +kernel) rfl rfl)); have f317 := li_ne g249 ivt_1 ivt_0; have f318 := li_le (Int32.not_lt.mp g253) ivt_0 (show (a4 : Int32).toInt = (a4).toInt from rfl); have f319 := li_le (Int32.not_lt.mp g255) ivt_0 (show (a5 : Int32).toInt = (a5).toInt from rfl); have f320 := li_le (Int32.not_lt.mp g259) (show (a5 : Int32).toInt = (a5).toInt from rfl) (show (h.2.1 (.inl 96) (Int32.toNatClampNeg a3) : Int32).toInt = (h.2.1 (.inl 96) (Int32.toNatClampNeg a3)).toInt from rfl); have f321 := li_le (Int32.not_lt.mp g263) (show (a4 : Int32).toInt = (a4).toInt from rfl) (show ((h.2.1 (.inl 96) (Int32.toNatClampNeg a3)) - a5 : Int32).toInt = ((h.2.1 (.inl 96) (Int32.toNatClampNeg a3)).toInt - (a5).toInt) from (li_sub (srd_215_96_x hI (Int32.toNatClampNeg a3)) (iv_w (c := 0) (d := 60) (iv_lel (Int32.not_lt.mp g243) (iv_w (c := 0) (d := 2147483647) (iv_ler (Int32.not_lt.mp g239) ivk_0 pa5) (by decide +kernel)) (srd_215_96_x hI (Int32.toNatClampNeg a1))) (by decide +kernel)) (by decide +kernel) rfl rfl)); have f322 := li_ne g264 ivt_1 ivt_0; omega))) (li_nn (show 0 ≤ (a5 : Int32).toInt from (by have ⟨b323, b323_⟩ := (show sf_iv 0 60 a5 from (iv_w (c := 0) (d := 60) (iv_lel (Int32.not_lt.mp g243) (iv_w (c := 0) (d := 2147483647) (iv_ler (Int32.not_lt.mp g239) ivk_0 pa5) (by decide +kernel)) (srd_215_96_x hI (Int32.toNatClampNeg a1))) (by decide +kernel))); have ⟨b324, b324_⟩ := (show sf_iv 0 60 (h.2.1 (.inl 96) (Int32.toNatClampNeg a3)) from (srd_215_96_x hI (Int32.toNatClampNeg a3))); have ⟨b325, b325_⟩ := (show sf_iv 0 60 a4 from (iv_w (c := 0) (d := 60) (iv_lel (Int32.not_lt.mp g263) (iv_w (c := 0) (d := 2147483647) (iv_ler (Int32.not_lt.mp g253) ivk_0 pa4) (by decide +kernel)) (iv_sub (lo := -60) (hi := 60) (srd_215_96_x hI (Int32.toNatClampNeg a3)) (iv_w (c := 0) (d := 60) (iv_lel (Int32.not_lt.mp g243) (iv_w (c := 0) (d := 2147483647) (iv_ler (Int32.not_lt.mp g239) ivk_0 pa5) (by decide +kernel)) (srd_215_96_x hI (Int32.toNatClampNeg a1))) (by decide +kernel)) (by decide +kernel))) (by decide +kernel))); have ⟨b326, b326_⟩ := (show sf_iv 0 60 (h.2.1 (.inl 96) (Int32.toNatClampNeg a1)) from (srd_215_96_x hI (Int32.toNatClampNeg a1))); have ⟨b327, b327_⟩ := (show sf_iv 0 60 a2 from (iv_w (c := 0) (d := 60) (iv_lel (Int32.not_lt.mp g247) (iv_w (c := 0) (d := 2147483647) (iv_ler (Int32.not_lt.mp g235) ivk_0 pa2) (by decide +kernel)) (iv_sub (lo := -60) (hi := 60) (srd_215_96_x hI (Int32.toNatClampNeg a1)) (iv_w (c := 0) (d := 60) (iv_lel (Int32.not_lt.mp g243) (iv_w (c := 0) (d := 2147483647) (iv_ler (Int32.not_lt.mp g239) ivk_0 pa5) (by decide +kernel)) (srd_215_96_x hI (Int32.toNatClampNeg a1))) (by decide +kernel)) (by decide +kernel))) (by decide +kernel))); have ⟨b328, b328_⟩ := (show sf_iv 0 4 (h.2.1 (.inl 95) (Int32.toNatClampNeg a3)) from (iv_w (c := 0) (d := 4) (iv_eql g231.symm (iv_w (c := -1) (d := 4) (iv_nel g228 (srd_214_95_x hI (Int32.toNatClampNeg a3)) ivk_m2) (by decide +kernel)) (iv_w (c := 0) (d := 4) (iv_nel g230 (iv_w (c := -1) (d := 4) (iv_nel g227 (srd_214_95_x hI (Int32.toNatClampNeg a1)) ivk_m2) (by decide +kernel)) ivk_m1) (by decide +kernel))) (by decide +kernel))); have ⟨b329, b329_⟩ := (show sf_iv 0 4 (h.2.1 (.inl 95) (Int32.toNatClampNeg a1)) from (iv_w (c := 0) (d := 4) (iv_nel g230 (iv_w (c := -1) (d := 4) (iv_nel g227 (srd_214_95_x hI (Int32.toNatClampNeg a1)) ivk_m2) (by decide +kernel)) ivk_m1) (by decide +kernel))); have ⟨b330, b330_⟩ := (show sf_iv 0 5 a3 from (iv_w (c := 0) (d := 5) (iv_lel g224.2 (iv_w (c := 0) (d := 2147483647) (iv_ler g224.1 ivk_0 pa3) (by decide +kernel)) ivk_5) (by decide +kernel))); have ⟨b331, b331_⟩ := (show sf_iv 0 5 a1 from (iv_w (c := 0) (d := 5) (iv_lel g221.2 (iv_w (c := 0) (d := 2147483647) (iv_ler g221.1 ivk_0 pa1) (by decide +kernel)) ivk_5) (by decide +kernel))); have f332 := li_le g221.1 ivt_0 (show (a1 : Int32).toInt = (a1).toInt from rfl); have f333 := li_le g221.2 (show (a1 : Int32).toInt = (a1).toInt from rfl) ivt_5; have f334 := li_ne g223 ivt_1 ivt_0; have f335 := li_le g224.1 ivt_0 (show (a3 : Int32).toInt = (a3).toInt from rfl); have f336 := li_le g224.2 (show (a3 : Int32).toInt = (a3).toInt from rfl) ivt_5; have f337 := li_ne g225 ivt_1 ivt_0; have f338 := li_ne g227 (show (h.2.1 (.inl 95) (Int32.toNatClampNeg a1) : Int32).toInt = (h.2.1 (.inl 95) (Int32.toNatClampNeg a1)).toInt from rfl) (show ((-2) : Int32).toInt = (-2) from rfl); have f339 := li_ne g228 (show (h.2.1 (.inl 95) (Int32.toNatClampNeg a3) : Int32).toInt = (h.2.1 (.inl 95) (Int32.toNatClampNeg a3)).toInt from rfl) (show ((-2) : Int32).toInt = (-2) from rfl); have f340 := li_ne g230 (show (h.2.1 (.inl 95) (Int32.toNatClampNeg a1) : Int32).toInt = (h.2.1 (.inl 95) (Int32.toNatClampNeg a1)).toInt from rfl) (show ((-1) : Int32).toInt = (-1) from rfl); have f341 := li_eq g231 (show (h.2.1 (.inl 95) (Int32.toNatClampNeg a1) : Int32).toInt = (h.2.1 (.inl 95) (Int32.toNatClampNeg a1)).toInt from rfl) (show (h.2.1 (.inl 95) (Int32.toNatClampNeg a3) : Int32).toInt = (h.2.1 (.inl 95) (Int32.toNatClampNeg a3)).toInt from rfl); have f342 := li_le (Int32.not_lt.mp g235) ivt_0 (show (a2 : Int32).toInt = (a2).toInt from rfl); have f343 := li_le (Int32.not_lt.mp g239) ivt_0 (show (a5 : Int32).toInt = (a5).toInt from rfl); have f344 := li_le (Int32.not_lt.mp g243) (show (a5 : Int32).toInt = (a5).toInt from rfl) (show (h.2.1 (.inl 96) (Int32.toNatClampNeg a1) : Int32).toInt = (h.2.1 (.inl 96) (Int32.toNatClampNeg a1)).toInt from rfl); have f345 := li_le (Int32.not_lt.mp g247) (show (a2 : Int32).toInt = (a2).toInt from rfl) (show ((h.2.1 (.inl 96) (Int32.toNatClampNeg a1)) - a5 : Int32).toInt = ((h.2.1 (.inl 96) (Int32.toNatClampNeg a1)).toInt - (a5).toInt) from (li_sub (srd_215_96_x hI (Int32.toNatClampNeg a1)) (iv_w (c := 0) (d := 60) (iv_lel (Int32.not_lt.mp g243) (iv_w (c := 0) (d := 2147483647) (iv_ler (Int32.not_lt.mp g239) ivk_0 pa5) (by decide +kernel)) (srd_215_96_x hI (Int32.toNatClampNeg a1))) (by decide +kernel)) (by decide +kernel) rfl rfl)); have f346 := li_ne g249 ivt_1 ivt_0; have f347 := li_le (Int32.not_lt.mp g253) ivt_0 (show (a4 : Int32).toInt = (a4).toInt from rfl); have f348 := li_le (Int32.not_lt.mp g255) ivt_0 (show (a5 : Int32).toInt = (a5).toInt from rfl); have f349 := li_le (Int32.not_lt.mp g259) (show (a5 : Int32).toInt = (a5).toInt from rfl) (show (h.2.1 (.inl 96) (Int32.toNatClampNeg a3) : Int32).toInt = (h.2.1 (.inl 96) (Int32.toNatClampNeg a3)).toInt from rfl); have f350 := li_le (Int32.not_lt.mp g263) (show (a4 : Int32).toInt = (a4).toInt from rfl) (show ((h.2.1 (.inl 96) (Int32.toNatClampNeg a3)) - a5 : Int32).toInt = ((h.2.1 (.inl 96) (Int32.toNatClampNeg a3)).toInt - (a5).toInt) from (li_sub (srd_215_96_x hI (Int32.toNatClampNeg a3)) (iv_w (c := 0) (d := 60) (iv_lel (Int32.not_lt.mp g243) (iv_w (c := 0) (d := 2147483647) (iv_ler (Int32.not_lt.mp g239) ivk_0 pa5) (by decide +kernel)) (srd_215_96_x hI (Int32.toNatClampNeg a1))) (by decide +kernel)) (by decide +kernel) rfl rfl)); have f351 := li_ne g264 ivt_1 ivt_0; omega))) (li_cc (show 0 ≤ (a2 : Int32).toInt from (by have ⟨b265, b265_⟩ := (show sf_iv 0 60 a5 from (iv_w (c := 0) (d := 60) (iv_lel (Int32.not_lt.mp g243) (iv_w (c := 0) (d := 2147483647) (iv_ler (Int32.not_lt.mp g239) ivk_0 pa5) (by decide +kernel)) (srd_215_96_x hI (Int32.toNatClampNeg a1))) (by decide +kernel))); have ⟨b266, b266_⟩ := (show sf_iv 0 60 (h.2.1 (.inl 96) (Int32.toNatClampNeg a3)) from (srd_215_96_x hI (Int32.toNatClampNeg a3))); have ⟨b267, b267_⟩ := (show sf_iv 0 60 a4 from (iv_w (c := 0) (d := 60) (iv_lel (Int32.not_lt.mp g263) (iv_w (c := 0) (d := 2147483647) (iv_ler (Int32.not_lt.mp g253) ivk_0 pa4) (by decide +kernel)) (iv_sub (lo := -60) (hi := 60) (srd_215_96_x hI (Int32.toNatClampNeg a3)) (iv_w (c := 0) (d := 60) (iv_lel (Int32.not_lt.mp g243) (iv_w (c := 0) (d := 2147483647) (iv_ler (Int32.not_lt.mp g239) ivk_0 pa5) (by decide +kernel)) (srd_215_96_x hI (Int32.toNatClampNeg a1))) (by decide +kernel)) (by decide +kernel))) (by decide +kernel))); have ⟨b268, b268_⟩ := (show sf_iv 0 60 (h.2.1 (.inl 96) (Int32.toNatClampNeg a1)) from (srd_215_96_x hI (Int32.toNatClampNeg a1))); have ⟨b269, b269_⟩ := (show sf_iv 0 60 a2 from (iv_w (c := 0) (d := 60) (iv_lel (Int32.not_lt.mp g247) (iv_w (c := 0) (d := 2147483647) (iv_ler (Int32.not_lt.mp g235) ivk_0 pa2) (by decide +kernel)) (iv_sub (lo := -60) (hi := 60) (srd_215_96_x hI (Int32.toNatClampNeg a1)) (iv_w (c := 0) (d := 60) (iv_lel (Int32.not_lt.mp g243) (iv_w (c := 0) (d := 2147483647) (iv_ler (Int32.not_lt.mp g239) ivk_0 pa5) (by decide +kernel)) (srd_215_96_x hI (Int32.toNatClampNeg a1))) (by decide +kernel)) (by decide +kernel))) (by decide +kernel))); have ⟨b270, b270_⟩ := (show sf_iv 0 4 (h.2.1 (.inl 95) (Int32.toNatClampNeg a3)) from (iv_w (c := 0) (d := 4) (iv_eql g231.symm (iv_w (c := -1) (d := 4) (iv_nel g228 (srd_214_95_x hI (Int32.toNatClampNeg a3)) ivk_m2) (by decide +kernel)) (iv_w (c := 0) (d := 4) (iv_nel g230 (iv_w (c := -1) (d := 4) (iv_nel g227 (srd_214_95_x hI (Int32.toNatClampNeg a1)) ivk_m2) (by decide +kernel)) ivk_m1) (by decide +kernel))) (by decide +kernel))); have ⟨b271, b271_⟩ := (show sf_iv 0 4 (h.2.1 (.inl 95) (Int32.toNatClampNeg a1)) from (iv_w (c := 0) (d := 4) (iv_nel g230 (iv_w (c := -1) (d := 4) (iv_nel g227 (srd_214_95_x hI (Int32.toNatClampNeg a1)) ivk_m2) (by decide +kernel)) ivk_m1) (by decide +kernel))); have ⟨b272, b272_⟩ := (show sf_iv 0 5 a3 from (iv_w (c := 0) (d := 5) (iv_lel g224.2 (iv_w (c := 0) (d := 2147483647) (iv_ler g224.1 ivk_0 pa3) (by decide +kernel)) ivk_5) (by decide +kernel))); have ⟨b273, b273_⟩ := (show sf_iv 0 5 a1 from (iv_w (c := 0) (d := 5) (iv_lel g221.2 (iv_w (c := 0) (d := 2147483647) (iv_ler g221.1 ivk_0 pa1) (by decide +kernel)) ivk_5) (by decide +kernel))); have f274 := li_le g221.1 ivt_0 (show (a1 : Int32).toInt = (a1).toInt from rfl); have f275 := li_le g221.2 (show (a1 : Int32).toInt = (a1).toInt from rfl) ivt_5; have f276 := li_ne g223 ivt_1 ivt_0; have f277 := li_le g224.1 ivt_0 (show (a3 : Int32).toInt = (a3).toInt from rfl); have f278 := li_le g224.2 (show (a3 : Int32).toInt = (a3).toInt from rfl) ivt_5; have f279 := li_ne g225 ivt_1 ivt_0; have f280 := li_ne g227 (show (h.2.1 (.inl 95) (Int32.toNatClampNeg a1) : Int32).toInt = (h.2.1 (.inl 95) (Int32.toNatClampNeg a1)).toInt from rfl) (show ((-2) : Int32).toInt = (-2) from rfl); have f281 := li_ne g228 (show (h.2.1 (.inl 95) (Int32.toNatClampNeg a3) : Int32).toInt = (h.2.1 (.inl 95) (Int32.toNatClampNeg a3)).toInt from rfl) (show ((-2) : Int32).toInt = (-2) from rfl); have f282 := li_ne g230 (show (h.2.1 (.inl 95) (Int32.toNatClampNeg a1) : Int32).toInt = (h.2.1 (.inl 95) (Int32.toNatClampNeg a1)).toInt from rfl) (show ((-1) : Int32).toInt = (-1) from rfl); have f283 := li_eq g231 (show (h.2.1 (.inl 95) (Int32.toNatClampNeg a1) : Int32).toInt = (h.2.1 (.inl 95) (Int32.toNatClampNeg a1)).toInt from rfl) (show (h.2.1 (.inl 95) (Int32.toNatClampNeg a3) : Int32).toInt = (h.2.1 (.inl 95) (Int32.toNatClampNeg a3)).toInt from rfl); have f284 := li_le (Int32.not_lt.mp g235) ivt_0 (show (a2 : Int32).toInt = (a2).toInt from rfl); have f285 := li_le (Int32.not_lt.mp g239) ivt_0 (show (a5 : Int32).toInt = (a5).toInt from rfl); have f286 := li_le (Int32.not_lt.mp g243) (show (a5 : Int32).toInt = (a5).toInt from rfl) (show (h.2.1 (.inl 96) (Int32.toNatClampNeg a1) : Int32).toInt = (h.2.1 (.inl 96) (Int32.toNatClampNeg a1)).toInt from rfl); have f287 := li_le (Int32.not_lt.mp g247) (show (a2 : Int32).toInt = (a2).toInt from rfl) (show ((h.2.1 (.inl 96) (Int32.toNatClampNeg a1)) - a5 : Int32).toInt = ((h.2.1 (.inl 96) (Int32.toNatClampNeg a1)).toInt - (a5).toInt) from (li_sub (srd_215_96_x hI (Int32.toNatClampNeg a1)) (iv_w (c := 0) (d := 60) (iv_lel (Int32.not_lt.mp g243) (iv_w (c := 0) (d := 2147483647) (iv_ler (Int32.not_lt.mp g239) ivk_0 pa5) (by decide +kernel)) (srd_215_96_x hI (Int32.toNatClampNeg a1))) (by decide +kernel)) (by decide +kernel) rfl rfl)); have f288 := li_ne g249 ivt_1 ivt_0; have f289 := li_le (Int32.not_lt.mp g253) ivt_0 (show (a4 : Int32).toInt = (a4).toInt from rfl); have f290 := li_le (Int32.not_lt.mp g255) ivt_0 (show (a5 : Int32).toInt = (a5).toInt from rfl); have f291 := li_le (Int32.not_lt.mp g259) (show (a5 : Int32).toInt = (a5).toInt from rfl) (show (h.2.1 (.inl 96) (Int32.toNatClampNeg a3) : Int32).toInt = (h.2.1 (.inl 96) (Int32.toNatClampNeg a3)).toInt from rfl); have f292 := li_le (Int32.not_lt.mp g263) (show (a4 : Int32).toInt = (a4).toInt from rfl) (show ((h.2.1 (.inl 96) (Int32.toNatClampNeg a3)) - a5 : Int32).toInt = ((h.2.1 (.inl 96) (Int32.toNatClampNeg a3)).toInt - (a5).toInt) from (li_sub (srd_215_96_x hI (Int32.toNatClampNeg a3)) (iv_w (c := 0) (d := 60) (iv_lel (Int32.not_lt.mp g243) (iv_w (c := 0) (d := 2147483647) (iv_ler (Int32.not_lt.mp g239) ivk_0 pa5) (by decide +kernel)) (srd_215_96_x hI (Int32.toNatClampNeg a1))) (by decide +kernel)) (by decide +kernel) rfl rfl)); have f293 := li_ne g264 ivt_1 ivt_0; omega)) (show 0 ≤ (a5 : Int32).toInt from (by have ⟨b323, b323_⟩ := (show sf_iv 0 60 a5 from (iv_w (c := 0) (d := 60) (iv_lel (Int32.not_lt.mp g243) (iv_w (c := 0) (d := 2147483647) (iv_ler (Int32.not_lt.mp g239) ivk_0 pa5) (by decide +kernel)) (srd_215_96_x hI (Int32.toNatClampNeg a1))) (by decide +kernel))); have ⟨b324, b324_⟩ := (show sf_iv 0 60 (h.2.1 (.inl 96) (Int32.toNatClampNeg a3)) from (srd_215_96_x hI (Int32.toNatClampNeg a3))); have ⟨b325, b325_⟩ := (show sf_iv 0 60 a4 from (iv_w (c := 0) (d := 60) (iv_lel (Int32.not_lt.mp g263) (iv_w (c := 0) (d := 2147483647) (iv_ler (Int32.not_lt.mp g253) ivk_0 pa4) (by decide +kernel)) (iv_sub (lo := -60) (hi := 60) (srd_215_96_x hI (Int32.toNatClampNeg a3)) (iv_w (c := 0) (d := 60) (iv_lel (Int32.not_lt.mp g243) (iv_w (c := 0) (d := 2147483647) (iv_ler (Int32.not_lt.mp g239) ivk_0 pa5) (by decide +kernel)) (srd_215_96_x hI (Int32.toNatClampNeg a1))) (by decide +kernel)) (by decide +kernel))) (by decide +kernel))); have ⟨b326, b326_⟩ := (show sf_iv 0 60 (h.2.1 (.inl 96) (Int32.toNatClampNeg a1)) from (srd_215_96_x hI (Int32.toNatClampNeg a1))); have ⟨b327, b327_⟩ := (show sf_iv 0 60 a2 from (iv_w (c := 0) (d := 60) (iv_lel (Int32.not_lt.mp g247) (iv_w (c := 0) (d := 2147483647) (iv_ler (Int32.not_lt.mp g235) ivk_0 pa2) (by decide +kernel)) (iv_sub (lo := -60) (hi := 60) (srd_215_96_x hI (Int32.toNatClampNeg a1)) (iv_w (c := 0) (d := 60) (iv_lel (Int32.not_lt.mp g243) (iv_w (c := 0) (d := 2147483647) (iv_ler (Int32.not_lt.mp g239) ivk_0 pa5) (by decide +kernel)) (srd_215_96_x hI (Int32.toNatClampNeg a1))) (by decide +kernel)) (by decide +kernel))) (by decide +kernel))); have ⟨b328, b328_⟩ := (show sf_iv 0 4 (h.2.1 (.inl 95) (Int32.toNatClampNeg a3)) from (iv_w (c := 0) (d := 4) (iv_eql g231.symm (iv_w (c := -1) (d := 4) (iv_nel g228 (srd_214_95_x hI (Int32.toNatClampNeg a3)) ivk_m2) (by decide +kernel)) (iv_w (c := 0) (d := 4) (iv_nel g230 (iv_w (c := -1) (d := 4) (iv_nel g227 (srd_214_95_x hI (Int32.toNatClampNeg a1)) ivk_m2) (by decide +kernel)) ivk_m1) (by decide +kernel))) (by decide +kernel))); have ⟨b329, b329_⟩ := (show sf_iv 0 4 (h.2.1 (.inl 95) (Int32.toNatClampNeg a1)) from (iv_w (c := 0) (d := 4) (iv_nel g230 (iv_w (c := -1) (d := 4) (iv_nel g227 (srd_214_95_x hI (Int32.toNatClampNeg a1)) ivk_m2) (by decide +kernel)) ivk_m1) (by decide +kernel))); have ⟨b330, b330_⟩ := (show sf_iv 0 5 a3 from (iv_w (c := 0) (d := 5) (iv_lel g224.2 (iv_w (c := 0) (d := 2147483647) (iv_ler g224.1 ivk_0 pa3) (by decide +kernel)) ivk_5) (by decide +kernel))); have ⟨b331, b331_⟩ := (show sf_iv 0 5 a1 from (iv_w (c := 0) (d := 5) (iv_lel g221.2 (iv_w (c := 0) (d := 2147483647) (iv_ler g221.1 ivk_0 pa1) (by decide +kernel)) ivk_5) (by decide +kernel))); have f332 := li_le g221.1 ivt_0 (show (a1 : Int32).toInt = (a1).toInt from rfl); have f333 := li_le g221.2 (show (a1 : Int32).toInt = (a1).toInt from rfl) ivt_5; have f334 := li_ne g223 ivt_1 ivt_0; have f335 := li_le g224.1 ivt_0 (show (a3 : Int32).toInt = (a3).toInt from rfl); have f336 := li_le g224.2 (show (a3 : Int32).toInt = (a3).toInt from rfl) ivt_5; have f337 := li_ne g225 ivt_1 ivt_0; have f338 := li_ne g227 (show (h.2.1 (.inl 95) (Int32.toNatClampNeg a1) : Int32).toInt = (h.2.1 (.inl 95) (Int32.toNatClampNeg a1)).toInt from rfl) (show ((-2) : Int32).toInt = (-2) from rfl); have f339 := li_ne g228 (show (h.2.1 (.inl 95) (Int32.toNatClampNeg a3) : Int32).toInt = (h.2.1 (.inl 95) (Int32.toNatClampNeg a3)).toInt from rfl) (show ((-2) : Int32).toInt = (-2) from rfl); have f340 := li_ne g230 (show (h.2.1 (.inl 95) (Int32.toNatClampNeg a1) : Int32).toInt = (h.2.1 (.inl 95) (Int32.toNatClampNeg a1)).toInt from rfl) (show ((-1) : Int32).toInt = (-1) from rfl); have f341 := li_eq g231 (show (h.2.1 (.inl 95) (Int32.toNatClampNeg a1) : Int32).toInt = (h.2.1 (.inl 95) (Int32.toNatClampNeg a1)).toInt from rfl) (show (h.2.1 (.inl 95) (Int32.toNatClampNeg a3) : Int32).toInt = (h.2.1 (.inl 95) (Int32.toNatClampNeg a3)).toInt from rfl); have f342 := li_le (Int32.not_lt.mp g235) ivt_0 (show (a2 : Int32).toInt = (a2).toInt from rfl); have f343 := li_le (Int32.not_lt.mp g239) ivt_0 (show (a5 : Int32).toInt = (a5).toInt from rfl); have f344 := li_le (Int32.not_lt.mp g243) (show (a5 : Int32).toInt = (a5).toInt from rfl) (show (h.2.1 (.inl 96) (Int32.toNatClampNeg a1) : Int32).toInt = (h.2.1 (.inl 96) (Int32.toNatClampNeg a1)).toInt from rfl); have f345 := li_le (Int32.not_lt.mp g247) (show (a2 : Int32).toInt = (a2).toInt from rfl) (show ((h.2.1 (.inl 96) (Int32.toNatClampNeg a1)) - a5 : Int32).toInt = ((h.2.1 (.inl 96) (Int32.toNatClampNeg a1)).toInt - (a5).toInt) from (li_sub (srd_215_96_x hI (Int32.toNatClampNeg a1)) (iv_w (c := 0) (d := 60) (iv_lel (Int32.not_lt.mp g243) (iv_w (c := 0) (d := 2147483647) (iv_ler (Int32.not_lt.mp g239) ivk_0 pa5) (by decide +kernel)) (srd_215_96_x hI (Int32.toNatClampNeg a1))) (by decide +kernel)) (by decide +kernel) rfl rfl)); have f346 := li_ne g249 ivt_1 ivt_0; have f347 := li_le (Int32.not_lt.mp g253) ivt_0 (show (a4 : Int32).toInt = (a4).toInt from rfl); have f348 := li_le (Int32.not_lt.mp g255) ivt_0 (show (a5 : Int32).toInt = (a5).toInt from rfl); have f349 := li_le (Int32.not_lt.mp g259) (show (a5 : Int32).toInt = (a5).toInt from rfl) (show (h.2.1 (.inl 96) (Int32.toNatClampNeg a3) : Int32).toInt = (h.2.1 (.inl 96) (Int32.toNatClampNeg a3)).toInt from rfl); have f350 := li_le (Int32.not_lt.mp g263) (show (a4 : Int32).toInt = (a4).toInt from rfl) (show ((h.2.1 (.inl 96) (Int32.toNatClampNeg a3)) - a5 : Int32).toInt = ((h.2.1 (.inl 96) (Int32.toNatClampNeg a3)).toInt - (a5).toInt) from (li_sub (srd_215_96_x hI (Int32.toNatClampNeg a3)) (iv_w (c := 0) (d := 60) (iv_lel (Int32.not_lt.mp g243) (iv_w (c := 0) (d := 2147483647) (iv_ler (Int32.not_lt.mp g239) ivk_0 pa5) (by decide +kernel)) (srd_215_96_x hI (Int32.toNatClampNeg a1))) (by decide +kernel)) (by decide +kernel) rfl rfl)); have f351 := li_ne g264 ivt_1 ivt_0; omega)) (show (a2 : Int32).toInt + (a5 : Int32).toInt ≤ 60 from (by have ⟨b353, b353_⟩ := (show sf_iv 0 60 a5 from (iv_w (c := 0) (d := 60) (iv_lel (Int32.not_lt.mp g243) (iv_w (c := 0) (d := 2147483647) (iv_ler (Int32.not_lt.mp g239) ivk_0 pa5) (by decide +kernel)) (srd_215_96_x hI (Int32.toNatClampNeg a1))) (by decide +kernel))); have ⟨b354, b354_⟩ := (show sf_iv 0 60 (h.2.1 (.inl 96) (Int32.toNatClampNeg a3)) from (srd_215_96_x hI (Int32.toNatClampNeg a3))); have ⟨b355, b355_⟩ := (show sf_iv 0 60 a4 from (iv_w (c := 0) (d := 60) (iv_lel (Int32.not_lt.mp g263) (iv_w (c := 0) (d := 2147483647) (iv_ler (Int32.not_lt.mp g253) ivk_0 pa4) (by decide +kernel)) (iv_sub (lo := -60) (hi := 60) (srd_215_96_x hI (Int32.toNatClampNeg a3)) (iv_w (c := 0) (d := 60) (iv_lel (Int32.not_lt.mp g243) (iv_w (c := 0) (d := 2147483647) (iv_ler (Int32.not_lt.mp g239) ivk_0 pa5) (by decide +kernel)) (srd_215_96_x hI (Int32.toNatClampNeg a1))) (by decide +kernel)) (by decide +kernel))) (by decide +kernel))); have ⟨b356, b356_⟩ := (show sf_iv 0 60 (h.2.1 (.inl 96) (Int32.toNatClampNeg a1)) from (srd_215_96_x hI (Int32.toNatClampNeg a1))); have ⟨b357, b357_⟩ := (show sf_iv 0 60 a2 from (iv_w (c := 0) (d := 60) (iv_lel (Int32.not_lt.mp g247) (iv_w (c := 0) (d := 2147483647) (iv_ler (Int32.not_lt.mp g235) ivk_0 pa2) (by decide +kernel)) (iv_sub (lo := -60) (hi := 60) (srd_215_96_x hI (Int32.toNatClampNeg a1)) (iv_w (c := 0) (d := 60) (iv_lel (Int32.not_lt.mp g243) (iv_w (c := 0) (d := 2147483647) (iv_ler (Int32.not_lt.mp g239) ivk_0 pa5) (by decide +kernel)) (srd_215_96_x hI (Int32.toNatClampNeg a1))) (by decide +kernel)) (by decide +kernel))) (by decide +kernel))); have ⟨b358, b358_⟩ := (show sf_iv 0 4 (h.2.1 (.inl 95) (Int32.toNatClampNeg a3)) from (iv_w (c := 0) (d := 4) (iv_eql g231.symm (iv_w (c := -1) (d := 4) (iv_nel g228 (srd_214_95_x hI (Int32.toNatClampNeg a3)) ivk_m2) (by decide +kernel)) (iv_w (c := 0) (d := 4) (iv_nel g230 (iv_w (c := -1) (d := 4) (iv_nel g227 (srd_214_95_x hI (Int32.toNatClampNeg a1)) ivk_m2) (by decide +kernel)) ivk_m1) (by decide +kernel))) (by decide +kernel))); have ⟨b359, b359_⟩ := (show sf_iv 0 4 (h.2.1 (.inl 95) (Int32.toNatClampNeg a1)) from (iv_w (c := 0) (d := 4) (iv_nel g230 (iv_w (c := -1) (d := 4) (iv_nel g227 (srd_214_95_x hI (Int32.toNatClampNeg a1)) ivk_m2) (by decide +kernel)) ivk_m1) (by decide +kernel))); have ⟨b360, b360_⟩ := (show sf_iv 0 5 a3 from (iv_w (c := 0) (d := 5) (iv_lel g224.2 (iv_w (c := 0) (d := 2147483647) (iv_ler g224.1 ivk_0 pa3) (by decide +kernel)) ivk_5) (by decide +kernel))); have ⟨b361, b361_⟩ := (show sf_iv 0 5 a1 from (iv_w (c := 0) (d := 5) (iv_lel g221.2 (iv_w (c := 0) (d := 2147483647) (iv_ler g221.1 ivk_0 pa1) (by decide +kernel)) ivk_5) (by decide +kernel))); have f362 := li_le g221.1 ivt_0 (show (a1 : Int32).toInt = (a1).toInt from rfl); have f363 := li_le g221.2 (show (a1 : Int32).toInt = (a1).toInt from rfl) ivt_5; have f364 := li_ne g223 ivt_1 ivt_0; have f365 := li_le g224.1 ivt_0 (show (a3 : Int32).toInt = (a3).toInt from rfl); have f366 := li_le g224.2 (show (a3 : Int32).toInt = (a3).toInt from rfl) ivt_5; have f367 := li_ne g225 ivt_1 ivt_0; have f368 := li_ne g227 (show (h.2.1 (.inl 95) (Int32.toNatClampNeg a1) : Int32).toInt = (h.2.1 (.inl 95) (Int32.toNatClampNeg a1)).toInt from rfl) (show ((-2) : Int32).toInt = (-2) from rfl); have f369 := li_ne g228 (show (h.2.1 (.inl 95) (Int32.toNatClampNeg a3) : Int32).toInt = (h.2.1 (.inl 95) (Int32.toNatClampNeg a3)).toInt from rfl) (show ((-2) : Int32).toInt = (-2) from rfl); have f370 := li_ne g230 (show (h.2.1 (.inl 95) (Int32.toNatClampNeg a1) : Int32).toInt = (h.2.1 (.inl 95) (Int32.toNatClampNeg a1)).toInt from rfl) (show ((-1) : Int32).toInt = (-1) from rfl); have f371 := li_eq g231 (show (h.2.1 (.inl 95) (Int32.toNatClampNeg a1) : Int32).toInt = (h.2.1 (.inl 95) (Int32.toNatClampNeg a1)).toInt from rfl) (show (h.2.1 (.inl 95) (Int32.toNatClampNeg a3) : Int32).toInt = (h.2.1 (.inl 95) (Int32.toNatClampNeg a3)).toInt from rfl); have f372 := li_le (Int32.not_lt.mp g235) ivt_0 (show (a2 : Int32).toInt = (a2).toInt from rfl); have f373 := li_le (Int32.not_lt.mp g239) ivt_0 (show (a5 : Int32).toInt = (a5).toInt from rfl); have f374 := li_le (Int32.not_lt.mp g243) (show (a5 : Int32).toInt = (a5).toInt from rfl) (show (h.2.1 (.inl 96) (Int32.toNatClampNeg a1) : Int32).toInt = (h.2.1 (.inl 96) (Int32.toNatClampNeg a1)).toInt from rfl); have f375 := li_le (Int32.not_lt.mp g247) (show (a2 : Int32).toInt = (a2).toInt from rfl) (show ((h.2.1 (.inl 96) (Int32.toNatClampNeg a1)) - a5 : Int32).toInt = ((h.2.1 (.inl 96) (Int32.toNatClampNeg a1)).toInt - (a5).toInt) from (li_sub (srd_215_96_x hI (Int32.toNatClampNeg a1)) (iv_w (c := 0) (d := 60) (iv_lel (Int32.not_lt.mp g243) (iv_w (c := 0) (d := 2147483647) (iv_ler (Int32.not_lt.mp g239) ivk_0 pa5) (by decide +kernel)) (srd_215_96_x hI (Int32.toNatClampNeg a1))) (by decide +kernel)) (by decide +kernel) rfl rfl)); have f376 := li_ne g249 ivt_1 ivt_0; have f377 := li_le (Int32.not_lt.mp g253) ivt_0 (show (a4 : Int32).toInt = (a4).toInt from rfl); have f378 := li_le (Int32.not_lt.mp g255) ivt_0 (show (a5 : Int32).toInt = (a5).toInt from rfl); have f379 := li_le (Int32.not_lt.mp g259) (show (a5 : Int32).toInt = (a5).toInt from rfl) (show (h.2.1 (.inl 96) (Int32.toNatClampNeg a3) : Int32).toInt = (h.2.1 (.inl 96) (Int32.toNatClampNeg a3)).toInt from rfl); have f380 := li_le (Int32.not_lt.mp g263) (show (a4 : Int32).toInt = (a4).toInt from rfl) (show ((h.2.1 (.inl 96) (Int32.toNatClampNeg a3)) - a5 : Int32).toInt = ((h.2.1 (.inl 96) (Int32.toNatClampNeg a3)).toInt - (a5).toInt) from (li_sub (srd_215_96_x hI (Int32.toNatClampNeg a3)) (iv_w (c := 0) (d := 60) (iv_lel (Int32.not_lt.mp g243) (iv_w (c := 0) (d := 2147483647) (iv_ler (Int32.not_lt.mp g239) ivk_0 pa5) (by decide +kernel)) (srd_215_96_x hI (Int32.toNatClampNeg a1))) (by decide +kernel)) (by decide +kernel) rfl rfl)); have f381 := li_ne g264 ivt_1 ivt_0; omega))) (li_cc (show 0 ≤ (a4 : Int32).toInt from (by have ⟨b294, b294_⟩ := (show sf_iv 0 60 a5 from (iv_w (c := 0) (d := 60) (iv_lel (Int32.not_lt.mp g243) (iv_w (c := 0) (d := 2147483647) (iv_ler (Int32.not_lt.mp g239) ivk_0 pa5) (by decide +kernel)) (srd_215_96_x hI (Int32.toNatClampNeg a1))) (by decide +kernel))); have ⟨b295, b295_⟩ := (show sf_iv 0 60 (h.2.1 (.inl 96) (Int32.toNatClampNeg a3)) from (srd_215_96_x hI (Int32.toNatClampNeg a3))); have ⟨b296, b296_⟩ := (show sf_iv 0 60 a4 from (iv_w (c := 0) (d := 60) (iv_lel (Int32.not_lt.mp g263) (iv_w (c := 0) (d := 2147483647) (iv_ler (Int32.not_lt.mp g253) ivk_0 pa4) (by decide +kernel)) (iv_sub (lo := -60) (hi := 60) (srd_215_96_x hI (Int32.toNatClampNeg a3)) (iv_w (c := 0) (d := 60) (iv_lel (Int32.not_lt.mp g243) (iv_w (c := 0) (d := 2147483647) (iv_ler (Int32.not_lt.mp g239) ivk_0 pa5) (by decide +kernel)) (srd_215_96_x hI (Int32.toNatClampNeg a1))) (by decide +kernel)) (by decide +kernel))) (by decide +kernel))); have ⟨b297, b297_⟩ := (show sf_iv 0 60 (h.2.1 (.inl 96) (Int32.toNatClampNeg a1)) from (srd_215_96_x hI (Int32.toNatClampNeg a1))); have ⟨b298, b298_⟩ := (show sf_iv 0 60 a2 from (iv_w (c := 0) (d := 60) (iv_lel (Int32.not_lt.mp g247) (iv_w (c := 0) (d := 2147483647) (iv_ler (Int32.not_lt.mp g235) ivk_0 pa2) (by decide +kernel)) (iv_sub (lo := -60) (hi := 60) (srd_215_96_x hI (Int32.toNatClampNeg a1)) (iv_w (c := 0) (d := 60) (iv_lel (Int32.not_lt.mp g243) (iv_w (c := 0) (d := 2147483647) (iv_ler (Int32.not_lt.mp g239) ivk_0 pa5) (by decide +kernel)) (srd_215_96_x hI (Int32.toNatClampNeg a1))) (by decide +kernel)) (by decide +kernel))) (by decide +kernel))); have ⟨b299, b299_⟩ := (show sf_iv 0 4 (h.2.1 (.inl 95) (Int32.toNatClampNeg a3)) from (iv_w (c := 0) (d := 4) (iv_eql g231.symm (iv_w (c := -1) (d := 4) (iv_nel g228 (srd_214_95_x hI (Int32.toNatClampNeg a3)) ivk_m2) (by decide +kernel)) (iv_w (c := 0) (d := 4) (iv_nel g230 (iv_w (c := -1) (d := 4) (iv_nel g227 (srd_214_95_x hI (Int32.toNatClampNeg a1)) ivk_m2) (by decide +kernel)) ivk_m1) (by decide +kernel))) (by decide +kernel))); have ⟨b300, b300_⟩ := (show sf_iv 0 4 (h.2.1 (.inl 95) (Int32.toNatClampNeg a1)) from (iv_w (c := 0) (d := 4) (iv_nel g230 (iv_w (c := -1) (d := 4) (iv_nel g227 (srd_214_95_x hI (Int32.toNatClampNeg a1)) ivk_m2) (by decide +kernel)) ivk_m1) (by decide +kernel))); have ⟨b301, b301_⟩ := (show sf_iv 0 5 a3 from (iv_w (c := 0) (d := 5) (iv_lel g224.2 (iv_w (c := 0) (d := 2147483647) (iv_ler g224.1 ivk_0 pa3) (by decide +kernel)) ivk_5) (by decide +kernel))); have ⟨b302, b302_⟩ := (show sf_iv 0 5 a1 from (iv_w (c := 0) (d := 5) (iv_lel g221.2 (iv_w (c := 0) (d := 2147483647) (iv_ler g221.1 ivk_0 pa1) (by decide +kernel)) ivk_5) (by decide +kernel))); have f303 := li_le g221.1 ivt_0 (show (a1 : Int32).toInt = (a1).toInt from rfl); have f304 := li_le g221.2 (show (a1 : Int32).toInt = (a1).toInt from rfl) ivt_5; have f305 := li_ne g223 ivt_1 ivt_0; have f306 := li_le g224.1 ivt_0 (show (a3 : Int32).toInt = (a3).toInt from rfl); have f307 := li_le g224.2 (show (a3 : Int32).toInt = (a3).toInt from rfl) ivt_5; have f308 := li_ne g225 ivt_1 ivt_0; have f309 := li_ne g227 (show (h.2.1 (.inl 95) (Int32.toNatClampNeg a1) : Int32).toInt = (h.2.1 (.inl 95) (Int32.toNatClampNeg a1)).toInt from rfl) (show ((-2) : Int32).toInt = (-2) from rfl); have f310 := li_ne g228 (show (h.2.1 (.inl 95) (Int32.toNatClampNeg a3) : Int32).toInt = (h.2.1 (.inl 95) (Int32.toNatClampNeg a3)).toInt from rfl) (show ((-2) : Int32).toInt = (-2) from rfl); have f311 := li_ne g230 (show (h.2.1 (.inl 95) (Int32.toNatClampNeg a1) : Int32).toInt = (h.2.1 (.inl 95) (Int32.toNatClampNeg a1)).toInt from rfl) (show ((-1) : Int32).toInt = (-1) from rfl); have f312 := li_eq g231 (show (h.2.1 (.inl 95) (Int32.toNatClampNeg a1) : Int32).toInt = (h.2.1 (.inl 95) (Int32.toNatClampNeg a1)).toInt from rfl) (show (h.2.1 (.inl 95) (Int32.toNatClampNeg a3) : Int32).toInt = (h.2.1 (.inl 95) (Int32.toNatClampNeg a3)).toInt from rfl); have f313 := li_le (Int32.not_lt.mp g235) ivt_0 (show (a2 : Int32).toInt = (a2).toInt from rfl); have f314 := li_le (Int32.not_lt.mp g239) ivt_0 (show (a5 : Int32).toInt = (a5).toInt from rfl); have f315 := li_le (Int32.not_lt.mp g243) (show (a5 : Int32).toInt = (a5).toInt from rfl) (show (h.2.1 (.inl 96) (Int32.toNatClampNeg a1) : Int32).toInt = (h.2.1 (.inl 96) (Int32.toNatClampNeg a1)).toInt from rfl); have f316 := li_le (Int32.not_lt.mp g247) (show (a2 : Int32).toInt = (a2).toInt from rfl) (show ((h.2.1 (.inl 96) (Int32.toNatClampNeg a1)) - a5 : Int32).toInt = ((h.2.1 (.inl 96) (Int32.toNatClampNeg a1)).toInt - (a5).toInt) from (li_sub (srd_215_96_x hI (Int32.toNatClampNeg a1)) (iv_w (c := 0) (d := 60) (iv_lel (Int32.not_lt.mp g243) (iv_w (c := 0) (d := 2147483647) (iv_ler (Int32.not_lt.mp g239) ivk_0 pa5) (by decide +kernel)) (srd_215_96_x hI (Int32.toNatClampNeg a1))) (by decide +kernel)) (by decide +kernel) rfl rfl)); have f317 := li_ne g249 ivt_1 ivt_0; have f318 := li_le (Int32.not_lt.mp g253) ivt_0 (show (a4 : Int32).toInt = (a4).toInt from rfl); have f319 := li_le (Int32.not_lt.mp g255) ivt_0 (show (a5 : Int32).toInt = (a5).toInt from rfl); have f320 := li_le (Int32.not_lt.mp g259) (show (a5 : Int32).toInt = (a5).toInt from rfl) (show (h.2.1 (.inl 96) (Int32.toNatClampNeg a3) : Int32).toInt = (h.2.1 (.inl 96) (Int32.toNatClampNeg a3)).toInt from rfl); have f321 := li_le (Int32.not_lt.mp g263) (show (a4 : Int32).toInt = (a4).toInt from rfl) (show ((h.2.1 (.inl 96) (Int32.toNatClampNeg a3)) - a5 : Int32).toInt = ((h.2.1 (.inl 96) (Int32.toNatClampNeg a3)).toInt - (a5).toInt) from (li_sub (srd_215_96_x hI (Int32.toNatClampNeg a3)) (iv_w (c := 0) (d := 60) (iv_lel (Int32.not_lt.mp g243) (iv_w (c := 0) (d := 2147483647) (iv_ler (Int32.not_lt.mp g239) ivk_0 pa5) (by decide +kernel)) (srd_215_96_x hI (Int32.toNatClampNeg a1))) (by decide +kernel)) (by decide +kernel) rfl rfl)); have f322 := li_ne g264 ivt_1 ivt_0; omega)) (show 0 ≤ (a5 : Int32).toInt from (by have ⟨b323, b323_⟩ := (show sf_iv 0 60 a5 from (iv_w (c := 0) (d := 60) (iv_lel (Int32.not_lt.mp g243) (iv_w (c := 0) (d := 2147483647) (iv_ler (Int32.not_lt.mp g239) ivk_0 pa5) (by decide +kernel)) (srd_215_96_x hI (Int32.toNatClampNeg a1))) (by decide +kernel))); have ⟨b324, b324_⟩ := (show sf_iv 0 60 (h.2.1 (.inl 96) (Int32.toNatClampNeg a3)) from (srd_215_96_x hI (Int32.toNatClampNeg a3))); have ⟨b325, b325_⟩ := (show sf_iv 0 60 a4 from (iv_w (c := 0) (d := 60) (iv_lel (Int32.not_lt.mp g263) (iv_w (c := 0) (d := 2147483647) (iv_ler (Int32.not_lt.mp g253) ivk_0 pa4) (by decide +kernel)) (iv_sub (lo := -60) (hi := 60) (srd_215_96_x hI (Int32.toNatClampNeg a3)) (iv_w (c := 0) (d := 60) (iv_lel (Int32.not_lt.mp g243) (iv_w (c := 0) (d := 2147483647) (iv_ler (Int32.not_lt.mp g239) ivk_0 pa5) (by decide +kernel)) (srd_215_96_x hI (Int32.toNatClampNeg a1))) (by decide +kernel)) (by decide +kernel))) (by decide +kernel))); have ⟨b326, b326_⟩ := (show sf_iv 0 60 (h.2.1 (.inl 96) (Int32.toNatClampNeg a1)) from (srd_215_96_x hI (Int32.toNatClampNeg a1))); have ⟨b327, b327_⟩ := (show sf_iv 0 60 a2 from (iv_w (c := 0) (d := 60) (iv_lel (Int32.not_lt.mp g247) (iv_w (c := 0) (d := 2147483647) (iv_ler (Int32.not_lt.mp g235) ivk_0 pa2) (by decide +kernel)) (iv_sub (lo := -60) (hi := 60) (srd_215_96_x hI (Int32.toNatClampNeg a1)) (iv_w (c := 0) (d := 60) (iv_lel (Int32.not_lt.mp g243) (iv_w (c := 0) (d := 2147483647) (iv_ler (Int32.not_lt.mp g239) ivk_0 pa5) (by decide +kernel)) (srd_215_96_x hI (Int32.toNatClampNeg a1))) (by decide +kernel)) (by decide +kernel))) (by decide +kernel))); have ⟨b328, b328_⟩ := (show sf_iv 0 4 (h.2.1 (.inl 95) (Int32.toNatClampNeg a3)) from (iv_w (c := 0) (d := 4) (iv_eql g231.symm (iv_w (c := -1) (d := 4) (iv_nel g228 (srd_214_95_x hI (Int32.toNatClampNeg a3)) ivk_m2) (by decide +kernel)) (iv_w (c := 0) (d := 4) (iv_nel g230 (iv_w (c := -1) (d := 4) (iv_nel g227 (srd_214_95_x hI (Int32.toNatClampNeg a1)) ivk_m2) (by decide +kernel)) ivk_m1) (by decide +kernel))) (by decide +kernel))); have ⟨b329, b329_⟩ := (show sf_iv 0 4 (h.2.1 (.inl 95) (Int32.toNatClampNeg a1)) from (iv_w (c := 0) (d := 4) (iv_nel g230 (iv_w (c := -1) (d := 4) (iv_nel g227 (srd_214_95_x hI (Int32.toNatClampNeg a1)) ivk_m2) (by decide +kernel)) ivk_m1) (by decide +kernel))); have ⟨b330, b330_⟩ := (show sf_iv 0 5 a3 from (iv_w (c := 0) (d := 5) (iv_lel g224.2 (iv_w (c := 0) (d := 2147483647) (iv_ler g224.1 ivk_0 pa3) (by decide +kernel)) ivk_5) (by decide +kernel))); have ⟨b331, b331_⟩ := (show sf_iv 0 5 a1 from (iv_w (c := 0) (d := 5) (iv_lel g221.2 (iv_w (c := 0) (d := 2147483647) (iv_ler g221.1 ivk_0 pa1) (by decide +kernel)) ivk_5) (by decide +kernel))); have f332 := li_le g221.1 ivt_0 (show (a1 : Int32).toInt = (a1).toInt from rfl); have f333 := li_le g221.2 (show (a1 : Int32).toInt = (a1).toInt from rfl) ivt_5; have f334 := li_ne g223 ivt_1 ivt_0; have f335 := li_le g224.1 ivt_0 (show (a3 : Int32).toInt = (a3).toInt from rfl); have f336 := li_le g224.2 (show (a3 : Int32).toInt = (a3).toInt from rfl) ivt_5; have f337 := li_ne g225 ivt_1 ivt_0; have f338 := li_ne g227 (show (h.2.1 (.inl 95) (Int32.toNatClampNeg a1) : Int32).toInt = (h.2.1 (.inl 95) (Int32.toNatClampNeg a1)).toInt from rfl) (show ((-2) : Int32).toInt = (-2) from rfl); have f339 := li_ne g228 (show (h.2.1 (.inl 95) (Int32.toNatClampNeg a3) : Int32).toInt = (h.2.1 (.inl 95) (Int32.toNatClampNeg a3)).toInt from rfl) (show ((-2) : Int32).toInt = (-2) from rfl); have f340 := li_ne g230 (show (h.2.1 (.inl 95) (Int32.toNatClampNeg a1) : Int32).toInt = (h.2.1 (.inl 95) (Int32.toNatClampNeg a1)).toInt from rfl) (show ((-1) : Int32).toInt = (-1) from rfl); have f341 := li_eq g231 (show (h.2.1 (.inl 95) (Int32.toNatClampNeg a1) : Int32).toInt = (h.2.1 (.inl 95) (Int32.toNatClampNeg a1)).toInt from rfl) (show (h.2.1 (.inl 95) (Int32.toNatClampNeg a3) : Int32).toInt = (h.2.1 (.inl 95) (Int32.toNatClampNeg a3)).toInt from rfl); have f342 := li_le (Int32.not_lt.mp g235) ivt_0 (show (a2 : Int32).toInt = (a2).toInt from rfl); have f343 := li_le (Int32.not_lt.mp g239) ivt_0 (show (a5 : Int32).toInt = (a5).toInt from rfl); have f344 := li_le (Int32.not_lt.mp g243) (show (a5 : Int32).toInt = (a5).toInt from rfl) (show (h.2.1 (.inl 96) (Int32.toNatClampNeg a1) : Int32).toInt = (h.2.1 (.inl 96) (Int32.toNatClampNeg a1)).toInt from rfl); have f345 := li_le (Int32.not_lt.mp g247) (show (a2 : Int32).toInt = (a2).toInt from rfl) (show ((h.2.1 (.inl 96) (Int32.toNatClampNeg a1)) - a5 : Int32).toInt = ((h.2.1 (.inl 96) (Int32.toNatClampNeg a1)).toInt - (a5).toInt) from (li_sub (srd_215_96_x hI (Int32.toNatClampNeg a1)) (iv_w (c := 0) (d := 60) (iv_lel (Int32.not_lt.mp g243) (iv_w (c := 0) (d := 2147483647) (iv_ler (Int32.not_lt.mp g239) ivk_0 pa5) (by decide +kernel)) (srd_215_96_x hI (Int32.toNatClampNeg a1))) (by decide +kernel)) (by decide +kernel) rfl rfl)); have f346 := li_ne g249 ivt_1 ivt_0; have f347 := li_le (Int32.not_lt.mp g253) ivt_0 (show (a4 : Int32).toInt = (a4).toInt from rfl); have f348 := li_le (Int32.not_lt.mp g255) ivt_0 (show (a5 : Int32).toInt = (a5).toInt from rfl); have f349 := li_le (Int32.not_lt.mp g259) (show (a5 : Int32).toInt = (a5).toInt from rfl) (show (h.2.1 (.inl 96) (Int32.toNatClampNeg a3) : Int32).toInt = (h.2.1 (.inl 96) (Int32.toNatClampNeg a3)).toInt from rfl); have f350 := li_le (Int32.not_lt.mp g263) (show (a4 : Int32).toInt = (a4).toInt from rfl) (show ((h.2.1 (.inl 96) (Int32.toNatClampNeg a3)) - a5 : Int32).toInt = ((h.2.1 (.inl 96) (Int32.toNatClampNeg a3)).toInt - (a5).toInt) from (li_sub (srd_215_96_x hI (Int32.toNatClampNeg a3)) (iv_w (c := 0) (d := 60) (iv_lel (Int32.not_lt.mp g243) (iv_w (c := 0) (d := 2147483647) (iv_ler (Int32.not_lt.mp g239) ivk_0 pa5) (by decide +kernel)) (srd_215_96_x hI (Int32.toNatClampNeg a1))) (by decide +kernel)) (by decide +kernel) rfl rfl)); have f351 := li_ne g264 ivt_1 ivt_0; omega)) (show (a4 : Int32).toInt + (a5 : Int32).toInt ≤ 60 from (by have ⟨b382, b382_⟩ := (show sf_iv 0 60 a5 from (iv_w (c := 0) (d := 60) (iv_lel (Int32.not_lt.mp g243) (iv_w (c := 0) (d := 2147483647) (iv_ler (Int32.not_lt.mp g239) ivk_0 pa5) (by decide +kernel)) (srd_215_96_x hI (Int32.toNatClampNeg a1))) (by decide +kernel))); have ⟨b383, b383_⟩ := (show sf_iv 0 60 (h.2.1 (.inl 96) (Int32.toNatClampNeg a3)) from (srd_215_96_x hI (Int32.toNatClampNeg a3))); have ⟨b384, b384_⟩ := (show sf_iv 0 60 a4 from (iv_w (c := 0) (d := 60) (iv_lel (Int32.not_lt.mp g263) (iv_w (c := 0) (d := 2147483647) (iv_ler (Int32.not_lt.mp g253) ivk_0 pa4) (by decide +kernel)) (iv_sub (lo := -60) (hi := 60) (srd_215_96_x hI (Int32.toNatClampNeg a3)) (iv_w (c := 0) (d := 60) (iv_lel (Int32.not_lt.mp g243) (iv_w (c := 0) (d := 2147483647) (iv_ler (Int32.not_lt.mp g239) ivk_0 pa5) (by decide +kernel)) (srd_215_96_x hI (Int32.toNatClampNeg a1))) (by decide +kernel)) (by decide +kernel))) (by decide +kernel))); have ⟨b385, b385_⟩ := (show sf_iv 0 60 (h.2.1 (.inl 96) (Int32.toNatClampNeg a1)) from (srd_215_96_x hI (Int32.toNatClampNeg a1))); have ⟨b386, b386_⟩ := (show sf_iv 0 60 a2 from (iv_w (c := 0) (d := 60) (iv_lel (Int32.not_lt.mp g247) (iv_w (c := 0) (d := 2147483647) (iv_ler (Int32.not_lt.mp g235) ivk_0 pa2) (by decide +kernel)) (iv_sub (lo := -60) (hi := 60) (srd_215_96_x hI (Int32.toNatClampNeg a1)) (iv_w (c := 0) (d := 60) (iv_lel (Int32.not_lt.mp g243) (iv_w (c := 0) (d := 2147483647) (iv_ler (Int32.not_lt.mp g239) ivk_0 pa5) (by decide +kernel)) (srd_215_96_x hI (Int32.toNatClampNeg a1))) (by decide +kernel)) (by decide +kernel))) (by decide +kernel))); have ⟨b387, b387_⟩ := (show sf_iv 0 4 (h.2.1 (.inl 95) (Int32.toNatClampNeg a3)) from (iv_w (c := 0) (d := 4) (iv_eql g231.symm (iv_w (c := -1) (d := 4) (iv_nel g228 (srd_214_95_x hI (Int32.toNatClampNeg a3)) ivk_m2) (by decide +kernel)) (iv_w (c := 0) (d := 4) (iv_nel g230 (iv_w (c := -1) (d := 4) (iv_nel g227 (srd_214_95_x hI (Int32.toNatClampNeg a1)) ivk_m2) (by decide +kernel)) ivk_m1) (by decide +kernel))) (by decide +kernel))); have ⟨b388, b388_⟩ := (show sf_iv 0 4 (h.2.1 (.inl 95) (Int32.toNatClampNeg a1)) from (iv_w (c := 0) (d := 4) (iv_nel g230 (iv_w (c := -1) (d := 4) (iv_nel g227 (srd_214_95_x hI (Int32.toNatClampNeg a1)) ivk_m2) (by decide +kernel)) ivk_m1) (by decide +kernel))); have ⟨b389, b389_⟩ := (show sf_iv 0 5 a3 from (iv_w (c := 0) (d := 5) (iv_lel g224.2 (iv_w (c := 0) (d := 2147483647) (iv_ler g224.1 ivk_0 pa3) (by decide +kernel)) ivk_5) (by decide +kernel))); have ⟨b390, b390_⟩ := (show sf_iv 0 5 a1 from (iv_w (c := 0) (d := 5) (iv_lel g221.2 (iv_w (c := 0) (d := 2147483647) (iv_ler g221.1 ivk_0 pa1) (by decide +kernel)) ivk_5) (by decide +kernel))); have f391 := li_le g221.1 ivt_0 (show (a1 : Int32).toInt = (a1).toInt from rfl); have f392 := li_le g221.2 (show (a1 : Int32).toInt = (a1).toInt from rfl) ivt_5; have f393 := li_ne g223 ivt_1 ivt_0; have f394 := li_le g224.1 ivt_0 (show (a3 : Int32).toInt = (a3).toInt from rfl); have f395 := li_le g224.2 (show (a3 : Int32).toInt = (a3).toInt from rfl) ivt_5; have f396 := li_ne g225 ivt_1 ivt_0; have f397 := li_ne g227 (show (h.2.1 (.inl 95) (Int32.toNatClampNeg a1) : Int32).toInt = (h.2.1 (.inl 95) (Int32.toNatClampNeg a1)).toInt from rfl) (show ((-2) : Int32).toInt = (-2) from rfl); have f398 := li_ne g228 (show (h.2.1 (.inl 95) (Int32.toNatClampNeg a3) : Int32).toInt = (h.2.1 (.inl 95) (Int32.toNatClampNeg a3)).toInt from rfl) (show ((-2) : Int32).toInt = (-2) from rfl); have f399 := li_ne g230 (show (h.2.1 (.inl 95) (Int32.toNatClampNeg a1) : Int32).toInt = (h.2.1 (.inl 95) (Int32.toNatClampNeg a1)).toInt from rfl) (show ((-1) : Int32).toInt = (-1) from rfl); have f400 := li_eq g231 (show (h.2.1 (.inl 95) (Int32.toNatClampNeg a1) : Int32).toInt = (h.2.1 (.inl 95) (Int32.toNatClampNeg a1)).toInt from rfl) (show (h.2.1 (.inl 95) (Int32.toNatClampNeg a3) : Int32).toInt = (h.2.1 (.inl 95) (Int32.toNatClampNeg a3)).toInt from rfl); have f401 := li_le (Int32.not_lt.mp g235) ivt_0 (show (a2 : Int32).toInt = (a2).toInt from rfl); have f402 := li_le (Int32.not_lt.mp g239) ivt_0 (show (a5 : Int32).toInt = (a5).toInt from rfl); have f403 := li_le (Int32.not_lt.mp g243) (show (a5 : Int32).toInt = (a5).toInt from rfl) (show (h.2.1 (.inl 96) (Int32.toNatClampNeg a1) : Int32).toInt = (h.2.1 (.inl 96) (Int32.toNatClampNeg a1)).toInt from rfl); have f404 := li_le (Int32.not_lt.mp g247) (show (a2 : Int32).toInt = (a2).toInt from rfl) (show ((h.2.1 (.inl 96) (Int32.toNatClampNeg a1)) - a5 : Int32).toInt = ((h.2.1 (.inl 96) (Int32.toNatClampNeg a1)).toInt - (a5).toInt) from (li_sub (srd_215_96_x hI (Int32.toNatClampNeg a1)) (iv_w (c := 0) (d := 60) (iv_lel (Int32.not_lt.mp g243) (iv_w (c := 0) (d := 2147483647) (iv_ler (Int32.not_lt.mp g239) ivk_0 pa5) (by decide +kernel)) (srd_215_96_x hI (Int32.toNatClampNeg a1))) (by decide +kernel)) (by decide +kernel) rfl rfl)); have f405 := li_ne g249 ivt_1 ivt_0; have f406 := li_le (Int32.not_lt.mp g253) ivt_0 (show (a4 : Int32).toInt = (a4).toInt from rfl); have f407 := li_le (Int32.not_lt.mp g255) ivt_0 (show (a5 : Int32).toInt = (a5).toInt from rfl); have f408 := li_le (Int32.not_lt.mp g259) (show (a5 : Int32).toInt = (a5).toInt from rfl) (show (h.2.1 (.inl 96) (Int32.toNatClampNeg a3) : Int32).toInt = (h.2.1 (.inl 96) (Int32.toNatClampNeg a3)).toInt from rfl); have f409 := li_le (Int32.not_lt.mp g263) (show (a4 : Int32).toInt = (a4).toInt from rfl) (show ((h.2.1 (.inl 96) (Int32.toNatClampNeg a3)) - a5 : Int32).toInt = ((h.2.1 (.inl 96) (Int32.toNatClampNeg a3)).toInt - (a5).toInt) from (li_sub (srd_215_96_x hI (Int32.toNatClampNeg a3)) (iv_w (c := 0) (d := 60) (iv_lel (Int32.not_lt.mp g243) (iv_w (c := 0) (d := 2147483647) (iv_ler (Int32.not_lt.mp g239) ivk_0 pa5) (by decide +kernel)) (srd_215_96_x hI (Int32.toNatClampNeg a1))) (by decide +kernel)) (by decide +kernel) rfl rfl)); have f410 := li_ne g264 ivt_1 ivt_0; omega))) (by decide +kernel) (sg154_132 (hQ _ _ (sf_uC hI) (sf_EC (sf_E0 _ _)) (iv_w (c := -13) (d := 60) (iv_w (c := 0) (d := 60) (iv_lel (Int32.not_lt.mp g243) (iv_w (c := 0) (d := 2147483647) (iv_ler (Int32.not_lt.mp g239) ivk_0 pa5) (by decide +kernel)) (srd_215_96_x hI (Int32.toNatClampNeg a1))) (by decide +kernel)) (by decide +kernel))  ))⟩⟩, fun g411 => absurd g225 g411⟩⟩⟩⟩⟩⟩⟩⟩)⟩⟩⟩⟩⟩⟩⟩⟩), fun g412 => hQ _ _ hI (sf_E0 _ _) (iv_w (c := -13) (d := 60) ivk_m12 (by decide +kernel))  ⟩⟩⟩, fun g413 => hQ _ _ hI (sf_E0 _ _) (iv_w (c := -13) (d := 60) ivk_m11 (by decide +kernel))  ⟩⟩⟩⟩, fun g414 => (iv_no (iv_eql (Decidable.not_not.mp g414) ivk_1 ivk_0) (by decide +kernel)).elim⟩⟩) (fun g415 => hx_i ⟨Or.inl rfl, hx_i ⟨fun g416 => (iv_no (iv_nel g416 ivk_0 ivk_0) (by decide +kernel)).elim, fun g417 => hQ _ _ hI (sf_E0 _ _) (iv_w (c := -13) (d := 60) ivk_m1 (by decide +kernel))  ⟩⟩)))⟩⟩) (fun g418 => hx_i ⟨Or.inl rfl, hx_i ⟨fun g419 => hQ _ _ hI (sf_E0 _ _) (iv_w (c := -13) (d := 60) ivk_m1 (by decide +kernel))  , fun g420 => (iv_no (iv_nel g420 ivk_0 ivk_0) (by decide +kernel)).elim⟩⟩)))
/-! ===== reference: bodies ===== -/
theorem sf_Jk5 {h h' : mx_H} (o : ∀ n i, n ≠ 117 ∧ ¬ (n = 105 ∧ i = 12) → sf_jf h' (.inl n) i = sf_jf h (.inl n) i) (o2 : ∀ q i, sf_jf h' (.inr q) i = sf_jf h (.inr q) i) (eR : h'.2.2.2 = h.2.2.2) (en : h'.1 = h.1) (hJ : sf_J h) (h5 : sf_K5 (sf_jf h')) : sf_J h' := by
  unfold sf_J
  rw [eR, en]
  obtain ⟨hC, k1, k2, k3, k4, k5⟩ := hJ
  refine ⟨sf_JC_c (fun k i hk => o k i (by omega)) o2 hC, ?_, ?_, ?_, ?_, h5⟩
  · unfold sf_K1 at *
    simp only [o 105 24 (by decide +kernel), o 105 25 (by decide +kernel), o 123 _ (by simp), o 124 _ (by simp), o 125 _ (by simp), o 126 _ (by simp)]
    exact k1
  · unfold sf_K2 at *
    simp only [o 105 1 (by decide +kernel), o 106 _ (by simp), o 107 _ (by simp)]
    exact k2
  · unfold sf_K3 at *
    simp only [o 105 1 (by decide +kernel), o 113 _ (by simp), o 111 _ (by simp)]
    exact k3
  · unfold sf_K4 at *
    simp only [o 105 1 (by decide +kernel), o 113 _ (by simp)]
    exact k4
theorem sf_bo0 {h : mx_H} : sf_jf h (.inl 105) 12 = (h.2.1 (.inl 105) 12).toInt := sf_jfr (r := 236) rfl rfl
theorem sf_bo1 {h : mx_H} {i : Nat} : sf_jf h (.inl 117) i = (h.2.1 (.inl 117) i).toInt := sf_jfr (r := 329) rfl rfl
theorem sf_K5at {h : mx_H} {x v : Int32} (hI : sf_I h) (hx : (h.2.1 (.inl 105) 12).toInt ≤ x.toInt) : sf_J (mx_uI h (.inl 117) x.toNatClampNeg v) := by
  have z1 := (sf_rd (r := 236) (lo := 0) (hi := 200) hI (.inl 105) 12 rfl rfl).1
  have hc := sf_cl (x := x) (by omega)
  have o : ∀ n i, ¬ (n = 117 ∧ i = x.toNatClampNeg) → sf_jf (mx_uI h (.inl 117) x.toNatClampNeg v) (.inl n) i = sf_jf h (.inl n) i := fun n i hn => sf_JRo _ _ hn
  refine sf_Jk5 (h := h) (fun n i hn => o n i (by omega)) (fun q i => sf_jf_o (fun q => by cases q.1)) rfl rfl hI.2.2 ?_
  intro b hb h0
  rw [o 105 12 (by omega)] at hb
  have hb' := hb
  rw [sf_bo0] at hb'
  rw [o 117 b (by omega)] at h0 ⊢
  obtain ⟨s, p, q, q1, q2, q3, q4, q5, q6⟩ := hI.2.2.2.2.2.2.2 b hb h0
  refine ⟨s, p, q, q1, ?_, ?_, ?_, q5, ?_⟩
  · rw [o 105 1 (by omega)]
    exact q2
  · rw [o 106 s (by omega)]
    exact q3
  · rw [o 106 s (by omega)]
    exact q4
  · rw [o 113 _ (by omega)]
    exact q6
theorem sf_K5pp {h : mx_H} {x v : Int32} (hI : sf_I h) (hx : x.toInt = (h.2.1 (.inl 105) 12).toInt) (hv : v.toInt = (h.2.1 (.inl 105) 12).toInt + 1) (hl : (h.2.1 (.inl 117) x.toNatClampNeg).toInt ≤ 0) : sf_J (mx_uI h (.inl 105) 12 v) := by
  have z1 := (sf_rd (r := 236) (lo := 0) (hi := 200) hI (.inl 105) 12 rfl rfl).1
  have hc := sf_cl (x := x) (by omega)
  have o : ∀ n i, ¬ (n = 105 ∧ i = 12) → sf_jf (mx_uI h (.inl 105) 12 v) (.inl n) i = sf_jf h (.inl n) i := fun n i hn => sf_JRo _ _ hn
  refine sf_Jk5 (h := h) (fun n i hn => o n i (by omega)) (fun q i => sf_jf_o (fun q => by cases q.1)) rfl rfl hI.2.2 ?_
  intro b hb h0
  rw [sf_bo0, sf_rs, hv] at hb
  rw [o 117 b (by omega)] at h0 ⊢
  by_cases e : (b : Int) < (h.2.1 (.inl 105) 12).toInt
  · obtain ⟨s, p, q, q1, q2, q3, q4, q5, q6⟩ := hI.2.2.2.2.2.2.2 b (by rw [sf_bo0]; exact e) h0
    refine ⟨s, p, q, q1, ?_, ?_, ?_, q5, ?_⟩
    · rw [o 105 1 (by omega)]
      exact q2
    · rw [o 106 s (by omega)]
      exact q3
    · rw [o 106 s (by omega)]
      exact q4
    · rw [o 113 _ (by omega)]
      exact q6
  · exfalso
    have : b = x.toNatClampNeg := by omega
    subst this
    rw [sf_bo1] at h0
    omega
/-! ===== methods that end and keep their bounds: written by program, checked by Lean ===== -/
set_option maxRecDepth 10000 in
theorem sf285 {E : mx_Ev} {d : Nat} {h : mx_H} {Q : Option mx_V → mx_H → Prop} {a1 : Int32} (pa1 : sf_iv (-2147483648) 2147483647 a1) (hI : sf_I h) (hQ : ∀ x h', sf_I h' → sf_E 1640438043587258943279376670448643965563526093768865421115760362046682492954258127300235270348079104 h h' → sf_iv (-3) 199 x → Q (some (.inl (.int x))) h') : mx_C E (mx_fn true) (d + 1) 285 [.inr (.inl 105), .inl (.int a1)] h Q :=
  sg285_0 (sp_ini (fun g40 => hx_i ⟨fun g41 => ⟨fun g42 => ⟨(iv_in (iv_w (c := 0) (d := 199) (iv_nel g42 (srd_236_105_12 hI) ivk_200) (by decide +kernel)) (by decide +kernel)), ⟨(iv_in (iv_o (by decide +kernel) (iv_w (c := 0) (d := 199) (iv_nel g42 (srd_236_105_12 hI) ivk_200) (by decide +kernel))) (by decide +kernel)), hQ _ _ (sf_uJ (r := 236) (sf_uJ (r := 329) (sf_uI (r := 328) hI rfl (iv_w (c := 0) (d := 5) (iv_lel g40.2 (iv_w (c := 0) (d := 2147483647) (iv_ler g40.1 ivk_0 pa1) (by decide +kernel)) ivk_5) (by decide +kernel)) (by decide +kernel)) rfl ivk_0 (by decide +kernel) (sf_K5at (x := (mx_uI h (.inl 116) (Int32.toNatClampNeg (h.2.1 (.inl 105) 12)) a1).2.1 (.inl 105) 12) (sf_uI (r := 328) hI rfl (iv_w (c := 0) (d := 5) (iv_lel g40.2 (iv_w (c := 0) (d := 2147483647) (iv_ler g40.1 ivk_0 pa1) (by decide +kernel)) ivk_5) (by decide +kernel)) (by decide +kernel)) (show ((mx_uI h (.inl 116) (Int32.toNatClampNeg (h.2.1 (.inl 105) 12)) a1).2.1 (.inl 105) 12 : Int32).toInt ≤ ((mx_uI h (.inl 116) (Int32.toNatClampNeg (h.2.1 (.inl 105) 12)) a1).2.1 (.inl 105) 12 : Int32).toInt from (by have ⟨b45, b45_⟩ := (show sf_iv 0 199 (h.2.1 (.inl 105) 12) from (iv_w (c := 0) (d := 199) (iv_nel g42 (srd_236_105_12 hI) ivk_200) (by decide +kernel))); have ⟨b46, b46_⟩ := (show sf_iv 0 5 a1 from (iv_w (c := 0) (d := 5) (iv_lel g40.2 (iv_w (c := 0) (d := 2147483647) (iv_ler g40.1 ivk_0 pa1) (by decide +kernel)) ivk_5) (by decide +kernel))); have f47 := li_le g40.1 ivt_0 (show (a1 : Int32).toInt = (a1).toInt from rfl); have f48 := li_le g40.2 (show (a1 : Int32).toInt = (a1).toInt from rfl) ivt_5; have f49 := li_ne g41 ivt_1 ivt_0; have f50 := li_ne g42 (show (h.2.1 (.inl 105) 12 : Int32).toInt = (h.2.1 (.inl 105) 12).toInt from rfl) ivt_200; have e43 := (show ((mx_uI h (.inl 116) (Int32.toNatClampNeg (h.2.1 (.inl 105) 12)) a1).2.1 (.inl 105) 12 : Int32).toInt = (h.2.1 (.inl 105) 12).toInt from (li_o (by decide +kernel) rfl)); have e44 := (show ((mx_uI h (.inl 116) (Int32.toNatClampNeg (h.2.1 (.inl 105) 12)) a1).2.1 (.inl 105) 12 : Int32).toInt = (h.2.1 (.inl 105) 12).toInt from (li_o (by decide +kernel) rfl)); omega)))) rfl (iv_add (lo := 1) (hi := 200) (iv_o (by decide +kernel) (iv_o (by decide +kernel) (iv_w (c := 0) (d := 199) (iv_nel g42 (srd_236_105_12 hI) ivk_200) (by decide +kernel)))) ivk_1 (by decide +kernel)) (by decide +kernel) (sf_K5pp (x := (mx_uI h (.inl 116) (Int32.toNatClampNeg (h.2.1 (.inl 105) 12)) a1).2.1 (.inl 105) 12) (sf_uJ (r := 329) (sf_uI (r := 328) hI rfl (iv_w (c := 0) (d := 5) (iv_lel g40.2 (iv_w (c := 0) (d := 2147483647) (iv_ler g40.1 ivk_0 pa1) (by decide +kernel)) ivk_5) (by decide +kernel)) (by decide +kernel)) rfl ivk_0 (by decide +kernel) (sf_K5at (x := (mx_uI h (.inl 116) (Int32.toNatClampNeg (h.2.1 (.inl 105) 12)) a1).2.1 (.inl 105) 12) (sf_uI (r := 328) hI rfl (iv_w (c := 0) (d := 5) (iv_lel g40.2 (iv_w (c := 0) (d := 2147483647) (iv_ler g40.1 ivk_0 pa1) (by decide +kernel)) ivk_5) (by decide +kernel)) (by decide +kernel)) (show ((mx_uI h (.inl 116) (Int32.toNatClampNeg (h.2.1 (.inl 105) 12)) a1).2.1 (.inl 105) 12 : Int32).toInt ≤ ((mx_uI h (.inl 116) (Int32.toNatClampNeg (h.2.1 (.inl 105) 12)) a1).2.1 (.inl 105) 12 : Int32).toInt from (by have ⟨b45, b45_⟩ := (show sf_iv 0 199 (h.2.1 (.inl 105) 12) from (iv_w (c := 0) (d := 199) (iv_nel g42 (srd_236_105_12 hI) ivk_200) (by decide +kernel))); have ⟨b46, b46_⟩ := (show sf_iv 0 5 a1 from (iv_w (c := 0) (d := 5) (iv_lel g40.2 (iv_w (c := 0) (d := 2147483647) (iv_ler g40.1 ivk_0 pa1) (by decide +kernel)) ivk_5) (by decide +kernel))); have f47 := li_le g40.1 ivt_0 (show (a1 : Int32).toInt = (a1).toInt from rfl); have f48 := li_le g40.2 (show (a1 : Int32).toInt = (a1).toInt from rfl) ivt_5; have f49 := li_ne g41 ivt_1 ivt_0; have f50 := li_ne g42 (show (h.2.1 (.inl 105) 12 : Int32).toInt = (h.2.1 (.inl 105) 12).toInt from rfl) ivt_200; have e43 := (show ((mx_uI h (.inl 116) (Int32.toNatClampNeg (h.2.1 (.inl 105) 12)) a1).2.1 (.inl 105) 12 : Int32).toInt = (h.2.1 (.inl 105) 12).toInt from (li_o (by decide +kernel) rfl)); have e44 := (show ((mx_uI h (.inl 116) (Int32.toNatClampNeg (h.2.1 (.inl 105) 12)) a1).2.1 (.inl 105) 12 : Int32).toInt = (h.2.1 (.inl 105) 12).toInt from (li_o (by decide +kernel) rfl)); omega)))) (show ((mx_uI h (.inl 116) (Int32.toNatClampNeg (h.2.1 (.inl 105) 12)) a1).2.1 (.inl 105) 12 : Int32).toInt = ((mx_uI (mx_uI h (.inl 116) (Int32.toNatClampNeg (h.2.1 (.inl 105) 12)) a1) (.inl 117) (Int32.toNatClampNeg ((mx_uI h (.inl 116) (Int32.toNatClampNeg (h.2.1 (.inl 105) 12)) a1).2.1 (.inl 105) 12)) 0).2.1 (.inl 105) 12 : Int32).toInt from (by have ⟨b53, b53_⟩ := (show sf_iv 0 199 (h.2.1 (.inl 105) 12) from (iv_w (c := 0) (d := 199) (iv_nel g42 (srd_236_105_12 hI) ivk_200) (by decide +kernel))); have ⟨b54, b54_⟩ := (show sf_iv 0 5 a1 from (iv_w (c := 0) (d := 5) (iv_lel g40.2 (iv_w (c := 0) (d := 2147483647) (iv_ler g40.1 ivk_0 pa1) (by decide +kernel)) ivk_5) (by decide +kernel))); have f55 := li_le g40.1 ivt_0 (show (a1 : Int32).toInt = (a1).toInt from rfl); have f56 := li_le g40.2 (show (a1 : Int32).toInt = (a1).toInt from rfl) ivt_5; have f57 := li_ne g41 ivt_1 ivt_0; have f58 := li_ne g42 (show (h.2.1 (.inl 105) 12 : Int32).toInt = (h.2.1 (.inl 105) 12).toInt from rfl) ivt_200; have e51 := (show ((mx_uI h (.inl 116) (Int32.toNatClampNeg (h.2.1 (.inl 105) 12)) a1).2.1 (.inl 105) 12 : Int32).toInt = (h.2.1 (.inl 105) 12).toInt from (li_o (by decide +kernel) rfl)); have e52 := (show ((mx_uI (mx_uI h (.inl 116) (Int32.toNatClampNeg (h.2.1 (.inl 105) 12)) a1) (.inl 117) (Int32.toNatClampNeg ((mx_uI h (.inl 116) (Int32.toNatClampNeg (h.2.1 (.inl 105) 12)) a1).2.1 (.inl 105) 12)) 0).2.1 (.inl 105) 12 : Int32).toInt = (h.2.1 (.inl 105) 12).toInt from (li_o (by decide +kernel) (li_o (by decide +kernel) rfl))); omega)) (show (((mx_uI (mx_uI h (.inl 116) (Int32.toNatClampNeg (h.2.1 (.inl 105) 12)) a1) (.inl 117) (Int32.toNatClampNeg ((mx_uI h (.inl 116) (Int32.toNatClampNeg (h.2.1 (.inl 105) 12)) a1).2.1 (.inl 105) 12)) 0).2.1 (.inl 105) 12) + 1 : Int32).toInt = ((mx_uI (mx_uI h (.inl 116) (Int32.toNatClampNeg (h.2.1 (.inl 105) 12)) a1) (.inl 117) (Int32.toNatClampNeg ((mx_uI h (.inl 116) (Int32.toNatClampNeg (h.2.1 (.inl 105) 12)) a1).2.1 (.inl 105) 12)) 0).2.1 (.inl 105) 12 : Int32).toInt + 1 from (by have ⟨b61, b61_⟩ := (show sf_iv 0 199 (h.2.1 (.inl 105) 12) from (iv_w (c := 0) (d := 199) (iv_nel g42 (srd_236_105_12 hI) ivk_200) (by decide +kernel))); have ⟨b62, b62_⟩ := (show sf_iv 0 5 a1 from (iv_w (c := 0) (d := 5) (iv_lel g40.2 (iv_w (c := 0) (d := 2147483647) (iv_ler g40.1 ivk_0 pa1) (by decide +kernel)) ivk_5) (by decide +kernel))); have f63 := li_le g40.1 ivt_0 (show (a1 : Int32).toInt = (a1).toInt from rfl); have f64 := li_le g40.2 (show (a1 : Int32).toInt = (a1).toInt from rfl) ivt_5; have f65 := li_ne g41 ivt_1 ivt_0; have f66 := li_ne g42 (show (h.2.1 (.inl 105) 12 : Int32).toInt = (h.2.1 (.inl 105) 12).toInt from rfl) ivt_200; have e59 := (show (((mx_uI (mx_uI h (.inl 116) (Int32.toNatClampNeg (h.2.1 (.inl 105) 12)) a1) (.inl 117) (Int32.toNatClampNeg ((mx_uI h (.inl 116) (Int32.toNatClampNeg (h.2.1 (.inl 105) 12)) a1).2.1 (.inl 105) 12)) 0).2.1 (.inl 105) 12) + 1 : Int32).toInt = ((h.2.1 (.inl 105) 12).toInt + 1) from (li_add (iv_o (by decide +kernel) (iv_o (by decide +kernel) (iv_w (c := 0) (d := 199) (iv_nel g42 (srd_236_105_12 hI) ivk_200) (by decide +kernel)))) ivk_1 (by decide +kernel) (li_o (by decide +kernel) (li_o (by decide +kernel) rfl)) rfl)); have e60 := (show ((mx_uI (mx_uI h (.inl 116) (Int32.toNatClampNeg (h.2.1 (.inl 105) 12)) a1) (.inl 117) (Int32.toNatClampNeg ((mx_uI h (.inl 116) (Int32.toNatClampNeg (h.2.1 (.inl 105) 12)) a1).2.1 (.inl 105) 12)) 0).2.1 (.inl 105) 12 : Int32).toInt = (h.2.1 (.inl 105) 12).toInt from (li_o (by decide +kernel) (li_o (by decide +kernel) rfl))); omega)) (show ((mx_uI (mx_uI h (.inl 116) (Int32.toNatClampNeg (h.2.1 (.inl 105) 12)) a1) (.inl 117) (Int32.toNatClampNeg ((mx_uI h (.inl 116) (Int32.toNatClampNeg (h.2.1 (.inl 105) 12)) a1).2.1 (.inl 105) 12)) 0).2.1 (.inl 117) (Int32.toNatClampNeg ((mx_uI h (.inl 116) (Int32.toNatClampNeg (h.2.1 (.inl 105) 12)) a1).2.1 (.inl 105) 12)) : Int32).toInt ≤ 0 from (by have ⟨b68, b68_⟩ := (show sf_iv 0 199 (h.2.1 (.inl 105) 12) from (iv_w (c := 0) (d := 199) (iv_nel g42 (srd_236_105_12 hI) ivk_200) (by decide +kernel))); have ⟨b69, b69_⟩ := (show sf_iv 0 5 a1 from (iv_w (c := 0) (d := 5) (iv_lel g40.2 (iv_w (c := 0) (d := 2147483647) (iv_ler g40.1 ivk_0 pa1) (by decide +kernel)) ivk_5) (by decide +kernel))); have f70 := li_le g40.1 ivt_0 (show (a1 : Int32).toInt = (a1).toInt from rfl); have f71 := li_le g40.2 (show (a1 : Int32).toInt = (a1).toInt from rfl) ivt_5; have f72 := li_ne g41 ivt_1 ivt_0; have f73 := li_ne g42 (show (h.2.1 (.inl 105) 12 : Int32).toInt = (h.2.1 (.inl 105) 12).toInt from rfl) ivt_200; have e67 := (show ((mx_uI (mx_uI h (.inl 116) (Int32.toNatClampNeg (h.2.1 (.inl 105) 12)) a1) (.inl 117) (Int32.toNatClampNeg ((mx_uI h (.inl 116) (Int32.toNatClampNeg (h.2.1 (.inl 105) 12)) a1).2.1 (.inl 105) 12)) 0).2.1 (.inl 117) (Int32.toNatClampNeg ((mx_uI h (.inl 116) (Int32.toNatClampNeg (h.2.1 (.inl 105) 12)) a1).2.1 (.inl 105) 12)) : Int32).toInt = 0 from (li_s rfl)); omega)))) (sf_Eu (r := 236) rfl (by decide +kernel) (sf_Eu (r := 329) rfl (by decide +kernel) (sf_Eu (r := 328) rfl (by decide +kernel) (sf_E0 _ _)))) (iv_w (c := -3) (d := 199) (iv_sub (lo := 0) (hi := 199) (iv_s (iv_add (lo := 1) (hi := 200) (iv_o (by decide +kernel) (iv_o (by decide +kernel) (iv_w (c := 0) (d := 199) (iv_nel g42 (srd_236_105_12 hI) ivk_200) (by decide +kernel)))) ivk_1 (by decide +kernel))) ivk_1 (by decide +kernel)) (by decide +kernel))  ⟩⟩, fun g74 => hQ _ _ hI (sf_E0 _ _) (iv_w (c := -3) (d := 199) ivk_m3 (by decide +kernel))  ⟩, fun g75 => (iv_no (iv_eql (Decidable.not_not.mp g75) ivk_1 ivk_0) (by decide +kernel)).elim⟩) (fun g76 => hx_i ⟨fun g77 => (iv_no (iv_nel g77 ivk_0 ivk_0) (by decide +kernel)).elim, fun g78 => hQ _ _ hI (sf_E0 _ _) (iv_w (c := -3) (d := 199) ivk_m1 (by decide +kernel))  ⟩))
/-! ===== reference: counting pieces; a shape that is made ===== -/
def sd_CL : List Nat := [1, 2, 3, 4, 5, 8, 9, 10, 11, 15, 16, 17, 22, 23, 29]
def sd_C (l : List Nat) (g : Nat → Bool) : Nat := (l.filter g).length
theorem sd_C_cons {x : Nat} {l : List Nat} {g : Nat → Bool} : sd_C (x :: l) g = sd_C l g + (if g x = true then 1 else 0) := by
  unfold sd_C
  by_cases c : g x = true
  · rw [List.filter_cons_of_pos c, if_pos c, List.length_cons]
  · rw [List.filter_cons_of_neg c, if_neg c, Nat.add_zero]
theorem sd_C_mono {l : List Nat} {g g' : Nat → Bool} (h : ∀ x ∈ l, g x = true → g' x = true) : sd_C l g ≤ sd_C l g' := by
  induction l with
  | nil => exact Nat.le_refl _
  | cons x l ih =>
    rw [sd_C_cons, sd_C_cons]
    have i := ih (fun y hy => h y (List.mem_cons_of_mem _ hy))
    by_cases c : g x = true
    · rw [if_pos c, if_pos (h x List.mem_cons_self c)]
      omega
    · rw [if_neg c]
      omega
theorem sd_C_lt2 {l : List Nat} {g g' : Nat → Bool} {c : Nat} (h : ∀ x ∈ l, g x = true → g' x = true) (hc : c ∈ l) (h0 : ¬ g c = true) (h1 : g' c = true) : sd_C l g + 1 ≤ sd_C l g' := by
  induction l with
  | nil => cases hc
  | cons x l ih =>
    rw [sd_C_cons, sd_C_cons]
    by_cases e : x = c
    · subst e
      rw [if_neg h0, if_pos h1]
      have := sd_C_mono (l := l) (fun y hy => h y (List.mem_cons_of_mem _ hy))
      omega
    · have hc' : c ∈ l := by
        rcases List.mem_cons.mp hc with q | q
        · exact absurd q.symm e
        · exact q
      have i := ih (fun y hy => h y (List.mem_cons_of_mem _ hy)) hc'
      by_cases c : g x = true
      · rw [if_pos c, if_pos (h x List.mem_cons_self c)]
        omega
      · rw [if_neg c]
        omega
theorem sd_C_add1 {l : List Nat} {g g' : Nat → Bool} {c : Nat} (hn : l.Nodup) (h : ∀ x ∈ l, x ≠ c → g' x = true → g x = true) : sd_C l g' ≤ sd_C l g + 1 := by
  induction l with
  | nil => exact Nat.zero_le _
  | cons x l ih =>
    rw [sd_C_cons, sd_C_cons]
    obtain ⟨n1, n2⟩ := List.nodup_cons.mp hn
    by_cases e : x = c
    · subst e
      have := sd_C_mono (l := l) (g := g') (g' := g) (fun y hy q => h y (List.mem_cons_of_mem _ hy) (fun e => n1 (e ▸ hy)) q)
      have : (if g' x = true then 1 else 0) ≤ 1 := by split <;> omega
      omega
    · have i := ih n2 (fun y hy => h y (List.mem_cons_of_mem _ hy))
      by_cases q : g' x = true
      · rw [if_pos q, if_pos (h x List.mem_cons_self e q)]
        omega
      · rw [if_neg q]
        omega
theorem sd_C_15 (g : Nat → Bool) : sd_C sd_CL g ≤ 15 := List.length_filter_le g sd_CL
theorem sd_C_14 {g : Nat → Bool} {c : Nat} (hc : c ∈ sd_CL) (h0 : ¬ g c = true) : sd_C sd_CL g ≤ 14 := by
  have := sd_C_lt2 (g' := fun _ => true) (fun _ _ _ => rfl) hc h0 rfl
  have := sd_C_15 (fun _ => true)
  omega
theorem sd_CLn : sd_CL.Nodup := by decide +kernel
/-- the place of a pair with the lesser corner first -/
theorem sd_pair {a b : Nat} (ha : a < 6) (hb : b < 6) (hn : a ≠ b) : ∃ c ∈ sd_CL, c = 6 * a + b ∨ c = 6 * b + a := by
  have A : ∀ a, a < 6 → ∀ b, b < 6 → a ≠ b → ∃ c ∈ sd_CL, c = 6 * a + b ∨ c = 6 * b + a := by decide +kernel
  exact A a ha b hb hn
/-- with one shape more -/
def sd_u (h : mx_H) (S : Nat) : mx_H := mx_uI h (.inl 105) 1 (nI (S + 1))
theorem sd_uu {h : mx_H} {S : Nat} {n i : Nat} {v : Int32} (q : ¬ (n = 105 ∧ i = 1)) : sd_u (mx_uI h (.inl n) i v) S = mx_uI (sd_u h S) (.inl n) i v := by
  have e : mx_up (mx_up h.2.1 (.inl n) i v) (.inl 105) 1 (nI (S + 1)) = mx_up (mx_up h.2.1 (.inl 105) 1 (nI (S + 1))) (.inl n) i v := by
    funext a j
    unfold mx_up
    by_cases c : a = .inl 105 ∧ j = 1
    · rw [if_pos c, if_neg (fun c2 => q ⟨Sum.inl.inj (c2.1.symm.trans c.1), c2.2.symm.trans c.2⟩), if_pos c]
    · rw [if_neg c, if_neg c]
  show (h.1, mx_up (mx_up h.2.1 (.inl n) i v) (.inl 105) 1 (nI (S + 1)), h.2.2.1, h.2.2.2) = _
  rw [e]
  rfl
theorem sd_ur {h : mx_H} {S n i : Nat} (q : ¬ (n = 105 ∧ i = 1)) : (sd_u h S).2.1 (.inl n) i = h.2.1 (.inl n) i := if_neg (fun c => q ⟨Sum.inl.inj c.1, c.2⟩)
theorem sd_us {h : mx_H} {S : Nat} : (sd_u h S).2.1 (.inl 105) 1 = nI (S + 1) := rfl
theorem sd_up {h : mx_H} {S p : Nat} {b s c : Int32} : sd_u (sx_p h p b s c) S = sx_p (sd_u h S) p b s c := by
  unfold sx_p
  rw [sd_uu (by omega), sd_uu (by omega), sd_uu (by omega)]
theorem sd_dig {s a b S A B : Nat} (ha : a < 6) (hb : b < 6) (hA : A < 6) (hB : B < 6) (e : 36 * s + 6 * a + b = 36 * S + 6 * A + B) : s = S ∧ a = A ∧ b = B := by
  have h1 : s = S := by omega
  subst h1
  have h2 : a = A := by omega
  subst h2
  exact ⟨rfl, rfl, by omega⟩
/-- a piece set both ways, where no body lies -/
theorem sd_set {g : mx_H} {S A B : Nat} {b s c : Int32} (hI : sf_I g) (hS : S ≤ 12) (hA : A < 6) (hB : B < 6) (pb : sf_iv 0 201 b) (ps : sf_iv 1 9 s) (pc : sf_iv 0 9 c)
    (hf : ∀ x : Nat, (x : Int) < (g.2.1 (.inl 105) 12).toInt → (g.2.1 (.inl 117) x).toInt ≠ ((36 * S + 6 * A + B : Nat) : Int) + 1 ∧ (g.2.1 (.inl 117) x).toInt ≠ ((36 * S + 6 * B + A : Nat) : Int) + 1) :
    sf_I (sx_p (sx_p g (36 * S + 6 * A + B) b s c) (36 * S + 6 * B + A) b s c) := by
  have ps0 : sf_iv 0 9 s := ⟨by have := ps.1; omega, ps.2⟩
  generalize hp1 : 36 * S + 6 * A + B = p1
  generalize hp2 : 36 * S + 6 * B + A = p2
  have B0 : sf_B (sx_p (sx_p g p1 b s c) p2 b s c) := sf_uB (r := 324) (sf_uB (r := 323) (sf_uB (r := 325) (sf_uB (r := 324) (sf_uB (r := 323) (sf_uB (r := 325) hI.B rfl pb (by decide +kernel)) rfl ps0 (by decide +kernel)) rfl pc (by decide +kernel)) rfl pb (by decide +kernel)) rfl ps0 (by decide +kernel)) rfl pc (by decide +kernel)
  refine B0.I ?_
  generalize hg : sx_p (sx_p g p1 b s c) p2 b s c = g'
  have e1 : ∀ i, g'.2.1 (.inl 113) i = if i = p1 ∨ i = p2 then b else g.2.1 (.inl 113) i := fun i => by
    subst hg
    unfold sx_p
    rw [sf_ro (by decide +kernel), sf_ro (by decide +kernel)]
    by_cases c2 : i = p2
    · rw [c2, sf_rs, if_pos (Or.inr rfl)]
    · rw [sf_roi c2, sf_ro (by decide +kernel), sf_ro (by decide +kernel)]
      by_cases c1 : i = p1
      · rw [c1, sf_rs, if_pos (Or.inl rfl)]
      · rw [sf_roi c1, if_neg (by omega)]
  have e2 : ∀ i, g'.2.1 (.inl 111) i = if i = p1 ∨ i = p2 then s else g.2.1 (.inl 111) i := fun i => by
    subst hg
    unfold sx_p
    rw [sf_ro (by decide +kernel)]
    by_cases c2 : i = p2
    · rw [c2, sf_rs, if_pos (Or.inr rfl)]
    · rw [sf_roi c2, sf_ro (by decide +kernel), sf_ro (by decide +kernel)]
      by_cases c1 : i = p1
      · rw [c1, sf_rs, if_pos (Or.inl rfl)]
      · rw [sf_roi c1, sf_ro (by decide +kernel), if_neg (by omega)]
  have o : ∀ n i, n ≠ 111 ∧ n ≠ 112 ∧ n ≠ 113 → sf_jf g' (.inl n) i = sf_jf g (.inl n) i := fun n i hn => by
    subst hg
    exact (sf_JRo _ _ (by omega)).trans ((sf_JRo _ _ (by omega)).trans ((sf_JRo _ _ (by omega)).trans ((sf_JRo _ _ (by omega)).trans ((sf_JRo _ _ (by omega)).trans (sf_JRo _ _ (by omega))))))
  have o2 : ∀ q i, sf_jf g' (.inr q) i = sf_jf g (.inr q) i := fun q i => by
    subst hg
    exact (sf_jf_o (fun q => by cases q.1)).trans ((sf_jf_o (fun q => by cases q.1)).trans ((sf_jf_o (fun q => by cases q.1)).trans ((sf_jf_o (fun q => by cases q.1)).trans ((sf_jf_o (fun q => by cases q.1)).trans (sf_jf_o (fun q => by cases q.1))))))
  have eR : g'.2.2.2 = g.2.2.2 := by subst hg; rfl
  have en : g'.1 = g.1 := by subst hg; rfl
  obtain ⟨hC, k1, k2, k3, k4, k5⟩ := hI.2.2
  unfold sf_J
  rw [eR, en]
  refine ⟨sf_JC_c (fun k i hk => o k i (by omega)) o2 hC, ?_, ?_, ?_, ?_, ?_⟩
  · unfold sf_K1 at *
    simp only [o 105 _ (by simp), o 123 _ (by simp), o 124 _ (by simp), o 125 _ (by simp), o 126 _ (by simp)]
    exact k1
  · unfold sf_K2 at *
    simp only [o 105 _ (by simp), o 106 _ (by simp), o 107 _ (by simp)]
    exact k2
  · intro p q1 q2
    rw [o _ _ (by omega)] at q1
    rw [sf_r1, e1] at q2
    rw [sf_r2, e2]
    by_cases c : p = p1 ∨ p = p2
    · rw [if_pos c]
      exact ps.1
    · rw [if_neg c] at q2 ⊢
      have := k3 p q1 (by rw [sf_r1]; exact q2)
      rw [sf_r2] at this
      exact this
  · intro s' a' b' q1 ha' hb'
    rw [o _ _ (by omega)] at q1
    rw [sf_r1, sf_r1, e1, e1]
    by_cases c : 36 * s' + 6 * a' + b' = p1 ∨ 36 * s' + 6 * a' + b' = p2
    · rw [if_pos c, if_pos]
      rcases c with c | c
      · obtain ⟨d1, d2, d3⟩ := sd_dig ha' hb' hA hB (c.trans hp1.symm)
        subst d1
        subst d2
        subst d3
        exact Or.inr hp2
      · obtain ⟨d1, d2, d3⟩ := sd_dig ha' hb' hB hA (c.trans hp2.symm)
        subst d1
        subst d2
        subst d3
        exact Or.inl hp1
    · rw [if_neg c, if_neg]
      · skip
        have := k4 s' a' b' q1 ha' hb'
        rw [sf_r1, sf_r1] at this
        exact this
      · intro c'
        refine c ?_
        rcases c' with c' | c'
        · obtain ⟨d1, d2, d3⟩ := sd_dig hb' ha' hA hB (c'.trans hp1.symm)
          subst d1
          subst d2
          subst d3
          exact Or.inr hp2
        · obtain ⟨d1, d2, d3⟩ := sd_dig hb' ha' hB hA (c'.trans hp2.symm)
          subst d1
          subst d2
          subst d3
          exact Or.inl hp1
  · intro x hx h0
    rw [o _ _ (by omega)] at hx
    rw [o 117 _ (by omega)] at h0 ⊢
    obtain ⟨s', x', y', q1, q2, q3, q4, q5, q6⟩ := k5 x hx h0
    rw [sf_bo0] at hx
    have f := hf x hx
    rw [sf_bo1] at q1
    refine ⟨s', x', y', by rw [sf_bo1]; exact q1, by rw [o _ _ (by omega)]; exact q2, by rw [o _ _ (by omega)]; exact q3, by rw [o _ _ (by omega)]; exact q4, q5, ?_⟩
    rw [sf_r1, e1, if_neg (by omega)]
    rw [sf_r1] at q6
    exact q6
/-- one body more, on its piece -/
theorem sd_pp {g : mx_H} {S A B N : Nat} (hI : sf_I g) (hS : (S : Int) < (g.2.1 (.inl 105) 1).toInt) (hA : (A : Int) < (g.2.1 (.inl 106) S).toInt) (hB : (B : Int) < (g.2.1 (.inl 106) S).toInt) (hn : A ≠ B) (hb : g.2.1 (.inl 105) 12 = nI N) (hN : N < 200) (hl : (g.2.1 (.inl 117) N).toInt = ((36 * S + 6 * A + B : Nat) : Int) + 1) (ho : (g.2.1 (.inl 113) (36 * S + 6 * A + B)).toInt = (N : Int) + 1) : sf_I (mx_uI g (.inl 105) 12 (nI (N + 1))) := by
  refine sf_uJ (r := 236) (lo := 0) (hi := 200) hI rfl (sf_nI (by omega) (by decide +kernel)) (by decide +kernel) ?_
  have o : ∀ n i, ¬ (n = 105 ∧ i = 12) → sf_jf (mx_uI g (.inl 105) 12 (nI (N + 1))) (.inl n) i = sf_jf g (.inl n) i := fun n i hn => sf_JRo _ _ hn
  refine sf_Jk5 (h := g) (fun n i hn => o n i (by omega)) (fun q i => sf_jf_o (fun q => by cases q.1)) rfl rfl hI.2.2 ?_
  intro b hb' h0
  rw [sf_bo0, sf_rs, nI_toInt (by omega)] at hb'
  rw [o 117 b (by omega)] at h0 ⊢
  by_cases e : b < N
  · obtain ⟨s, p, q, q1, q2, q3, q4, q5, q6⟩ := hI.2.2.2.2.2.2.2 b (by rw [sf_bo0, hb, nI_toInt (by omega)]; omega) h0
    exact ⟨s, p, q, q1, by rw [o 105 1 (by omega)]; exact q2, by rw [o 106 s (by omega)]; exact q3, by rw [o 106 s (by omega)]; exact q4, q5, by rw [o 113 _ (by omega)]; exact q6⟩
  · have : b = N := by omega
    subst this
    refine ⟨S, A, B, by rw [sf_bo1]; exact hl, ?_, ?_, ?_, hn, ?_⟩
    · rw [o 105 1 (by omega), sf_jfr (r := 225) rfl rfl]
      exact hS
    · rw [o 106 S (by omega), sf_jfr (r := 318) rfl rfl]
      exact hA
    · rw [o 106 S (by omega), sf_jfr (r := 318) rfl rfl]
      exact hB
    · rw [o 113 _ (by omega), sf_r1]
      exact ho
/-! ===== reference: bear, exactly; what it keeps ===== -/
def sx_b (h : mx_H) (S A B N : Nat) : mx_H := mx_uI (sx_p (sx_p (mx_uI (mx_uI h (.inl 116) N 1) (.inl 117) N (nI (36 * S + 6 * A + B + 1))) (36 * S + 6 * A + B) (nI (N + 1)) (h.2.1 (.inl 111) (36 * S + 6 * A + B)) (h.2.1 (.inl 112) (36 * S + 6 * A + B))) (36 * S + 6 * B + A) (nI (N + 1)) (h.2.1 (.inl 111) (36 * S + 6 * A + B)) (h.2.1 (.inl 112) (36 * S + 6 * A + B))) (.inl 105) 12 (nI (N + 1))
theorem sx193 {E : mx_Ev} {d : Nat} {h : mx_H} {Q : Option mx_V → mx_H → Prop} {S A B N : Nat} (hS : S ≤ 12) (hA : A < 6) (hB : B < 6) (hb : h.2.1 (.inl 105) 12 = nI N) (hN : N < 200) (hQ : Q none (sx_b h S A B N)) : mx_C E (mx_fn true) (d + 2) 193 [.inr (.inl 105), .inl (.int (nI S)), .inl (.int (nI A)), .inl (.int (nI B))] h Q := by
  have vN : vp_in (nI N) 200 := vp_in_nI hN (by decide +kernel)
  have v1 : vp_in (nI (36 * S + 6 * A + B)) 468 := vp_in_nI (by omega) (by decide +kernel)
  refine sg193_0 ⟨by rw [hb]; exact vN, sg179_0 (hx_i ?_)⟩
  rw [nI_36]
  have e1 : (mx_uI h (.inl 116) (Int32.toNatClampNeg (h.2.1 (.inl 105) 12)) 1).2.1 (.inl 105) 12 = nI N := hb
  rw [e1]
  refine ⟨vN, sg179_0 (hx_i ?_)⟩
  rw [nI_36]
  refine ⟨v1, sg179_0 (hx_i ?_)⟩
  rw [nI_36]
  refine ⟨v1, ?_⟩
  rw [nI_clamp (show 36 * S + 6 * A + B < 2 ^ 31 by omega), nI_clamp (show N < 2 ^ 31 by omega)]
  refine sx181 hS (by omega) (by omega) (hx_n ?_)
  have e2 : ∀ w : Int32, (mx_uI (mx_uI h (.inl 116) (Int32.toNatClampNeg (h.2.1 (.inl 105) 12)) 1) (.inl 117) N w).2.1 (.inl 105) 12 = nI N := fun w => hb
  rw [e2, nI_1, nI_1, hb, nI_clamp (show N < 2 ^ 31 by omega)]
  have e3 : ∀ (k : mx_H) (b1 b2 s1 s2 c1 c2 : Int32) (p q : Nat), (sx_p (sx_p k p b1 s1 c1) q b2 s2 c2).2.1 (.inl 105) 12 = k.2.1 (.inl 105) 12 := fun _ _ _ _ _ _ _ _ _ => rfl
  rw [e3]
  have e4 : ∀ w : Int32, (mx_uI (mx_uI h (.inl 116) N 1) (.inl 117) N w).2.1 (.inl 105) 12 = nI N := fun w => hb
  rw [e4, nI_1]
  exact hQ
theorem sx_bE {m : Nat} {h0 h : mx_H} {S A B N : Nat} (h1 : m.testBit 328 = true) (h2 : m.testBit 329 = true) (h3 : m.testBit 325 = true) (h4 : m.testBit 323 = true) (h5 : m.testBit 324 = true) (h6 : m.testBit 236 = true) (hE : sf_E m h0 h) : sf_E m h0 (sx_b h S A B N) :=
  sf_Eu (r := 236) rfl h6 (sf_Ep h3 h4 h5 (sf_Ep h3 h4 h5 (sf_Eu (r := 329) rfl h2 (sf_Eu (r := 328) rfl h1 hE))))
theorem sd_bear {h : mx_H} {S A B N : Nat} (hI : sf_I (sd_u h S)) (hS : S ≤ 11) (hA : A < 6) (hB : B < 6) (hn : A ≠ B) (cA : (A : Int) < (h.2.1 (.inl 106) S).toInt) (cB : (B : Int) < (h.2.1 (.inl 106) S).toInt) (hb : h.2.1 (.inl 105) 12 = nI N) (hN : N < 200) (st1 : 1 ≤ (h.2.1 (.inl 111) (36 * S + 6 * A + B)).toInt)
    (free : ∀ x : Nat, x < N → (h.2.1 (.inl 117) x).toInt ≠ ((36 * S + 6 * A + B : Nat) : Int) + 1 ∧ (h.2.1 (.inl 117) x).toInt ≠ ((36 * S + 6 * B + A : Nat) : Int) + 1) : sf_I (sd_u (sx_b h S A B N) S) := by
  unfold sx_b
  rw [sd_uu (by omega), sd_up, sd_up, sd_uu (by omega), sd_uu (by omega)]
  have hbg : (sd_u h S).2.1 (.inl 105) 12 = nI N := (sd_ur (by omega)).trans hb
  have I1 : sf_I (mx_uI (sd_u h S) (.inl 116) N 1) := sf_uI (r := 328) hI rfl ivk_1 (by decide +kernel)
  have I2 : sf_I (mx_uI (mx_uI (sd_u h S) (.inl 116) N 1) (.inl 117) N (nI (36 * S + 6 * A + B + 1))) := by
    refine sf_uJ (r := 329) (lo := 0) (hi := 468) I1 rfl (sf_nI (by omega) (by decide +kernel)) (by decide +kernel) ?_
    have q := sf_K5at (x := nI N) (v := nI (36 * S + 6 * A + B + 1)) I1 (by rw [sf_ro (by decide +kernel), hbg]; exact Int.le_refl _)
    rw [nI_clamp (by omega)] at q
    exact q
  have ps := sf_rd (r := 323) (lo := 0) (hi := 9) hI (.inl 111) (36 * S + 6 * A + B) rfl rfl
  have pc := sf_rd (r := 324) (lo := 0) (hi := 9) hI (.inl 112) (36 * S + 6 * A + B) rfl rfl
  rw [sd_ur (by omega)] at ps pc
  have I3 := sd_set (b := nI (N + 1)) (A := A) (B := B) I2 (show S ≤ 12 by omega) hA hB (sf_nI (by omega) (by decide +kernel)) ⟨st1, ps.2⟩ pc (fun x hx => by
    rw [sf_ro (by decide +kernel), sf_ro (by decide +kernel), hbg, nI_toInt (by omega)] at hx
    rw [sf_roi (show ¬ x = N by omega), sf_ro (by decide +kernel), sd_ur (by omega)]
    exact free x (by omega))
  refine sd_pp (S := S) (A := A) (B := B) I3 ?_ ?_ ?_ hn ?_ hN ?_ ?_
  · show ((S : Nat) : Int) < (nI (S + 1)).toInt
    rw [nI_toInt (by omega)]
    omega
  · exact cA
  · exact cB
  · exact hb
  · have e : ∀ (k : mx_H) (b1 b2 s1 s2 c1 c2 : Int32) (p q i : Nat), (sx_p (sx_p k p b1 s1 c1) q b2 s2 c2).2.1 (.inl 117) i = k.2.1 (.inl 117) i := fun _ _ _ _ _ _ _ _ _ _ => rfl
    rw [e, sf_rs, nI_toInt (by omega)]
    omega
  · unfold sx_p
    rw [sf_ro (by decide +kernel), sf_ro (by decide +kernel)]
    by_cases c : 36 * S + 6 * A + B = 36 * S + 6 * B + A
    · rw [c, sf_rs, nI_toInt (by omega)]
      omega
    · rw [sf_roi c, sf_ro (by decide +kernel), sf_ro (by decide +kernel), sf_rs, nI_toInt (by omega)]
      omega
/-! ===== reference: what is known of a shape that is read ===== -/
def sd_Zp (h : mx_H) (s : Int32) (K : Int) : Prop := ∀ p : Nat, ((36 * s.toNatClampNeg + p : Nat) : Int) < K → (h.2.1 (.inl 113) (36 * s.toNatClampNeg + p)).toInt = 0
def sd_Z (h : mx_H) (s : Int32) : Prop := (h.2.1 (.inl 106) s.toNatClampNeg).toInt = 0 ∧ ∀ p : Nat, p < 36 → (h.2.1 (.inl 113) (36 * s.toNatClampNeg + p)).toInt = 0
theorem sd_Zp0 {h : mx_H} {s : Int32} {K : Int} (h0 : 0 ≤ s.toInt) (hK : K ≤ 36 * s.toInt) : sd_Zp h s K := fun p hp => by
  have := sf_cl h0
  omega
theorem sd_Zpc {h : mx_H} {s : Int32} {K K' : Int} (q : sd_Zp h s K) (hK : K' ≤ K) : sd_Zp h s K' := fun p hp => q p (by omega)
theorem sd_Zpu {h : mx_H} {s : Int32} {K : Int} {a : mx_A} {i r : Nat} {v : Int32} (e : sf_rg a i = r) (hr : (r != 325) = true) (q : sd_Zp h s K) : sd_Zp (mx_uI h a i v) s K := by
  subst e
  rw [bne_iff_ne] at hr
  intro p hp
  rw [show (mx_uI h a i v).2.1 (.inl 113) (36 * s.toNatClampNeg + p) = h.2.1 (.inl 113) (36 * s.toNatClampNeg + p) from if_neg (fun c => hr (by rw [← c.1]; rfl))]
  exact q p hp
theorem sd_Zps {h : mx_H} {s x v : Int32} {K : Int} (q : sd_Zp h s K) (h0 : 0 ≤ x.toInt) (hx : x.toInt = K) (hv : v.toInt = 0) : sd_Zp (mx_uI h (.inl 113) x.toNatClampNeg v) s (K + 1) := by
  intro p hp
  by_cases e : 36 * s.toNatClampNeg + p = x.toNatClampNeg
  · rw [e, sf_rs]
    exact hv
  · rw [sf_roi e]
    have := sf_cl h0
    exact q p (by omega)
theorem sd_Zi {h : mx_H} {s : Int32} {K : Int} (h0 : 0 ≤ s.toInt) (q : sd_Zp h s K) (hK : 36 * s.toInt + 36 ≤ K) (hc : (h.2.1 (.inl 106) s.toNatClampNeg).toInt = 0) : sd_Z h s := ⟨hc, fun p hp => q p (by have := sf_cl h0; omega)⟩
/-- corners are heavy, pieces stiff and both ways, the list names them -/
def sd_Gb (h : mx_H) (S n : Nat) : Prop :=
  (∀ c : Nat, (c : Int) < (h.2.1 (.inl 106) S).toInt → 1 ≤ (h.2.1 (.inl 107) (6 * S + c)).toInt) ∧
  (∀ p : Nat, p < 36 → 0 < (h.2.1 (.inl 113) (36 * S + p)).toInt → 1 ≤ (h.2.1 (.inl 111) (36 * S + p)).toInt) ∧
  (∀ a b : Nat, a < 6 → b < 6 → h.2.1 (.inl 113) (36 * S + 6 * a + b) = h.2.1 (.inl 113) (36 * S + 6 * b + a)) ∧
  (∀ k : Nat, k < n → ∃ a b : Nat, h.2.1 (.inl 119) k = nI a ∧ h.2.1 (.inl 120) k = nI b ∧ a < 6 ∧ b < 6 ∧ a ≠ b ∧ (a : Int) < (h.2.1 (.inl 106) S).toInt ∧ (b : Int) < (h.2.1 (.inl 106) S).toInt ∧ 0 < (h.2.1 (.inl 113) (36 * S + 6 * a + b)).toInt) ∧
  (∀ k k' : Nat, k < k' → k' < n → ¬ (h.2.1 (.inl 119) k = h.2.1 (.inl 119) k' ∧ h.2.1 (.inl 120) k = h.2.1 (.inl 120) k') ∧ ¬ (h.2.1 (.inl 119) k = h.2.1 (.inl 120) k' ∧ h.2.1 (.inl 120) k = h.2.1 (.inl 119) k'))
def sd_P (h : mx_H) (S : Nat) (B : Int) (c : Nat) : Bool := decide (0 < (h.2.1 (.inl 113) (36 * S + c)).toInt) && decide ((h.2.1 (.inl 113) (36 * S + c)).toInt ≤ B)
def sd_G (h : mx_H) : Prop := ∃ S n : Nat, (h.2.1 (.inl 105) 1).toInt = S ∧ S ≤ 11 ∧ (h.2.1 (.inl 105) 19).toInt = n ∧ sd_Gb h S n ∧ n ≤ sd_C sd_CL (sd_P h S 1000)
def sd_G1 (h : mx_H) (a b : Int32) : Prop := ∃ S n A B : Nat, (h.2.1 (.inl 105) 1).toInt = S ∧ S ≤ 11 ∧ (h.2.1 (.inl 105) 19).toInt = n ∧ sd_Gb h S n ∧ n + 1 ≤ sd_C sd_CL (sd_P h S 1000) ∧ a = nI A ∧ b = nI B ∧ A < 6 ∧ B < 6 ∧ A ≠ B ∧ (A : Int) < (h.2.1 (.inl 106) S).toInt ∧ (B : Int) < (h.2.1 (.inl 106) S).toInt ∧ 0 < (h.2.1 (.inl 113) (36 * S + 6 * A + B)).toInt ∧
  ∀ k, k < n → ¬ (h.2.1 (.inl 119) k = a ∧ h.2.1 (.inl 120) k = b) ∧ ¬ (h.2.1 (.inl 119) k = b ∧ h.2.1 (.inl 120) k = a)
theorem sd_Gc {h h' : mx_H} (e1 : h'.2.1 (.inl 105) 1 = h.2.1 (.inl 105) 1) (e2 : h'.2.1 (.inl 105) 19 = h.2.1 (.inl 105) 19) (e3 : ∀ n i, n = 106 ∨ n = 107 ∨ n = 111 ∨ n = 113 ∨ n = 119 ∨ n = 120 → h'.2.1 (.inl n) i = h.2.1 (.inl n) i) (q : sd_G h) : sd_G h' := by
  unfold sd_G sd_Gb sd_P at *
  simp only [e1, e2, e3 106 _ (by simp), e3 107 _ (by simp), e3 111 _ (by simp), e3 113 _ (by simp), e3 119 _ (by simp), e3 120 _ (by simp)]
  exact q
def sd_reg (r : Nat) : Bool := r != 225 && (r != 243 && (r != 318 && (r != 319 && (r != 323 && (r != 325 && (r != 331 && r != 332))))))
theorem sd_Gu {h : mx_H} {a : mx_A} {i r : Nat} {v : Int32} (e : sf_rg a i = r) (hr : sd_reg r = true) (q : sd_G h) : sd_G (mx_uI h a i v) := by
  subst e
  unfold sd_reg at hr
  simp only [Bool.and_eq_true, bne_iff_ne] at hr
  obtain ⟨r1, r2, r3, r4, r5, r6, r7, r8⟩ := hr
  refine sd_Gc (if_neg (fun c => r1 (by rw [← c.1, ← c.2]; rfl))) (if_neg (fun c => r2 (by rw [← c.1, ← c.2]; rfl))) (fun n j hn => if_neg (fun c => ?_)) q
  rcases hn with rfl | rfl | rfl | rfl | rfl | rfl
  · exact r3 (by rw [← c.1]; rfl)
  · exact r4 (by rw [← c.1]; rfl)
  · exact r5 (by rw [← c.1]; rfl)
  · exact r6 (by rw [← c.1]; rfl)
  · exact r7 (by rw [← c.1]; rfl)
  · exact r8 (by rw [← c.1]; rfl)
theorem sd_Ge {m : Nat} {h h' : mx_H} (hE : sf_E m h h') (hm : (!m.testBit 225 && (!m.testBit 243 && (!m.testBit 318 && (!m.testBit 319 && (!m.testBit 323 && (!m.testBit 325 && (!m.testBit 331 && !m.testBit 332))))))) = true) (q : sd_G h) : sd_G h' := by
  simp only [Bool.and_eq_true, Bool.not_eq_true'] at hm
  obtain ⟨r1, r2, r3, r4, r5, r6, r7, r8⟩ := hm
  refine sd_Gc (hE.1 _ _ r1) (hE.1 _ _ r2) (fun n j hn => ?_) q
  rcases hn with rfl | rfl | rfl | rfl | rfl | rfl
  · exact hE.1 (.inl 106) j r3
  · exact hE.1 (.inl 107) j r4
  · exact hE.1 (.inl 111) j r5
  · exact hE.1 (.inl 113) j r6
  · exact hE.1 (.inl 119) j r7
  · exact hE.1 (.inl 120) j r8
theorem sd_cl {x : Int32} {n : Nat} (h : x.toInt = n) : x.toNatClampNeg = n := by
  show x.toInt.toNat = n
  omega
theorem sd_G0 {h : mx_H} {s : Int32} (hI : sf_I h) (z : sd_Z h s) (hs : s.toInt = (h.2.1 (.inl 105) 1).toInt) (h11 : s.toInt ≤ 11) (hn : (h.2.1 (.inl 105) 19).toInt = 0) : sd_G h := by
  have b := sf_rd (r := 225) (lo := 0) (hi := 12) hI (.inl 105) 1 rfl rfl
  have hc := sf_cl (x := s) (by have := b.1; omega)
  refine ⟨s.toNatClampNeg, 0, by omega, by omega, hn, ⟨fun c q => ?_, fun p hp q => ?_, fun a c ha hb => ?_, fun k hk => ?_, fun k k' hk hk' => ?_⟩, Nat.zero_le _⟩
  · rw [z.1] at q
    omega
  · rw [z.2 p hp] at q
    omega
  · apply Int32.toInt_inj.mp
    rw [show 36 * s.toNatClampNeg + 6 * a + c = 36 * s.toNatClampNeg + (6 * a + c) by omega, show 36 * s.toNatClampNeg + 6 * c + a = 36 * s.toNatClampNeg + (6 * c + a) by omega, z.2 _ (by omega), z.2 _ (by omega)]
  · omega
  · omega
theorem sd_G107 {h : mx_H} {x v s : Int32} (hI : sf_I h) (q : sd_G h) (hs : s.toInt = (h.2.1 (.inl 105) 1).toInt) (hx : x.toInt = 6 * s.toInt + (h.2.1 (.inl 106) s.toNatClampNeg).toInt) : sd_G (mx_uI h (.inl 107) x.toNatClampNeg v) := by
  obtain ⟨S, n, q1, q2, q3, ⟨d2, d3, d4, dl, dd⟩, q5⟩ := q
  have es := sd_cl (hs.trans q1)
  rw [es] at hx
  have b := sf_rd (r := 318) (lo := 0) (hi := 6) hI (.inl 106) S rfl rfl
  have hc := sf_cl (x := x) (by have := b.1; omega)
  refine ⟨S, n, q1, q2, q3, ⟨fun c hc' => ?_, d3, d4, dl, dd⟩, q5⟩
  have hc2 : (c : Int) < (h.2.1 (.inl 106) S).toInt := hc'
  rw [sf_roi (by omega)]
  exact d2 c hc2
theorem sd_G106 {h : mx_H} {s w x : Int32} (hI : sf_I h) (q : sd_G h) (hs : s.toInt = (h.2.1 (.inl 105) 1).toInt) (hw : w.toInt = (h.2.1 (.inl 106) s.toNatClampNeg).toInt + 1) (hx : x.toInt = 6 * s.toInt + (h.2.1 (.inl 106) s.toNatClampNeg).toInt) (hv : 1 ≤ (h.2.1 (.inl 107) x.toNatClampNeg).toInt) : sd_G (mx_uI h (.inl 106) s.toNatClampNeg w) := by
  obtain ⟨S, n, q1, q2, q3, ⟨d2, d3, d4, dl, dd⟩, q5⟩ := q
  have es := sd_cl (hs.trans q1)
  rw [es] at hx hw ⊢
  have b := sf_rd (r := 318) (lo := 0) (hi := 6) hI (.inl 106) S rfl rfl
  have hc := sf_cl (x := x) (by have := b.1; omega)
  have e6 : (mx_uI h (.inl 106) S w).2.1 (.inl 106) S = w := sf_rs
  refine ⟨S, n, q1, q2, q3, ⟨fun c hc' => ?_, d3, d4, fun k hk => ?_, dd⟩, q5⟩
  · rw [e6, hw] at hc'
    show 1 ≤ (h.2.1 (.inl 107) (6 * S + c)).toInt
    by_cases e : (c : Int) = (h.2.1 (.inl 106) S).toInt
    · rw [show 6 * S + c = x.toNatClampNeg by omega]
      exact hv
    · exact d2 c (by omega)
  · obtain ⟨a, b', r1, r2, r3, r4, r5, r6, r7, r8⟩ := dl k hk
    refine ⟨a, b', r1, r2, r3, r4, r5, ?_, ?_, r8⟩
    · rw [e6, hw]
      omega
    · rw [e6, hw]
      omega
/-- no piece lies there -/
def sd_no (h : mx_H) (s a b : Int32) : Prop := (h.2.1 (.inl 113) (36 * s.toNatClampNeg + 6 * a.toNatClampNeg + b.toNatClampNeg)).toInt ≤ 0
theorem sd_noi {h : mx_H} {x s a b : Int32} (hs : 0 ≤ s.toInt) (ha : 0 ≤ a.toInt) (hb : 0 ≤ b.toInt) (hx : x.toInt = 36 * s.toInt + 6 * a.toInt + b.toInt) (hv : (h.2.1 (.inl 113) x.toNatClampNeg).toInt ≤ 0) : sd_no h s a b := by
  have e1 := sf_cl hs
  have e2 := sf_cl ha
  have e3 := sf_cl hb
  have e4 := sf_cl (x := x) (by omega)
  unfold sd_no
  rw [show 36 * s.toNatClampNeg + 6 * a.toNatClampNeg + b.toNatClampNeg = x.toNatClampNeg by omega]
  exact hv
theorem sd_pr {h : mx_H} {S : Nat} {p1 p2 : Nat} {b s c : Int32} (i : Nat) : (sx_p (sx_p h p1 b s c) p2 b s c).2.1 (.inl 113) i = if i = p1 ∨ i = p2 then b else h.2.1 (.inl 113) i := by
  unfold sx_p
  rw [sf_ro (by decide +kernel), sf_ro (by decide +kernel)]
  by_cases c2 : i = p2
  · rw [c2, sf_rs, if_pos (Or.inr rfl)]
  · rw [sf_roi c2, sf_ro (by decide +kernel), sf_ro (by decide +kernel)]
    by_cases c1 : i = p1
    · rw [c1, sf_rs, if_pos (Or.inl rfl)]
    · rw [sf_roi c1, if_neg (by omega)]
theorem sd_sr {h : mx_H} {p1 p2 : Nat} {b s c : Int32} (i : Nat) : (sx_p (sx_p h p1 b s c) p2 b s c).2.1 (.inl 111) i = if i = p1 ∨ i = p2 then s else h.2.1 (.inl 111) i := by
  unfold sx_p
  rw [sf_ro (by decide +kernel)]
  by_cases c2 : i = p2
  · rw [c2, sf_rs, if_pos (Or.inr rfl)]
  · rw [sf_roi c2, sf_ro (by decide +kernel), sf_ro (by decide +kernel)]
    by_cases c1 : i = p1
    · rw [c1, sf_rs, if_pos (Or.inl rfl)]
    · rw [sf_roi c1, sf_ro (by decide +kernel), if_neg (by omega)]
/-- a piece that is read -/
theorem sf181r {E : mx_Ev} {d : Nat} {h : mx_H} {Q : Option mx_V → mx_H → Prop} {a1 a2 a3 a4 a5 a6 : Int32} (pa1 : sf_iv 0 12 a1) (pa2 : sf_iv 0 5 a2) (pa3 : sf_iv 0 5 a3) (pa4 : sf_iv 0 0 a4) (pa5 : sf_iv 1 9 a5) (pa6 : sf_iv 0 9 a6) (r0 : a1.toInt = (h.2.1 (.inl 105) 1).toInt) (r1 : ¬ a2.toInt = a3.toInt) (g_co : a2.toInt < (h.2.1 (.inl 106) a1.toNatClampNeg).toInt ∧ a3.toInt < (h.2.1 (.inl 106) a1.toNatClampNeg).toInt) (g_no : sd_no h a1 a2 a3) (g_G : sd_G h) (hI : sf_I h)
    (hQ : ∀ h', sf_I h' → sf_E 119615274011570964614121215545494918417751453251972555117034330038044304643715870801285876868448256 h h' → sd_G1 h' a2 a3 → Q none h') : mx_C E (mx_fn true) (d + 1) 181 [.inr (.inl 105), .inl (.int a1), .inl (.int a2), .inl (.int a3), .inl (.int a4), .inl (.int a5), .inl (.int a6)] h Q := by
  obtain ⟨S, n, q1, q2, q3, ⟨d2, d3, d4, dl, dd⟩, q5⟩ := g_G
  have es : a1 = nI S := Int32.toInt_inj.mp (by rw [nI_toInt (by omega)]; omega)
  subst es
  obtain ⟨A, hA, rfl⟩ := sf_of (b := 5) pa2
  obtain ⟨B, hB, rfl⟩ := sf_of (b := 5) pa3
  have e4 : a4 = 0 := Int32.toInt_inj.mp (by have := pa4.1; have := pa4.2; show a4.toInt = 0; omega)
  subst e4
  unfold sd_no at g_no
  rw [nI_clamp (by omega), nI_clamp (by omega), nI_clamp (by omega)] at g_no
  rw [nI_clamp (by omega), nI_toInt (by omega), nI_toInt (by omega)] at g_co
  rw [nI_toInt (by omega), nI_toInt (by omega)] at r1
  have hAB : A ≠ B := fun e => r1 (by rw [e])
  have h36 : 36 * (h.2.1 (.inl 105) 1).toInt ≤ ((36 * S + 6 * A + B : Nat) : Int) := by omega
  have ps0 : sf_iv 0 9 a5 := ⟨by have := pa5.1; omega, pa5.2⟩
  have p1' : sf_iv 0 201 (0 + 1) := ⟨by decide +kernel, by decide +kernel⟩
  have I1 := sf_Kbp (p := 36 * S + 6 * A + B) hI p1' ps0 pa6 h36
  have I2 := sf_Kbp (p := 36 * S + 6 * B + A) I1 p1' ps0 pa6 (show 36 * (h.2.1 (.inl 105) 1).toInt ≤ ((36 * S + 6 * B + A : Nat) : Int) by omega)
  refine sx181 (show S ≤ 12 by omega) hA hB (hQ _ I2 (sf_Ep (by decide +kernel) (by decide +kernel) (by decide +kernel) (sf_Ep (by decide +kernel) (by decide +kernel) (by decide +kernel) (sf_E0 _ _))) ?_)
  have one : (0 + 1 : Int32).toInt = 1 := rfl
  -- what lies at a place behind it
  have g0 : ∀ k, k < n → ∀ a b : Nat, h.2.1 (.inl 119) k = nI a → h.2.1 (.inl 120) k = nI b → a < 6 → b < 6 → 0 < (h.2.1 (.inl 113) (36 * S + 6 * a + b)).toInt → ¬ (a = A ∧ b = B) ∧ ¬ (a = B ∧ b = A) := fun k hk a b r1 r2 r3 r4 r8 => by
    refine ⟨fun c => ?_, fun c => ?_⟩
    · rw [c.1, c.2] at r8
      omega
    · rw [c.1, c.2, d4 B A (by omega) (by omega)] at r8
      omega
  refine ⟨S, n, A, B, q1, q2, q3, ⟨d2, fun p hp hq => ?_, fun a b ha hb => ?_, fun k hk => ?_, dd⟩, ?_, rfl, rfl, by omega, by omega, hAB, g_co.1, g_co.2, ?_, fun k hk => ?_⟩
  · rw [sd_pr (S := S)] at hq
    rw [sd_sr]
    by_cases c : 36 * S + p = 36 * S + 6 * A + B ∨ 36 * S + p = 36 * S + 6 * B + A
    · rw [if_pos c]
      exact pa5.1
    · rw [if_neg c] at hq ⊢
      exact d3 p hp hq
  · rw [sd_pr (S := S), sd_pr (S := S)]
    by_cases c : 36 * S + 6 * a + b = 36 * S + 6 * A + B ∨ 36 * S + 6 * a + b = 36 * S + 6 * B + A
    · rw [if_pos c, if_pos]
      rcases c with c | c
      · obtain ⟨-, c2, c3⟩ := sd_dig ha hb (show A < 6 by omega) (show B < 6 by omega) c
        exact Or.inr (by rw [c2, c3])
      · obtain ⟨-, c2, c3⟩ := sd_dig ha hb (show B < 6 by omega) (show A < 6 by omega) c
        exact Or.inl (by rw [c2, c3])
    · rw [if_neg c, if_neg]
      · exact d4 a b ha hb
      · intro c'
        refine c ?_
        rcases c' with c' | c'
        · obtain ⟨-, c2, c3⟩ := sd_dig hb ha (show A < 6 by omega) (show B < 6 by omega) c'
          exact Or.inr (by rw [c2, c3])
        · obtain ⟨-, c2, c3⟩ := sd_dig hb ha (show B < 6 by omega) (show A < 6 by omega) c'
          exact Or.inl (by rw [c2, c3])
  · obtain ⟨a, b, r1, r2, r3, r4, r5, r6, r7, r8⟩ := dl k hk
    refine ⟨a, b, r1, r2, r3, r4, r5, r6, r7, ?_⟩
    rw [sd_pr (S := S)]
    by_cases c : 36 * S + 6 * a + b = 36 * S + 6 * A + B ∨ 36 * S + 6 * a + b = 36 * S + 6 * B + A
    · rw [if_pos c, one]
      decide
    · rw [if_neg c]
      exact r8
  · obtain ⟨c, hc, hcc⟩ := sd_pair (show A < 6 by omega) (show B < 6 by omega) hAB
    refine Nat.le_trans (Nat.add_le_add_right q5 1) (sd_C_lt2 (fun x _ hx => ?_) hc (fun hx => ?_) ?_)
    · unfold sd_P at *
      rw [sd_pr (S := S)]
      by_cases e : 36 * S + x = 36 * S + 6 * A + B ∨ 36 * S + x = 36 * S + 6 * B + A
      · rw [if_pos e, one]
        decide
      · rw [if_neg e]
        exact hx
    · unfold sd_P at hx
      simp only [Bool.and_eq_true, decide_eq_true_eq] at hx
      rcases hcc with e | e
      · rw [e, show 36 * S + (6 * A + B) = 36 * S + 6 * A + B by omega] at hx
        omega
      · rw [e, show 36 * S + (6 * B + A) = 36 * S + 6 * B + A by omega, d4 B A (by omega) (by omega)] at hx
        omega
    · unfold sd_P
      rw [sd_pr (S := S), if_pos (by omega), one]
      decide
  · rw [sd_pr (S := S), if_pos (Or.inl rfl), one]
    decide
  · obtain ⟨a, b, r1, r2, r3, r4, r5, r6, r7, r8⟩ := dl k hk
    have := g0 k hk a b r1 r2 r3 r4 r8
    have inj : ∀ x y : Nat, x < 6 → y < 6 → nI x = nI y → x = y := fun x y hx hy e => by
      have := congrArg Int32.toInt e
      rw [nI_toInt (by omega), nI_toInt (by omega)] at this
      omega
    refine ⟨fun c => this.1 ⟨inj _ _ r3 (by omega) (r1.symm.trans c.1), inj _ _ r4 (by omega) (r2.symm.trans c.2)⟩, fun c => this.2 ⟨inj _ _ r3 (by omega) (r1.symm.trans c.1), inj _ _ r4 (by omega) (r2.symm.trans c.2)⟩⟩
theorem sd_G1n {h : mx_H} {a b : Int32} (q : sd_G1 h a b) : 0 ≤ (h.2.1 (.inl 105) 19).toInt ∧ (h.2.1 (.inl 105) 19).toInt ≤ 14 := by
  obtain ⟨S, n, A, B, q1, q2, q3, -, q5, -⟩ := q
  have := sd_C_15 (sd_P h S 1000)
  omega
/-- the piece comes to the list -/
theorem sd_G1G {h : mx_H} {a b x1 x2 w : Int32} (q : sd_G1 h a b) (e1 : x1.toInt = (h.2.1 (.inl 105) 19).toInt) (e2 : x2.toInt = (h.2.1 (.inl 105) 19).toInt) (ew : w.toInt = (h.2.1 (.inl 105) 19).toInt + 1) : sd_G (mx_uI (mx_uI (mx_uI h (.inl 119) x1.toNatClampNeg a) (.inl 120) x2.toNatClampNeg b) (.inl 105) 19 w) := by
  obtain ⟨S, n, A, B, q1, q2, q3, ⟨d2, d3, d4, dl, dd⟩, q5, rfl, rfl, q6, q7, q8, q9, q10, q11, q12⟩ := q
  rw [sd_cl (e1.trans q3), sd_cl (e2.trans q3)]
  generalize hg : mx_uI (mx_uI (mx_uI h (.inl 119) n (nI A)) (.inl 120) n (nI B)) (.inl 105) 19 w = h'
  have eA : ∀ k, h'.2.1 (.inl 119) k = if k = n then nI A else h.2.1 (.inl 119) k := fun k => by
    subst hg
    rw [sf_ro (by decide +kernel), sf_ro (by decide +kernel)]
    by_cases c : k = n
    · rw [c, sf_rs, if_pos rfl]
    · rw [sf_roi c, if_neg c]
  have eB : ∀ k, h'.2.1 (.inl 120) k = if k = n then nI B else h.2.1 (.inl 120) k := fun k => by
    subst hg
    rw [sf_ro (by decide +kernel)]
    by_cases c : k = n
    · rw [c, sf_rs, if_pos rfl]
    · rw [sf_roi c, sf_ro (by decide +kernel), if_neg c]
  have eo : ∀ m i, m = 106 ∨ m = 107 ∨ m = 111 ∨ m = 113 → h'.2.1 (.inl m) i = h.2.1 (.inl m) i := fun m i hm => by
    subst hg
    rw [sf_ro (fun c => by have := Sum.inl.inj c; omega), sf_ro (fun c => by have := Sum.inl.inj c; omega), sf_ro (fun c => by have := Sum.inl.inj c; omega)]
  refine ⟨S, n + 1, ?_, q2, ?_, ⟨fun c hc => ?_, fun p hp hq => ?_, fun a b ha hb => ?_, fun k hk => ?_, fun k k' hk hk' => ?_⟩, ?_⟩
  · subst hg
    exact q1
  · subst hg
    rw [sf_rs, ew]
    omega
  · rw [eo _ _ (by simp)] at hc ⊢
    exact d2 c hc
  · rw [eo _ _ (by simp)] at hq ⊢
    exact d3 p hp hq
  · rw [eo _ _ (by simp), eo _ _ (by simp)]
    exact d4 a b ha hb
  · by_cases c : k = n
    · refine ⟨A, B, by rw [eA, if_pos c], by rw [eB, if_pos c], q6, q7, q8, ?_, ?_, ?_⟩
      · rw [eo _ _ (by simp)]
        exact q9
      · rw [eo _ _ (by simp)]
        exact q10
      · rw [eo _ _ (by simp)]
        exact q11
    · obtain ⟨a, b, r1, r2, r3, r4, r5, r6, r7, r8⟩ := dl k (by omega)
      refine ⟨a, b, by rw [eA, if_neg c]; exact r1, by rw [eB, if_neg c]; exact r2, r3, r4, r5, ?_, ?_, ?_⟩
      · rw [eo _ _ (by simp)]
        exact r6
      · rw [eo _ _ (by simp)]
        exact r7
      · rw [eo _ _ (by simp)]
        exact r8
  · rw [eA, eB, eA, eB, if_neg (show ¬ k = n by omega), if_neg (show ¬ k = n by omega)]
    by_cases c : k' = n
    · rw [if_pos c, if_pos c]
      exact q12 k (by omega)
    · rw [if_neg c, if_neg c]
      exact dd k k' hk (by omega)
  · have ep : sd_P h' S 1000 = sd_P h S 1000 := by
      funext c
      unfold sd_P
      rw [eo _ _ (by simp)]
    rw [ep]
    exact q5
theorem li_ix {h : mx_H} {a : mx_A} {x y : Int32} {L : Int} (e : x.toInt = y.toInt) (p : (h.2.1 a y.toNatClampNeg).toInt = L) : (h.2.1 a x.toNatClampNeg).toInt = L := by
  rw [Int32.toInt_inj.mp e]
  exact p
theorem li_sx {h : mx_H} {a : mx_A} {x y v : Int32} {L : Int} (e : x.toInt = y.toInt) (p : v.toInt = L) : ((mx_uI h a y.toNatClampNeg v).2.1 a x.toNatClampNeg).toInt = L := by
  rw [Int32.toInt_inj.mp e, sf_rs]
  exact p
theorem sd_coi {h : mx_H} {x s a : Int32} (hx : x.toInt = s.toInt) (hv : a.toInt < (h.2.1 (.inl 106) x.toNatClampNeg).toInt) : a.toInt < (h.2.1 (.inl 106) s.toNatClampNeg).toInt := by
  rw [← Int32.toInt_inj.mp hx]
  exact hv
theorem sd_ceq {h : mx_H} {x y : Int32} (e : x.toInt = y.toInt) : (h.2.1 (.inl 106) x.toNatClampNeg).toInt = (h.2.1 (.inl 106) y.toNatClampNeg).toInt := by
  rw [Int32.toInt_inj.mp e]
/-- what lies ahead of a shape stays -/
def sd_Fl (h0 h : mx_H) (s : Int32) : Prop := (∀ p, p < 36 * s.toNatClampNeg → h.2.1 (.inl 113) p = h0.2.1 (.inl 113) p) ∧ (∀ q, q < s.toNatClampNeg → h.2.1 (.inl 106) q = h0.2.1 (.inl 106) q)
theorem sd_Fl0 (h : mx_H) (s : Int32) : sd_Fl h h s := ⟨fun _ _ => rfl, fun _ _ => rfl⟩
theorem sd_Flu {h0 h : mx_H} {s : Int32} {a : mx_A} {i r : Nat} {v : Int32} (e : sf_rg a i = r) (hr : (r != 325 && r != 318) = true) (q : sd_Fl h0 h s) : sd_Fl h0 (mx_uI h a i v) s := by
  subst e
  simp only [Bool.and_eq_true, bne_iff_ne] at hr
  exact ⟨fun p hp => (if_neg (fun c => hr.1 (by rw [← c.1]; rfl))).trans (q.1 p hp), fun p hp => (if_neg (fun c => hr.2 (by rw [← c.1]; rfl))).trans (q.2 p hp)⟩
theorem sd_Flc {h0 h : mx_H} {s v : Int32} (q : sd_Fl h0 h s) : sd_Fl h0 (mx_uI h (.inl 106) s.toNatClampNeg v) s := ⟨fun p hp => (sf_ro (by decide +kernel)).trans (q.1 p hp), fun p hp => (sf_roi (by omega)).trans (q.2 p hp)⟩
theorem sd_Flb {h0 h : mx_H} {s x v : Int32} (h0' : 0 ≤ s.toInt) (hx : 36 * s.toInt ≤ x.toInt) (q : sd_Fl h0 h s) : sd_Fl h0 (mx_uI h (.inl 113) x.toNatClampNeg v) s := by
  have e1 := sf_cl h0'
  have e2 := sf_cl (x := x) (by omega)
  exact ⟨fun p hp => (sf_roi (by omega)).trans (q.1 p hp), fun p hp => (sf_ro (by decide +kernel)).trans (q.2 p hp)⟩
