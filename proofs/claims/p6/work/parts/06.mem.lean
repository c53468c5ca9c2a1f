/-! ===== fields stored, statics read, cells made ===== -/
section MXP
variable {E : mx_Ev} {fin : mx_A → Nat → Option mx_A} {d bc bs mid pc : Nat} {lv : mx_Lv} {st : List mx_V} {h : mx_H} {Q : Option mx_V → mx_H → Prop}
theorem mx_pf_n (h : mx_H) (a : mx_A) (k : Nat) (v : mx_V) : (mx_pf h a k v).1 = h.1 := by
  rcases v with v | t
  · cases v <;> rfl
  · rfl
theorem mx_pf_ne {E : mx_Ev} {h : mx_H} {a b : mx_A} {k : Nat} {v : mx_V} (hb : b ≠ a) : mx_cell E (mx_pf h a k v) b = mx_cell E h b := by
  rcases v with v | t
  · cases v <;> first | exact mx_cell_uI hb | exact mx_cell_uR hb
  · exact mx_cell_uR hb
/-- the fields behind a store -/
theorem mx_pf_fv {E : mx_Ev} {h : mx_H} {a : mx_A} {ci k : Nat} {v : mx_V} (hff : mx_fok ci k) (hv : mx_pk ci k v) (j : Nat) : mx_fv E (mx_pf h a k v) a ci j = if j = k then mx_sh E v else mx_fv E h a ci j := by
  by_cases e : j = k
  · subst e
    rw [if_pos rfl]
    rcases v with v | t
    · cases v with
      | int x =>
        have h2 : mx_ff ci j ≠ 2 := by
          intro h2
          rcases hff with ⟨q, -⟩ | ⟨q, -⟩ | ⟨-, n, q⟩ | ⟨-, n, q⟩
          · rw [q] at h2; cases h2
          · rw [q] at h2; cases h2
          · rcases hv with hv | ⟨hv, -⟩ <;> rw [q] at hv <;> cases hv
          · rcases hv with hv | ⟨hv, -⟩ <;> rw [q] at hv <;> cases hv
        simp only [mx_fv, if_neg h2, mx_pf, mx_uI, mx_up_eq, mx_sh, if_true]
      | null =>
        have h2 : mx_ff ci j = 2 := by
          rcases hff with ⟨-, q⟩ | ⟨-, q⟩ | ⟨q, -⟩ | ⟨q, -⟩
          · rcases hv with ⟨n, hv⟩ | ⟨n, hv⟩ <;> rw [q] at hv <;> cases hv
          · rcases hv with ⟨n, hv⟩ | ⟨n, hv⟩ <;> rw [q] at hv <;> cases hv
          · exact q
          · exact q
        simp only [mx_fv, if_pos h2, mx_pf, mx_uR, mx_up_eq, mx_sh, if_true, Option.map_none, va_rf]
      | _ => exact hv.elim
    · have h2 : mx_ff ci j = 2 := by
        rcases hff with ⟨-, q⟩ | ⟨-, q⟩ | ⟨q, -⟩ | ⟨q, -⟩
        · rcases hv with ⟨n, hv⟩ | ⟨n, hv⟩ <;> rw [q] at hv <;> cases hv
        · rcases hv with ⟨n, hv⟩ | ⟨n, hv⟩ <;> rw [q] at hv <;> cases hv
        · exact q
        · exact q
      simp only [mx_fv, if_pos h2, mx_pf, mx_uR, mx_up_eq, mx_sh, if_true, Option.map_some, va_rf]
  · rw [if_neg e]
    rcases v with v | t
    · cases v <;> simp only [mx_fv, mx_pf, mx_uI, mx_uR, mx_up_eq, if_neg e]
    · simp only [mx_fv, mx_pf, mx_uR, mx_up_eq, if_neg e]
theorem mx_pf_r {s : State} {H : Heap} {locs : List Loc} {a : mx_A} {k : Nat} {v : mx_V} (hD : mx_D E fin h s H locs) (hv : mx_wf h.1 v) : ∀ c j b, (mx_pf h a k v).2.2.2 c j = some b → mx_wfa h.1 b := by
  rcases v with v | t
  · cases v <;> first | exact hD.2.2.2.2.1 | exact mx_uR_r hD (fun b e => by cases e)
  · exact mx_uR_r hD (fun b e => by cases e; exact hv)
theorem mx_pf_f {s : State} {H : Heap} {locs : List Loc} {a : mx_A} {k : Nat} {v : mx_V} (hD : mx_D E fin h s H locs) (hf : fin a k = none) : ∀ c j b, fin c j = some b → mx_wfa h.1 c → (mx_pf h a k v).2.2.2 c j = some b := by
  rcases v with v | t
  · cases v <;> first | exact hD.2.2.2.2.2 | exact mx_uR_f hD hf
  · exact mx_uR_f hD hf
theorem mx_putfield {a : mx_A} {ci k idx : Nat} {v : mx_V} (hd : decode (mx_by mid) pc = .ok (.putfield idx, 3)) (hci : ci < 13) (hl : mx_lo a = (ci, (mx_cr ci).2.2)) (hkN : k < (mx_cr ci).2.2) (hlk : Cond.fieldLink (mx_ow mid) idx (mx_fT ci k).1 (mx_fT ci k).2.1 (mx_fT ci k).2.2.1 ∈ mx_ws)
    (hfi : (mx_fT ci k).2.2.2 = false ∨ ((mx_fT ci k).2.2.2 = true ∧ (mx_y mid).name = "<init>" ∧ (mx_fT ci k).1 = mx_ow mid)) (hff : mx_fok ci k) (hv : mx_pk ci k v) (hf : fin a k = none)
    (hk : mx_T0 E fin d bc bs mid (pc + 3) lv st (mx_pf h a k v) Q) : mx_T0 E fin d bc bs mid pc lv (v :: .inr a :: st) h Q := by
  obtain ⟨c1, c2, c3, c4⟩ := mx_ck hci
  obtain ⟨hn, hfit⟩ := mx_pk_n (E := E) hv
  refine mx_write (h' := mx_pf h a k v) (u := [v, .inr a]) (a := a) (mx_pf_n h a k v) (fun p e R s m args below meth c H locs cells slots Qw ls hS hD hw k9 => ?_) hk
  have hwa : mx_wfa h.1 a := hw (.inr a) (by simp)
  have hwv : mx_wf h.1 v := hw v (by simp)
  have hts := hS.2.2.2.2.2.2.1
  have hown := hS.2.2.2.2.2.1
  have hK := hS.2.2.2.2.2.2.2.2.1.1
  have hap := va_apart (own := mx_ow mid) hts c2 (mx_ty ci) c3 c4 hK c1
  have hc0 := hD.1 (mx_pos a) _ (mx_W_get hwa)
  rw [mx_cell_o (ci := ci) (by rw [hl]) (by omega), hl] at hc0
  obtain ⟨r, h1, cell, q1, q2, q3, q4⟩ := hc0
  have hr : r = mx_cr ci := Option.some.inj (h1.symm.trans c1)
  subst hr
  obtain ⟨hSl, hfc, kC, hkC, hkind⟩ := hK.1 ci _ c1
  obtain ⟨cf, kf, fi, f, hi, hsl⟩ := hSl k hkN
  have hlay := hts _ (c2 _ (u_in_lay hkN))
  unfold u_lay at hlay
  have hst := (u_facts hfc hkC (u_lays hts c2 hkN) hi).1
  have hend : ∀ H1 : Heap, H1[mx_ad E a]? = some (cell.setSlot f.slot (mx_sh E v)) → H1.size = H.size → (∀ q, q ≠ mx_ad E a → H1[q]? = H[q]?) → mx_D E fin (mx_pf h a k v) s H1 (locs ++ [⟨mx_ad E a, f.slot⟩]) := by
    intro H1 e1 e2 e3
    refine mx_D_set (a := a) hD (mx_pf_n h a k v) hwa (fun b _ hb => mx_pf_ne hb) ?_ e2 e3 (mx_pf_r hD hwv) (mx_pf_f hD hf)
    rw [mx_cell_o (ci := ci) (by rw [hl]) (by omega), hl]
    refine ⟨_, c1, t_OB.to (V := updV (vp_V ((List.range (mx_cr ci).2.2).map (mx_fv E h a ci))) k (mx_sh E v)) ⟨_, e1, q2, q3, ?_⟩ (fun j hj => ?_)⟩
    · rw [hsl]
      exact t_set q4 hap hkN _
    · unfold updV vp_V
      rw [List.getD_eq_getElem?_getD, List.getElem?_map, List.getElem?_range hj, List.getD_eq_getElem?_getD, List.getElem?_map, List.getElem?_range hj]
      simp only [Option.map_some, Option.getD_some]
      rw [mx_pf_fv hff hv]
  rcases hfi with hfi | ⟨hfi, hin2, hdecl⟩
  · rw [if_neg (by rw [hfi]; decide)] at hlay
    have h6 := u_store hfc hkC hkind hlay hi (c3 k hkN) hn hfit
    exact W.putK hS.1 hS.2.1 (f := f) ⟨hown, hts _ hlk, ⟨_, _, _, hi⟩, hst⟩ (by rw [q2]; exact h6) q1 q3 (by rw [hsl]; exact k2_hasslot (q4 k hkN)) rfl rfl hd fun H1 e1 e2 e3 => k9 H1 _ (hend H1 e1 e2 e3)
  · rw [if_pos hfi] at hlay
    have hcf : m.cls = cf := by
      obtain ⟨_, _, c', _, _, _, -, -, hf', -, -, -, hown2, -⟩ := Cond.laysFinal_spec hlay
      have e1 : c' = cf := by have := hi.symm.trans hf'; simp at this; exact this.1.symm
      rw [hdecl] at hown2
      rw [← e1]; exact Option.some.inj (hown.symm.trans hown2)
    have h6 := u_fits hfc hkC hkind (Or.inr hlay) hi (c3 k hkN) hn hfit
    exact W.putFinK hS.1 hS.2.1 hown (hts _ hlk) hi hst hcf (hS.2.2.2.2.2.2.2.1 hin2) (by rw [q2]; exact h6) q1 q3 (by rw [hsl]; exact k2_hasslot (q4 k hkN)) rfl rfl hd fun H1 e1 e2 e3 => k9 H1 _ (hend H1 e1 e2 e3)
theorem mx_gets0 {idx : Nat} (hd : decode (mx_by mid) pc = .ok (.getstatic idx, 3)) (hlk : Cond.fieldLink (mx_ow mid) idx RX4 "KIND_ABOVE" "[I" ∈ mx_ws) (hk : mx_T0 E fin d bc bs mid (pc + 3) lv (.inl (.float 0) :: st) h Q) : mx_T0 E fin d bc bs mid pc lv st h Q :=
  mx_push (fun _ => by exact True.intro) (fun _ _ _ _ _ _ _ _ _ _ _ _ _ _ _ hS hD _ k => va_gets hS.1 hS.2.1 hS.2.2.2.2.2.2.2.2.1.2.2.2.2.1 hD.2.2.1 hS.2.2.2.2.2.1 (hS.2.2.2.2.2.2.1 _ hlk) (fun x hx => hx) hd k) hk
theorem mx_gets1 {idx : Nat} (hd : decode (mx_by mid) pc = .ok (.getstatic idx, 3)) (hlk : Cond.fieldLink (mx_ow mid) idx RX4 "ACTS" "[I" ∈ mx_ws) (hk : mx_T0 E fin d bc bs mid (pc + 3) lv (.inl (.float 1) :: st) h Q) : mx_T0 E fin d bc bs mid pc lv st h Q :=
  mx_push (fun _ => by exact True.intro) (fun _ _ _ _ _ _ _ _ _ _ _ _ _ _ _ hS hD _ k => va_gets hS.1 hS.2.1 hS.2.2.2.2.2.2.2.2.1.2.2.2.2.2.1 hD.2.2.1 hS.2.2.2.2.2.1 (hS.2.2.2.2.2.2.1 _ hlk) (fun x hx => hx) hd k) hk
end MXP
