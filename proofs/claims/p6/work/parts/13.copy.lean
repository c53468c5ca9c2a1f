/-! ===== System.arraycopy between rows of longs ===== -/
theorem mx_cph_cell {E : mx_Ev} {h : mx_H} {a b c : mx_A} {sp dp n : Nat} (hc : c ≠ b) : mx_cell E (mx_cph h a b sp dp n) c = mx_cell E h c := by
  have e2 : mx_ar E (mx_cph h a b sp dp n) c = mx_ar E h c := by
    funext kd
    simp only [mx_ar, mx_cph, if_neg hc]
  have e1 : mx_fv E (mx_cph h a b sp dp n) c = mx_fv E h c := rfl
  unfold mx_cell
  rw [e1, e2]
theorem mx_nnI (z : Int32) (hz : ¬ z < 0) : z.toInt = (z.toNatClampNeg : Int) := by
  have hz0 : (0 : Int) ≤ z.toInt := by
    have := Int32.not_lt.mp hz
    simpa using Int32.le_iff_toInt_le.mp this
  show z.toInt = ((z.toInt.toNat : Nat) : Int)
  omega
set_option maxHeartbeats 4000000 in
theorem mx_copy {E : mx_Ev} {fin : mx_A → Nat → Option mx_A} {d bc bs mid pc idx : Nat} {lv : mx_Lv} {st : List mx_V} {h : mx_H} {Q : Option mx_V → mx_H → Prop} {a b : mx_A} {sp dp n : Int32} (hd : decode (mx_by mid) pc = .ok (.invokestatic idx, 3))
    (w1 : Cond.methodLink (mx_ow mid) idx arraycopyName ∈ mx_ws) (w2 : Cond.native arraycopyName ∈ mx_ws) (w3 : Cond.static arraycopyName ∈ mx_ws) (w4 : Cond.initialized "java/lang/System" ∈ mx_ws)
    (hla : mx_lo a = (101, 60)) (hlb : mx_lo b = (101, 60)) (h1 : ¬ sp < 0) (h2 : ¬ dp < 0) (h3 : ¬ n < 0) (h4 : sp.toNatClampNeg + n.toNatClampNeg ≤ 60) (h5 : dp.toNatClampNeg + n.toNatClampNeg ≤ 60) (hst : (st.map mx_cat).sum ≤ 8)
    (hk : mx_T0 E fin (d + 1) bc bs mid (pc + 3) lv st (mx_cph h a b sp.toNatClampNeg dp.toNatClampNeg n.toNatClampNeg) Q) : mx_T0 E fin (d + 1) bc bs mid pc lv (.inl (.int n) :: .inl (.int dp) :: .inr b :: .inl (.int sp) :: .inr a :: st) h Q := by
  intro p e R s m args below meth c H locs cells slots Qw ls hS hD q1 q2 q3 q4 q5 q6
  have hts := hS.2.2.2.2.2.2.1
  have hK := hS.2.2.2.2.2.2.2.2.1.1
  have hfr := hS.2.2.2.2.2.2.2.2.2.1
  have hlo := hS.2.2.2.2.2.2.2.2.2.2
  have hwa : mx_wfa h.1 a := q4 (.inr a) (by simp)
  have hwb : mx_wfa h.1 b := q4 (.inr b) (by simp)
  have hca := hD.1 (mx_pos a) _ (mx_W_get hwa)
  have hcb := hD.1 (mx_pos b) _ (mx_W_get hwb)
  rw [mx_cell_l (by rw [hla]), hla] at hca
  rw [mx_cell_l (by rw [hlb]), hlb] at hcb
  have hc0 : H[mx_ad E a]? = some (vp_cell (mx_aC E 1) (60, .inr (.inl (h.2.2.1 a)))) := hca
  have hc1 : H[mx_ad E b]? = some (vp_cell (mx_aC E 1) (60, .inr (.inl (h.2.2.1 b)))) := hcb
  obtain ⟨-, k0, hk0, cm0, hkk0⟩ := (hK.2 1 _ rfl).1 60 (fun j => .long (h.2.2.1 a j))
  have hrm := mx_room_sum (E := E) hst
  intro T hT X
  obtain ⟨vm', X', step⟩ := X.arraycopy hS.1 hS.2.2.2.2.2.1 (hts _ w1) (hts _ w2) (hts _ w3) (hts _ w4) (src := mx_ad E a) (dst := mx_ad E b) (cs := vp_cell (mx_aC E 1) (60, .inr (.inl (h.2.2.1 a)))) (cd := vp_cell (mx_aC E 1) (60, .inr (.inl (h.2.2.1 b)))) (srcPos := sp) (destPos := dp) (n := n) (by rw [hT]; exact hc0) (by rw [hT]; exact hc1)
    (fun _ h => by cases h) (fun _ h => by cases h) (fun h => by cases h) (fun h => by cases h) hk0 hk0 hkk0 hkk0 (by simp [refKind]) h1 h2 h3
    (by rw [mx_nnI sp h1, mx_nnI n h3]; show ¬ _ > ((arrV _ 60 (fun j => .long (h.2.2.1 a j))).slots.size : Int); rw [arrV_size]; omega)
    (by rw [mx_nnI dp h2, mx_nnI n h3]; show ¬ _ > ((arrV _ 60 (fun j => .long (h.2.2.1 b j))).slots.size : Int); rw [arrV_size]; omega)
    (fun vm₁ _ i hi => by
      have e : (vp_cell (mx_aC E 1) (60, .inr (.inl (h.2.2.1 a)))).slots.getD (sp.toNatClampNeg + i) .null = .long (h.2.2.1 a (sp.toNatClampNeg + i)) := by
        show (arrV _ 60 (fun j => .long (h.2.2.1 a j))).slots.getD _ _ = _
        rw [Array.getD_eq_getD_getElem?, arrV_read _ _ (by omega)]
        rfl
      exact ⟨by rw [e]; rfl, by rw [e]; exact trivial⟩)
    (g := F0 m pc ls ((Sum.inl (.int n) :: Sum.inl (.int dp) :: Sum.inr b :: Sum.inl (.int sp) :: Sum.inr a :: st : List mx_V).map (mx_sh E))) rfl (q5.1.trans hS.2.2.1.symm) (rest := st.map (mx_sh E)) rfl (by rw [hS.2.1]; exact hd) (by omega) (by
      have e : nativeFrameWords "java/lang/System" "arraycopy" 5 ≤ 20 := by decide +kernel
      show 2 * 0 + _ + _ ≤ _
      omega)
  have e1 : copied (vp_cell (mx_aC E 1) (60, .inr (.inl (h.2.2.1 a)))) (vp_cell (mx_aC E 1) (60, .inr (.inl (h.2.2.1 b)))) sp dp n = vp_cell (mx_aC E 1) (60, .inr (.inl (va_cpy (h.2.2.1 a) (h.2.2.1 b) sp.toNatClampNeg dp.toNatClampNeg n.toNatClampNeg))) := va_copied (fun z => .long z) (mx_aC E 1) (mx_aC E 1) (h.2.2.1 a) (h.2.2.1 b) h4
  rw [e1] at X' step
  have hl : mx_ad E b < H.size := (Array.getElem?_eq_some_iff.mp hc1).1
  generalize hcell : vp_cell (mx_aC E 1) (60, .inr (.inl (va_cpy (h.2.2.1 a) (h.2.2.1 b) sp.toNatClampNeg dp.toNatClampNeg n.toNatClampNeg))) = cell at X' step
  have hheap : ((T.setVm vm').setCell (mx_ad E b) cell).heap = H.setIfInBounds (mx_ad E b) cell := by rw [← hT]; rfl
  have oq : ∀ q : Nat, q ≠ mx_ad E b → (H.setIfInBounds (mx_ad E b) cell)[q]? = H[q]? := fun q hq => by simp [Array.getElem?_setIfInBounds, Ne.symm hq]
  have hD0 := mx_D_set (a := b) (k := 0) (H1 := H.setIfInBounds (mx_ad E b) cell) (h' := mx_cph h a b sp.toNatClampNeg dp.toNatClampNeg n.toNatClampNeg) hD rfl hwb (fun c _ hc => mx_cph_cell hc) (by
    rw [mx_cell_l (by rw [hlb]), hlb]
    show (H.setIfInBounds (mx_ad E b) cell)[mx_ad E b]? = some _
    rw [show (H.setIfInBounds (mx_ad E b) cell)[mx_ad E b]? = some cell by simp [Array.getElem?_setIfInBounds, hl], ← hcell]
    simp only [mx_cph, if_true]) (by simp) oq hD.2.2.2.2.1 hD.2.2.2.2.2
  have K := fun L9 (hL9 : ∀ x ∈ L9, mx_ra E x.base) => hk p e R s m args below meth c (H.setIfInBounds (mx_ad E b) cell) (locs ++ L9) cells slots Qw ls hS ⟨hD0.1, hD0.2.1, ⟨hD0.2.2.1.1, hD0.2.2.1.2.1, fun x hx => (List.mem_append.mp hx).elim (fun hx => hD.2.2.1.2.2 x hx) (hL9 x)⟩, hD0.2.2.2⟩ q1 q2 q3 (fun x hx => q4 x (by simp [hx])) q5 q6
  obtain ⟨t, b1, b2⟩ := K _ (fun x hx => by
    obtain ⟨z, -, hz⟩ := List.mem_map.mp hx
    rw [← hz]
    exact Nat.le_add_right _ _) _ hheap X'
  exact ⟨t, step t b1, b2⟩
/-- the same, at its one place, for the judgement that takes along what holds of every run -/
theorem mx_copyT {E : mx_Ev} {fin : mx_A → Nat → Option mx_A} {d bc bs : Nat} {lv : mx_Lv} {st : List mx_V} {h : mx_H} {Q : Option mx_V → mx_H → Prop} {a b : mx_A} {sp dp n : Int32} {idx : Nat} (hd : decode (mx_by 154) 129 = .ok (.invokestatic idx, 3))
    (w1 : Cond.methodLink (mx_ow 154) idx arraycopyName ∈ mx_ws) (w2 : Cond.native arraycopyName ∈ mx_ws) (w3 : Cond.static arraycopyName ∈ mx_ws) (w4 : Cond.initialized "java/lang/System" ∈ mx_ws)
    (hla : mx_lo a = (101, 60)) (hlb : mx_lo b = (101, 60)) (h1 : ¬ sp < 0) (h2 : ¬ dp < 0) (h3 : ¬ n < 0) (h4 : sp.toNatClampNeg + n.toNatClampNeg ≤ 60) (h5 : dp.toNatClampNeg + n.toNatClampNeg ≤ 60) (hst : (st.map mx_cat).sum ≤ 8)
    (hk : mx_T E fin (d + 1) bc bs 154 132 lv st (mx_cph h a b sp.toNatClampNeg dp.toNatClampNeg n.toNatClampNeg) Q) : mx_T E fin (d + 1) bc bs 154 129 lv (.inl (.int n) :: .inl (.int dp) :: .inr b :: .inl (.int sp) :: .inr a :: st) h Q := by
  have s : ∀ f, mx_sr E 154 129 f (.inl (.int n) :: .inl (.int dp) :: .inr b :: .inl (.int sp) :: .inr a :: st) h (.inl (132, f, st, mx_cph h a b sp.toNatClampNeg dp.toNatClampNeg n.toNatClampNeg)) := fun f => Or.inr ⟨rfl, rfl, rfl, n, dp, sp, a, b, st, rfl, rfl⟩
  refine mx_T.mk ⟨fun f hf P hP => ?_, fun f hf m v h' e => ?_⟩
  · exact mx_copy (pc := 129) hd w1 w2 w3 w4 hla hlb h1 h2 h3 h4 h5 hst (hk.up.1 f hf P (fun m v h' e => hP (m + 1) v h' (ml_evs (s f) e)))
  · cases m with
    | zero => exact False.elim e
    | succ m =>
      obtain ⟨o, s, e⟩ := ml_evo e
      rcases s with ⟨en, q, -⟩ | ⟨-, -, -, n', dp', sp', a', b', r', e1, e2⟩
      · rw [show mx_ft (mx_tb 154) 129 = none from rfl] at q
        cases q
      · subst e2
        cases e1
        exact hk.up.2 f hf m v h' e
