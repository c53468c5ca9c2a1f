/-! ===== methods as functions: what their texts are made of ===== -/
def ml_itr {σ ρ : Type} (s : σ → σ ⊕ ρ) : Nat → σ → Option ρ
  | 0, _ => none
  | n + 1, x => match s x with
    | .inl y => ml_itr s n y
    | .inr r => some r
theorem ml_itr_i {σ ρ : Type} {s : σ → σ ⊕ ρ} {n : Nat} {x y : σ} (e : s x = .inl y) : ml_itr s (n + 1) x = ml_itr s n y := by
  show (match s x with | .inl y => ml_itr s n y | .inr r => some r) = _
  rw [e]
theorem ml_itr_r {σ ρ : Type} {s : σ → σ ⊕ ρ} {n : Nat} {x : σ} {r : ρ} (e : s x = .inr r) : ml_itr s (n + 1) x = some r := by
  show (match s x with | .inl y => ml_itr s n y | .inr r => some r) = _
  rw [e]
theorem ml_itr_up {σ ρ : Type} {s : σ → σ ⊕ ρ} : ∀ (n m : Nat) (x : σ) (r : ρ), n ≤ m → ml_itr s n x = some r → ml_itr s m x = some r
  | 0, _, _, _, _, h => by cases h
  | n + 1, 0, _, _, hn, _ => absurd hn (Nat.not_succ_le_zero n)
  | n + 1, m + 1, x, r, hn, h => by
    cases e : s x with
    | inl y =>
      rw [ml_itr_i e] at h ⊢
      exact ml_itr_up n m y r (Nat.le_of_succ_le_succ hn) h
    | inr r' =>
      rw [ml_itr_r e] at h ⊢
      exact h
theorem ml_itr_u {σ ρ : Type} {s : σ → σ ⊕ ρ} {n m : Nat} {x : σ} {r r' : ρ} (h : ml_itr s n x = some r) (h' : ml_itr s m x = some r') : r = r' := by
  have a := ml_itr_up n (max n m) x r (Nat.le_max_left _ _) h
  rw [ml_itr_up m (max n m) x r' (Nat.le_max_right _ _) h'] at a
  cases a
  rfl
noncomputable def ml_wh {σ ρ : Type} [Inhabited ρ] (s : σ → σ ⊕ ρ) (x : σ) : ρ :=
  @dite ρ (∃ r, ∃ n, ml_itr s n x = some r) (Classical.propDecidable _) (fun h => Classical.choose h) (fun _ => default)
def ml_go {σ ρ : Type} (k : σ → ρ) : σ ⊕ ρ → ρ
  | .inl y => k y
  | .inr r => r
theorem ml_wh_eq {σ ρ : Type} [Inhabited ρ] (s : σ → σ ⊕ ρ) (x : σ) : ml_wh s x = ml_go (ml_wh s) (s x) := by
  by_cases h : ∃ r, ∃ n, ml_itr s n x = some r
  · have e : ml_wh s x = Classical.choose h := dif_pos h
    obtain ⟨n, hn⟩ := Classical.choose_spec h
    rw [e]
    cases n with
    | zero => cases hn
    | succ n =>
      cases es : s x with
      | inr r =>
        rw [ml_itr_r es] at hn
        exact (Option.some.inj hn).symm
      | inl y =>
        rw [ml_itr_i es] at hn
        have h' : ∃ r, ∃ n, ml_itr s n y = some r := ⟨_, n, hn⟩
        obtain ⟨m, hm⟩ := Classical.choose_spec h'
        have e2 : ml_wh s y = Classical.choose h' := dif_pos h'
        show _ = ml_wh s y
        rw [e2]
        exact ml_itr_u hn hm
  · have e : ml_wh s x = default := dif_neg h
    rw [e]
    cases es : s x with
    | inr r => exact absurd ⟨r, 1, ml_itr_r es⟩ h
    | inl y =>
      have h' : ¬ ∃ r, ∃ n, ml_itr s n y = some r := fun ⟨r, n, hn⟩ => h ⟨r, n + 1, (ml_itr_i es).trans hn⟩
      exact (dif_neg h' : ml_wh s y = default).symm
/-- a value that is not computed further -/
noncomputable def x_box {α : Type} (a : α) : α := Classical.choose (Exists.intro a rfl : ∃ b, b = a)
theorem x_box_eq {α : Type} (a : α) : x_box a = a := Classical.choose_spec (Exists.intro a rfl : ∃ b, b = a)
def x_opt {α : Type} (o : Option Nat) (A : Nat → α) (B : α) : α := match o with
  | some j => A j
  | none => B
def x_let {α β : Type} (p : α × mx_H) (k : α → mx_H → β) : β := k p.1 p.2
def x_h {β : Type} (p : mx_H) (k : mx_H → β) : β := k p
def x_val {α β : Type} (p : α) (k : α → β) : β := k p
theorem ml_go_ite {σ ρ : Type} {k : σ → ρ} {c : Prop} [Decidable c] {A B : σ ⊕ ρ} : ml_go k (if c then A else B) = if c then ml_go k A else ml_go k B := by split <;> rfl
theorem ml_go_l {σ ρ : Type} {k : σ → ρ} {y : σ} : ml_go k (.inl y) = k y := rfl
theorem ml_go_r {σ ρ : Type} {k : σ → ρ} {r : ρ} : ml_go k (.inr r) = r := rfl
theorem ml_go_opt {σ ρ : Type} {k : σ → ρ} {o : Option Nat} {A : Nat → σ ⊕ ρ} {B : σ ⊕ ρ} : ml_go k (x_opt o A B) = x_opt o (fun j => ml_go k (A j)) (ml_go k B) := by cases o <;> rfl
theorem ml_go_let {σ ρ α : Type} {k : σ → ρ} {p : α × mx_H} {f : α → mx_H → σ ⊕ ρ} : ml_go k (x_let p f) = x_let p (fun a b => ml_go k (f a b)) := rfl
theorem ml_go_h {σ ρ : Type} {k : σ → ρ} {p : mx_H} {f : mx_H → σ ⊕ ρ} : ml_go k (x_h p f) = x_h p (fun b => ml_go k (f b)) := rfl
theorem ml_go_val {σ ρ α : Type} {k : σ → ρ} {p : α} {f : α → σ ⊕ ρ} : ml_go k (x_val p f) = x_val p (fun a => ml_go k (f a)) := rfl
def ml_sn : Option mx_A → Option Nat
  | some (.inr (j, 0)) => some j
  | _ => none
def ml_ov : Option Nat → Option mx_V
  | some j => some (.inr (.inr (j, 0)))
  | none => some (.inl .null)
section XK
variable (Q : Option mx_V → mx_H → Prop)
def xK_v : mx_H → Prop := fun r => Q none r
def xK_i : Int32 × mx_H → Prop := fun r => Q (some (.inl (.int r.1))) r.2
def xK_l : Int64 × mx_H → Prop := fun r => Q (some (.inl (.long r.1))) r.2
def xK_o : Option Nat × mx_H → Prop := fun r => Q (ml_ov r.1) r.2
def xK_ip (h : mx_H) : Int32 → Prop := fun r => Q (some (.inl (.int r))) h
def xK_lp (h : mx_H) : Int64 → Prop := fun r => Q (some (.inl (.long r))) h
def xK_op (h : mx_H) : Option Nat → Prop := fun r => Q (ml_ov r) h
end XK
section XP
variable {α : Type} {K : α → Prop} {P1 P2 : Prop}
theorem x_use {P R : Prop} (h : P) (k : P → R) : R := k h
theorem x_eq {a b : α} (e : a = b) (h : K a) : K b := e ▸ h
theorem x_ite {c : Prop} [Decidable c] {A B : α} (hK : K (if c then A else B)) (k1 : K A → P1) (k2 : K B → P2) : (c → P1) ∧ (¬ c → P2) :=
  ⟨fun q => k1 (by rw [if_pos q] at hK; exact hK), fun q => k2 (by rw [if_neg q] at hK; exact hK)⟩
theorem x_neg {c : Prop} [Decidable c] {A B : α} (hc : ¬ c) (hK : K (if c then A else B)) : K B := by rw [if_neg hc] at hK; exact hK
theorem x_pos {c : Prop} [Decidable c] {A B : α} (hc : c) (hK : K (if c then A else B)) : K A := by rw [if_pos hc] at hK; exact hK
theorem x_mli {b : Bool} {P : Prop} (h : P) : ml_i b P := by
  cases b
  · exact True.intro
  · exact h
theorem x_ref {R : Option mx_A} {A : Nat → α} {B : α} {P : Nat → Prop} (hK : K (x_opt (ml_sn R) A B)) (k1 : ∀ j, K (A j) → P j) (k2 : K B → P2) : (∀ j, R = some (.inr (j, 0)) → P j) ∧ (R = none → P2) :=
  ⟨fun j e => k1 j (by subst e; exact hK), fun e => k2 (by subst e; exact hK)⟩
theorem x_ov {o : Option Nat} {A : Nat → α} {B : α} {P : Nat → Prop} (hK : K (x_opt o A B)) (k1 : ∀ j, K (A j) → P j) (k2 : K B → P2) : (∀ j, ml_ov o = some (.inr (.inr (j, 0))) → P j) ∧ (ml_ov o = some (.inl .null) → P2) := by
  cases o with
  | none => exact ⟨fun j e => (by cases e), fun _ => k2 hK⟩
  | some i =>
    refine ⟨fun j e => ?_, fun e => (by cases e)⟩
    cases e
    exact k1 _ hK
theorem x_letk {β : Type} {p : β × mx_H} {f : β → mx_H → α} (hK : K (x_let p f)) (k : K (f p.1 p.2) → P1) : P1 := k hK
theorem x_hk {p : mx_H} {f : mx_H → α} (hK : K (x_h p f)) (k : K (f p) → P1) : P1 := k hK
theorem x_valk {β : Type} {p : β} {f : β → α} (hK : K (x_val p f)) (k : K (f p) → P1) : P1 := k hK
end XP
theorem xh_i {a : Int32} {P : Int32 → Prop} (h : P a) : ∀ x, (some (.inl (.int a)) : Option mx_V) = some (.inl (.int x)) → P x := by
  intro x e
  cases e
  exact h
theorem xh_l {a : Int64} {P : Int64 → Prop} (h : P a) : ∀ x, (some (.inl (.long a)) : Option mx_V) = some (.inl (.long x)) → P x := by
  intro x e
  cases e
  exact h
theorem xh_n {P : Prop} (h : P) : (none : Option mx_V) = none → P := fun _ => h
theorem mx_L.sub {E : mx_Ev} {n mid pc : Nat} {lv lv' : mx_Lv} {st : List mx_V} {h : mx_H} {Q : Option mx_V → mx_H → Prop} (hl : ∀ q ∈ lv', q ∈ lv) (hT : mx_L E n mid pc lv' st h Q) : mx_L E n mid pc lv st h Q := fun f hf => hT f (fun q hq => hf q (hl q hq))
