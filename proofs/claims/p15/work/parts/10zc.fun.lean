def ml_itr {σ ρ : Type} (s : σ → σ ⊕ ρ) : Nat → σ → Option ρ
  | 0, _ => none
  | n + 1, x => match s x with
    | .inl y => ml_itr s n y
    | .inr r => some r
theorem ml_itr_i {σ ρ : Type} {s : σ → σ ⊕ ρ} {n : Nat} {x y : σ} (e : s x = .inl y) : ml_itr s (n + 1) x = ml_itr s n y := by
  show (match s x with | .inl y => ml_itr s n y | .inr r => some r) = _
  rw [e]
theorem ml_itr_r {σ ρ : Type} {s : σ → σ ⊕ ρ} {n : Nat} {x : σ} {r : ρ} (e : s x = .inr r) : ml_itr s (n + 1) x = some r := by
  show (match s x with | .inl y => ml_itr s n y | .inr r => some r) = _
  rw [e]
theorem ml_itr_up {σ ρ : Type} {s : σ → σ ⊕ ρ} : ∀ (n m : Nat) (x : σ) (r : ρ), n ≤ m → ml_itr s n x = some r → ml_itr s m x = some r
  | 0, _, _, _, _, h => by cases h
  | n + 1, 0, _, _, hn, _ => absurd hn (Nat.not_succ_le_zero n)
  | n + 1, m + 1, x, r, hn, h => by
    cases e : s x with
    | inl y =>
      rw [ml_itr_i e] at h ⊢
      exact ml_itr_up n m y r (Nat.le_of_succ_le_succ hn) h
    | inr r' =>
      rw [ml_itr_r e] at h ⊢
      exact h
theorem ml_itr_u {σ ρ : Type} {s : σ → σ ⊕ ρ} {n m : Nat} {x : σ} {r r' : ρ} (h : ml_itr s n x = some r) (h' : ml_itr s m x = some r') : r = r' := by
  have a := ml_itr_up n (max n m) x r (Nat.le_max_left _ _) h
  rw [ml_itr_up m (max n m) x r' (Nat.le_max_right _ _) h'] at a
  cases a
  rfl
noncomputable def ml_wh {σ ρ : Type} [Inhabited ρ] (s : σ → σ ⊕ ρ) (x : σ) : ρ :=
  @dite ρ (∃ r, ∃ n, ml_itr s n x = some r) (Classical.propDecidable _) (fun h => Classical.choose h) (fun _ => default)
def ml_go {σ ρ : Type} (k : σ → ρ) : σ ⊕ ρ → ρ
  | .inl y => k y
  | .inr r => r
theorem ml_wh_eq {σ ρ : Type} [Inhabited ρ] (s : σ → σ ⊕ ρ) (x : σ) : ml_wh s x = ml_go (ml_wh s) (s x) := by
  by_cases h : ∃ r, ∃ n, ml_itr s n x = some r
  · have e : ml_wh s x = Classical.choose h := dif_pos h
    obtain ⟨n, hn⟩ := Classical.choose_spec h
    rw [e]
    cases n with
    | zero => cases hn
    | succ n =>
      cases es : s x with
      | inr r =>
        rw [ml_itr_r es] at hn
        exact (Option.some.inj hn).symm
      | inl y =>
        rw [ml_itr_i es] at hn
        have h' : ∃ r, ∃ n, ml_itr s n y = some r := ⟨_, n, hn⟩
        obtain ⟨m, hm⟩ := Classical.choose_spec h'
        have e2 : ml_wh s y = Classical.choose h' := dif_pos h'
        show _ = ml_wh s y
        rw [e2]
        exact ml_itr_u hn hm
  · have e : ml_wh s x = default := dif_neg h
    rw [e]
    cases es : s x with
    | inr r => exact absurd ⟨r, 1, ml_itr_r es⟩ h
    | inl y =>
      have h' : ¬ ∃ r, ∃ n, ml_itr s n y = some r := fun ⟨r, n, hn⟩ => h ⟨r, n + 1, (ml_itr_i es).trans hn⟩
      exact (dif_neg h' : ml_wh s y = default).symm
/-- a value that is not computed further -/
noncomputable def x_box {α : Type} (a : α) : α := Classical.choose (Exists.intro a rfl : ∃ b, b = a)
theorem x_box_eq {α : Type} (a : α) : x_box a = a := Classical.choose_spec (Exists.intro a rfl : ∃ b, b = a)
def x_opt {α : Type} (o : Option Nat) (A : Nat → α) (B : α) : α := match o with
  | some j => A j
  | none => B
def x_let {α β : Type} (p : α × mx_H) (k : α → mx_H → β) : β := k p.1 p.2
def x_h {β : Type} (p : mx_H) (k : mx_H → β) : β := k p
def x_val {α β : Type} (p : α) (k : α → β) : β := k p
theorem ml_go_ite {σ ρ : Type} {k : σ → ρ} {c : Prop} [Decidable c] {A B : σ ⊕ ρ} : ml_go k (if c then A else B) = if c then ml_go k A else ml_go k B := by split <;> rfl
theorem ml_go_l {σ ρ : Type} {k : σ → ρ} {y : σ} : ml_go k (.inl y) = k y := rfl
theorem ml_go_r {σ ρ : Type} {k : σ → ρ} {r : ρ} : ml_go k (.inr r) = r := rfl
theorem ml_go_opt {σ ρ : Type} {k : σ → ρ} {o : Option Nat} {A : Nat → σ ⊕ ρ} {B : σ ⊕ ρ} : ml_go k (x_opt o A B) = x_opt o (fun j => ml_go k (A j)) (ml_go k B) := by cases o <;> rfl
theorem ml_go_let {σ ρ α : Type} {k : σ → ρ} {p : α × mx_H} {f : α → mx_H → σ ⊕ ρ} : ml_go k (x_let p f) = x_let p (fun a b => ml_go k (f a b)) := rfl
theorem ml_go_h {σ ρ : Type} {k : σ → ρ} {p : mx_H} {f : mx_H → σ ⊕ ρ} : ml_go k (x_h p f) = x_h p (fun b => ml_go k (f b)) := rfl
theorem ml_go_val {σ ρ α : Type} {k : σ → ρ} {p : α} {f : α → σ ⊕ ρ} : ml_go k (x_val p f) = x_val p (fun a => ml_go k (f a)) := rfl
def ml_sn : Option mx_A → Option Nat
  | some (.inr (j, 0)) => some j
  | _ => none
section XK
variable (Q : Option mx_V → mx_H → Prop)
def xK_i : Int32 × mx_H → Prop := fun r => Q (some (.inl (.int r.1))) r.2
def xK_l : Int64 × mx_H → Prop := fun r => Q (some (.inl (.long r.1))) r.2
def xK_ip (h : mx_H) : Int32 → Prop := fun r => Q (some (.inl (.int r))) h
def xK_lp (h : mx_H) : Int64 → Prop := fun r => Q (some (.inl (.long r))) h
end XK
