def sd_CL : List Nat := [1, 2, 3, 4, 5, 8, 9, 10, 11, 15, 16, 17, 22, 23, 29]
def sd_C (l : List Nat) (g : Nat → Bool) : Nat := (l.filter g).length
theorem sd_C_cons {x : Nat} {l : List Nat} {g : Nat → Bool} : sd_C (x :: l) g = sd_C l g + (if g x = true then 1 else 0) := by
  unfold sd_C
  by_cases c : g x = true
  · rw [List.filter_cons_of_pos c, if_pos c, List.length_cons]
  · rw [List.filter_cons_of_neg c, if_neg c, Nat.add_zero]
theorem sd_C_mono {l : List Nat} {g g' : Nat → Bool} (h : ∀ x ∈ l, g x = true → g' x = true) : sd_C l g ≤ sd_C l g' := by
  induction l with
  | nil => exact Nat.le_refl _
  | cons x l ih =>
    rw [sd_C_cons, sd_C_cons]
    have i := ih (fun y hy => h y (List.mem_cons_of_mem _ hy))
    by_cases c : g x = true
    · rw [if_pos c, if_pos (h x List.mem_cons_self c)]
      omega
    · rw [if_neg c]
      omega
theorem sd_C_lt2 {l : List Nat} {g g' : Nat → Bool} {c : Nat} (h : ∀ x ∈ l, g x = true → g' x = true) (hc : c ∈ l) (h0 : ¬ g c = true) (h1 : g' c = true) : sd_C l g + 1 ≤ sd_C l g' := by
  induction l with
  | nil => cases hc
  | cons x l ih =>
    rw [sd_C_cons, sd_C_cons]
    by_cases e : x = c
    · subst e
      rw [if_neg h0, if_pos h1]
      have := sd_C_mono (l := l) (fun y hy => h y (List.mem_cons_of_mem _ hy))
      omega
    · have hc' : c ∈ l := by
        rcases List.mem_cons.mp hc with q | q
        · exact absurd q.symm e
        · exact q
      have i := ih (fun y hy => h y (List.mem_cons_of_mem _ hy)) hc'
      by_cases c : g x = true
      · rw [if_pos c, if_pos (h x List.mem_cons_self c)]
        omega
      · rw [if_neg c]
        omega
theorem sd_C_add1 {l : List Nat} {g g' : Nat → Bool} {c : Nat} (hn : l.Nodup) (h : ∀ x ∈ l, x ≠ c → g' x = true → g x = true) : sd_C l g' ≤ sd_C l g + 1 := by
  induction l with
  | nil => exact Nat.zero_le _
  | cons x l ih =>
    rw [sd_C_cons, sd_C_cons]
    obtain ⟨n1, n2⟩ := List.nodup_cons.mp hn
    by_cases e : x = c
    · subst e
      have := sd_C_mono (l := l) (g := g') (g' := g) (fun y hy q => h y (List.mem_cons_of_mem _ hy) (fun e => n1 (e ▸ hy)) q)
      have : (if g' x = true then 1 else 0) ≤ 1 := by split <;> omega
      omega
    · have i := ih n2 (fun y hy => h y (List.mem_cons_of_mem _ hy))
      by_cases q : g' x = true
      · rw [if_pos q, if_pos (h x List.mem_cons_self e q)]
        omega
      · rw [if_neg q]
        omega
theorem sd_C_15 (g : Nat → Bool) : sd_C sd_CL g ≤ 15 := List.length_filter_le g sd_CL
theorem sd_C_14 {g : Nat → Bool} {c : Nat} (hc : c ∈ sd_CL) (h0 : ¬ g c = true) : sd_C sd_CL g ≤ 14 := by
  have := sd_C_lt2 (g' := fun _ => true) (fun _ _ _ => rfl) hc h0 rfl
  have := sd_C_15 (fun _ => true)
  omega
theorem sd_CLn : sd_CL.Nodup := by decide
/-- the place of a pair with the lesser corner first -/
theorem sd_pair {a b : Nat} (ha : a < 6) (hb : b < 6) (hn : a ≠ b) : ∃ c ∈ sd_CL, c = 6 * a + b ∨ c = 6 * b + a := by
  have A : ∀ a, a < 6 → ∀ b, b < 6 → a ≠ b → ∃ c ∈ sd_CL, c = 6 * a + b ∨ c = 6 * b + a := by decide
  exact A a ha b hb hn
