def mx_z {α : Type} (f : mx_A → Nat → α) (a : mx_A) (v : α) : mx_A → Nat → α := fun b j => if b = a then v else f b j
/-- a new cell a, empty -/
def mx_nw (h : mx_H) (a : mx_A) : mx_H := (h.1 + 1, mx_z h.2.1 a 0, mx_z h.2.2.1 a 0, mx_z h.2.2.2 a none)
