def mx_up {α : Type} (f : mx_A → Nat → α) (a : mx_A) (i : Nat) (v : α) : mx_A → Nat → α := fun b j => if b = a ∧ j = i then v else f b j
def mx_uI (h : mx_H) (a : mx_A) (i : Nat) (v : Int32) : mx_H := (h.1, mx_up h.2.1 a i v, h.2.2.1, h.2.2.2)
def mx_uL (h : mx_H) (a : mx_A) (i : Nat) (v : Int64) : mx_H := (h.1, h.2.1, mx_up h.2.2.1 a i v, h.2.2.2)
def mx_uR (h : mx_H) (a : mx_A) (i : Nat) (v : Option mx_A) : mx_H := (h.1, h.2.1, h.2.2.1, mx_up h.2.2.2 a i v)
