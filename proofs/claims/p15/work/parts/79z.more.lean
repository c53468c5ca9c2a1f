theorem sf_E.l {m : Nat} {h h' : mx_H} (e : sf_E m h h') : sf_El m h h' := fun n i q => e.1 (.inl n) i q
