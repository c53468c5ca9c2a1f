/-! ===== what the law carries where blows are compared ===== -/
def rt_QX (h : mx_H) : Prop := rt_R h ∧ rb_X h h
theorem rt_QX0 : rt_QX sp_hN := ⟨rt_0, rb_0⟩
theorem rt_QXf {h h' : mx_H} {m : Nat} (b1 : m &&& rt_Mc = 0) (b2 : m &&& rt_Mr = 0) (b5 : m &&& rt_Ms = 0) (b6 : m &&& rt_Ml = 0) (b3 : m &&& rb_Mc = 0) (b4 : m &&& rb_Mr = 0) (e : sf_E m h h') (R : rt_QX h) : rt_QX h' := ⟨rt_f b1 b2 b5 b6 e R.1, rb_f b3 b4 e.l R.2⟩
