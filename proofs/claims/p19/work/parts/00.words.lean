-- ===== PART A: goes FIRST, ahead of the names: the tables' words, and 'selects' of the private methods out of them =====
/-! strings and words compared by numbers (each string's number is worked out once) -/
def sq_enc : List UInt8 → Nat
  | [] => 0
  | b :: l => 257 * sq_enc l + (b.toNat + 1)
theorem sq_enc_i : ∀ (l m : List UInt8), sq_enc l = sq_enc m → l = m
  | [], [], _ => rfl
  | [], b :: m, h => by
    have h' : 0 = 257 * sq_enc m + (b.toNat + 1) := h
    omega
  | b :: l, [], h => by
    have h' : 257 * sq_enc l + (b.toNat + 1) = 0 := h
    omega
  | b :: l, c :: m, h => by
    have h' : 257 * sq_enc l + (b.toNat + 1) = 257 * sq_enc m + (c.toNat + 1) := h
    have lb : b.toNat < 256 := b.toBitVec.isLt
    have lc : c.toNat < 256 := c.toBitVec.isLt
    have e1 : b = c := UInt8.toNat_inj.mp (by omega)
    have e2 : l = m := sq_enc_i l m (by omega)
    rw [e1, e2]
def sq_c (s : String) : Nat := sq_enc s.toByteArray.data.toList
def sq_s (a b : String) : Bool := Nat.beq (sq_c a) (sq_c b)
theorem sq_i {a b : String} (h : sq_s a b = true) : a = b := String.toByteArray_inj.mp (ByteArray.ext (Array.ext' (sq_enc_i _ _ (Nat.eq_of_beq_eq_true h))))
def sq_m (x y : MethodName) : Bool := sq_s x.cls y.cls && (sq_s x.name y.name && sq_s x.desc y.desc)
theorem sq_mi {x y : MethodName} (h : sq_m x y = true) : x = y := by
  obtain ⟨a, b, c⟩ := x
  obtain ⟨a', b', c'⟩ := y
  have h' : (sq_s a a' && (sq_s b b' && sq_s c c')) = true := h
  rw [Bool.and_eq_true, Bool.and_eq_true] at h'
  rw [sq_i h'.1, sq_i h'.2.1, sq_i h'.2.2]
def sq_w : Cond → Cond → Bool
  | .methodLink a k x, .methodLink a' k' x' => Nat.beq k k' && (sq_s a a' && sq_m x x')
  | .methodLinkNest a k x o, .methodLinkNest a' k' x' o' => Nat.beq k k' && (sq_s a a' && (sq_m x x' && sq_s o o'))
  | .fieldLink a k r n d, .fieldLink a' k' r' n' d' => Nat.beq k k' && (sq_s a a' && (sq_s r r' && (sq_s n n' && sq_s d d')))
  | .classLink a k n, .classLink a' k' n' => Nat.beq k k' && (sq_s a a' && sq_s n n')
  | .lays a r n d, .lays a' r' n' d' => sq_s a a' && (sq_s r r' && (sq_s n n' && sq_s d d'))
  | .laysFinal a r n d, .laysFinal a' r' n' d' => sq_s a a' && (sq_s r r' && (sq_s n n' && sq_s d d'))
  | .static x, .static x' => sq_m x x'
  | .instanceMethod x, .instanceMethod x' => sq_m x x'
  | .privateMethod x, .privateMethod x' => sq_m x x'
  | .selects c x y, .selects c' x' y' => sq_s c c' && (sq_m x x' && sq_m y y')
  | .initialized c, .initialized c' => sq_s c c'
  | .instantiable c k, .instantiable c' k' => Nat.beq k k' && sq_s c c'
  | w, w' => decide (w = w')
theorem sq_ws {w w' : Cond} (h : sq_w w w' = true) : w = w' := by
  unfold sq_w at h
  split at h
  · rw [Bool.and_eq_true, Bool.and_eq_true] at h
    rw [Nat.eq_of_beq_eq_true h.1, sq_i h.2.1, sq_mi h.2.2]
  · rw [Bool.and_eq_true, Bool.and_eq_true, Bool.and_eq_true] at h
    rw [Nat.eq_of_beq_eq_true h.1, sq_i h.2.1, sq_mi h.2.2.1, sq_i h.2.2.2]
  · rw [Bool.and_eq_true, Bool.and_eq_true, Bool.and_eq_true, Bool.and_eq_true] at h
    rw [Nat.eq_of_beq_eq_true h.1, sq_i h.2.1, sq_i h.2.2.1, sq_i h.2.2.2.1, sq_i h.2.2.2.2]
  · rw [Bool.and_eq_true, Bool.and_eq_true] at h
    rw [Nat.eq_of_beq_eq_true h.1, sq_i h.2.1, sq_i h.2.2]
  · rw [Bool.and_eq_true, Bool.and_eq_true, Bool.and_eq_true] at h
    rw [sq_i h.1, sq_i h.2.1, sq_i h.2.2.1, sq_i h.2.2.2]
  · rw [Bool.and_eq_true, Bool.and_eq_true, Bool.and_eq_true] at h
    rw [sq_i h.1, sq_i h.2.1, sq_i h.2.2.1, sq_i h.2.2.2]
  · rw [sq_mi h]
  · rw [sq_mi h]
  · rw [sq_mi h]
  · rw [Bool.and_eq_true, Bool.and_eq_true] at h
    rw [sq_i h.1, sq_mi h.2.1, sq_mi h.2.2]
  · rw [sq_i h]
  · rw [Bool.and_eq_true] at h
    rw [Nat.eq_of_beq_eq_true h.1, sq_i h.2]
  · exact of_decide_eq_true h
def sq_o (o : Option Cond) (w : Cond) : Bool := match o with
  | some v => sq_w v w
  | none => false
theorem sq_os {o : Option Cond} {w : Cond} (h : sq_o o w = true) : o = some w := by
  cases o with
  | none => exact absurd h Bool.false_ne_true
  | some v => exact congrArg some (sq_ws h)
/-- the tables' stretches -/
def qw_sub (k : Nat) : List Cond := match k with
  | 1 => tables_1_1
  | 2 => tables_1_2
  | 3 => tables_1_3
  | 4 => tables_1_4
  | 5 => tables_1_5
  | 6 => tables_1_6
  | 7 => tables_1_7
  | 8 => tables_1_8
  | 9 => tables_1_9
  | _ => []
theorem qw_t {w : Cond} : ∀ k, w ∈ qw_sub k → w ∈ tables_1
  | 1, h => (List.mem_append_left _ h)
  | 2, h => (List.mem_append_right _ (List.mem_append_left _ h))
  | 3, h => (List.mem_append_right _ (List.mem_append_right _ (List.mem_append_left _ h)))
  | 4, h => (List.mem_append_right _ (List.mem_append_right _ (List.mem_append_right _ (List.mem_append_left _ h))))
  | 5, h => (List.mem_append_right _ (List.mem_append_right _ (List.mem_append_right _ (List.mem_append_right _ (List.mem_append_left _ h)))))
  | 6, h => (List.mem_append_right _ (List.mem_append_right _ (List.mem_append_right _ (List.mem_append_right _ (List.mem_append_right _ (List.mem_append_left _ h))))))
  | 7, h => (List.mem_append_right _ (List.mem_append_right _ (List.mem_append_right _ (List.mem_append_right _ (List.mem_append_right _ (List.mem_append_right _ (List.mem_append_left _ h)))))))
  | 8, h => (List.mem_append_right _ (List.mem_append_right _ (List.mem_append_right _ (List.mem_append_right _ (List.mem_append_right _ (List.mem_append_right _ (List.mem_append_right _ (List.mem_append_left _ h))))))))
  | 9, h => (List.mem_append_right _ (List.mem_append_right _ (List.mem_append_right _ (List.mem_append_right _ (List.mem_append_right _ (List.mem_append_right _ (List.mem_append_right _ (List.mem_append_right _ h))))))))
  | 0, h => absurd h List.not_mem_nil
  | k + 10, h => absurd h List.not_mem_nil
/-- a private method of a class that the tables say can be made, by its rows of tables_1 -/
def lw_okq (q : MethodName × Nat) : Prop := (q.1.cls ≠ "java/lang/invoke/MethodHandle" ∧ q.1.cls ≠ "java/lang/invoke/VarHandle") ∧ Cond.instantiable q.1.cls q.2 ∈ tables_1 ∧ Cond.privateMethod q.1 ∈ tables_1 ∧ Cond.instanceMethod q.1 ∈ tables_1
theorem lw_k0 : ("PlatesSing$Tape" ≠ "java/lang/invoke/MethodHandle" ∧ "PlatesSing$Tape" ≠ "java/lang/invoke/VarHandle") ∧ Cond.instantiable "PlatesSing$Tape" 3 ∈ tables_1 := ⟨⟨by decide +kernel, by decide +kernel⟩, qw_t 1 (List.mem_of_getElem? (i := 27) (sq_os (by decide +kernel)))⟩
theorem lw_p0 : lw_okq (⟨"PlatesSing$Tape", "readCorners", "(LPlatesSing$Shape;)Z"⟩, 3) := ⟨lw_k0.1, lw_k0.2, qw_t 3 (List.mem_of_getElem? (i := 36) (sq_os (by decide +kernel))), qw_t 3 (List.mem_of_getElem? (i := 37) (sq_os (by decide +kernel)))⟩
theorem lw_p1 : lw_okq (⟨"PlatesSing$Tape", "peek", "()I"⟩, 3) := ⟨lw_k0.1, lw_k0.2, qw_t 3 (List.mem_of_getElem? (i := 40) (sq_os (by decide +kernel))), qw_t 3 (List.mem_of_getElem? (i := 41) (sq_os (by decide +kernel)))⟩
theorem lw_p2 : lw_okq (⟨"PlatesSing$Tape", "digit", "()I"⟩, 3) := ⟨lw_k0.1, lw_k0.2, qw_t 3 (List.mem_of_getElem? (i := 44) (sq_os (by decide +kernel))), qw_t 3 (List.mem_of_getElem? (i := 45) (sq_os (by decide +kernel)))⟩
theorem lw_p3 : lw_okq (⟨"PlatesSing$Tape", "readPart", "(LPlatesSing$Shape;)Z"⟩, 3) := ⟨lw_k0.1, lw_k0.2, qw_t 3 (List.mem_of_getElem? (i := 49) (sq_os (by decide +kernel))), qw_t 3 (List.mem_of_getElem? (i := 50) (sq_os (by decide +kernel)))⟩
theorem lw_p4 : lw_okq (⟨"PlatesSing$Tape", "readPiece", "(LPlatesSing$Shape;)Z"⟩, 3) := ⟨lw_k0.1, lw_k0.2, qw_t 3 (List.mem_of_getElem? (i := 53) (sq_os (by decide +kernel))), qw_t 3 (List.mem_of_getElem? (i := 54) (sq_os (by decide +kernel)))⟩
theorem lw_p5 : lw_okq (⟨"PlatesSing$Tape", "corner", "(LPlatesSing$Shape;)I"⟩, 3) := ⟨lw_k0.1, lw_k0.2, qw_t 3 (List.mem_of_getElem? (i := 57) (sq_os (by decide +kernel))), qw_t 3 (List.mem_of_getElem? (i := 58) (sq_os (by decide +kernel)))⟩
theorem lw_p6 : lw_okq (⟨"PlatesSing$Tape", "readHold", "(LPlatesSing$Shape;)Z"⟩, 3) := ⟨lw_k0.1, lw_k0.2, qw_t 3 (List.mem_of_getElem? (i := 75) (sq_os (by decide +kernel))), qw_t 3 (List.mem_of_getElem? (i := 76) (sq_os (by decide +kernel)))⟩
theorem lw_p7 : lw_okq (⟨"PlatesSing$Tape", "readNumber", "(LPlatesSing$Shape;[I)Z"⟩, 3) := ⟨lw_k0.1, lw_k0.2, qw_t 3 (List.mem_of_getElem? (i := 79) (sq_os (by decide +kernel))), qw_t 3 (List.mem_of_getElem? (i := 80) (sq_os (by decide +kernel)))⟩
theorem lw_k1 : ("PlatesSing" ≠ "java/lang/invoke/MethodHandle" ∧ "PlatesSing" ≠ "java/lang/invoke/VarHandle") ∧ Cond.instantiable "PlatesSing" 14 ∈ tables_1 := ⟨⟨by decide +kernel, by decide +kernel⟩, qw_t 1 (List.mem_of_getElem? (i := 19) (sq_os (by decide +kernel)))⟩
theorem lw_p8 : lw_okq (⟨"PlatesSing", "isFullFor", "(I)Z"⟩, 14) := ⟨lw_k1.1, lw_k1.2, qw_t 3 (List.mem_of_getElem? (i := 83) (sq_os (by decide +kernel))), qw_t 3 (List.mem_of_getElem? (i := 84) (sq_os (by decide +kernel)))⟩
theorem lw_p9 : lw_okq (⟨"PlatesSing", "addDraft", "()I"⟩, 14) := ⟨lw_k1.1, lw_k1.2, qw_t 3 (List.mem_of_getElem? (i := 87) (sq_os (by decide +kernel))), qw_t 3 (List.mem_of_getElem? (i := 88) (sq_os (by decide +kernel)))⟩
theorem lw_p10 : lw_okq (⟨"PlatesSing", "shapeAt", "(I)LPlatesSing$Shape;"⟩, 14) := ⟨lw_k1.1, lw_k1.2, qw_t 3 (List.mem_of_getElem? (i := 99) (sq_os (by decide +kernel))), qw_t 3 (List.mem_of_getElem? (i := 100) (sq_os (by decide +kernel)))⟩
theorem lw_p11 : lw_okq (⟨"PlatesSing", "change", "(LPlatesSing$Shape;III)I"⟩, 14) := ⟨lw_k1.1, lw_k1.2, qw_t 3 (List.mem_of_getElem? (i := 120) (sq_os (by decide +kernel))), qw_t 3 (List.mem_of_getElem? (i := 121) (sq_os (by decide +kernel)))⟩
theorem lw_k2 : ("PlatesSing$History" ≠ "java/lang/invoke/MethodHandle" ∧ "PlatesSing$History" ≠ "java/lang/invoke/VarHandle") ∧ Cond.instantiable "PlatesSing$History" 7 ∈ tables_1 := ⟨⟨by decide +kernel, by decide +kernel⟩, qw_t 2 (List.mem_of_getElem? (i := 124) (sq_os (by decide +kernel)))⟩
theorem lw_p12 : lw_okq (⟨"PlatesSing$History", "dropOldest", "()V"⟩, 7) := ⟨lw_k2.1, lw_k2.2, qw_t 3 (List.mem_of_getElem? (i := 139) (sq_os (by decide +kernel))), qw_t 3 (List.mem_of_getElem? (i := 140) (sq_os (by decide +kernel)))⟩
theorem lw_k3 : ("PlatesSing$Net" ≠ "java/lang/invoke/MethodHandle" ∧ "PlatesSing$Net" ≠ "java/lang/invoke/VarHandle") ∧ Cond.instantiable "PlatesSing$Net" 12 ∈ tables_1 := ⟨⟨by decide +kernel, by decide +kernel⟩, qw_t 1 (List.mem_of_getElem? (i := 138) (sq_os (by decide +kernel)))⟩
theorem lw_p13 : lw_okq (⟨"PlatesSing$Net", "fillMatrix", "(II)V"⟩, 12) := ⟨lw_k3.1, lw_k3.2, qw_t 3 (List.mem_of_getElem? (i := 190) (sq_os (by decide +kernel))), qw_t 3 (List.mem_of_getElem? (i := 191) (sq_os (by decide +kernel)))⟩
theorem lw_p14 : lw_okq (⟨"PlatesSing$Net", "fillFactor", "(I)V"⟩, 12) := ⟨lw_k3.1, lw_k3.2, qw_t 3 (List.mem_of_getElem? (i := 194) (sq_os (by decide +kernel))), qw_t 3 (List.mem_of_getElem? (i := 195) (sq_os (by decide +kernel)))⟩
theorem lw_k4 : ("PlatesSing$Turns" ≠ "java/lang/invoke/MethodHandle" ∧ "PlatesSing$Turns" ≠ "java/lang/invoke/VarHandle") ∧ Cond.instantiable "PlatesSing$Turns" 6 ∈ tables_1 := ⟨⟨by decide +kernel, by decide +kernel⟩, qw_t 1 (List.mem_of_getElem? (i := 188) (sq_os (by decide +kernel)))⟩
theorem lw_p15 : lw_okq (⟨"PlatesSing$Turns", "extend", "(LPlatesSing$Shape;LPlatesSing$Shape;I)V"⟩, 6) := ⟨lw_k4.1, lw_k4.2, qw_t 4 (List.mem_of_getElem? (i := 14) (sq_os (by decide +kernel))), qw_t 4 (List.mem_of_getElem? (i := 15) (sq_os (by decide +kernel)))⟩
def lw_privs_1 : List (MethodName × Nat) := [(⟨"PlatesSing$Tape", "readCorners", "(LPlatesSing$Shape;)Z"⟩, 3), (⟨"PlatesSing$Tape", "peek", "()I"⟩, 3), (⟨"PlatesSing$Tape", "digit", "()I"⟩, 3), (⟨"PlatesSing$Tape", "readPart", "(LPlatesSing$Shape;)Z"⟩, 3), (⟨"PlatesSing$Tape", "readPiece", "(LPlatesSing$Shape;)Z"⟩, 3), (⟨"PlatesSing$Tape", "corner", "(LPlatesSing$Shape;)I"⟩, 3), (⟨"PlatesSing$Tape", "readHold", "(LPlatesSing$Shape;)Z"⟩, 3), (⟨"PlatesSing$Tape", "readNumber", "(LPlatesSing$Shape;[I)Z"⟩, 3), (⟨"PlatesSing", "isFullFor", "(I)Z"⟩, 14), (⟨"PlatesSing", "addDraft", "()I"⟩, 14), (⟨"PlatesSing", "shapeAt", "(I)LPlatesSing$Shape;"⟩, 14), (⟨"PlatesSing", "change", "(LPlatesSing$Shape;III)I"⟩, 14), (⟨"PlatesSing$History", "dropOldest", "()V"⟩, 7), (⟨"PlatesSing$Net", "fillMatrix", "(II)V"⟩, 12), (⟨"PlatesSing$Net", "fillFactor", "(I)V"⟩, 12), (⟨"PlatesSing$Turns", "extend", "(LPlatesSing$Shape;LPlatesSing$Shape;I)V"⟩, 6)]
theorem lw_r1 : ∀ q ∈ lw_privs_1, lw_okq q := List.forall_mem_cons.mpr ⟨lw_p0, List.forall_mem_cons.mpr ⟨lw_p1, List.forall_mem_cons.mpr ⟨lw_p2, List.forall_mem_cons.mpr ⟨lw_p3, List.forall_mem_cons.mpr ⟨lw_p4, List.forall_mem_cons.mpr ⟨lw_p5, List.forall_mem_cons.mpr ⟨lw_p6, List.forall_mem_cons.mpr ⟨lw_p7, List.forall_mem_cons.mpr ⟨lw_p8, List.forall_mem_cons.mpr ⟨lw_p9, List.forall_mem_cons.mpr ⟨lw_p10, List.forall_mem_cons.mpr ⟨lw_p11, List.forall_mem_cons.mpr ⟨lw_p12, List.forall_mem_cons.mpr ⟨lw_p13, List.forall_mem_cons.mpr ⟨lw_p14, List.forall_mem_cons.mpr ⟨lw_p15, fun _ h => absurd h List.not_mem_nil⟩⟩⟩⟩⟩⟩⟩⟩⟩⟩⟩⟩⟩⟩⟩⟩
theorem lw_p16 : lw_okq (⟨"PlatesSing$Turns", "noteFound", "(I)V"⟩, 6) := ⟨lw_k4.1, lw_k4.2, qw_t 4 (List.mem_of_getElem? (i := 18) (sq_os (by decide +kernel))), qw_t 4 (List.mem_of_getElem? (i := 19) (sq_os (by decide +kernel)))⟩
theorem lw_p17 : lw_okq (⟨"PlatesSing$Turns", "keepsPieces", "(II)Z"⟩, 6) := ⟨lw_k4.1, lw_k4.2, qw_t 4 (List.mem_of_getElem? (i := 25) (sq_os (by decide +kernel))), qw_t 4 (List.mem_of_getElem? (i := 26) (sq_os (by decide +kernel)))⟩
theorem lw_p18 : lw_okq (⟨"PlatesSing$Net", "divisor", "()J"⟩, 12) := ⟨lw_k3.1, lw_k3.2, qw_t 4 (List.mem_of_getElem? (i := 49) (sq_os (by decide +kernel))), qw_t 4 (List.mem_of_getElem? (i := 50) (sq_os (by decide +kernel)))⟩
theorem lw_p19 : lw_okq (⟨"PlatesSing", "planned", "()LPlatesSing$Shape;"⟩, 14) := ⟨lw_k1.1, lw_k1.2, qw_t 4 (List.mem_of_getElem? (i := 69) (sq_os (by decide +kernel))), qw_t 4 (List.mem_of_getElem? (i := 70) (sq_os (by decide +kernel)))⟩
theorem lw_k5 : ("PlatesSing$Plan" ≠ "java/lang/invoke/MethodHandle" ∧ "PlatesSing$Plan" ≠ "java/lang/invoke/VarHandle") ∧ Cond.instantiable "PlatesSing$Plan" 13 ∈ tables_1 := ⟨⟨by decide +kernel, by decide +kernel⟩, qw_t 1 (List.mem_of_getElem? (i := 218) (sq_os (by decide +kernel)))⟩
theorem lw_p20 : lw_okq (⟨"PlatesSing$Plan", "extend", "(LPlatesSing$Shape;LPlatesSing$Net;IIII)V"⟩, 13) := ⟨lw_k5.1, lw_k5.2, qw_t 4 (List.mem_of_getElem? (i := 107) (sq_os (by decide +kernel))), qw_t 4 (List.mem_of_getElem? (i := 108) (sq_os (by decide +kernel)))⟩
theorem lw_p21 : lw_okq (⟨"PlatesSing$Plan", "compare", "(LPlatesSing$Shape;LPlatesSing$Net;II)V"⟩, 13) := ⟨lw_k5.1, lw_k5.2, qw_t 4 (List.mem_of_getElem? (i := 111) (sq_os (by decide +kernel))), qw_t 4 (List.mem_of_getElem? (i := 112) (sq_os (by decide +kernel)))⟩
theorem lw_k6 : ("PlatesSing$Hearing" ≠ "java/lang/invoke/MethodHandle" ∧ "PlatesSing$Hearing" ≠ "java/lang/invoke/VarHandle") ∧ Cond.instantiable "PlatesSing$Hearing" 6 ∈ tables_1 := ⟨⟨by decide +kernel, by decide +kernel⟩, qw_t 2 (List.mem_of_getElem? (i := 30) (sq_os (by decide +kernel)))⟩
theorem lw_p22 : lw_okq (⟨"PlatesSing$Hearing", "tryNet", "(LPlatesSing$Net;IIII)V"⟩, 6) := ⟨lw_k6.1, lw_k6.2, qw_t 4 (List.mem_of_getElem? (i := 145) (sq_os (by decide +kernel))), qw_t 4 (List.mem_of_getElem? (i := 146) (sq_os (by decide +kernel)))⟩
theorem lw_k7 : ("PlatesSing$Blows" ≠ "java/lang/invoke/MethodHandle" ∧ "PlatesSing$Blows" ≠ "java/lang/invoke/VarHandle") ∧ Cond.instantiable "PlatesSing$Blows" 11 ∈ tables_1 := ⟨⟨by decide +kernel, by decide +kernel⟩, qw_t 2 (List.mem_of_getElem? (i := 59) (sq_os (by decide +kernel)))⟩
theorem lw_p23 : lw_okq (⟨"PlatesSing$Blows", "pull", "(LPlatesSing$Net;I)V"⟩, 11) := ⟨lw_k7.1, lw_k7.2, qw_t 4 (List.mem_of_getElem? (i := 196) (sq_os (by decide +kernel))), qw_t 4 (List.mem_of_getElem? (i := 197) (sq_os (by decide +kernel)))⟩
theorem lw_k8 : ("PlatesSing$Shelves" ≠ "java/lang/invoke/MethodHandle" ∧ "PlatesSing$Shelves" ≠ "java/lang/invoke/VarHandle") ∧ Cond.instantiable "PlatesSing$Shelves" 4 ∈ tables_1 := ⟨⟨by decide +kernel, by decide +kernel⟩, qw_t 2 (List.mem_of_getElem? (i := 182) (sq_os (by decide +kernel)))⟩
theorem lw_p24 : lw_okq (⟨"PlatesSing$Shelves", "present", "(II)J"⟩, 4) := ⟨lw_k8.1, lw_k8.2, qw_t 5 (List.mem_of_getElem? (i := 40) (sq_os (by decide +kernel))), qw_t 5 (List.mem_of_getElem? (i := 41) (sq_os (by decide +kernel)))⟩
theorem lw_k9 : ("PlatesSing$Ratios" ≠ "java/lang/invoke/MethodHandle" ∧ "PlatesSing$Ratios" ≠ "java/lang/invoke/VarHandle") ∧ Cond.instantiable "PlatesSing$Ratios" 4 ∈ tables_1 := ⟨⟨by decide +kernel, by decide +kernel⟩, qw_t 2 (List.mem_of_getElem? (i := 103) (sq_os (by decide +kernel)))⟩
theorem lw_p25 : lw_okq (⟨"PlatesSing$Ratios", "fit", "(IIII)Z"⟩, 4) := ⟨lw_k9.1, lw_k9.2, qw_t 5 (List.mem_of_getElem? (i := 83) (sq_os (by decide +kernel))), qw_t 5 (List.mem_of_getElem? (i := 84) (sq_os (by decide +kernel)))⟩
theorem lw_p26 : lw_okq (⟨"PlatesSing$Ratios", "allFit", "(III)Z"⟩, 4) := ⟨lw_k9.1, lw_k9.2, qw_t 5 (List.mem_of_getElem? (i := 98) (sq_os (by decide +kernel))), qw_t 5 (List.mem_of_getElem? (i := 99) (sq_os (by decide +kernel)))⟩
theorem lw_p27 : lw_okq (⟨"PlatesSing", "under", "(LPlatesSing$Shape;I)I"⟩, 14) := ⟨lw_k1.1, lw_k1.2, qw_t 5 (List.mem_of_getElem? (i := 121) (sq_os (by decide +kernel))), qw_t 5 (List.mem_of_getElem? (i := 122) (sq_os (by decide +kernel)))⟩
theorem lw_p28 : lw_okq (⟨"PlatesSing", "isBody", "(I)Z"⟩, 14) := ⟨lw_k1.1, lw_k1.2, qw_t 5 (List.mem_of_getElem? (i := 161) (sq_os (by decide +kernel))), qw_t 5 (List.mem_of_getElem? (i := 162) (sq_os (by decide +kernel)))⟩
theorem lw_k10 : ("PlatesSing$Parts" ≠ "java/lang/invoke/MethodHandle" ∧ "PlatesSing$Parts" ≠ "java/lang/invoke/VarHandle") ∧ Cond.instantiable "PlatesSing$Parts" 5 ∈ tables_1 := ⟨⟨by decide +kernel, by decide +kernel⟩, qw_t 2 (List.mem_of_getElem? (i := 155) (sq_os (by decide +kernel)))⟩
theorem lw_p29 : lw_okq (⟨"PlatesSing$Parts", "run", "(IIIII)I"⟩, 5) := ⟨lw_k10.1, lw_k10.2, qw_t 5 (List.mem_of_getElem? (i := 169) (sq_os (by decide +kernel))), qw_t 5 (List.mem_of_getElem? (i := 170) (sq_os (by decide +kernel)))⟩
theorem lw_p30 : lw_okq (⟨"PlatesSing$Parts", "begin", "(I)V"⟩, 5) := ⟨lw_k10.1, lw_k10.2, qw_t 5 (List.mem_of_getElem? (i := 177) (sq_os (by decide +kernel))), qw_t 5 (List.mem_of_getElem? (i := 178) (sq_os (by decide +kernel)))⟩
theorem lw_p31 : lw_okq (⟨"PlatesSing$Parts", "stiffOf", "(I)I"⟩, 5) := ⟨lw_k10.1, lw_k10.2, qw_t 5 (List.mem_of_getElem? (i := 181) (sq_os (by decide +kernel))), qw_t 5 (List.mem_of_getElem? (i := 182) (sq_os (by decide +kernel)))⟩
def lw_privs_2 : List (MethodName × Nat) := [(⟨"PlatesSing$Turns", "noteFound", "(I)V"⟩, 6), (⟨"PlatesSing$Turns", "keepsPieces", "(II)Z"⟩, 6), (⟨"PlatesSing$Net", "divisor", "()J"⟩, 12), (⟨"PlatesSing", "planned", "()LPlatesSing$Shape;"⟩, 14), (⟨"PlatesSing$Plan", "extend", "(LPlatesSing$Shape;LPlatesSing$Net;IIII)V"⟩, 13), (⟨"PlatesSing$Plan", "compare", "(LPlatesSing$Shape;LPlatesSing$Net;II)V"⟩, 13), (⟨"PlatesSing$Hearing", "tryNet", "(LPlatesSing$Net;IIII)V"⟩, 6), (⟨"PlatesSing$Blows", "pull", "(LPlatesSing$Net;I)V"⟩, 11), (⟨"PlatesSing$Shelves", "present", "(II)J"⟩, 4), (⟨"PlatesSing$Ratios", "fit", "(IIII)Z"⟩, 4), (⟨"PlatesSing$Ratios", "allFit", "(III)Z"⟩, 4), (⟨"PlatesSing", "under", "(LPlatesSing$Shape;I)I"⟩, 14), (⟨"PlatesSing", "isBody", "(I)Z"⟩, 14), (⟨"PlatesSing$Parts", "run", "(IIIII)I"⟩, 5), (⟨"PlatesSing$Parts", "begin", "(I)V"⟩, 5), (⟨"PlatesSing$Parts", "stiffOf", "(I)I"⟩, 5)]
theorem lw_r2 : ∀ q ∈ lw_privs_2, lw_okq q := List.forall_mem_cons.mpr ⟨lw_p16, List.forall_mem_cons.mpr ⟨lw_p17, List.forall_mem_cons.mpr ⟨lw_p18, List.forall_mem_cons.mpr ⟨lw_p19, List.forall_mem_cons.mpr ⟨lw_p20, List.forall_mem_cons.mpr ⟨lw_p21, List.forall_mem_cons.mpr ⟨lw_p22, List.forall_mem_cons.mpr ⟨lw_p23, List.forall_mem_cons.mpr ⟨lw_p24, List.forall_mem_cons.mpr ⟨lw_p25, List.forall_mem_cons.mpr ⟨lw_p26, List.forall_mem_cons.mpr ⟨lw_p27, List.forall_mem_cons.mpr ⟨lw_p28, List.forall_mem_cons.mpr ⟨lw_p29, List.forall_mem_cons.mpr ⟨lw_p30, List.forall_mem_cons.mpr ⟨lw_p31, fun _ h => absurd h List.not_mem_nil⟩⟩⟩⟩⟩⟩⟩⟩⟩⟩⟩⟩⟩⟩⟩⟩
theorem lw_k11 : ("PlatesSingModel" ≠ "java/lang/invoke/MethodHandle" ∧ "PlatesSingModel" ≠ "java/lang/invoke/VarHandle") ∧ Cond.instantiable "PlatesSingModel" 94 ∈ tables_1 := ⟨⟨by decide +kernel, by decide +kernel⟩, qw_t 6 (List.mem_of_getElem? (i := 10) (sq_os (by decide +kernel)))⟩
theorem lw_p32 : lw_okq (⟨"PlatesSingModel", "readShape", "()V"⟩, 94) := ⟨lw_k11.1, lw_k11.2, qw_t 7 (List.mem_of_getElem? (i := 71) (sq_os (by decide +kernel))), qw_t 7 (List.mem_of_getElem? (i := 72) (sq_os (by decide +kernel)))⟩
theorem lw_p33 : lw_okq (⟨"PlatesSingModel", "clear", "(I)V"⟩, 94) := ⟨lw_k11.1, lw_k11.2, qw_t 7 (List.mem_of_getElem? (i := 75) (sq_os (by decide +kernel))), qw_t 7 (List.mem_of_getElem? (i := 76) (sq_os (by decide +kernel)))⟩
theorem lw_p34 : lw_okq (⟨"PlatesSingModel", "look", "()I"⟩, 94) := ⟨lw_k11.1, lw_k11.2, qw_t 7 (List.mem_of_getElem? (i := 79) (sq_os (by decide +kernel))), qw_t 7 (List.mem_of_getElem? (i := 80) (sq_os (by decide +kernel)))⟩
theorem lw_p35 : lw_okq (⟨"PlatesSingModel", "wrong", "()V"⟩, 94) := ⟨lw_k11.1, lw_k11.2, qw_t 7 (List.mem_of_getElem? (i := 83) (sq_os (by decide +kernel))), qw_t 7 (List.mem_of_getElem? (i := 84) (sq_os (by decide +kernel)))⟩
theorem lw_p36 : lw_okq (⟨"PlatesSingModel", "isDigit", "()Z"⟩, 94) := ⟨lw_k11.1, lw_k11.2, qw_t 7 (List.mem_of_getElem? (i := 87) (sq_os (by decide +kernel))), qw_t 7 (List.mem_of_getElem? (i := 88) (sq_os (by decide +kernel)))⟩
theorem lw_p37 : lw_okq (⟨"PlatesSingModel", "digit", "()I"⟩, 94) := ⟨lw_k11.1, lw_k11.2, qw_t 7 (List.mem_of_getElem? (i := 91) (sq_os (by decide +kernel))), qw_t 7 (List.mem_of_getElem? (i := 92) (sq_os (by decide +kernel)))⟩
theorem lw_p38 : lw_okq (⟨"PlatesSingModel", "readPart", "()V"⟩, 94) := ⟨lw_k11.1, lw_k11.2, qw_t 7 (List.mem_of_getElem? (i := 95) (sq_os (by decide +kernel))), qw_t 7 (List.mem_of_getElem? (i := 96) (sq_os (by decide +kernel)))⟩
theorem lw_p39 : lw_okq (⟨"PlatesSingModel", "readPiece", "()V"⟩, 94) := ⟨lw_k11.1, lw_k11.2, qw_t 7 (List.mem_of_getElem? (i := 99) (sq_os (by decide +kernel))), qw_t 7 (List.mem_of_getElem? (i := 100) (sq_os (by decide +kernel)))⟩
theorem lw_p40 : lw_okq (⟨"PlatesSingModel", "letter", "()I"⟩, 94) := ⟨lw_k11.1, lw_k11.2, qw_t 7 (List.mem_of_getElem? (i := 103) (sq_os (by decide +kernel))), qw_t 7 (List.mem_of_getElem? (i := 104) (sq_os (by decide +kernel)))⟩
theorem lw_p41 : lw_okq (⟨"PlatesSingModel", "isCorner", "(II)Z"⟩, 94) := ⟨lw_k11.1, lw_k11.2, qw_t 7 (List.mem_of_getElem? (i := 107) (sq_os (by decide +kernel))), qw_t 7 (List.mem_of_getElem? (i := 108) (sq_os (by decide +kernel)))⟩
theorem lw_p42 : lw_okq (⟨"PlatesSingModel", "hasPiece", "(III)Z"⟩, 94) := ⟨lw_k11.1, lw_k11.2, qw_t 7 (List.mem_of_getElem? (i := 111) (sq_os (by decide +kernel))), qw_t 7 (List.mem_of_getElem? (i := 112) (sq_os (by decide +kernel)))⟩
theorem lw_p43 : lw_okq (⟨"PlatesSingModel", "setPiece", "(IIIIII)V"⟩, 94) := ⟨lw_k11.1, lw_k11.2, qw_t 7 (List.mem_of_getElem? (i := 118) (sq_os (by decide +kernel))), qw_t 7 (List.mem_of_getElem? (i := 119) (sq_os (by decide +kernel)))⟩
theorem lw_p44 : lw_okq (⟨"PlatesSingModel", "bear", "(III)V"⟩, 94) := ⟨lw_k11.1, lw_k11.2, qw_t 7 (List.mem_of_getElem? (i := 122) (sq_os (by decide +kernel))), qw_t 7 (List.mem_of_getElem? (i := 123) (sq_os (by decide +kernel)))⟩
theorem lw_p45 : lw_okq (⟨"PlatesSingModel", "isShape", "(I)Z"⟩, 94) := ⟨lw_k11.1, lw_k11.2, qw_t 7 (List.mem_of_getElem? (i := 130) (sq_os (by decide +kernel))), qw_t 7 (List.mem_of_getElem? (i := 131) (sq_os (by decide +kernel)))⟩
theorem lw_p46 : lw_okq (⟨"PlatesSingModel", "piecesOf", "(I)I"⟩, 94) := ⟨lw_k11.1, lw_k11.2, qw_t 7 (List.mem_of_getElem? (i := 135) (sq_os (by decide +kernel))), qw_t 7 (List.mem_of_getElem? (i := 136) (sq_os (by decide +kernel)))⟩
theorem lw_p47 : lw_okq (⟨"PlatesSingModel", "tonesOf", "(I)I"⟩, 94) := ⟨lw_k11.1, lw_k11.2, qw_t 7 (List.mem_of_getElem? (i := 139) (sq_os (by decide +kernel))), qw_t 7 (List.mem_of_getElem? (i := 140) (sq_os (by decide +kernel)))⟩
def lw_privs_3 : List (MethodName × Nat) := [(⟨"PlatesSingModel", "readShape", "()V"⟩, 94), (⟨"PlatesSingModel", "clear", "(I)V"⟩, 94), (⟨"PlatesSingModel", "look", "()I"⟩, 94), (⟨"PlatesSingModel", "wrong", "()V"⟩, 94), (⟨"PlatesSingModel", "isDigit", "()Z"⟩, 94), (⟨"PlatesSingModel", "digit", "()I"⟩, 94), (⟨"PlatesSingModel", "readPart", "()V"⟩, 94), (⟨"PlatesSingModel", "readPiece", "()V"⟩, 94), (⟨"PlatesSingModel", "letter", "()I"⟩, 94), (⟨"PlatesSingModel", "isCorner", "(II)Z"⟩, 94), (⟨"PlatesSingModel", "hasPiece", "(III)Z"⟩, 94), (⟨"PlatesSingModel", "setPiece", "(IIIIII)V"⟩, 94), (⟨"PlatesSingModel", "bear", "(III)V"⟩, 94), (⟨"PlatesSingModel", "isShape", "(I)Z"⟩, 94), (⟨"PlatesSingModel", "piecesOf", "(I)I"⟩, 94), (⟨"PlatesSingModel", "tonesOf", "(I)I"⟩, 94)]
theorem lw_r3 : ∀ q ∈ lw_privs_3, lw_okq q := List.forall_mem_cons.mpr ⟨lw_p32, List.forall_mem_cons.mpr ⟨lw_p33, List.forall_mem_cons.mpr ⟨lw_p34, List.forall_mem_cons.mpr ⟨lw_p35, List.forall_mem_cons.mpr ⟨lw_p36, List.forall_mem_cons.mpr ⟨lw_p37, List.forall_mem_cons.mpr ⟨lw_p38, List.forall_mem_cons.mpr ⟨lw_p39, List.forall_mem_cons.mpr ⟨lw_p40, List.forall_mem_cons.mpr ⟨lw_p41, List.forall_mem_cons.mpr ⟨lw_p42, List.forall_mem_cons.mpr ⟨lw_p43, List.forall_mem_cons.mpr ⟨lw_p44, List.forall_mem_cons.mpr ⟨lw_p45, List.forall_mem_cons.mpr ⟨lw_p46, List.forall_mem_cons.mpr ⟨lw_p47, fun _ h => absurd h List.not_mem_nil⟩⟩⟩⟩⟩⟩⟩⟩⟩⟩⟩⟩⟩⟩⟩⟩
theorem lw_p48 : lw_okq (⟨"PlatesSingModel", "kept", "(IIIII)V"⟩, 94) := ⟨lw_k11.1, lw_k11.2, qw_t 7 (List.mem_of_getElem? (i := 151) (sq_os (by decide +kernel))), qw_t 7 (List.mem_of_getElem? (i := 152) (sq_os (by decide +kernel)))⟩
theorem lw_p49 : lw_okq (⟨"PlatesSingModel", "set", "(IIII)V"⟩, 94) := ⟨lw_k11.1, lw_k11.2, qw_t 7 (List.mem_of_getElem? (i := 155) (sq_os (by decide +kernel))), qw_t 7 (List.mem_of_getElem? (i := 156) (sq_os (by decide +kernel)))⟩
theorem lw_p50 : lw_okq (⟨"PlatesSingModel", "setStiff", "(III)V"⟩, 94) := ⟨lw_k11.1, lw_k11.2, qw_t 7 (List.mem_of_getElem? (i := 159) (sq_os (by decide +kernel))), qw_t 7 (List.mem_of_getElem? (i := 160) (sq_os (by decide +kernel)))⟩
theorem lw_p51 : lw_okq (⟨"PlatesSingModel", "take", "(I)V"⟩, 94) := ⟨lw_k11.1, lw_k11.2, qw_t 7 (List.mem_of_getElem? (i := 196) (sq_os (by decide +kernel))), qw_t 7 (List.mem_of_getElem? (i := 197) (sq_os (by decide +kernel)))⟩
theorem lw_p52 : lw_okq (⟨"PlatesSingModel", "changes", "(II)I"⟩, 94) := ⟨lw_k11.1, lw_k11.2, qw_t 7 (List.mem_of_getElem? (i := 203) (sq_os (by decide +kernel))), qw_t 7 (List.mem_of_getElem? (i := 204) (sq_os (by decide +kernel)))⟩
theorem lw_p53 : lw_okq (⟨"PlatesSingModel", "findSums", "(II)V"⟩, 94) := ⟨lw_k11.1, lw_k11.2, qw_t 7 (List.mem_of_getElem? (i := 207) (sq_os (by decide +kernel))), qw_t 7 (List.mem_of_getElem? (i := 208) (sq_os (by decide +kernel)))⟩
theorem lw_p54 : lw_okq (⟨"PlatesSingModel", "layMatrix", "(II)V"⟩, 94) := ⟨lw_k11.1, lw_k11.2, qw_t 7 (List.mem_of_getElem? (i := 211) (sq_os (by decide +kernel))), qw_t 7 (List.mem_of_getElem? (i := 212) (sq_os (by decide +kernel)))⟩
theorem lw_p55 : lw_okq (⟨"PlatesSingModel", "minor", "(II)J"⟩, 94) := ⟨lw_k11.1, lw_k11.2, qw_t 7 (List.mem_of_getElem? (i := 218) (sq_os (by decide +kernel))), qw_t 7 (List.mem_of_getElem? (i := 219) (sq_os (by decide +kernel)))⟩
theorem lw_p56 : lw_okq (⟨"PlatesSingModel", "atMark", "(II)I"⟩, 94) := ⟨lw_k11.1, lw_k11.2, qw_t 7 (List.mem_of_getElem? (i := 222) (sq_os (by decide +kernel))), qw_t 7 (List.mem_of_getElem? (i := 223) (sq_os (by decide +kernel)))⟩
theorem lw_p57 : lw_okq (⟨"PlatesSingModel", "shutNow", "(II)I"⟩, 94) := ⟨lw_k11.1, lw_k11.2, qw_t 7 (List.mem_of_getElem? (i := 235) (sq_os (by decide +kernel))), qw_t 7 (List.mem_of_getElem? (i := 236) (sq_os (by decide +kernel)))⟩
theorem lw_p58 : lw_okq (⟨"PlatesSingModel", "forgetChanges", "()V"⟩, 94) := ⟨lw_k11.1, lw_k11.2, qw_t 7 (List.mem_of_getElem? (i := 239) (sq_os (by decide +kernel))), qw_t 8 (List.mem_of_getElem? (i := 0) (sq_os (by decide +kernel)))⟩
theorem lw_p59 : lw_okq (⟨"PlatesSingModel", "shutOf", "(II)I"⟩, 94) := ⟨lw_k11.1, lw_k11.2, qw_t 8 (List.mem_of_getElem? (i := 3) (sq_os (by decide +kernel))), qw_t 8 (List.mem_of_getElem? (i := 4) (sq_os (by decide +kernel)))⟩
theorem lw_p60 : lw_okq (⟨"PlatesSingModel", "setCount", "(III)V"⟩, 94) := ⟨lw_k11.1, lw_k11.2, qw_t 8 (List.mem_of_getElem? (i := 23) (sq_os (by decide +kernel))), qw_t 8 (List.mem_of_getElem? (i := 24) (sq_os (by decide +kernel)))⟩
theorem lw_p61 : lw_okq (⟨"PlatesSingModel", "findTurns", "(III)V"⟩, 94) := ⟨lw_k11.1, lw_k11.2, qw_t 8 (List.mem_of_getElem? (i := 31) (sq_os (by decide +kernel))), qw_t 8 (List.mem_of_getElem? (i := 32) (sq_os (by decide +kernel)))⟩
theorem lw_p62 : lw_okq (⟨"PlatesSingModel", "turnOn", "(IIII)V"⟩, 94) := ⟨lw_k11.1, lw_k11.2, qw_t 8 (List.mem_of_getElem? (i := 35) (sq_os (by decide +kernel))), qw_t 8 (List.mem_of_getElem? (i := 36) (sq_os (by decide +kernel)))⟩
theorem lw_p63 : lw_okq (⟨"PlatesSingModel", "areLike", "(IIII)Z"⟩, 94) := ⟨lw_k11.1, lw_k11.2, qw_t 8 (List.mem_of_getElem? (i := 39) (sq_os (by decide +kernel))), qw_t 8 (List.mem_of_getElem? (i := 40) (sq_os (by decide +kernel)))⟩
def lw_privs_4 : List (MethodName × Nat) := [(⟨"PlatesSingModel", "kept", "(IIIII)V"⟩, 94), (⟨"PlatesSingModel", "set", "(IIII)V"⟩, 94), (⟨"PlatesSingModel", "setStiff", "(III)V"⟩, 94), (⟨"PlatesSingModel", "take", "(I)V"⟩, 94), (⟨"PlatesSingModel", "changes", "(II)I"⟩, 94), (⟨"PlatesSingModel", "findSums", "(II)V"⟩, 94), (⟨"PlatesSingModel", "layMatrix", "(II)V"⟩, 94), (⟨"PlatesSingModel", "minor", "(II)J"⟩, 94), (⟨"PlatesSingModel", "atMark", "(II)I"⟩, 94), (⟨"PlatesSingModel", "shutNow", "(II)I"⟩, 94), (⟨"PlatesSingModel", "forgetChanges", "()V"⟩, 94), (⟨"PlatesSingModel", "shutOf", "(II)I"⟩, 94), (⟨"PlatesSingModel", "setCount", "(III)V"⟩, 94), (⟨"PlatesSingModel", "findTurns", "(III)V"⟩, 94), (⟨"PlatesSingModel", "turnOn", "(IIII)V"⟩, 94), (⟨"PlatesSingModel", "areLike", "(IIII)Z"⟩, 94)]
theorem lw_r4 : ∀ q ∈ lw_privs_4, lw_okq q := List.forall_mem_cons.mpr ⟨lw_p48, List.forall_mem_cons.mpr ⟨lw_p49, List.forall_mem_cons.mpr ⟨lw_p50, List.forall_mem_cons.mpr ⟨lw_p51, List.forall_mem_cons.mpr ⟨lw_p52, List.forall_mem_cons.mpr ⟨lw_p53, List.forall_mem_cons.mpr ⟨lw_p54, List.forall_mem_cons.mpr ⟨lw_p55, List.forall_mem_cons.mpr ⟨lw_p56, List.forall_mem_cons.mpr ⟨lw_p57, List.forall_mem_cons.mpr ⟨lw_p58, List.forall_mem_cons.mpr ⟨lw_p59, List.forall_mem_cons.mpr ⟨lw_p60, List.forall_mem_cons.mpr ⟨lw_p61, List.forall_mem_cons.mpr ⟨lw_p62, List.forall_mem_cons.mpr ⟨lw_p63, fun _ h => absurd h List.not_mem_nil⟩⟩⟩⟩⟩⟩⟩⟩⟩⟩⟩⟩⟩⟩⟩⟩
theorem lw_p64 : lw_okq (⟨"PlatesSingModel", "countBetween", "(III)I"⟩, 94) := ⟨lw_k11.1, lw_k11.2, qw_t 8 (List.mem_of_getElem? (i := 43) (sq_os (by decide +kernel))), qw_t 8 (List.mem_of_getElem? (i := 44) (sq_os (by decide +kernel)))⟩
theorem lw_p65 : lw_okq (⟨"PlatesSingModel", "tableOf", "(II)I"⟩, 94) := ⟨lw_k11.1, lw_k11.2, qw_t 8 (List.mem_of_getElem? (i := 55) (sq_os (by decide +kernel))), qw_t 8 (List.mem_of_getElem? (i := 56) (sq_os (by decide +kernel)))⟩
theorem lw_p66 : lw_okq (⟨"PlatesSingModel", "soundAlike", "(II)Z"⟩, 94) := ⟨lw_k11.1, lw_k11.2, qw_t 8 (List.mem_of_getElem? (i := 63) (sq_os (by decide +kernel))), qw_t 8 (List.mem_of_getElem? (i := 64) (sq_os (by decide +kernel)))⟩
theorem lw_p67 : lw_okq (⟨"PlatesSingModel", "lastSum", "(II)J"⟩, 94) := ⟨lw_k11.1, lw_k11.2, qw_t 8 (List.mem_of_getElem? (i := 67) (sq_os (by decide +kernel))), qw_t 8 (List.mem_of_getElem? (i := 68) (sq_os (by decide +kernel)))⟩
theorem lw_p68 : lw_okq (⟨"PlatesSingModel", "divisor", "(I)J"⟩, 94) := ⟨lw_k11.1, lw_k11.2, qw_t 8 (List.mem_of_getElem? (i := 71) (sq_os (by decide +kernel))), qw_t 8 (List.mem_of_getElem? (i := 72) (sq_os (by decide +kernel)))⟩
theorem lw_p69 : lw_okq (⟨"PlatesSingModel", "struck", "(II)Z"⟩, 94) := ⟨lw_k11.1, lw_k11.2, qw_t 8 (List.mem_of_getElem? (i := 87) (sq_os (by decide +kernel))), qw_t 8 (List.mem_of_getElem? (i := 88) (sq_os (by decide +kernel)))⟩
theorem lw_p70 : lw_okq (⟨"PlatesSingModel", "tuneOn", "(II)V"⟩, 94) := ⟨lw_k11.1, lw_k11.2, qw_t 8 (List.mem_of_getElem? (i := 95) (sq_os (by decide +kernel))), qw_t 8 (List.mem_of_getElem? (i := 96) (sq_os (by decide +kernel)))⟩
theorem lw_p71 : lw_okq (⟨"PlatesSingModel", "lacks", "()I"⟩, 94) := ⟨lw_k11.1, lw_k11.2, qw_t 8 (List.mem_of_getElem? (i := 99) (sq_os (by decide +kernel))), qw_t 8 (List.mem_of_getElem? (i := 100) (sq_os (by decide +kernel)))⟩
theorem lw_p72 : lw_okq (⟨"PlatesSingModel", "digitsOf", "()I"⟩, 94) := ⟨lw_k11.1, lw_k11.2, qw_t 8 (List.mem_of_getElem? (i := 106) (sq_os (by decide +kernel))), qw_t 8 (List.mem_of_getElem? (i := 107) (sq_os (by decide +kernel)))⟩
theorem lw_p73 : lw_okq (⟨"PlatesSingModel", "findFits", "(II)V"⟩, 94) := ⟨lw_k11.1, lw_k11.2, qw_t 8 (List.mem_of_getElem? (i := 126) (sq_os (by decide +kernel))), qw_t 8 (List.mem_of_getElem? (i := 127) (sq_os (by decide +kernel)))⟩
theorem lw_p74 : lw_okq (⟨"PlatesSingModel", "tryFit", "(IIII)V"⟩, 94) := ⟨lw_k11.1, lw_k11.2, qw_t 8 (List.mem_of_getElem? (i := 130) (sq_os (by decide +kernel))), qw_t 8 (List.mem_of_getElem? (i := 131) (sq_os (by decide +kernel)))⟩
theorem lw_p75 : lw_okq (⟨"PlatesSingModel", "begin", "(I)V"⟩, 94) := ⟨lw_k11.1, lw_k11.2, qw_t 8 (List.mem_of_getElem? (i := 153) (sq_os (by decide +kernel))), qw_t 8 (List.mem_of_getElem? (i := 154) (sq_os (by decide +kernel)))⟩
theorem lw_p76 : lw_okq (⟨"PlatesSingModel", "step", "()I"⟩, 94) := ⟨lw_k11.1, lw_k11.2, qw_t 8 (List.mem_of_getElem? (i := 157) (sq_os (by decide +kernel))), qw_t 8 (List.mem_of_getElem? (i := 158) (sq_os (by decide +kernel)))⟩
theorem lw_p77 : lw_okq (⟨"PlatesSingModel", "isWhole", "(I)Z"⟩, 94) := ⟨lw_k11.1, lw_k11.2, qw_t 8 (List.mem_of_getElem? (i := 184) (sq_os (by decide +kernel))), qw_t 8 (List.mem_of_getElem? (i := 185) (sq_os (by decide +kernel)))⟩
theorem lw_p78 : lw_okq (⟨"PlatesSingModel", "whyNoRow", "(I)I"⟩, 94) := ⟨lw_k11.1, lw_k11.2, qw_t 8 (List.mem_of_getElem? (i := 196) (sq_os (by decide +kernel))), qw_t 8 (List.mem_of_getElem? (i := 197) (sq_os (by decide +kernel)))⟩
theorem lw_p79 : lw_okq (⟨"PlatesSingModel", "loudnessOf", "(II)J"⟩, 94) := ⟨lw_k11.1, lw_k11.2, qw_t 8 (List.mem_of_getElem? (i := 200) (sq_os (by decide +kernel))), qw_t 8 (List.mem_of_getElem? (i := 201) (sq_os (by decide +kernel)))⟩
def lw_privs_5 : List (MethodName × Nat) := [(⟨"PlatesSingModel", "countBetween", "(III)I"⟩, 94), (⟨"PlatesSingModel", "tableOf", "(II)I"⟩, 94), (⟨"PlatesSingModel", "soundAlike", "(II)Z"⟩, 94), (⟨"PlatesSingModel", "lastSum", "(II)J"⟩, 94), (⟨"PlatesSingModel", "divisor", "(I)J"⟩, 94), (⟨"PlatesSingModel", "struck", "(II)Z"⟩, 94), (⟨"PlatesSingModel", "tuneOn", "(II)V"⟩, 94), (⟨"PlatesSingModel", "lacks", "()I"⟩, 94), (⟨"PlatesSingModel", "digitsOf", "()I"⟩, 94), (⟨"PlatesSingModel", "findFits", "(II)V"⟩, 94), (⟨"PlatesSingModel", "tryFit", "(IIII)V"⟩, 94), (⟨"PlatesSingModel", "begin", "(I)V"⟩, 94), (⟨"PlatesSingModel", "step", "()I"⟩, 94), (⟨"PlatesSingModel", "isWhole", "(I)Z"⟩, 94), (⟨"PlatesSingModel", "whyNoRow", "(I)I"⟩, 94), (⟨"PlatesSingModel", "loudnessOf", "(II)J"⟩, 94)]
theorem lw_r5 : ∀ q ∈ lw_privs_5, lw_okq q := List.forall_mem_cons.mpr ⟨lw_p64, List.forall_mem_cons.mpr ⟨lw_p65, List.forall_mem_cons.mpr ⟨lw_p66, List.forall_mem_cons.mpr ⟨lw_p67, List.forall_mem_cons.mpr ⟨lw_p68, List.forall_mem_cons.mpr ⟨lw_p69, List.forall_mem_cons.mpr ⟨lw_p70, List.forall_mem_cons.mpr ⟨lw_p71, List.forall_mem_cons.mpr ⟨lw_p72, List.forall_mem_cons.mpr ⟨lw_p73, List.forall_mem_cons.mpr ⟨lw_p74, List.forall_mem_cons.mpr ⟨lw_p75, List.forall_mem_cons.mpr ⟨lw_p76, List.forall_mem_cons.mpr ⟨lw_p77, List.forall_mem_cons.mpr ⟨lw_p78, List.forall_mem_cons.mpr ⟨lw_p79, fun _ h => absurd h List.not_mem_nil⟩⟩⟩⟩⟩⟩⟩⟩⟩⟩⟩⟩⟩⟩⟩⟩
theorem lw_p80 : lw_okq (⟨"PlatesSingModel", "heardIn", "(II)J"⟩, 94) := ⟨lw_k11.1, lw_k11.2, qw_t 8 (List.mem_of_getElem? (i := 204) (sq_os (by decide +kernel))), qw_t 8 (List.mem_of_getElem? (i := 205) (sq_os (by decide +kernel)))⟩
theorem lw_p81 : lw_okq (⟨"PlatesSingModel", "doAgree", "(IIII)Z"⟩, 94) := ⟨lw_k11.1, lw_k11.2, qw_t 8 (List.mem_of_getElem? (i := 231) (sq_os (by decide +kernel))), qw_t 8 (List.mem_of_getElem? (i := 232) (sq_os (by decide +kernel)))⟩
theorem lw_p82 : lw_okq (⟨"PlatesSingModel", "allAgree", "(III)Z"⟩, 94) := ⟨lw_k11.1, lw_k11.2, qw_t 8 (List.mem_of_getElem? (i := 235) (sq_os (by decide +kernel))), qw_t 8 (List.mem_of_getElem? (i := 236) (sq_os (by decide +kernel)))⟩
theorem lw_p83 : lw_okq (⟨"PlatesSingModel", "copyCorners", "(III)V"⟩, 94) := ⟨lw_k11.1, lw_k11.2, qw_t 9 (List.mem_of_getElem? (i := 3) (sq_os (by decide +kernel))), qw_t 9 (List.mem_of_getElem? (i := 4) (sq_os (by decide +kernel)))⟩
theorem lw_p84 : lw_okq (⟨"PlatesSingModel", "copyPieces", "(III)V"⟩, 94) := ⟨lw_k11.1, lw_k11.2, qw_t 9 (List.mem_of_getElem? (i := 7) (sq_os (by decide +kernel))), qw_t 9 (List.mem_of_getElem? (i := 8) (sq_os (by decide +kernel)))⟩
theorem lw_p85 : lw_okq (⟨"PlatesSingModel", "changesOf", "(II)I"⟩, 94) := ⟨lw_k11.1, lw_k11.2, qw_t 9 (List.mem_of_getElem? (i := 15) (sq_os (by decide +kernel))), qw_t 9 (List.mem_of_getElem? (i := 16) (sq_os (by decide +kernel)))⟩
theorem lw_p86 : lw_okq (⟨"PlatesSingModel", "isBody", "(I)Z"⟩, 94) := ⟨lw_k11.1, lw_k11.2, qw_t 9 (List.mem_of_getElem? (i := 27) (sq_os (by decide +kernel))), qw_t 9 (List.mem_of_getElem? (i := 28) (sq_os (by decide +kernel)))⟩
theorem lw_p87 : lw_okq (⟨"PlatesSingModel", "stiffens", "(II)I"⟩, 94) := ⟨lw_k11.1, lw_k11.2, qw_t 9 (List.mem_of_getElem? (i := 31) (sq_os (by decide +kernel))), qw_t 9 (List.mem_of_getElem? (i := 32) (sq_os (by decide +kernel)))⟩
theorem lw_p88 : lw_okq (⟨"PlatesSingModel", "ran", "(I)V"⟩, 94) := ⟨lw_k11.1, lw_k11.2, qw_t 9 (List.mem_of_getElem? (i := 38) (sq_os (by decide +kernel))), qw_t 9 (List.mem_of_getElem? (i := 39) (sq_os (by decide +kernel)))⟩
theorem lw_p89 : lw_okq (⟨"PlatesSingModel", "pieceStiffens", "(II)I"⟩, 94) := ⟨lw_k11.1, lw_k11.2, qw_t 9 (List.mem_of_getElem? (i := 42) (sq_os (by decide +kernel))), qw_t 9 (List.mem_of_getElem? (i := 43) (sq_os (by decide +kernel)))⟩
theorem lw_p90 : lw_okq (⟨"PlatesSingModel", "plainStiffens", "(II)I"⟩, 94) := ⟨lw_k11.1, lw_k11.2, qw_t 9 (List.mem_of_getElem? (i := 46) (sq_os (by decide +kernel))), qw_t 9 (List.mem_of_getElem? (i := 47) (sq_os (by decide +kernel)))⟩
theorem lw_p91 : lw_okq (⟨"PlatesSingModel", "weighs", "(II)I"⟩, 94) := ⟨lw_k11.1, lw_k11.2, qw_t 9 (List.mem_of_getElem? (i := 50) (sq_os (by decide +kernel))), qw_t 9 (List.mem_of_getElem? (i := 51) (sq_os (by decide +kernel)))⟩
theorem lw_p92 : lw_okq (⟨"PlatesSingModel", "plainWeighs", "(II)I"⟩, 94) := ⟨lw_k11.1, lw_k11.2, qw_t 9 (List.mem_of_getElem? (i := 54) (sq_os (by decide +kernel))), qw_t 9 (List.mem_of_getElem? (i := 55) (sq_os (by decide +kernel)))⟩
theorem lw_p93 : lw_okq (⟨"PlatesSingModel", "sounds", "(II)I"⟩, 94) := ⟨lw_k11.1, lw_k11.2, qw_t 9 (List.mem_of_getElem? (i := 58) (sq_os (by decide +kernel))), qw_t 9 (List.mem_of_getElem? (i := 59) (sq_os (by decide +kernel)))⟩
theorem lw_p94 : lw_okq (⟨"PlatesSingModel", "plainSounds", "(II)I"⟩, 94) := ⟨lw_k11.1, lw_k11.2, qw_t 9 (List.mem_of_getElem? (i := 62) (sq_os (by decide +kernel))), qw_t 9 (List.mem_of_getElem? (i := 63) (sq_os (by decide +kernel)))⟩
theorem lw_p95 : lw_okq (⟨"PlatesSingModel", "tells", "(II)I"⟩, 94) := ⟨lw_k11.1, lw_k11.2, qw_t 9 (List.mem_of_getElem? (i := 66) (sq_os (by decide +kernel))), qw_t 9 (List.mem_of_getElem? (i := 67) (sq_os (by decide +kernel)))⟩
def lw_privs_6 : List (MethodName × Nat) := [(⟨"PlatesSingModel", "heardIn", "(II)J"⟩, 94), (⟨"PlatesSingModel", "doAgree", "(IIII)Z"⟩, 94), (⟨"PlatesSingModel", "allAgree", "(III)Z"⟩, 94), (⟨"PlatesSingModel", "copyCorners", "(III)V"⟩, 94), (⟨"PlatesSingModel", "copyPieces", "(III)V"⟩, 94), (⟨"PlatesSingModel", "changesOf", "(II)I"⟩, 94), (⟨"PlatesSingModel", "isBody", "(I)Z"⟩, 94), (⟨"PlatesSingModel", "stiffens", "(II)I"⟩, 94), (⟨"PlatesSingModel", "ran", "(I)V"⟩, 94), (⟨"PlatesSingModel", "pieceStiffens", "(II)I"⟩, 94), (⟨"PlatesSingModel", "plainStiffens", "(II)I"⟩, 94), (⟨"PlatesSingModel", "weighs", "(II)I"⟩, 94), (⟨"PlatesSingModel", "plainWeighs", "(II)I"⟩, 94), (⟨"PlatesSingModel", "sounds", "(II)I"⟩, 94), (⟨"PlatesSingModel", "plainSounds", "(II)I"⟩, 94), (⟨"PlatesSingModel", "tells", "(II)I"⟩, 94)]
theorem lw_r6 : ∀ q ∈ lw_privs_6, lw_okq q := List.forall_mem_cons.mpr ⟨lw_p80, List.forall_mem_cons.mpr ⟨lw_p81, List.forall_mem_cons.mpr ⟨lw_p82, List.forall_mem_cons.mpr ⟨lw_p83, List.forall_mem_cons.mpr ⟨lw_p84, List.forall_mem_cons.mpr ⟨lw_p85, List.forall_mem_cons.mpr ⟨lw_p86, List.forall_mem_cons.mpr ⟨lw_p87, List.forall_mem_cons.mpr ⟨lw_p88, List.forall_mem_cons.mpr ⟨lw_p89, List.forall_mem_cons.mpr ⟨lw_p90, List.forall_mem_cons.mpr ⟨lw_p91, List.forall_mem_cons.mpr ⟨lw_p92, List.forall_mem_cons.mpr ⟨lw_p93, List.forall_mem_cons.mpr ⟨lw_p94, List.forall_mem_cons.mpr ⟨lw_p95, fun _ h => absurd h List.not_mem_nil⟩⟩⟩⟩⟩⟩⟩⟩⟩⟩⟩⟩⟩⟩⟩⟩
theorem lw_p96 : lw_okq (⟨"PlatesSingModel", "crackedTells", "(II)I"⟩, 94) := ⟨lw_k11.1, lw_k11.2, qw_t 9 (List.mem_of_getElem? (i := 70) (sq_os (by decide +kernel))), qw_t 9 (List.mem_of_getElem? (i := 71) (sq_os (by decide +kernel)))⟩
theorem lw_p97 : lw_okq (⟨"PlatesSingModel", "plainTells", "(II)I"⟩, 94) := ⟨lw_k11.1, lw_k11.2, qw_t 9 (List.mem_of_getElem? (i := 74) (sq_os (by decide +kernel))), qw_t 9 (List.mem_of_getElem? (i := 75) (sq_os (by decide +kernel)))⟩
theorem lw_p98 : lw_okq (⟨"PlatesSingModel", "whyNoPlace", "(II)I"⟩, 94) := ⟨lw_k11.1, lw_k11.2, qw_t 9 (List.mem_of_getElem? (i := 98) (sq_os (by decide +kernel))), qw_t 9 (List.mem_of_getElem? (i := 99) (sq_os (by decide +kernel)))⟩
def lw_privs_7 : List (MethodName × Nat) := [(⟨"PlatesSingModel", "crackedTells", "(II)I"⟩, 94), (⟨"PlatesSingModel", "plainTells", "(II)I"⟩, 94), (⟨"PlatesSingModel", "whyNoPlace", "(II)I"⟩, 94)]
theorem lw_r7 : ∀ q ∈ lw_privs_7, lw_okq q := List.forall_mem_cons.mpr ⟨lw_p96, List.forall_mem_cons.mpr ⟨lw_p97, List.forall_mem_cons.mpr ⟨lw_p98, fun _ h => absurd h List.not_mem_nil⟩⟩⟩
def lw_privs : List (MethodName × Nat) := lw_privs_1 ++ (lw_privs_2 ++ (lw_privs_3 ++ (lw_privs_4 ++ (lw_privs_5 ++ (lw_privs_6 ++ (lw_privs_7))))))
def lw_tbl : List Cond := k2_sels lw_privs ++ tables_1
theorem lw_privs_ok : ∀ q ∈ lw_privs, lw_okq q := by
  show ∀ q ∈ lw_privs_1 ++ (lw_privs_2 ++ (lw_privs_3 ++ (lw_privs_4 ++ (lw_privs_5 ++ (lw_privs_6 ++ (lw_privs_7)))))), lw_okq q
  exact List.forall_mem_append.mpr ⟨lw_r1, List.forall_mem_append.mpr ⟨lw_r2, List.forall_mem_append.mpr ⟨lw_r3, List.forall_mem_append.mpr ⟨lw_r4, List.forall_mem_append.mpr ⟨lw_r5, List.forall_mem_append.mpr ⟨lw_r6, lw_r7⟩⟩⟩⟩⟩⟩
-- ===== end of PART A =====
