section
-- ===== PART A: goes FIRST, ahead of the names: the tables' words, and 'selects' of the private methods out of them =====
/-- a private method of a class that the tables say can be made, by its rows of tables_1 -/
def lw_okq (q : MethodName × Nat) : Prop := (q.1.cls ≠ "java/lang/invoke/MethodHandle" ∧ q.1.cls ≠ "java/lang/invoke/VarHandle") ∧ Cond.instantiable q.1.cls q.2 ∈ tables_1 ∧ Cond.privateMethod q.1 ∈ tables_1 ∧ Cond.instanceMethod q.1 ∈ tables_1
theorem lw_p0 : lw_okq (⟨"PlatesSing$Tape", "readCorners", "(LPlatesSing$Shape;)Z"⟩, 3) := ⟨⟨by decide +kernel, by decide +kernel⟩, List.mem_of_getElem? (i := 27) (by decide +kernel), List.mem_of_getElem? (i := 516) (by decide +kernel), List.mem_of_getElem? (i := 517) (by decide +kernel)⟩
theorem lw_p1 : lw_okq (⟨"PlatesSing$Tape", "peek", "()I"⟩, 3) := ⟨⟨by decide +kernel, by decide +kernel⟩, List.mem_of_getElem? (i := 27) (by decide +kernel), List.mem_of_getElem? (i := 520) (by decide +kernel), List.mem_of_getElem? (i := 521) (by decide +kernel)⟩
theorem lw_p2 : lw_okq (⟨"PlatesSing$Tape", "digit", "()I"⟩, 3) := ⟨⟨by decide +kernel, by decide +kernel⟩, List.mem_of_getElem? (i := 27) (by decide +kernel), List.mem_of_getElem? (i := 524) (by decide +kernel), List.mem_of_getElem? (i := 525) (by decide +kernel)⟩
theorem lw_p3 : lw_okq (⟨"PlatesSing$Tape", "readPart", "(LPlatesSing$Shape;)Z"⟩, 3) := ⟨⟨by decide +kernel, by decide +kernel⟩, List.mem_of_getElem? (i := 27) (by decide +kernel), List.mem_of_getElem? (i := 529) (by decide +kernel), List.mem_of_getElem? (i := 530) (by decide +kernel)⟩
theorem lw_p4 : lw_okq (⟨"PlatesSing$Tape", "readPiece", "(LPlatesSing$Shape;)Z"⟩, 3) := ⟨⟨by decide +kernel, by decide +kernel⟩, List.mem_of_getElem? (i := 27) (by decide +kernel), List.mem_of_getElem? (i := 533) (by decide +kernel), List.mem_of_getElem? (i := 534) (by decide +kernel)⟩
theorem lw_p5 : lw_okq (⟨"PlatesSing$Tape", "corner", "(LPlatesSing$Shape;)I"⟩, 3) := ⟨⟨by decide +kernel, by decide +kernel⟩, List.mem_of_getElem? (i := 27) (by decide +kernel), List.mem_of_getElem? (i := 537) (by decide +kernel), List.mem_of_getElem? (i := 538) (by decide +kernel)⟩
theorem lw_p6 : lw_okq (⟨"PlatesSing$Tape", "readHold", "(LPlatesSing$Shape;)Z"⟩, 3) := ⟨⟨by decide +kernel, by decide +kernel⟩, List.mem_of_getElem? (i := 27) (by decide +kernel), List.mem_of_getElem? (i := 555) (by decide +kernel), List.mem_of_getElem? (i := 556) (by decide +kernel)⟩
theorem lw_p7 : lw_okq (⟨"PlatesSing$Tape", "readNumber", "(LPlatesSing$Shape;[I)Z"⟩, 3) := ⟨⟨by decide +kernel, by decide +kernel⟩, List.mem_of_getElem? (i := 27) (by decide +kernel), List.mem_of_getElem? (i := 559) (by decide +kernel), List.mem_of_getElem? (i := 560) (by decide +kernel)⟩
theorem lw_p8 : lw_okq (⟨"PlatesSing", "isFullFor", "(I)Z"⟩, 14) := ⟨⟨by decide +kernel, by decide +kernel⟩, List.mem_of_getElem? (i := 19) (by decide +kernel), List.mem_of_getElem? (i := 563) (by decide +kernel), List.mem_of_getElem? (i := 564) (by decide +kernel)⟩
theorem lw_p9 : lw_okq (⟨"PlatesSing", "addDraft", "()I"⟩, 14) := ⟨⟨by decide +kernel, by decide +kernel⟩, List.mem_of_getElem? (i := 19) (by decide +kernel), List.mem_of_getElem? (i := 567) (by decide +kernel), List.mem_of_getElem? (i := 568) (by decide +kernel)⟩
theorem lw_p10 : lw_okq (⟨"PlatesSing", "shapeAt", "(I)LPlatesSing$Shape;"⟩, 14) := ⟨⟨by decide +kernel, by decide +kernel⟩, List.mem_of_getElem? (i := 19) (by decide +kernel), List.mem_of_getElem? (i := 579) (by decide +kernel), List.mem_of_getElem? (i := 580) (by decide +kernel)⟩
theorem lw_p11 : lw_okq (⟨"PlatesSing", "change", "(LPlatesSing$Shape;III)I"⟩, 14) := ⟨⟨by decide +kernel, by decide +kernel⟩, List.mem_of_getElem? (i := 19) (by decide +kernel), List.mem_of_getElem? (i := 600) (by decide +kernel), List.mem_of_getElem? (i := 601) (by decide +kernel)⟩
theorem lw_p12 : lw_okq (⟨"PlatesSing$History", "dropOldest", "()V"⟩, 7) := ⟨⟨by decide +kernel, by decide +kernel⟩, List.mem_of_getElem? (i := 364) (by decide +kernel), List.mem_of_getElem? (i := 619) (by decide +kernel), List.mem_of_getElem? (i := 620) (by decide +kernel)⟩
theorem lw_p13 : lw_okq (⟨"PlatesSing$Net", "fillMatrix", "(II)V"⟩, 12) := ⟨⟨by decide +kernel, by decide +kernel⟩, List.mem_of_getElem? (i := 138) (by decide +kernel), List.mem_of_getElem? (i := 670) (by decide +kernel), List.mem_of_getElem? (i := 671) (by decide +kernel)⟩
theorem lw_p14 : lw_okq (⟨"PlatesSing$Net", "fillFactor", "(I)V"⟩, 12) := ⟨⟨by decide +kernel, by decide +kernel⟩, List.mem_of_getElem? (i := 138) (by decide +kernel), List.mem_of_getElem? (i := 674) (by decide +kernel), List.mem_of_getElem? (i := 675) (by decide +kernel)⟩
theorem lw_p15 : lw_okq (⟨"PlatesSing$Turns", "extend", "(LPlatesSing$Shape;LPlatesSing$Shape;I)V"⟩, 6) := ⟨⟨by decide +kernel, by decide +kernel⟩, List.mem_of_getElem? (i := 188) (by decide +kernel), List.mem_of_getElem? (i := 734) (by decide +kernel), List.mem_of_getElem? (i := 735) (by decide +kernel)⟩
def lw_privs_1 : List (MethodName × Nat) := [(⟨"PlatesSing$Tape", "readCorners", "(LPlatesSing$Shape;)Z"⟩, 3), (⟨"PlatesSing$Tape", "peek", "()I"⟩, 3), (⟨"PlatesSing$Tape", "digit", "()I"⟩, 3), (⟨"PlatesSing$Tape", "readPart", "(LPlatesSing$Shape;)Z"⟩, 3), (⟨"PlatesSing$Tape", "readPiece", "(LPlatesSing$Shape;)Z"⟩, 3), (⟨"PlatesSing$Tape", "corner", "(LPlatesSing$Shape;)I"⟩, 3), (⟨"PlatesSing$Tape", "readHold", "(LPlatesSing$Shape;)Z"⟩, 3), (⟨"PlatesSing$Tape", "readNumber", "(LPlatesSing$Shape;[I)Z"⟩, 3), (⟨"PlatesSing", "isFullFor", "(I)Z"⟩, 14), (⟨"PlatesSing", "addDraft", "()I"⟩, 14), (⟨"PlatesSing", "shapeAt", "(I)LPlatesSing$Shape;"⟩, 14), (⟨"PlatesSing", "change", "(LPlatesSing$Shape;III)I"⟩, 14), (⟨"PlatesSing$History", "dropOldest", "()V"⟩, 7), (⟨"PlatesSing$Net", "fillMatrix", "(II)V"⟩, 12), (⟨"PlatesSing$Net", "fillFactor", "(I)V"⟩, 12), (⟨"PlatesSing$Turns", "extend", "(LPlatesSing$Shape;LPlatesSing$Shape;I)V"⟩, 6)]
theorem lw_r1 : ∀ q ∈ lw_privs_1, lw_okq q := List.forall_mem_cons.mpr ⟨lw_p0, List.forall_mem_cons.mpr ⟨lw_p1, List.forall_mem_cons.mpr ⟨lw_p2, List.forall_mem_cons.mpr ⟨lw_p3, List.forall_mem_cons.mpr ⟨lw_p4, List.forall_mem_cons.mpr ⟨lw_p5, List.forall_mem_cons.mpr ⟨lw_p6, List.forall_mem_cons.mpr ⟨lw_p7, List.forall_mem_cons.mpr ⟨lw_p8, List.forall_mem_cons.mpr ⟨lw_p9, List.forall_mem_cons.mpr ⟨lw_p10, List.forall_mem_cons.mpr ⟨lw_p11, List.forall_mem_cons.mpr ⟨lw_p12, List.forall_mem_cons.mpr ⟨lw_p13, List.forall_mem_cons.mpr ⟨lw_p14, List.forall_mem_cons.mpr ⟨lw_p15, fun _ h => absurd h List.not_mem_nil⟩⟩⟩⟩⟩⟩⟩⟩⟩⟩⟩⟩⟩⟩⟩⟩
theorem lw_p16 : lw_okq (⟨"PlatesSing$Turns", "noteFound", "(I)V"⟩, 6) := ⟨⟨by decide +kernel, by decide +kernel⟩, List.mem_of_getElem? (i := 188) (by decide +kernel), List.mem_of_getElem? (i := 738) (by decide +kernel), List.mem_of_getElem? (i := 739) (by decide +kernel)⟩
theorem lw_p17 : lw_okq (⟨"PlatesSing$Turns", "keepsPieces", "(II)Z"⟩, 6) := ⟨⟨by decide +kernel, by decide +kernel⟩, List.mem_of_getElem? (i := 188) (by decide +kernel), List.mem_of_getElem? (i := 745) (by decide +kernel), List.mem_of_getElem? (i := 746) (by decide +kernel)⟩
theorem lw_p18 : lw_okq (⟨"PlatesSing$Net", "divisor", "()J"⟩, 12) := ⟨⟨by decide +kernel, by decide +kernel⟩, List.mem_of_getElem? (i := 138) (by decide +kernel), List.mem_of_getElem? (i := 769) (by decide +kernel), List.mem_of_getElem? (i := 770) (by decide +kernel)⟩
theorem lw_p19 : lw_okq (⟨"PlatesSing", "planned", "()LPlatesSing$Shape;"⟩, 14) := ⟨⟨by decide +kernel, by decide +kernel⟩, List.mem_of_getElem? (i := 19) (by decide +kernel), List.mem_of_getElem? (i := 789) (by decide +kernel), List.mem_of_getElem? (i := 790) (by decide +kernel)⟩
theorem lw_p20 : lw_okq (⟨"PlatesSing$Plan", "extend", "(LPlatesSing$Shape;LPlatesSing$Net;IIII)V"⟩, 13) := ⟨⟨by decide +kernel, by decide +kernel⟩, List.mem_of_getElem? (i := 218) (by decide +kernel), List.mem_of_getElem? (i := 827) (by decide +kernel), List.mem_of_getElem? (i := 828) (by decide +kernel)⟩
theorem lw_p21 : lw_okq (⟨"PlatesSing$Plan", "compare", "(LPlatesSing$Shape;LPlatesSing$Net;II)V"⟩, 13) := ⟨⟨by decide +kernel, by decide +kernel⟩, List.mem_of_getElem? (i := 218) (by decide +kernel), List.mem_of_getElem? (i := 831) (by decide +kernel), List.mem_of_getElem? (i := 832) (by decide +kernel)⟩
theorem lw_p22 : lw_okq (⟨"PlatesSing$Hearing", "tryNet", "(LPlatesSing$Net;IIII)V"⟩, 6) := ⟨⟨by decide +kernel, by decide +kernel⟩, List.mem_of_getElem? (i := 270) (by decide +kernel), List.mem_of_getElem? (i := 865) (by decide +kernel), List.mem_of_getElem? (i := 866) (by decide +kernel)⟩
theorem lw_p23 : lw_okq (⟨"PlatesSing$Blows", "pull", "(LPlatesSing$Net;I)V"⟩, 11) := ⟨⟨by decide +kernel, by decide +kernel⟩, List.mem_of_getElem? (i := 299) (by decide +kernel), List.mem_of_getElem? (i := 916) (by decide +kernel), List.mem_of_getElem? (i := 917) (by decide +kernel)⟩
theorem lw_p24 : lw_okq (⟨"PlatesSing$Shelves", "present", "(II)J"⟩, 4) := ⟨⟨by decide +kernel, by decide +kernel⟩, List.mem_of_getElem? (i := 422) (by decide +kernel), List.mem_of_getElem? (i := 1000) (by decide +kernel), List.mem_of_getElem? (i := 1001) (by decide +kernel)⟩
theorem lw_p25 : lw_okq (⟨"PlatesSing$Ratios", "fit", "(IIII)Z"⟩, 4) := ⟨⟨by decide +kernel, by decide +kernel⟩, List.mem_of_getElem? (i := 343) (by decide +kernel), List.mem_of_getElem? (i := 1043) (by decide +kernel), List.mem_of_getElem? (i := 1044) (by decide +kernel)⟩
theorem lw_p26 : lw_okq (⟨"PlatesSing$Ratios", "allFit", "(III)Z"⟩, 4) := ⟨⟨by decide +kernel, by decide +kernel⟩, List.mem_of_getElem? (i := 343) (by decide +kernel), List.mem_of_getElem? (i := 1058) (by decide +kernel), List.mem_of_getElem? (i := 1059) (by decide +kernel)⟩
theorem lw_p27 : lw_okq (⟨"PlatesSing", "under", "(LPlatesSing$Shape;I)I"⟩, 14) := ⟨⟨by decide +kernel, by decide +kernel⟩, List.mem_of_getElem? (i := 19) (by decide +kernel), List.mem_of_getElem? (i := 1081) (by decide +kernel), List.mem_of_getElem? (i := 1082) (by decide +kernel)⟩
theorem lw_p28 : lw_okq (⟨"PlatesSing", "isBody", "(I)Z"⟩, 14) := ⟨⟨by decide +kernel, by decide +kernel⟩, List.mem_of_getElem? (i := 19) (by decide +kernel), List.mem_of_getElem? (i := 1121) (by decide +kernel), List.mem_of_getElem? (i := 1122) (by decide +kernel)⟩
theorem lw_p29 : lw_okq (⟨"PlatesSing$Parts", "begin", "(I)V"⟩, 5) := ⟨⟨by decide +kernel, by decide +kernel⟩, List.mem_of_getElem? (i := 395) (by decide +kernel), List.mem_of_getElem? (i := 1133) (by decide +kernel), List.mem_of_getElem? (i := 1134) (by decide +kernel)⟩
theorem lw_p30 : lw_okq (⟨"PlatesSing$Parts", "stiffOf", "(I)I"⟩, 5) := ⟨⟨by decide +kernel, by decide +kernel⟩, List.mem_of_getElem? (i := 395) (by decide +kernel), List.mem_of_getElem? (i := 1137) (by decide +kernel), List.mem_of_getElem? (i := 1138) (by decide +kernel)⟩
theorem lw_p31 : lw_okq (⟨"PlatesSingModel", "readShape", "()V"⟩, 94) := ⟨⟨by decide +kernel, by decide +kernel⟩, List.mem_of_getElem? (i := 1207) (by decide +kernel), List.mem_of_getElem? (i := 1508) (by decide +kernel), List.mem_of_getElem? (i := 1509) (by decide +kernel)⟩
def lw_privs_2 : List (MethodName × Nat) := [(⟨"PlatesSing$Turns", "noteFound", "(I)V"⟩, 6), (⟨"PlatesSing$Turns", "keepsPieces", "(II)Z"⟩, 6), (⟨"PlatesSing$Net", "divisor", "()J"⟩, 12), (⟨"PlatesSing", "planned", "()LPlatesSing$Shape;"⟩, 14), (⟨"PlatesSing$Plan", "extend", "(LPlatesSing$Shape;LPlatesSing$Net;IIII)V"⟩, 13), (⟨"PlatesSing$Plan", "compare", "(LPlatesSing$Shape;LPlatesSing$Net;II)V"⟩, 13), (⟨"PlatesSing$Hearing", "tryNet", "(LPlatesSing$Net;IIII)V"⟩, 6), (⟨"PlatesSing$Blows", "pull", "(LPlatesSing$Net;I)V"⟩, 11), (⟨"PlatesSing$Shelves", "present", "(II)J"⟩, 4), (⟨"PlatesSing$Ratios", "fit", "(IIII)Z"⟩, 4), (⟨"PlatesSing$Ratios", "allFit", "(III)Z"⟩, 4), (⟨"PlatesSing", "under", "(LPlatesSing$Shape;I)I"⟩, 14), (⟨"PlatesSing", "isBody", "(I)Z"⟩, 14), (⟨"PlatesSing$Parts", "begin", "(I)V"⟩, 5), (⟨"PlatesSing$Parts", "stiffOf", "(I)I"⟩, 5), (⟨"PlatesSingModel", "readShape", "()V"⟩, 94)]
theorem lw_r2 : ∀ q ∈ lw_privs_2, lw_okq q := List.forall_mem_cons.mpr ⟨lw_p16, List.forall_mem_cons.mpr ⟨lw_p17, List.forall_mem_cons.mpr ⟨lw_p18, List.forall_mem_cons.mpr ⟨lw_p19, List.forall_mem_cons.mpr ⟨lw_p20, List.forall_mem_cons.mpr ⟨lw_p21, List.forall_mem_cons.mpr ⟨lw_p22, List.forall_mem_cons.mpr ⟨lw_p23, List.forall_mem_cons.mpr ⟨lw_p24, List.forall_mem_cons.mpr ⟨lw_p25, List.forall_mem_cons.mpr ⟨lw_p26, List.forall_mem_cons.mpr ⟨lw_p27, List.forall_mem_cons.mpr ⟨lw_p28, List.forall_mem_cons.mpr ⟨lw_p29, List.forall_mem_cons.mpr ⟨lw_p30, List.forall_mem_cons.mpr ⟨lw_p31, fun _ h => absurd h List.not_mem_nil⟩⟩⟩⟩⟩⟩⟩⟩⟩⟩⟩⟩⟩⟩⟩⟩
theorem lw_p32 : lw_okq (⟨"PlatesSingModel", "clear", "(I)V"⟩, 94) := ⟨⟨by decide +kernel, by decide +kernel⟩, List.mem_of_getElem? (i := 1207) (by decide +kernel), List.mem_of_getElem? (i := 1512) (by decide +kernel), List.mem_of_getElem? (i := 1513) (by decide +kernel)⟩
theorem lw_p33 : lw_okq (⟨"PlatesSingModel", "look", "()I"⟩, 94) := ⟨⟨by decide +kernel, by decide +kernel⟩, List.mem_of_getElem? (i := 1207) (by decide +kernel), List.mem_of_getElem? (i := 1516) (by decide +kernel), List.mem_of_getElem? (i := 1517) (by decide +kernel)⟩
theorem lw_p34 : lw_okq (⟨"PlatesSingModel", "wrong", "()V"⟩, 94) := ⟨⟨by decide +kernel, by decide +kernel⟩, List.mem_of_getElem? (i := 1207) (by decide +kernel), List.mem_of_getElem? (i := 1520) (by decide +kernel), List.mem_of_getElem? (i := 1521) (by decide +kernel)⟩
theorem lw_p35 : lw_okq (⟨"PlatesSingModel", "isDigit", "()Z"⟩, 94) := ⟨⟨by decide +kernel, by decide +kernel⟩, List.mem_of_getElem? (i := 1207) (by decide +kernel), List.mem_of_getElem? (i := 1524) (by decide +kernel), List.mem_of_getElem? (i := 1525) (by decide +kernel)⟩
theorem lw_p36 : lw_okq (⟨"PlatesSingModel", "digit", "()I"⟩, 94) := ⟨⟨by decide +kernel, by decide +kernel⟩, List.mem_of_getElem? (i := 1207) (by decide +kernel), List.mem_of_getElem? (i := 1528) (by decide +kernel), List.mem_of_getElem? (i := 1529) (by decide +kernel)⟩
theorem lw_p37 : lw_okq (⟨"PlatesSingModel", "readPart", "()V"⟩, 94) := ⟨⟨by decide +kernel, by decide +kernel⟩, List.mem_of_getElem? (i := 1207) (by decide +kernel), List.mem_of_getElem? (i := 1532) (by decide +kernel), List.mem_of_getElem? (i := 1533) (by decide +kernel)⟩
theorem lw_p38 : lw_okq (⟨"PlatesSingModel", "readPiece", "()V"⟩, 94) := ⟨⟨by decide +kernel, by decide +kernel⟩, List.mem_of_getElem? (i := 1207) (by decide +kernel), List.mem_of_getElem? (i := 1536) (by decide +kernel), List.mem_of_getElem? (i := 1537) (by decide +kernel)⟩
theorem lw_p39 : lw_okq (⟨"PlatesSingModel", "letter", "()I"⟩, 94) := ⟨⟨by decide +kernel, by decide +kernel⟩, List.mem_of_getElem? (i := 1207) (by decide +kernel), List.mem_of_getElem? (i := 1540) (by decide +kernel), List.mem_of_getElem? (i := 1541) (by decide +kernel)⟩
theorem lw_p40 : lw_okq (⟨"PlatesSingModel", "isCorner", "(II)Z"⟩, 94) := ⟨⟨by decide +kernel, by decide +kernel⟩, List.mem_of_getElem? (i := 1207) (by decide +kernel), List.mem_of_getElem? (i := 1544) (by decide +kernel), List.mem_of_getElem? (i := 1545) (by decide +kernel)⟩
theorem lw_p41 : lw_okq (⟨"PlatesSingModel", "hasPiece", "(III)Z"⟩, 94) := ⟨⟨by decide +kernel, by decide +kernel⟩, List.mem_of_getElem? (i := 1207) (by decide +kernel), List.mem_of_getElem? (i := 1548) (by decide +kernel), List.mem_of_getElem? (i := 1549) (by decide +kernel)⟩
theorem lw_p42 : lw_okq (⟨"PlatesSingModel", "setPiece", "(IIIIII)V"⟩, 94) := ⟨⟨by decide +kernel, by decide +kernel⟩, List.mem_of_getElem? (i := 1207) (by decide +kernel), List.mem_of_getElem? (i := 1555) (by decide +kernel), List.mem_of_getElem? (i := 1556) (by decide +kernel)⟩
theorem lw_p43 : lw_okq (⟨"PlatesSingModel", "bear", "(III)V"⟩, 94) := ⟨⟨by decide +kernel, by decide +kernel⟩, List.mem_of_getElem? (i := 1207) (by decide +kernel), List.mem_of_getElem? (i := 1559) (by decide +kernel), List.mem_of_getElem? (i := 1560) (by decide +kernel)⟩
theorem lw_p44 : lw_okq (⟨"PlatesSingModel", "isShape", "(I)Z"⟩, 94) := ⟨⟨by decide +kernel, by decide +kernel⟩, List.mem_of_getElem? (i := 1207) (by decide +kernel), List.mem_of_getElem? (i := 1567) (by decide +kernel), List.mem_of_getElem? (i := 1568) (by decide +kernel)⟩
theorem lw_p45 : lw_okq (⟨"PlatesSingModel", "piecesOf", "(I)I"⟩, 94) := ⟨⟨by decide +kernel, by decide +kernel⟩, List.mem_of_getElem? (i := 1207) (by decide +kernel), List.mem_of_getElem? (i := 1572) (by decide +kernel), List.mem_of_getElem? (i := 1573) (by decide +kernel)⟩
theorem lw_p46 : lw_okq (⟨"PlatesSingModel", "tonesOf", "(I)I"⟩, 94) := ⟨⟨by decide +kernel, by decide +kernel⟩, List.mem_of_getElem? (i := 1207) (by decide +kernel), List.mem_of_getElem? (i := 1576) (by decide +kernel), List.mem_of_getElem? (i := 1577) (by decide +kernel)⟩
theorem lw_p47 : lw_okq (⟨"PlatesSingModel", "kept", "(IIIII)V"⟩, 94) := ⟨⟨by decide +kernel, by decide +kernel⟩, List.mem_of_getElem? (i := 1207) (by decide +kernel), List.mem_of_getElem? (i := 1588) (by decide +kernel), List.mem_of_getElem? (i := 1589) (by decide +kernel)⟩
def lw_privs_3 : List (MethodName × Nat) := [(⟨"PlatesSingModel", "clear", "(I)V"⟩, 94), (⟨"PlatesSingModel", "look", "()I"⟩, 94), (⟨"PlatesSingModel", "wrong", "()V"⟩, 94), (⟨"PlatesSingModel", "isDigit", "()Z"⟩, 94), (⟨"PlatesSingModel", "digit", "()I"⟩, 94), (⟨"PlatesSingModel", "readPart", "()V"⟩, 94), (⟨"PlatesSingModel", "readPiece", "()V"⟩, 94), (⟨"PlatesSingModel", "letter", "()I"⟩, 94), (⟨"PlatesSingModel", "isCorner", "(II)Z"⟩, 94), (⟨"PlatesSingModel", "hasPiece", "(III)Z"⟩, 94), (⟨"PlatesSingModel", "setPiece", "(IIIIII)V"⟩, 94), (⟨"PlatesSingModel", "bear", "(III)V"⟩, 94), (⟨"PlatesSingModel", "isShape", "(I)Z"⟩, 94), (⟨"PlatesSingModel", "piecesOf", "(I)I"⟩, 94), (⟨"PlatesSingModel", "tonesOf", "(I)I"⟩, 94), (⟨"PlatesSingModel", "kept", "(IIIII)V"⟩, 94)]
theorem lw_r3 : ∀ q ∈ lw_privs_3, lw_okq q := List.forall_mem_cons.mpr ⟨lw_p32, List.forall_mem_cons.mpr ⟨lw_p33, List.forall_mem_cons.mpr ⟨lw_p34, List.forall_mem_cons.mpr ⟨lw_p35, List.forall_mem_cons.mpr ⟨lw_p36, List.forall_mem_cons.mpr ⟨lw_p37, List.forall_mem_cons.mpr ⟨lw_p38, List.forall_mem_cons.mpr ⟨lw_p39, List.forall_mem_cons.mpr ⟨lw_p40, List.forall_mem_cons.mpr ⟨lw_p41, List.forall_mem_cons.mpr ⟨lw_p42, List.forall_mem_cons.mpr ⟨lw_p43, List.forall_mem_cons.mpr ⟨lw_p44, List.forall_mem_cons.mpr ⟨lw_p45, List.forall_mem_cons.mpr ⟨lw_p46, List.forall_mem_cons.mpr ⟨lw_p47, fun _ h => absurd h List.not_mem_nil⟩⟩⟩⟩⟩⟩⟩⟩⟩⟩⟩⟩⟩⟩⟩⟩
theorem lw_p48 : lw_okq (⟨"PlatesSingModel", "set", "(IIII)V"⟩, 94) := ⟨⟨by decide +kernel, by decide +kernel⟩, List.mem_of_getElem? (i := 1207) (by decide +kernel), List.mem_of_getElem? (i := 1592) (by decide +kernel), List.mem_of_getElem? (i := 1593) (by decide +kernel)⟩
theorem lw_p49 : lw_okq (⟨"PlatesSingModel", "setStiff", "(III)V"⟩, 94) := ⟨⟨by decide +kernel, by decide +kernel⟩, List.mem_of_getElem? (i := 1207) (by decide +kernel), List.mem_of_getElem? (i := 1596) (by decide +kernel), List.mem_of_getElem? (i := 1597) (by decide +kernel)⟩
theorem lw_p50 : lw_okq (⟨"PlatesSingModel", "take", "(I)V"⟩, 94) := ⟨⟨by decide +kernel, by decide +kernel⟩, List.mem_of_getElem? (i := 1207) (by decide +kernel), List.mem_of_getElem? (i := 1633) (by decide +kernel), List.mem_of_getElem? (i := 1634) (by decide +kernel)⟩
theorem lw_p51 : lw_okq (⟨"PlatesSingModel", "changes", "(II)I"⟩, 94) := ⟨⟨by decide +kernel, by decide +kernel⟩, List.mem_of_getElem? (i := 1207) (by decide +kernel), List.mem_of_getElem? (i := 1640) (by decide +kernel), List.mem_of_getElem? (i := 1641) (by decide +kernel)⟩
theorem lw_p52 : lw_okq (⟨"PlatesSingModel", "findSums", "(II)V"⟩, 94) := ⟨⟨by decide +kernel, by decide +kernel⟩, List.mem_of_getElem? (i := 1207) (by decide +kernel), List.mem_of_getElem? (i := 1644) (by decide +kernel), List.mem_of_getElem? (i := 1645) (by decide +kernel)⟩
theorem lw_p53 : lw_okq (⟨"PlatesSingModel", "layMatrix", "(II)V"⟩, 94) := ⟨⟨by decide +kernel, by decide +kernel⟩, List.mem_of_getElem? (i := 1207) (by decide +kernel), List.mem_of_getElem? (i := 1648) (by decide +kernel), List.mem_of_getElem? (i := 1649) (by decide +kernel)⟩
theorem lw_p54 : lw_okq (⟨"PlatesSingModel", "minor", "(II)J"⟩, 94) := ⟨⟨by decide +kernel, by decide +kernel⟩, List.mem_of_getElem? (i := 1207) (by decide +kernel), List.mem_of_getElem? (i := 1655) (by decide +kernel), List.mem_of_getElem? (i := 1656) (by decide +kernel)⟩
theorem lw_p55 : lw_okq (⟨"PlatesSingModel", "atMark", "(II)I"⟩, 94) := ⟨⟨by decide +kernel, by decide +kernel⟩, List.mem_of_getElem? (i := 1207) (by decide +kernel), List.mem_of_getElem? (i := 1659) (by decide +kernel), List.mem_of_getElem? (i := 1660) (by decide +kernel)⟩
theorem lw_p56 : lw_okq (⟨"PlatesSingModel", "shutNow", "(II)I"⟩, 94) := ⟨⟨by decide +kernel, by decide +kernel⟩, List.mem_of_getElem? (i := 1207) (by decide +kernel), List.mem_of_getElem? (i := 1672) (by decide +kernel), List.mem_of_getElem? (i := 1673) (by decide +kernel)⟩
theorem lw_p57 : lw_okq (⟨"PlatesSingModel", "forgetChanges", "()V"⟩, 94) := ⟨⟨by decide +kernel, by decide +kernel⟩, List.mem_of_getElem? (i := 1207) (by decide +kernel), List.mem_of_getElem? (i := 1676) (by decide +kernel), List.mem_of_getElem? (i := 1677) (by decide +kernel)⟩
theorem lw_p58 : lw_okq (⟨"PlatesSingModel", "shutOf", "(II)I"⟩, 94) := ⟨⟨by decide +kernel, by decide +kernel⟩, List.mem_of_getElem? (i := 1207) (by decide +kernel), List.mem_of_getElem? (i := 1680) (by decide +kernel), List.mem_of_getElem? (i := 1681) (by decide +kernel)⟩
theorem lw_p59 : lw_okq (⟨"PlatesSingModel", "setCount", "(III)V"⟩, 94) := ⟨⟨by decide +kernel, by decide +kernel⟩, List.mem_of_getElem? (i := 1207) (by decide +kernel), List.mem_of_getElem? (i := 1700) (by decide +kernel), List.mem_of_getElem? (i := 1701) (by decide +kernel)⟩
theorem lw_p60 : lw_okq (⟨"PlatesSingModel", "findTurns", "(III)V"⟩, 94) := ⟨⟨by decide +kernel, by decide +kernel⟩, List.mem_of_getElem? (i := 1207) (by decide +kernel), List.mem_of_getElem? (i := 1708) (by decide +kernel), List.mem_of_getElem? (i := 1709) (by decide +kernel)⟩
theorem lw_p61 : lw_okq (⟨"PlatesSingModel", "turnOn", "(IIII)V"⟩, 94) := ⟨⟨by decide +kernel, by decide +kernel⟩, List.mem_of_getElem? (i := 1207) (by decide +kernel), List.mem_of_getElem? (i := 1712) (by decide +kernel), List.mem_of_getElem? (i := 1713) (by decide +kernel)⟩
theorem lw_p62 : lw_okq (⟨"PlatesSingModel", "areLike", "(IIII)Z"⟩, 94) := ⟨⟨by decide +kernel, by decide +kernel⟩, List.mem_of_getElem? (i := 1207) (by decide +kernel), List.mem_of_getElem? (i := 1716) (by decide +kernel), List.mem_of_getElem? (i := 1717) (by decide +kernel)⟩
theorem lw_p63 : lw_okq (⟨"PlatesSingModel", "countBetween", "(III)I"⟩, 94) := ⟨⟨by decide +kernel, by decide +kernel⟩, List.mem_of_getElem? (i := 1207) (by decide +kernel), List.mem_of_getElem? (i := 1720) (by decide +kernel), List.mem_of_getElem? (i := 1721) (by decide +kernel)⟩
def lw_privs_4 : List (MethodName × Nat) := [(⟨"PlatesSingModel", "set", "(IIII)V"⟩, 94), (⟨"PlatesSingModel", "setStiff", "(III)V"⟩, 94), (⟨"PlatesSingModel", "take", "(I)V"⟩, 94), (⟨"PlatesSingModel", "changes", "(II)I"⟩, 94), (⟨"PlatesSingModel", "findSums", "(II)V"⟩, 94), (⟨"PlatesSingModel", "layMatrix", "(II)V"⟩, 94), (⟨"PlatesSingModel", "minor", "(II)J"⟩, 94), (⟨"PlatesSingModel", "atMark", "(II)I"⟩, 94), (⟨"PlatesSingModel", "shutNow", "(II)I"⟩, 94), (⟨"PlatesSingModel", "forgetChanges", "()V"⟩, 94), (⟨"PlatesSingModel", "shutOf", "(II)I"⟩, 94), (⟨"PlatesSingModel", "setCount", "(III)V"⟩, 94), (⟨"PlatesSingModel", "findTurns", "(III)V"⟩, 94), (⟨"PlatesSingModel", "turnOn", "(IIII)V"⟩, 94), (⟨"PlatesSingModel", "areLike", "(IIII)Z"⟩, 94), (⟨"PlatesSingModel", "countBetween", "(III)I"⟩, 94)]
theorem lw_r4 : ∀ q ∈ lw_privs_4, lw_okq q := List.forall_mem_cons.mpr ⟨lw_p48, List.forall_mem_cons.mpr ⟨lw_p49, List.forall_mem_cons.mpr ⟨lw_p50, List.forall_mem_cons.mpr ⟨lw_p51, List.forall_mem_cons.mpr ⟨lw_p52, List.forall_mem_cons.mpr ⟨lw_p53, List.forall_mem_cons.mpr ⟨lw_p54, List.forall_mem_cons.mpr ⟨lw_p55, List.forall_mem_cons.mpr ⟨lw_p56, List.forall_mem_cons.mpr ⟨lw_p57, List.forall_mem_cons.mpr ⟨lw_p58, List.forall_mem_cons.mpr ⟨lw_p59, List.forall_mem_cons.mpr ⟨lw_p60, List.forall_mem_cons.mpr ⟨lw_p61, List.forall_mem_cons.mpr ⟨lw_p62, List.forall_mem_cons.mpr ⟨lw_p63, fun _ h => absurd h List.not_mem_nil⟩⟩⟩⟩⟩⟩⟩⟩⟩⟩⟩⟩⟩⟩⟩⟩
theorem lw_p64 : lw_okq (⟨"PlatesSingModel", "tableOf", "(II)I"⟩, 94) := ⟨⟨by decide +kernel, by decide +kernel⟩, List.mem_of_getElem? (i := 1207) (by decide +kernel), List.mem_of_getElem? (i := 1732) (by decide +kernel), List.mem_of_getElem? (i := 1733) (by decide +kernel)⟩
theorem lw_p65 : lw_okq (⟨"PlatesSingModel", "soundAlike", "(II)Z"⟩, 94) := ⟨⟨by decide +kernel, by decide +kernel⟩, List.mem_of_getElem? (i := 1207) (by decide +kernel), List.mem_of_getElem? (i := 1740) (by decide +kernel), List.mem_of_getElem? (i := 1741) (by decide +kernel)⟩
theorem lw_p66 : lw_okq (⟨"PlatesSingModel", "lastSum", "(II)J"⟩, 94) := ⟨⟨by decide +kernel, by decide +kernel⟩, List.mem_of_getElem? (i := 1207) (by decide +kernel), List.mem_of_getElem? (i := 1744) (by decide +kernel), List.mem_of_getElem? (i := 1745) (by decide +kernel)⟩
theorem lw_p67 : lw_okq (⟨"PlatesSingModel", "divisor", "(I)J"⟩, 94) := ⟨⟨by decide +kernel, by decide +kernel⟩, List.mem_of_getElem? (i := 1207) (by decide +kernel), List.mem_of_getElem? (i := 1748) (by decide +kernel), List.mem_of_getElem? (i := 1749) (by decide +kernel)⟩
theorem lw_p68 : lw_okq (⟨"PlatesSingModel", "struck", "(II)Z"⟩, 94) := ⟨⟨by decide +kernel, by decide +kernel⟩, List.mem_of_getElem? (i := 1207) (by decide +kernel), List.mem_of_getElem? (i := 1764) (by decide +kernel), List.mem_of_getElem? (i := 1765) (by decide +kernel)⟩
theorem lw_p69 : lw_okq (⟨"PlatesSingModel", "tuneOn", "(II)V"⟩, 94) := ⟨⟨by decide +kernel, by decide +kernel⟩, List.mem_of_getElem? (i := 1207) (by decide +kernel), List.mem_of_getElem? (i := 1772) (by decide +kernel), List.mem_of_getElem? (i := 1773) (by decide +kernel)⟩
theorem lw_p70 : lw_okq (⟨"PlatesSingModel", "lacks", "()I"⟩, 94) := ⟨⟨by decide +kernel, by decide +kernel⟩, List.mem_of_getElem? (i := 1207) (by decide +kernel), List.mem_of_getElem? (i := 1776) (by decide +kernel), List.mem_of_getElem? (i := 1777) (by decide +kernel)⟩
theorem lw_p71 : lw_okq (⟨"PlatesSingModel", "digitsOf", "()I"⟩, 94) := ⟨⟨by decide +kernel, by decide +kernel⟩, List.mem_of_getElem? (i := 1207) (by decide +kernel), List.mem_of_getElem? (i := 1783) (by decide +kernel), List.mem_of_getElem? (i := 1784) (by decide +kernel)⟩
theorem lw_p72 : lw_okq (⟨"PlatesSingModel", "findFits", "(II)V"⟩, 94) := ⟨⟨by decide +kernel, by decide +kernel⟩, List.mem_of_getElem? (i := 1207) (by decide +kernel), List.mem_of_getElem? (i := 1803) (by decide +kernel), List.mem_of_getElem? (i := 1804) (by decide +kernel)⟩
theorem lw_p73 : lw_okq (⟨"PlatesSingModel", "tryFit", "(IIII)V"⟩, 94) := ⟨⟨by decide +kernel, by decide +kernel⟩, List.mem_of_getElem? (i := 1207) (by decide +kernel), List.mem_of_getElem? (i := 1807) (by decide +kernel), List.mem_of_getElem? (i := 1808) (by decide +kernel)⟩
theorem lw_p74 : lw_okq (⟨"PlatesSingModel", "begin", "(I)V"⟩, 94) := ⟨⟨by decide +kernel, by decide +kernel⟩, List.mem_of_getElem? (i := 1207) (by decide +kernel), List.mem_of_getElem? (i := 1830) (by decide +kernel), List.mem_of_getElem? (i := 1831) (by decide +kernel)⟩
theorem lw_p75 : lw_okq (⟨"PlatesSingModel", "step", "()I"⟩, 94) := ⟨⟨by decide +kernel, by decide +kernel⟩, List.mem_of_getElem? (i := 1207) (by decide +kernel), List.mem_of_getElem? (i := 1834) (by decide +kernel), List.mem_of_getElem? (i := 1835) (by decide +kernel)⟩
theorem lw_p76 : lw_okq (⟨"PlatesSingModel", "isWhole", "(I)Z"⟩, 94) := ⟨⟨by decide +kernel, by decide +kernel⟩, List.mem_of_getElem? (i := 1207) (by decide +kernel), List.mem_of_getElem? (i := 1861) (by decide +kernel), List.mem_of_getElem? (i := 1862) (by decide +kernel)⟩
theorem lw_p77 : lw_okq (⟨"PlatesSingModel", "whyNoRow", "(I)I"⟩, 94) := ⟨⟨by decide +kernel, by decide +kernel⟩, List.mem_of_getElem? (i := 1207) (by decide +kernel), List.mem_of_getElem? (i := 1873) (by decide +kernel), List.mem_of_getElem? (i := 1874) (by decide +kernel)⟩
theorem lw_p78 : lw_okq (⟨"PlatesSingModel", "loudnessOf", "(II)J"⟩, 94) := ⟨⟨by decide +kernel, by decide +kernel⟩, List.mem_of_getElem? (i := 1207) (by decide +kernel), List.mem_of_getElem? (i := 1877) (by decide +kernel), List.mem_of_getElem? (i := 1878) (by decide +kernel)⟩
theorem lw_p79 : lw_okq (⟨"PlatesSingModel", "heardIn", "(II)J"⟩, 94) := ⟨⟨by decide +kernel, by decide +kernel⟩, List.mem_of_getElem? (i := 1207) (by decide +kernel), List.mem_of_getElem? (i := 1881) (by decide +kernel), List.mem_of_getElem? (i := 1882) (by decide +kernel)⟩
def lw_privs_5 : List (MethodName × Nat) := [(⟨"PlatesSingModel", "tableOf", "(II)I"⟩, 94), (⟨"PlatesSingModel", "soundAlike", "(II)Z"⟩, 94), (⟨"PlatesSingModel", "lastSum", "(II)J"⟩, 94), (⟨"PlatesSingModel", "divisor", "(I)J"⟩, 94), (⟨"PlatesSingModel", "struck", "(II)Z"⟩, 94), (⟨"PlatesSingModel", "tuneOn", "(II)V"⟩, 94), (⟨"PlatesSingModel", "lacks", "()I"⟩, 94), (⟨"PlatesSingModel", "digitsOf", "()I"⟩, 94), (⟨"PlatesSingModel", "findFits", "(II)V"⟩, 94), (⟨"PlatesSingModel", "tryFit", "(IIII)V"⟩, 94), (⟨"PlatesSingModel", "begin", "(I)V"⟩, 94), (⟨"PlatesSingModel", "step", "()I"⟩, 94), (⟨"PlatesSingModel", "isWhole", "(I)Z"⟩, 94), (⟨"PlatesSingModel", "whyNoRow", "(I)I"⟩, 94), (⟨"PlatesSingModel", "loudnessOf", "(II)J"⟩, 94), (⟨"PlatesSingModel", "heardIn", "(II)J"⟩, 94)]
theorem lw_r5 : ∀ q ∈ lw_privs_5, lw_okq q := List.forall_mem_cons.mpr ⟨lw_p64, List.forall_mem_cons.mpr ⟨lw_p65, List.forall_mem_cons.mpr ⟨lw_p66, List.forall_mem_cons.mpr ⟨lw_p67, List.forall_mem_cons.mpr ⟨lw_p68, List.forall_mem_cons.mpr ⟨lw_p69, List.forall_mem_cons.mpr ⟨lw_p70, List.forall_mem_cons.mpr ⟨lw_p71, List.forall_mem_cons.mpr ⟨lw_p72, List.forall_mem_cons.mpr ⟨lw_p73, List.forall_mem_cons.mpr ⟨lw_p74, List.forall_mem_cons.mpr ⟨lw_p75, List.forall_mem_cons.mpr ⟨lw_p76, List.forall_mem_cons.mpr ⟨lw_p77, List.forall_mem_cons.mpr ⟨lw_p78, List.forall_mem_cons.mpr ⟨lw_p79, fun _ h => absurd h List.not_mem_nil⟩⟩⟩⟩⟩⟩⟩⟩⟩⟩⟩⟩⟩⟩⟩⟩
theorem lw_p80 : lw_okq (⟨"PlatesSingModel", "doAgree", "(IIII)Z"⟩, 94) := ⟨⟨by decide +kernel, by decide +kernel⟩, List.mem_of_getElem? (i := 1207) (by decide +kernel), List.mem_of_getElem? (i := 1908) (by decide +kernel), List.mem_of_getElem? (i := 1909) (by decide +kernel)⟩
theorem lw_p81 : lw_okq (⟨"PlatesSingModel", "allAgree", "(III)Z"⟩, 94) := ⟨⟨by decide +kernel, by decide +kernel⟩, List.mem_of_getElem? (i := 1207) (by decide +kernel), List.mem_of_getElem? (i := 1912) (by decide +kernel), List.mem_of_getElem? (i := 1913) (by decide +kernel)⟩
theorem lw_p82 : lw_okq (⟨"PlatesSingModel", "copyCorners", "(III)V"⟩, 94) := ⟨⟨by decide +kernel, by decide +kernel⟩, List.mem_of_getElem? (i := 1207) (by decide +kernel), List.mem_of_getElem? (i := 1920) (by decide +kernel), List.mem_of_getElem? (i := 1921) (by decide +kernel)⟩
theorem lw_p83 : lw_okq (⟨"PlatesSingModel", "copyPieces", "(III)V"⟩, 94) := ⟨⟨by decide +kernel, by decide +kernel⟩, List.mem_of_getElem? (i := 1207) (by decide +kernel), List.mem_of_getElem? (i := 1924) (by decide +kernel), List.mem_of_getElem? (i := 1925) (by decide +kernel)⟩
theorem lw_p84 : lw_okq (⟨"PlatesSingModel", "changesOf", "(II)I"⟩, 94) := ⟨⟨by decide +kernel, by decide +kernel⟩, List.mem_of_getElem? (i := 1207) (by decide +kernel), List.mem_of_getElem? (i := 1932) (by decide +kernel), List.mem_of_getElem? (i := 1933) (by decide +kernel)⟩
theorem lw_p85 : lw_okq (⟨"PlatesSingModel", "isBody", "(I)Z"⟩, 94) := ⟨⟨by decide +kernel, by decide +kernel⟩, List.mem_of_getElem? (i := 1207) (by decide +kernel), List.mem_of_getElem? (i := 1944) (by decide +kernel), List.mem_of_getElem? (i := 1945) (by decide +kernel)⟩
theorem lw_p86 : lw_okq (⟨"PlatesSingModel", "stiffens", "(II)I"⟩, 94) := ⟨⟨by decide +kernel, by decide +kernel⟩, List.mem_of_getElem? (i := 1207) (by decide +kernel), List.mem_of_getElem? (i := 1948) (by decide +kernel), List.mem_of_getElem? (i := 1949) (by decide +kernel)⟩
theorem lw_p87 : lw_okq (⟨"PlatesSingModel", "ran", "(I)V"⟩, 94) := ⟨⟨by decide +kernel, by decide +kernel⟩, List.mem_of_getElem? (i := 1207) (by decide +kernel), List.mem_of_getElem? (i := 1955) (by decide +kernel), List.mem_of_getElem? (i := 1956) (by decide +kernel)⟩
theorem lw_p88 : lw_okq (⟨"PlatesSingModel", "pieceStiffens", "(II)I"⟩, 94) := ⟨⟨by decide +kernel, by decide +kernel⟩, List.mem_of_getElem? (i := 1207) (by decide +kernel), List.mem_of_getElem? (i := 1959) (by decide +kernel), List.mem_of_getElem? (i := 1960) (by decide +kernel)⟩
theorem lw_p89 : lw_okq (⟨"PlatesSingModel", "plainStiffens", "(II)I"⟩, 94) := ⟨⟨by decide +kernel, by decide +kernel⟩, List.mem_of_getElem? (i := 1207) (by decide +kernel), List.mem_of_getElem? (i := 1963) (by decide +kernel), List.mem_of_getElem? (i := 1964) (by decide +kernel)⟩
theorem lw_p90 : lw_okq (⟨"PlatesSingModel", "weighs", "(II)I"⟩, 94) := ⟨⟨by decide +kernel, by decide +kernel⟩, List.mem_of_getElem? (i := 1207) (by decide +kernel), List.mem_of_getElem? (i := 1967) (by decide +kernel), List.mem_of_getElem? (i := 1968) (by decide +kernel)⟩
theorem lw_p91 : lw_okq (⟨"PlatesSingModel", "plainWeighs", "(II)I"⟩, 94) := ⟨⟨by decide +kernel, by decide +kernel⟩, List.mem_of_getElem? (i := 1207) (by decide +kernel), List.mem_of_getElem? (i := 1971) (by decide +kernel), List.mem_of_getElem? (i := 1972) (by decide +kernel)⟩
theorem lw_p92 : lw_okq (⟨"PlatesSingModel", "sounds", "(II)I"⟩, 94) := ⟨⟨by decide +kernel, by decide +kernel⟩, List.mem_of_getElem? (i := 1207) (by decide +kernel), List.mem_of_getElem? (i := 1975) (by decide +kernel), List.mem_of_getElem? (i := 1976) (by decide +kernel)⟩
theorem lw_p93 : lw_okq (⟨"PlatesSingModel", "plainSounds", "(II)I"⟩, 94) := ⟨⟨by decide +kernel, by decide +kernel⟩, List.mem_of_getElem? (i := 1207) (by decide +kernel), List.mem_of_getElem? (i := 1979) (by decide +kernel), List.mem_of_getElem? (i := 1980) (by decide +kernel)⟩
theorem lw_p94 : lw_okq (⟨"PlatesSingModel", "tells", "(II)I"⟩, 94) := ⟨⟨by decide +kernel, by decide +kernel⟩, List.mem_of_getElem? (i := 1207) (by decide +kernel), List.mem_of_getElem? (i := 1983) (by decide +kernel), List.mem_of_getElem? (i := 1984) (by decide +kernel)⟩
theorem lw_p95 : lw_okq (⟨"PlatesSingModel", "crackedTells", "(II)I"⟩, 94) := ⟨⟨by decide +kernel, by decide +kernel⟩, List.mem_of_getElem? (i := 1207) (by decide +kernel), List.mem_of_getElem? (i := 1987) (by decide +kernel), List.mem_of_getElem? (i := 1988) (by decide +kernel)⟩
def lw_privs_6 : List (MethodName × Nat) := [(⟨"PlatesSingModel", "doAgree", "(IIII)Z"⟩, 94), (⟨"PlatesSingModel", "allAgree", "(III)Z"⟩, 94), (⟨"PlatesSingModel", "copyCorners", "(III)V"⟩, 94), (⟨"PlatesSingModel", "copyPieces", "(III)V"⟩, 94), (⟨"PlatesSingModel", "changesOf", "(II)I"⟩, 94), (⟨"PlatesSingModel", "isBody", "(I)Z"⟩, 94), (⟨"PlatesSingModel", "stiffens", "(II)I"⟩, 94), (⟨"PlatesSingModel", "ran", "(I)V"⟩, 94), (⟨"PlatesSingModel", "pieceStiffens", "(II)I"⟩, 94), (⟨"PlatesSingModel", "plainStiffens", "(II)I"⟩, 94), (⟨"PlatesSingModel", "weighs", "(II)I"⟩, 94), (⟨"PlatesSingModel", "plainWeighs", "(II)I"⟩, 94), (⟨"PlatesSingModel", "sounds", "(II)I"⟩, 94), (⟨"PlatesSingModel", "plainSounds", "(II)I"⟩, 94), (⟨"PlatesSingModel", "tells", "(II)I"⟩, 94), (⟨"PlatesSingModel", "crackedTells", "(II)I"⟩, 94)]
theorem lw_r6 : ∀ q ∈ lw_privs_6, lw_okq q := List.forall_mem_cons.mpr ⟨lw_p80, List.forall_mem_cons.mpr ⟨lw_p81, List.forall_mem_cons.mpr ⟨lw_p82, List.forall_mem_cons.mpr ⟨lw_p83, List.forall_mem_cons.mpr ⟨lw_p84, List.forall_mem_cons.mpr ⟨lw_p85, List.forall_mem_cons.mpr ⟨lw_p86, List.forall_mem_cons.mpr ⟨lw_p87, List.forall_mem_cons.mpr ⟨lw_p88, List.forall_mem_cons.mpr ⟨lw_p89, List.forall_mem_cons.mpr ⟨lw_p90, List.forall_mem_cons.mpr ⟨lw_p91, List.forall_mem_cons.mpr ⟨lw_p92, List.forall_mem_cons.mpr ⟨lw_p93, List.forall_mem_cons.mpr ⟨lw_p94, List.forall_mem_cons.mpr ⟨lw_p95, fun _ h => absurd h List.not_mem_nil⟩⟩⟩⟩⟩⟩⟩⟩⟩⟩⟩⟩⟩⟩⟩⟩
theorem lw_p96 : lw_okq (⟨"PlatesSingModel", "plainTells", "(II)I"⟩, 94) := ⟨⟨by decide +kernel, by decide +kernel⟩, List.mem_of_getElem? (i := 1207) (by decide +kernel), List.mem_of_getElem? (i := 1991) (by decide +kernel), List.mem_of_getElem? (i := 1992) (by decide +kernel)⟩
theorem lw_p97 : lw_okq (⟨"PlatesSingModel", "whyNoPlace", "(II)I"⟩, 94) := ⟨⟨by decide +kernel, by decide +kernel⟩, List.mem_of_getElem? (i := 1207) (by decide +kernel), List.mem_of_getElem? (i := 2015) (by decide +kernel), List.mem_of_getElem? (i := 2016) (by decide +kernel)⟩
def lw_privs_7 : List (MethodName × Nat) := [(⟨"PlatesSingModel", "plainTells", "(II)I"⟩, 94), (⟨"PlatesSingModel", "whyNoPlace", "(II)I"⟩, 94)]
theorem lw_r7 : ∀ q ∈ lw_privs_7, lw_okq q := List.forall_mem_cons.mpr ⟨lw_p96, List.forall_mem_cons.mpr ⟨lw_p97, fun _ h => absurd h List.not_mem_nil⟩⟩
def lw_privs : List (MethodName × Nat) := lw_privs_1 ++ (lw_privs_2 ++ (lw_privs_3 ++ (lw_privs_4 ++ (lw_privs_5 ++ (lw_privs_6 ++ (lw_privs_7))))))
def lw_tbl : List Cond := k2_sels lw_privs ++ tables_1
theorem lw_privs_ok : ∀ q ∈ lw_privs, lw_okq q := by
  show ∀ q ∈ lw_privs_1 ++ (lw_privs_2 ++ (lw_privs_3 ++ (lw_privs_4 ++ (lw_privs_5 ++ (lw_privs_6 ++ (lw_privs_7)))))), lw_okq q
  exact List.forall_mem_append.mpr ⟨lw_r1, List.forall_mem_append.mpr ⟨lw_r2, List.forall_mem_append.mpr ⟨lw_r3, List.forall_mem_append.mpr ⟨lw_r4, List.forall_mem_append.mpr ⟨lw_r5, List.forall_mem_append.mpr ⟨lw_r6, lw_r7⟩⟩⟩⟩⟩⟩
-- ===== end of PART A =====
end
section
def RX0 : String := "PlatesSing$Blows"
def TX0 : u_T := fun k => match k with
  | 0 => ("PlatesSing$Blows", "damp", "I", false)
  | 1 => ("PlatesSing$Blows", "ears", "[I", true)
  | 2 => ("PlatesSing$Blows", "steps", "I", false)
  | 3 => ("PlatesSing$Blows", "earsThen", "[I", true)
  | 4 => ("PlatesSing$Blows", "rows", "[I", true)
  | 5 => ("PlatesSing$Blows", "x", "[I", true)
  | 6 => ("PlatesSing$Blows", "u", "[I", true)
  | 7 => ("PlatesSing$Blows", "told", "I", false)
  | 8 => ("PlatesSing$Blows", "corner", "[I", true)
  | 9 => ("PlatesSing$Blows", "force", "[I", true)
  | _ => ("PlatesSing$Blows", "when", "[I", true)
def tyX0 : Nat → FieldType := fun k => match k with
  | 0 => .int
  | 1 => .array .int
  | 2 => .int
  | 3 => .array .int
  | 4 => .array .int
  | 5 => .array .int
  | 6 => .array .int
  | 7 => .int
  | 8 => .array .int
  | 9 => .array .int
  | _ => .array .int
abbrev wsX00 : List Cond := u_ws RX0 TX0 11
theorem nmX0 : ∀ a, a < 11 → ∀ b, b < 11 → a ≠ b → (TX0 a).2.1 ≠ (TX0 b).2.1 := by decide +kernel
theorem tyX0_ok : ∀ k, k < 11 → parseFieldDescriptor (TX0 k).2.2.1 = some (tyX0 k) := by decide +kernel
abbrev cX0_init : ByteArray := prog_2_method_1_code
def yX0_init : MethodName := ⟨RX0, "<init>", "()V"⟩
abbrev cX0_add : ByteArray := prog_2_method_2_code
def yX0_add : MethodName := ⟨RX0, "add", "(III)V"⟩
abbrev cX0_begin : ByteArray := prog_2_method_3_code
def yX0_begin : MethodName := ⟨RX0, "begin", "(LPlatesSing$Net;)V"⟩
abbrev cX0_push : ByteArray := prog_2_method_4_code
def yX0_push : MethodName := ⟨RX0, "push", "(LPlatesSing$Net;II)V"⟩
abbrev cX0_run : ByteArray := prog_2_method_5_code
def yX0_run : MethodName := ⟨RX0, "run", "(LPlatesSing$Net;II)I"⟩
abbrev cX0_pull : ByteArray := prog_2_method_6_code
def yX0_pull : MethodName := ⟨RX0, "pull", "(LPlatesSing$Net;I)V"⟩
abbrev cX0_wasAnywhere : ByteArray := prog_2_method_7_code
def yX0_wasAnywhere : MethodName := ⟨RX0, "wasAnywhere", "(I)Z"⟩
abbrev cX0_kept : ByteArray := prog_2_method_8_code
def yX0_kept : MethodName := ⟨RX0, "kept", "(II)I"⟩
abbrev cX0_loudest : ByteArray := prog_2_method_9_code
def yX0_loudest : MethodName := ⟨RX0, "loudest", "(I)I"⟩
abbrev cX0_diesAt : ByteArray := prog_2_method_10_code
def yX0_diesAt : MethodName := ⟨RX0, "diesAt", "(II)I"⟩
def RX1 : String := "PlatesSing$Hearing"
def TX1 : u_T := fun k => match k with
  | 0 => ("PlatesSing$Hearing", "told", "I", false)
  | 1 => ("PlatesSing$Hearing", "heard", "[I", true)
  | 2 => ("PlatesSing$Hearing", "fitting", "I", false)
  | 3 => ("PlatesSing$Hearing", "firstPiece", "I", false)
  | 4 => ("PlatesSing$Hearing", "firstCrack", "I", false)
  | _ => ("PlatesSing$Hearing", "alike", "[I", true)
def tyX1 : Nat → FieldType := fun k => match k with
  | 0 => .int
  | 1 => .array .int
  | 2 => .int
  | 3 => .int
  | 4 => .int
  | _ => .array .int
abbrev wsX10 : List Cond := u_ws RX1 TX1 6
theorem nmX1 : ∀ a, a < 6 → ∀ b, b < 6 → a ≠ b → (TX1 a).2.1 ≠ (TX1 b).2.1 := by decide +kernel
theorem tyX1_ok : ∀ k, k < 6 → parseFieldDescriptor (TX1 k).2.2.1 = some (tyX1 k) := by decide +kernel
abbrev cX1_init : ByteArray := prog_3_method_1_code
def yX1_init : MethodName := ⟨RX1, "<init>", "()V"⟩
abbrev cX1_add : ByteArray := prog_3_method_2_code
def yX1_add : MethodName := ⟨RX1, "add", "(I)V"⟩
abbrev cX1_search : ByteArray := prog_3_method_3_code
def yX1_search : MethodName := ⟨RX1, "search", "(LPlatesSing$Shape;LPlatesSing$Net;I)V"⟩
abbrev cX1_tryNet : ByteArray := prog_3_method_4_code
def yX1_tryNet : MethodName := ⟨RX1, "tryNet", "(LPlatesSing$Net;IIII)V"⟩
abbrev cX1_bestParting : ByteArray := prog_3_method_5_code
def yX1_bestParting : MethodName := ⟨RX1, "bestParting", "(I)I"⟩
def RX2 : String := "PlatesSing$History"
def TX2 : u_T := fun k => match k with
  | 0 => ("PlatesSing$History", "done", "I", false)
  | 1 => ("PlatesSing$History", "undone", "I", false)
  | 2 => ("PlatesSing$History", "shape", "[LPlatesSing$Shape;", true)
  | 3 => ("PlatesSing$History", "field", "[I", true)
  | 4 => ("PlatesSing$History", "at", "[I", true)
  | 5 => ("PlatesSing$History", "before", "[I", true)
  | _ => ("PlatesSing$History", "after", "[I", true)
def tyX2 : Nat → FieldType := fun k => match k with
  | 0 => .int
  | 1 => .int
  | 2 => .array (.object "PlatesSing$Shape")
  | 3 => .array .int
  | 4 => .array .int
  | 5 => .array .int
  | _ => .array .int
abbrev wsX20 : List Cond := u_ws RX2 TX2 7
theorem nmX2 : ∀ a, a < 7 → ∀ b, b < 7 → a ≠ b → (TX2 a).2.1 ≠ (TX2 b).2.1 := by decide +kernel
theorem tyX2_ok : ∀ k, k < 7 → parseFieldDescriptor (TX2 k).2.2.1 = some (tyX2 k) := by decide +kernel
abbrev cX2_init : ByteArray := prog_4_method_1_code
def yX2_init : MethodName := ⟨RX2, "<init>", "()V"⟩
abbrev cX2_add : ByteArray := prog_4_method_2_code
def yX2_add : MethodName := ⟨RX2, "add", "(LPlatesSing$Shape;IIII)V"⟩
abbrev cX2_dropOldest : ByteArray := prog_4_method_3_code
def yX2_dropOldest : MethodName := ⟨RX2, "dropOldest", "()V"⟩
abbrev cX2_takeBack : ByteArray := prog_4_method_4_code
def yX2_takeBack : MethodName := ⟨RX2, "takeBack", "()V"⟩
abbrev cX2_bringBack : ByteArray := prog_4_method_5_code
def yX2_bringBack : MethodName := ⟨RX2, "bringBack", "()V"⟩
def RX3 : String := "PlatesSing$Net"
def TX3 : u_T := fun k => match k with
  | 0 => ("PlatesSing$Net", "corners", "I", false)
  | 1 => ("PlatesSing$Net", "mass", "[I", true)
  | 2 => ("PlatesSing$Net", "pad", "[I", true)
  | 3 => ("PlatesSing$Net", "held", "[I", true)
  | 4 => ("PlatesSing$Net", "links", "[I", true)
  | 5 => ("PlatesSing$Net", "minors", "[J", true)
  | 6 => ("PlatesSing$Net", "free", "[I", true)
  | 7 => ("PlatesSing$Net", "rows", "I", false)
  | 8 => ("PlatesSing$Net", "matrix", "[J", true)
  | 9 => ("PlatesSing$Net", "factor", "[J", true)
  | 10 => ("PlatesSing$Net", "vector", "[J", true)
  | _ => ("PlatesSing$Net", "image", "[J", true)
def tyX3 : Nat → FieldType := fun k => match k with
  | 0 => .int
  | 1 => .array .int
  | 2 => .array .int
  | 3 => .array .int
  | 4 => .array .int
  | 5 => .array .long
  | 6 => .array .int
  | 7 => .int
  | 8 => .array .long
  | 9 => .array .long
  | 10 => .array .long
  | _ => .array .long
abbrev wsX30 : List Cond := u_ws RX3 TX3 12
theorem nmX3 : ∀ a, a < 12 → ∀ b, b < 12 → a ≠ b → (TX3 a).2.1 ≠ (TX3 b).2.1 := by decide +kernel
theorem tyX3_ok : ∀ k, k < 12 → parseFieldDescriptor (TX3 k).2.2.1 = some (tyX3 k) := by decide +kernel
abbrev cX3_init : ByteArray := prog_5_method_1_code
def yX3_init : MethodName := ⟨RX3, "<init>", "()V"⟩
abbrev cX3_load : ByteArray := prog_5_method_2_code
def yX3_load : MethodName := ⟨RX3, "load", "(LPlatesSing$Shape;)V"⟩
abbrev cX3_loadStiffer : ByteArray := prog_5_method_3_code
def yX3_loadStiffer : MethodName := ⟨RX3, "loadStiffer", "(LPlatesSing$Shape;I)V"⟩
abbrev cX3_oneToNine : ByteArray := prog_5_method_4_code
def yX3_oneToNine : MethodName := ⟨RX3, "oneToNine", "(I)I"⟩
abbrev cX3_weigh : ByteArray := prog_5_method_5_code
def yX3_weigh : MethodName := ⟨RX3, "weigh", "(III)V"⟩
abbrev cX3_link : ByteArray := prog_5_method_6_code
def yX3_link : MethodName := ⟨RX3, "link", "(III)V"⟩
abbrev cX3_linkOf : ByteArray := prog_5_method_7_code
def yX3_linkOf : MethodName := ⟨RX3, "linkOf", "(II)I"⟩
abbrev cX3_fillMatrix : ByteArray := prog_5_method_8_code
def yX3_fillMatrix : MethodName := ⟨RX3, "fillMatrix", "(II)V"⟩
abbrev cX3_sumMinors : ByteArray := prog_5_method_9_code
def yX3_sumMinors : MethodName := ⟨RX3, "sumMinors", "(II)V"⟩
abbrev cX3_fillFactor : ByteArray := prog_5_method_10_code
def yX3_fillFactor : MethodName := ⟨RX3, "fillFactor", "(I)V"⟩
abbrev cX3_tonesUnder : ByteArray := prog_5_method_11_code
def yX3_tonesUnder : MethodName := ⟨RX3, "tonesUnder", "(II)I"⟩
abbrev cX3_tonesAt : ByteArray := prog_5_method_12_code
def yX3_tonesAt : MethodName := ⟨RX3, "tonesAt", "(II)I"⟩
abbrev cX3_tone : ByteArray := prog_5_method_13_code
def yX3_tone : MethodName := ⟨RX3, "tone", "(II)I"⟩
abbrev cX3_soundsLike : ByteArray := prog_5_method_14_code
def yX3_soundsLike : MethodName := ⟨RX3, "soundsLike", "(LPlatesSing$Net;)Z"⟩
abbrev cX3_divisor : ByteArray := prog_5_method_15_code
def yX3_divisor : MethodName := ⟨RX3, "divisor", "()J"⟩
def RX4 : String := "PlatesSing$Parts"
def TX4 : u_T := fun k => match k with
  | 0 => ("PlatesSing$Parts", "count", "I", false)
  | 1 => ("PlatesSing$Parts", "kind", "[I", true)
  | 2 => ("PlatesSing$Parts", "home", "[LPlatesSing$Shape;", true)
  | 3 => ("PlatesSing$Parts", "ran", "I", false)
  | _ => ("PlatesSing$Parts", "traced", "[I", true)
def tyX4 : Nat → FieldType := fun k => match k with
  | 0 => .int
  | 1 => .array .int
  | 2 => .array (.object "PlatesSing$Shape")
  | 3 => .int
  | _ => .array .int
abbrev wsX40 : List Cond := u_ws RX4 TX4 5
theorem nmX4 : ∀ a, a < 5 → ∀ b, b < 5 → a ≠ b → (TX4 a).2.1 ≠ (TX4 b).2.1 := by decide +kernel
theorem tyX4_ok : ∀ k, k < 5 → parseFieldDescriptor (TX4 k).2.2.1 = some (tyX4 k) := by decide +kernel
abbrev cX4_init : ByteArray := prog_6_method_1_code
def yX4_init : MethodName := ⟨RX4, "<init>", "()V"⟩
abbrev cX4_add : ByteArray := prog_6_method_2_code
def yX4_add : MethodName := ⟨RX4, "add", "(ILPlatesSing$Shape;)I"⟩
abbrev cX4_isUnder : ByteArray := prog_6_method_3_code
def yX4_isUnder : MethodName := ⟨RX4, "isUnder", "(II)Z"⟩
abbrev cX4_stiffOf : ByteArray := prog_6_method_4_code
def yX4_stiffOf : MethodName := ⟨RX4, "stiffOf", "(I)I"⟩
abbrev cX4_run : ByteArray := prog_6_method_5_code
def yX4_run : MethodName := ⟨RX4, "run", "(IIIII)I"⟩
abbrev cX4_begin : ByteArray := prog_6_method_6_code
def yX4_begin : MethodName := ⟨RX4, "begin", "(I)V"⟩
def RX5 : String := "PlatesSing$Plan"
def TX5 : u_T := fun k => match k with
  | 0 => ("PlatesSing$Plan", "shape", "I", false)
  | 1 => ("PlatesSing$Plan", "strokes", "I", false)
  | 2 => ("PlatesSing$Plan", "field", "[I", true)
  | 3 => ("PlatesSing$Plan", "at", "[I", true)
  | 4 => ("PlatesSing$Plan", "often", "[I", true)
  | 5 => ("PlatesSing$Plan", "wishes", "I", false)
  | 6 => ("PlatesSing$Plan", "tone", "[I", true)
  | 7 => ("PlatesSing$Plan", "by", "[I", true)
  | 8 => ("PlatesSing$Plan", "value", "[I", true)
  | 9 => ("PlatesSing$Plan", "used", "[I", true)
  | 10 => ("PlatesSing$Plan", "bestSum", "I", false)
  | 11 => ("PlatesSing$Plan", "bestSize", "I", false)
  | _ => ("PlatesSing$Plan", "bestDigits", "I", false)
def tyX5 : Nat → FieldType := fun k => match k with
  | 0 => .int
  | 1 => .int
  | 2 => .array .int
  | 3 => .array .int
  | 4 => .array .int
  | 5 => .int
  | 6 => .array .int
  | 7 => .array .int
  | 8 => .array .int
  | 9 => .array .int
  | 10 => .int
  | 11 => .int
  | _ => .int
abbrev wsX50 : List Cond := u_ws RX5 TX5 13
theorem nmX5 : ∀ a, a < 13 → ∀ b, b < 13 → a ≠ b → (TX5 a).2.1 ≠ (TX5 b).2.1 := by decide +kernel
theorem tyX5_ok : ∀ k, k < 13 → parseFieldDescriptor (TX5 k).2.2.1 = some (tyX5 k) := by decide +kernel
abbrev cX5_init : ByteArray := prog_7_method_1_code
def yX5_init : MethodName := ⟨RX5, "<init>", "()V"⟩
abbrev cX5_hasStroke : ByteArray := prog_7_method_2_code
def yX5_hasStroke : MethodName := ⟨RX5, "hasStroke", "(II)Z"⟩
abbrev cX5_addStroke : ByteArray := prog_7_method_3_code
def yX5_addStroke : MethodName := ⟨RX5, "addStroke", "(III)V"⟩
abbrev cX5_hasWish : ByteArray := prog_7_method_4_code
def yX5_hasWish : MethodName := ⟨RX5, "hasWish", "(II)Z"⟩
abbrev cX5_addWish : ByteArray := prog_7_method_5_code
def yX5_addWish : MethodName := ⟨RX5, "addWish", "(III)V"⟩
abbrev cX5_highestWish : ByteArray := prog_7_method_6_code
def yX5_highestWish : MethodName := ⟨RX5, "highestWish", "()I"⟩
abbrev cX5_applies : ByteArray := prog_7_method_7_code
def yX5_applies : MethodName := ⟨RX5, "applies", "(LPlatesSing$Shape;LPlatesSing$Net;II)Z"⟩
abbrev cX5_search : ByteArray := prog_7_method_8_code
def yX5_search : MethodName := ⟨RX5, "search", "(LPlatesSing$Shape;LPlatesSing$Net;)V"⟩
abbrev cX5_extend : ByteArray := prog_7_method_9_code
def yX5_extend : MethodName := ⟨RX5, "extend", "(LPlatesSing$Shape;LPlatesSing$Net;IIII)V"⟩
abbrev cX5_compare : ByteArray := prog_7_method_10_code
def yX5_compare : MethodName := ⟨RX5, "compare", "(LPlatesSing$Shape;LPlatesSing$Net;II)V"⟩
def RX6 : String := "PlatesSing$Ratios"
def TX6 : u_T := fun k => match k with
  | 0 => ("PlatesSing$Ratios", "told", "I", false)
  | 1 => ("PlatesSing$Ratios", "a", "[I", true)
  | 2 => ("PlatesSing$Ratios", "b", "[I", true)
  | _ => ("PlatesSing$Ratios", "lowest", "[I", true)
def tyX6 : Nat → FieldType := fun k => match k with
  | 0 => .int
  | 1 => .array .int
  | 2 => .array .int
  | _ => .array .int
abbrev wsX60 : List Cond := u_ws RX6 TX6 4
theorem nmX6 : ∀ a, a < 4 → ∀ b, b < 4 → a ≠ b → (TX6 a).2.1 ≠ (TX6 b).2.1 := by decide +kernel
theorem tyX6_ok : ∀ k, k < 4 → parseFieldDescriptor (TX6 k).2.2.1 = some (tyX6 k) := by decide +kernel
abbrev cX6_init : ByteArray := prog_8_method_1_code
def yX6_init : MethodName := ⟨RX6, "<init>", "()V"⟩
abbrev cX6_add : ByteArray := prog_8_method_2_code
def yX6_add : MethodName := ⟨RX6, "add", "(II)V"⟩
abbrev cX6_fit : ByteArray := prog_8_method_3_code
def yX6_fit : MethodName := ⟨RX6, "fit", "(IIII)Z"⟩
abbrev cX6_agreeing : ByteArray := prog_8_method_4_code
def yX6_agreeing : MethodName := ⟨RX6, "agreeing", "(II)I"⟩
abbrev cX6_fewestOut : ByteArray := prog_8_method_5_code
def yX6_fewestOut : MethodName := ⟨RX6, "fewestOut", "(II)I"⟩
abbrev cX6_allFit : ByteArray := prog_8_method_6_code
def yX6_allFit : MethodName := ⟨RX6, "allFit", "(III)Z"⟩
def RX7 : String := "PlatesSing$Shape"
def TX7 : u_T := fun k => match k with
  | 0 => ("PlatesSing$Shape", "corners", "I", false)
  | 1 => ("PlatesSing$Shape", "heavy", "[I", true)
  | 2 => ("PlatesSing$Shape", "pad", "[I", true)
  | 3 => ("PlatesSing$Shape", "weight", "[I", true)
  | 4 => ("PlatesSing$Shape", "held", "[I", true)
  | 5 => ("PlatesSing$Shape", "first", "I", false)
  | 6 => ("PlatesSing$Shape", "pieces", "I", false)
  | 7 => ("PlatesSing$Shape", "low", "[I", true)
  | 8 => ("PlatesSing$Shape", "high", "[I", true)
  | 9 => ("PlatesSing$Shape", "stiff", "[I", true)
  | 10 => ("PlatesSing$Shape", "crack", "[I", true)
  | 11 => ("PlatesSing$Shape", "one", "I", false)
  | _ => ("PlatesSing$Shape", "other", "I", false)
def tyX7 : Nat → FieldType := fun k => match k with
  | 0 => .int
  | 1 => .array .int
  | 2 => .array .int
  | 3 => .array .int
  | 4 => .array .int
  | 5 => .int
  | 6 => .int
  | 7 => .array .int
  | 8 => .array .int
  | 9 => .array .int
  | 10 => .array .int
  | 11 => .int
  | _ => .int
abbrev wsX70 : List Cond := u_ws RX7 TX7 13
theorem nmX7 : ∀ a, a < 13 → ∀ b, b < 13 → a ≠ b → (TX7 a).2.1 ≠ (TX7 b).2.1 := by decide +kernel
theorem tyX7_ok : ∀ k, k < 13 → parseFieldDescriptor (TX7 k).2.2.1 = some (tyX7 k) := by decide +kernel
abbrev cX7_init : ByteArray := prog_9_method_1_code
def yX7_init : MethodName := ⟨RX7, "<init>", "()V"⟩
abbrev cX7_clear : ByteArray := prog_9_method_2_code
def yX7_clear : MethodName := ⟨RX7, "clear", "()V"⟩
abbrev cX7_toneCount : ByteArray := prog_9_method_3_code
def yX7_toneCount : MethodName := ⟨RX7, "toneCount", "()I"⟩
abbrev cX7_pieceBetween : ByteArray := prog_9_method_4_code
def yX7_pieceBetween : MethodName := ⟨RX7, "pieceBetween", "(II)I"⟩
abbrev cX7_counting : ByteArray := prog_9_method_5_code
def yX7_counting : MethodName := ⟨RX7, "counting", "(I)I"⟩
abbrev cX7_addPiece : ByteArray := prog_9_method_6_code
def yX7_addPiece : MethodName := ⟨RX7, "addPiece", "(III)V"⟩
abbrev cX7_addAllOf : ByteArray := prog_9_method_7_code
def yX7_addAllOf : MethodName := ⟨RX7, "addAllOf", "(LPlatesSing$Shape;)V"⟩
abbrev cX7_packed : ByteArray := prog_9_method_8_code
def yX7_packed : MethodName := ⟨RX7, "packed", "(II)I"⟩
abbrev cX7_get : ByteArray := prog_9_method_9_code
def yX7_get : MethodName := ⟨RX7, "get", "(II)I"⟩
abbrev cX7_set : ByteArray := prog_9_method_10_code
def yX7_set : MethodName := ⟨RX7, "set", "(III)V"⟩
abbrev cX7_addedTo : ByteArray := prog_9_method_11_code
def yX7_addedTo : MethodName := ⟨RX7, "addedTo", "(I)I"⟩
def RX8 : String := "PlatesSing$Shelves"
def TX8 : u_T := fun k => match k with
  | 0 => ("PlatesSing$Shelves", "sort", "[I", true)
  | 1 => ("PlatesSing$Shelves", "size", "[I", true)
  | 2 => ("PlatesSing$Shelves", "body", "[I", true)
  | _ => ("PlatesSing$Shelves", "elements", "[[J", true)
def tyX8 : Nat → FieldType := fun k => match k with
  | 0 => .array .int
  | 1 => .array .int
  | 2 => .array .int
  | _ => .array (.array .long)
abbrev wsX80 : List Cond := u_ws RX8 TX8 4
theorem nmX8 : ∀ a, a < 4 → ∀ b, b < 4 → a ≠ b → (TX8 a).2.1 ≠ (TX8 b).2.1 := by decide +kernel
theorem tyX8_ok : ∀ k, k < 4 → parseFieldDescriptor (TX8 k).2.2.1 = some (tyX8 k) := by decide +kernel
abbrev cX8_init : ByteArray := prog_10_method_1_code
def yX8_init : MethodName := ⟨RX8, "<init>", "()V"⟩
abbrev cX8_hold : ByteArray := prog_10_method_2_code
def yX8_hold : MethodName := ⟨RX8, "hold", "(II)V"⟩
abbrev cX8_holdRow : ByteArray := prog_10_method_3_code
def yX8_holdRow : MethodName := ⟨RX8, "holdRow", "(III)V"⟩
abbrev cX8_refusesRow : ByteArray := prog_10_method_4_code
def yX8_refusesRow : MethodName := ⟨RX8, "refusesRow", "(I)I"⟩
abbrev cX8_refusesNumbers : ByteArray := prog_10_method_5_code
def yX8_refusesNumbers : MethodName := ⟨RX8, "refusesNumbers", "(I)I"⟩
abbrev cX8_hasPlace : ByteArray := prog_10_method_6_code
def yX8_hasPlace : MethodName := ⟨RX8, "hasPlace", "(II)Z"⟩
abbrev cX8_hasSpan : ByteArray := prog_10_method_7_code
def yX8_hasSpan : MethodName := ⟨RX8, "hasSpan", "(III)Z"⟩
abbrev cX8_set : ByteArray := prog_10_method_8_code
def yX8_set : MethodName := ⟨RX8, "set", "(IIJ)V"⟩
abbrev cX8_cut : ByteArray := prog_10_method_9_code
def yX8_cut : MethodName := ⟨RX8, "cut", "(IJ)J"⟩
abbrev cX8_greatest : ByteArray := prog_10_method_10_code
def yX8_greatest : MethodName := ⟨RX8, "greatest", "(I)J"⟩
abbrev cX8_setHeard : ByteArray := prog_10_method_11_code
def yX8_setHeard : MethodName := ⟨RX8, "setHeard", "(III)V"⟩
abbrev cX8_present : ByteArray := prog_10_method_12_code
def yX8_present : MethodName := ⟨RX8, "present", "(II)J"⟩
abbrev cX8_loudnessOf : ByteArray := prog_10_method_13_code
def yX8_loudnessOf : MethodName := ⟨RX8, "loudnessOf", "(II)J"⟩
abbrev cX8_wave : ByteArray := prog_10_method_14_code
def yX8_wave : MethodName := ⟨RX8, "wave", "(II)I"⟩
abbrev cX8_strongestPeriod : ByteArray := prog_10_method_15_code
def yX8_strongestPeriod : MethodName := ⟨RX8, "strongestPeriod", "(I)I"⟩
def RX9 : String := "PlatesSing$Tape"
def TX9 : u_T := fun k => match k with
  | 0 => ("PlatesSing$Tape", "bytes", "[I", true)
  | 1 => ("PlatesSing$Tape", "length", "I", false)
  | _ => ("PlatesSing$Tape", "at", "I", false)
def tyX9 : Nat → FieldType := fun k => match k with
  | 0 => .array .int
  | 1 => .int
  | _ => .int
abbrev wsX90 : List Cond := u_ws RX9 TX9 3
theorem nmX9 : ∀ a, a < 3 → ∀ b, b < 3 → a ≠ b → (TX9 a).2.1 ≠ (TX9 b).2.1 := by decide +kernel
theorem tyX9_ok : ∀ k, k < 3 → parseFieldDescriptor (TX9 k).2.2.1 = some (tyX9 k) := by decide +kernel
abbrev cX9_init : ByteArray := prog_11_method_1_code
def yX9_init : MethodName := ⟨RX9, "<init>", "()V"⟩
abbrev cX9_add : ByteArray := prog_11_method_2_code
def yX9_add : MethodName := ⟨RX9, "add", "(II)V"⟩
abbrev cX9_read : ByteArray := prog_11_method_3_code
def yX9_read : MethodName := ⟨RX9, "read", "(LPlatesSing$Shape;)I"⟩
abbrev cX9_readCorners : ByteArray := prog_11_method_4_code
def yX9_readCorners : MethodName := ⟨RX9, "readCorners", "(LPlatesSing$Shape;)Z"⟩
abbrev cX9_readPart : ByteArray := prog_11_method_5_code
def yX9_readPart : MethodName := ⟨RX9, "readPart", "(LPlatesSing$Shape;)Z"⟩
abbrev cX9_readPiece : ByteArray := prog_11_method_6_code
def yX9_readPiece : MethodName := ⟨RX9, "readPiece", "(LPlatesSing$Shape;)Z"⟩
abbrev cX9_readHold : ByteArray := prog_11_method_7_code
def yX9_readHold : MethodName := ⟨RX9, "readHold", "(LPlatesSing$Shape;)Z"⟩
abbrev cX9_readNumber : ByteArray := prog_11_method_8_code
def yX9_readNumber : MethodName := ⟨RX9, "readNumber", "(LPlatesSing$Shape;[I)Z"⟩
abbrev cX9_peek : ByteArray := prog_11_method_9_code
def yX9_peek : MethodName := ⟨RX9, "peek", "()I"⟩
abbrev cX9_digit : ByteArray := prog_11_method_10_code
def yX9_digit : MethodName := ⟨RX9, "digit", "()I"⟩
abbrev cX9_corner : ByteArray := prog_11_method_11_code
def yX9_corner : MethodName := ⟨RX9, "corner", "(LPlatesSing$Shape;)I"⟩
def RX10 : String := "PlatesSing$Turns"
def TX10 : u_T := fun k => match k with
  | 0 => ("PlatesSing$Turns", "found", "I", false)
  | 1 => ("PlatesSing$Turns", "firstFound", "I", false)
  | 2 => ("PlatesSing$Turns", "orbits", "[I", true)
  | 3 => ("PlatesSing$Turns", "order", "[I", true)
  | 4 => ("PlatesSing$Turns", "from", "LPlatesSing$Net;", true)
  | _ => ("PlatesSing$Turns", "to", "LPlatesSing$Net;", true)
def tyX10 : Nat → FieldType := fun k => match k with
  | 0 => .int
  | 1 => .int
  | 2 => .array .int
  | 3 => .array .int
  | 4 => .object "PlatesSing$Net"
  | _ => .object "PlatesSing$Net"
abbrev wsX100 : List Cond := u_ws RX10 TX10 6
theorem nmX10 : ∀ a, a < 6 → ∀ b, b < 6 → a ≠ b → (TX10 a).2.1 ≠ (TX10 b).2.1 := by decide +kernel
theorem tyX10_ok : ∀ k, k < 6 → parseFieldDescriptor (TX10 k).2.2.1 = some (tyX10 k) := by decide +kernel
abbrev cX10_init : ByteArray := prog_12_method_1_code
def yX10_init : MethodName := ⟨RX10, "<init>", "()V"⟩
abbrev cX10_seek : ByteArray := prog_12_method_2_code
def yX10_seek : MethodName := ⟨RX10, "seek", "(LPlatesSing$Shape;LPlatesSing$Shape;)V"⟩
abbrev cX10_extend : ByteArray := prog_12_method_3_code
def yX10_extend : MethodName := ⟨RX10, "extend", "(LPlatesSing$Shape;LPlatesSing$Shape;I)V"⟩
abbrev cX10_isLike : ByteArray := prog_12_method_4_code
def yX10_isLike : MethodName := ⟨RX10, "isLike", "(LPlatesSing$Shape;ILPlatesSing$Shape;I)Z"⟩
abbrev cX10_keepsPieces : ByteArray := prog_12_method_5_code
def yX10_keepsPieces : MethodName := ⟨RX10, "keepsPieces", "(II)Z"⟩
abbrev cX10_noteFound : ByteArray := prog_12_method_6_code
def yX10_noteFound : MethodName := ⟨RX10, "noteFound", "(I)V"⟩
def RX11 : String := "PlatesSing"
def TX11 : u_T := fun k => match k with
  | 0 => ("PlatesSing", "tape", "LPlatesSing$Tape;", true)
  | 1 => ("PlatesSing", "shapes", "[LPlatesSing$Shape;", true)
  | 2 => ("PlatesSing", "shapeCount", "I", false)
  | 3 => ("PlatesSing", "draft", "LPlatesSing$Shape;", false)
  | 4 => ("PlatesSing", "net", "LPlatesSing$Net;", true)
  | 5 => ("PlatesSing", "otherNet", "LPlatesSing$Net;", true)
  | 6 => ("PlatesSing", "turns", "LPlatesSing$Turns;", true)
  | 7 => ("PlatesSing", "plan", "LPlatesSing$Plan;", true)
  | 8 => ("PlatesSing", "hearing", "LPlatesSing$Hearing;", true)
  | 9 => ("PlatesSing", "blows", "LPlatesSing$Blows;", true)
  | 10 => ("PlatesSing", "ratios", "LPlatesSing$Ratios;", true)
  | 11 => ("PlatesSing", "history", "LPlatesSing$History;", true)
  | 12 => ("PlatesSing", "parts", "LPlatesSing$Parts;", true)
  | _ => ("PlatesSing", "shelves", "LPlatesSing$Shelves;", true)
def tyX11 : Nat → FieldType := fun k => match k with
  | 0 => .object "PlatesSing$Tape"
  | 1 => .array (.object "PlatesSing$Shape")
  | 2 => .int
  | 3 => .object "PlatesSing$Shape"
  | 4 => .object "PlatesSing$Net"
  | 5 => .object "PlatesSing$Net"
  | 6 => .object "PlatesSing$Turns"
  | 7 => .object "PlatesSing$Plan"
  | 8 => .object "PlatesSing$Hearing"
  | 9 => .object "PlatesSing$Blows"
  | 10 => .object "PlatesSing$Ratios"
  | 11 => .object "PlatesSing$History"
  | 12 => .object "PlatesSing$Parts"
  | _ => .object "PlatesSing$Shelves"
abbrev wsX110 : List Cond := u_ws RX11 TX11 14
theorem nmX11 : ∀ a, a < 14 → ∀ b, b < 14 → a ≠ b → (TX11 a).2.1 ≠ (TX11 b).2.1 := by decide +kernel
theorem tyX11_ok : ∀ k, k < 14 → parseFieldDescriptor (TX11 k).2.2.1 = some (tyX11 k) := by decide +kernel
abbrev cX11_init : ByteArray := prog_1_method_1_code
def yX11_init : MethodName := ⟨RX11, "<init>", "()V"⟩
abbrev cX11_feed : ByteArray := prog_1_method_2_code
def yX11_feed : MethodName := ⟨RX11, "feed", "(II)I"⟩
abbrev cX11_shape : ByteArray := prog_1_method_3_code
def yX11_shape : MethodName := ⟨RX11, "shape", "()I"⟩
abbrev cX11_of : ByteArray := prog_1_method_4_code
def yX11_of : MethodName := ⟨RX11, "of", "(II)I"⟩
abbrev cX11_piece : ByteArray := prog_1_method_5_code
def yX11_piece : MethodName := ⟨RX11, "piece", "(IIII)I"⟩
abbrev cX11_put : ByteArray := prog_1_method_6_code
def yX11_put : MethodName := ⟨RX11, "put", "(IIII)I"⟩
abbrev cX11_crack : ByteArray := prog_1_method_7_code
def yX11_crack : MethodName := ⟨RX11, "crack", "(IIII)I"⟩
abbrev cX11_stroke : ByteArray := prog_1_method_8_code
def yX11_stroke : MethodName := ⟨RX11, "stroke", "(III)I"⟩
abbrev cX11_below : ByteArray := prog_1_method_9_code
def yX11_below : MethodName := ⟨RX11, "below", "(III)I"⟩
abbrev cX11_sums : ByteArray := prog_1_method_10_code
def yX11_sums : MethodName := ⟨RX11, "sums", "(III)J"⟩
abbrev cX11_shut : ByteArray := prog_1_method_11_code
def yX11_shut : MethodName := ⟨RX11, "shut", "(III)I"⟩
abbrev cX11_still : ByteArray := prog_1_method_12_code
def yX11_still : MethodName := ⟨RX11, "still", "(III)I"⟩
abbrev cX11_split : ByteArray := prog_1_method_13_code
def yX11_split : MethodName := ⟨RX11, "split", "(IIII)I"⟩
abbrev cX11_bounds : ByteArray := prog_1_method_14_code
def yX11_bounds : MethodName := ⟨RX11, "bounds", "(IIIII)I"⟩
abbrev cX11_led : ByteArray := prog_1_method_15_code
def yX11_led : MethodName := ⟨RX11, "led", "(IIII)I"⟩
abbrev cX11_turnsOf : ByteArray := prog_1_method_16_code
def yX11_turnsOf : MethodName := ⟨RX11, "turnsOf", "(I)I"⟩
abbrev cX11_orbit : ByteArray := prog_1_method_17_code
def yX11_orbit : MethodName := ⟨RX11, "orbit", "(II)I"⟩
abbrev cX11_table : ByteArray := prog_1_method_18_code
def yX11_table : MethodName := ⟨RX11, "table", "(II)I"⟩
abbrev cX11_alike : ByteArray := prog_1_method_19_code
def yX11_alike : MethodName := ⟨RX11, "alike", "(III)I"⟩
abbrev cX11_plan : ByteArray := prog_1_method_20_code
def yX11_plan : MethodName := ⟨RX11, "plan", "(IIII)I"⟩
abbrev cX11_wish : ByteArray := prog_1_method_21_code
def yX11_wish : MethodName := ⟨RX11, "wish", "(III)I"⟩
abbrev cX11_moved : ByteArray := prog_1_method_22_code
def yX11_moved : MethodName := ⟨RX11, "moved", "(III)I"⟩
abbrev cX11_tune : ByteArray := prog_1_method_23_code
def yX11_tune : MethodName := ⟨RX11, "tune", "(I)I"⟩
abbrev cX11_forget : ByteArray := prog_1_method_24_code
def yX11_forget : MethodName := ⟨RX11, "forget", "()I"⟩
abbrev cX11_hear : ByteArray := prog_1_method_25_code
def yX11_hear : MethodName := ⟨RX11, "hear", "(I)I"⟩
abbrev cX11_fits : ByteArray := prog_1_method_26_code
def yX11_fits : MethodName := ⟨RX11, "fits", "(III)I"⟩
abbrev cX11_next : ByteArray := prog_1_method_27_code
def yX11_next : MethodName := ⟨RX11, "next", "(II)I"⟩
abbrev cX11_unhear : ByteArray := prog_1_method_28_code
def yX11_unhear : MethodName := ⟨RX11, "unhear", "()I"⟩
abbrev cX11_damp : ByteArray := prog_1_method_29_code
def yX11_damp : MethodName := ⟨RX11, "damp", "(I)I"⟩
abbrev cX11_ear : ByteArray := prog_1_method_30_code
def yX11_ear : MethodName := ⟨RX11, "ear", "(II)I"⟩
abbrev cX11_blow : ByteArray := prog_1_method_31_code
def yX11_blow : MethodName := ⟨RX11, "blow", "(IIII)I"⟩
abbrev cX11_roll : ByteArray := prog_1_method_32_code
def yX11_roll : MethodName := ⟨RX11, "roll", "(III)I"⟩
abbrev cX11_rolled : ByteArray := prog_1_method_33_code
def yX11_rolled : MethodName := ⟨RX11, "rolled", "(II)I"⟩
abbrev cX11_heard : ByteArray := prog_1_method_34_code
def yX11_heard : MethodName := ⟨RX11, "heard", "(II)I"⟩
abbrev cX11_loud : ByteArray := prog_1_method_35_code
def yX11_loud : MethodName := ⟨RX11, "loud", "(II)I"⟩
abbrev cX11_write : ByteArray := prog_1_method_36_code
def yX11_write : MethodName := ⟨RX11, "write", "(IIII)I"⟩
abbrev cX11_loudness : ByteArray := prog_1_method_37_code
def yX11_loudness : MethodName := ⟨RX11, "loudness", "(II)I"⟩
abbrev cX11_strongest : ByteArray := prog_1_method_38_code
def yX11_strongest : MethodName := ⟨RX11, "strongest", "(I)I"⟩
abbrev cX11_ratio : ByteArray := prog_1_method_39_code
def yX11_ratio : MethodName := ⟨RX11, "ratio", "(II)I"⟩
abbrev cX11_agree : ByteArray := prog_1_method_40_code
def yX11_agree : MethodName := ⟨RX11, "agree", "(IIII)I"⟩
abbrev cX11_unratio : ByteArray := prog_1_method_41_code
def yX11_unratio : MethodName := ⟨RX11, "unratio", "()I"⟩
abbrev cX11_join : ByteArray := prog_1_method_42_code
def yX11_join : MethodName := ⟨RX11, "join", "(IIII)I"⟩
abbrev cX11_law : ByteArray := prog_1_method_43_code
def yX11_law : MethodName := ⟨RX11, "law", "(II)I"⟩
abbrev cX11_undo : ByteArray := prog_1_method_44_code
def yX11_undo : MethodName := ⟨RX11, "undo", "()I"⟩
abbrev cX11_redo : ByteArray := prog_1_method_45_code
def yX11_redo : MethodName := ⟨RX11, "redo", "()I"⟩
abbrev cX11_digest : ByteArray := prog_1_method_46_code
def yX11_digest : MethodName := ⟨RX11, "digest", "()I"⟩
abbrev cX11_body : ByteArray := prog_1_method_47_code
def yX11_body : MethodName := ⟨RX11, "body", "(I)I"⟩
abbrev cX11_act : ByteArray := prog_1_method_48_code
def yX11_act : MethodName := ⟨RX11, "act", "(III)I"⟩
abbrev cX11_trace : ByteArray := prog_1_method_49_code
def yX11_trace : MethodName := ⟨RX11, "trace", "(I)I"⟩
abbrev cX11_keep : ByteArray := prog_1_method_50_code
def yX11_keep : MethodName := ⟨RX11, "keep", "(II)I"⟩
abbrev cX11_row : ByteArray := prog_1_method_51_code
def yX11_row : MethodName := ⟨RX11, "row", "(III)I"⟩
abbrev cX11_place : ByteArray := prog_1_method_52_code
def yX11_place : MethodName := ⟨RX11, "place", "(IIJ)I"⟩
abbrev cX11_element : ByteArray := prog_1_method_53_code
def yX11_element : MethodName := ⟨RX11, "element", "(II)J"⟩
abbrev cX11_shift : ByteArray := prog_1_method_54_code
def yX11_shift : MethodName := ⟨RX11, "shift", "(IIIII)I"⟩
abbrev cX11_taken : ByteArray := prog_1_method_55_code
def yX11_taken : MethodName := ⟨RX11, "taken", "(II)I"⟩
abbrev cX11_count : ByteArray := prog_1_method_56_code
def yX11_count : MethodName := ⟨RX11, "count", "(I)I"⟩
abbrev cX11_within : ByteArray := prog_1_method_57_code
def yX11_within : MethodName := ⟨RX11, "within", "(III)Z"⟩
abbrev cX11_isMark : ByteArray := prog_1_method_58_code
def yX11_isMark : MethodName := ⟨RX11, "isMark", "(I)Z"⟩
abbrev cX11_isForce : ByteArray := prog_1_method_59_code
def yX11_isForce : MethodName := ⟨RX11, "isForce", "(I)Z"⟩
abbrev cX11_isEar : ByteArray := prog_1_method_60_code
def yX11_isEar : MethodName := ⟨RX11, "isEar", "(I)Z"⟩
abbrev cX11_isShelf : ByteArray := prog_1_method_61_code
def yX11_isShelf : MethodName := ⟨RX11, "isShelf", "(I)Z"⟩
abbrev cX11_isKind : ByteArray := prog_1_method_62_code
def yX11_isKind : MethodName := ⟨RX11, "isKind", "(I)Z"⟩
abbrev cX11_isBody : ByteArray := prog_1_method_63_code
def yX11_isBody : MethodName := ⟨RX11, "isBody", "(I)Z"⟩
abbrev cX11_isCorner : ByteArray := prog_1_method_64_code
def yX11_isCorner : MethodName := ⟨RX11, "isCorner", "(LPlatesSing$Shape;I)Z"⟩
abbrev cX11_isTone : ByteArray := prog_1_method_65_code
def yX11_isTone : MethodName := ⟨RX11, "isTone", "(LPlatesSing$Shape;II)Z"⟩
abbrev cX11_shapeAt : ByteArray := prog_1_method_66_code
def yX11_shapeAt : MethodName := ⟨RX11, "shapeAt", "(I)LPlatesSing$Shape;"⟩
abbrev cX11_planned : ByteArray := prog_1_method_67_code
def yX11_planned : MethodName := ⟨RX11, "planned", "()LPlatesSing$Shape;"⟩
abbrev cX11_isFullFor : ByteArray := prog_1_method_68_code
def yX11_isFullFor : MethodName := ⟨RX11, "isFullFor", "(I)Z"⟩
abbrev cX11_addDraft : ByteArray := prog_1_method_69_code
def yX11_addDraft : MethodName := ⟨RX11, "addDraft", "()I"⟩
abbrev cX11_change : ByteArray := prog_1_method_70_code
def yX11_change : MethodName := ⟨RX11, "change", "(LPlatesSing$Shape;III)I"⟩
abbrev cX11_under : ByteArray := prog_1_method_71_code
def yX11_under : MethodName := ⟨RX11, "under", "(LPlatesSing$Shape;I)I"⟩
def RX12 : String := "PlatesSingModel"
def TX12 : u_T := fun k => match k with
  | 0 => ("PlatesSingModel", "code", "I", false)
  | 1 => ("PlatesSingModel", "shapes", "I", false)
  | 2 => ("PlatesSingModel", "corners", "[I", true)
  | 3 => ("PlatesSingModel", "heavy", "[I", true)
  | 4 => ("PlatesSingModel", "pads", "[I", true)
  | 5 => ("PlatesSingModel", "weights", "[I", true)
  | 6 => ("PlatesSingModel", "isHeld", "[Z", true)
  | 7 => ("PlatesSingModel", "stiff", "[I", true)
  | 8 => ("PlatesSingModel", "cracks", "[I", true)
  | 9 => ("PlatesSingModel", "bodyOf", "[I", true)
  | 10 => ("PlatesSingModel", "joinedOf", "[I", true)
  | 11 => ("PlatesSingModel", "joinedTo", "[I", true)
  | 12 => ("PlatesSingModel", "bodies", "I", false)
  | 13 => ("PlatesSingModel", "kind", "[I", true)
  | 14 => ("PlatesSingModel", "lies", "[I", true)
  | 15 => ("PlatesSingModel", "tape", "[B", true)
  | 16 => ("PlatesSingModel", "taped", "I", false)
  | 17 => ("PlatesSingModel", "here", "I", false)
  | 18 => ("PlatesSingModel", "fault", "I", false)
  | 19 => ("PlatesSingModel", "newPieces", "I", false)
  | 20 => ("PlatesSingModel", "newA", "[I", true)
  | 21 => ("PlatesSingModel", "newB", "[I", true)
  | 22 => ("PlatesSingModel", "isPadded", "[Z", true)
  | 23 => ("PlatesSingModel", "isWeighted", "[Z", true)
  | 24 => ("PlatesSingModel", "doneMany", "I", false)
  | 25 => ("PlatesSingModel", "undoneMany", "I", false)
  | 26 => ("PlatesSingModel", "actOf", "[I", true)
  | 27 => ("PlatesSingModel", "actAt", "[I", true)
  | 28 => ("PlatesSingModel", "before", "[I", true)
  | 29 => ("PlatesSingModel", "behind", "[I", true)
  | 30 => ("PlatesSingModel", "crackBefore", "[I", true)
  | 31 => ("PlatesSingModel", "mass", "[I", true)
  | 32 => ("PlatesSingModel", "pad", "[I", true)
  | 33 => ("PlatesSingModel", "held", "[Z", true)
  | 34 => ("PlatesSingModel", "counts", "[I", true)
  | 35 => ("PlatesSingModel", "many", "I", false)
  | 36 => ("PlatesSingModel", "matrix", "[J", true)
  | 37 => ("PlatesSingModel", "rows", "I", false)
  | 38 => ("PlatesSingModel", "sums", "[J", true)
  | 39 => ("PlatesSingModel", "rowOf", "[I", true)
  | 40 => ("PlatesSingModel", "minorOf", "[J", true)
  | 41 => ("PlatesSingModel", "minorAt", "[I", true)
  | 42 => ("PlatesSingModel", "stamp", "I", false)
  | 43 => ("PlatesSingModel", "changesBy", "[I", true)
  | 44 => ("PlatesSingModel", "shuts", "[I", true)
  | 45 => ("PlatesSingModel", "row", "[I", true)
  | 46 => ("PlatesSingModel", "turnMany", "I", false)
  | 47 => ("PlatesSingModel", "orbitBits", "I", false)
  | 48 => ("PlatesSingModel", "orbitOf", "I", false)
  | 49 => ("PlatesSingModel", "isLooked", "Z", false)
  | 50 => ("PlatesSingModel", "lookedRow", "I", false)
  | 51 => ("PlatesSingModel", "planMany", "I", false)
  | 52 => ("PlatesSingModel", "planShape", "I", false)
  | 53 => ("PlatesSingModel", "planA", "[I", true)
  | 54 => ("PlatesSingModel", "planB", "[I", true)
  | 55 => ("PlatesSingModel", "planOften", "[I", true)
  | 56 => ("PlatesSingModel", "wishMany", "I", false)
  | 57 => ("PlatesSingModel", "wishTone", "[I", true)
  | 58 => ("PlatesSingModel", "wishBy", "[I", true)
  | 59 => ("PlatesSingModel", "wishIs", "[I", true)
  | 60 => ("PlatesSingModel", "trial", "[I", true)
  | 61 => ("PlatesSingModel", "fewest", "I", false)
  | 62 => ("PlatesSingModel", "digits", "I", false)
  | 63 => ("PlatesSingModel", "closest", "I", false)
  | 64 => ("PlatesSingModel", "closestMany", "I", false)
  | 65 => ("PlatesSingModel", "heardMany", "I", false)
  | 66 => ("PlatesSingModel", "heardIs", "[I", true)
  | 67 => ("PlatesSingModel", "fitMany", "I", false)
  | 68 => ("PlatesSingModel", "fitBody", "I", false)
  | 69 => ("PlatesSingModel", "fitCrack", "I", false)
  | 70 => ("PlatesSingModel", "alikeBy", "[I", true)
  | 71 => ("PlatesSingModel", "dampIs", "I", false)
  | 72 => ("PlatesSingModel", "earAt", "[I", true)
  | 73 => ("PlatesSingModel", "earWas", "[I", true)
  | 74 => ("PlatesSingModel", "steps", "I", false)
  | 75 => ("PlatesSingModel", "x", "[I", true)
  | 76 => ("PlatesSingModel", "u", "[I", true)
  | 77 => ("PlatesSingModel", "pull", "[I", true)
  | 78 => ("PlatesSingModel", "heardAt", "[I", true)
  | 79 => ("PlatesSingModel", "rollMany", "I", false)
  | 80 => ("PlatesSingModel", "rollCorner", "[I", true)
  | 81 => ("PlatesSingModel", "rollV", "[I", true)
  | 82 => ("PlatesSingModel", "rollWhen", "[I", true)
  | 83 => ("PlatesSingModel", "ratios", "I", false)
  | 84 => ("PlatesSingModel", "ratioA", "[I", true)
  | 85 => ("PlatesSingModel", "ratioB", "[I", true)
  | 86 => ("PlatesSingModel", "inOrder", "[I", true)
  | 87 => ("PlatesSingModel", "lowest", "[I", true)
  | 88 => ("PlatesSingModel", "traces", "I", false)
  | 89 => ("PlatesSingModel", "traced", "[I", true)
  | 90 => ("PlatesSingModel", "holds", "[I", true)
  | 91 => ("PlatesSingModel", "size", "[I", true)
  | 92 => ("PlatesSingModel", "elements", "[J", true)
  | _ => ("PlatesSingModel", "shifted", "[J", true)
def tyX12 : Nat → FieldType := fun k => match k with
  | 0 => .int
  | 1 => .int
  | 2 => .array .int
  | 3 => .array .int
  | 4 => .array .int
  | 5 => .array .int
  | 6 => .array .boolean
  | 7 => .array .int
  | 8 => .array .int
  | 9 => .array .int
  | 10 => .array .int
  | 11 => .array .int
  | 12 => .int
  | 13 => .array .int
  | 14 => .array .int
  | 15 => .array .byte
  | 16 => .int
  | 17 => .int
  | 18 => .int
  | 19 => .int
  | 20 => .array .int
  | 21 => .array .int
  | 22 => .array .boolean
  | 23 => .array .boolean
  | 24 => .int
  | 25 => .int
  | 26 => .array .int
  | 27 => .array .int
  | 28 => .array .int
  | 29 => .array .int
  | 30 => .array .int
  | 31 => .array .int
  | 32 => .array .int
  | 33 => .array .boolean
  | 34 => .array .int
  | 35 => .int
  | 36 => .array .long
  | 37 => .int
  | 38 => .array .long
  | 39 => .array .int
  | 40 => .array .long
  | 41 => .array .int
  | 42 => .int
  | 43 => .array .int
  | 44 => .array .int
  | 45 => .array .int
  | 46 => .int
  | 47 => .int
  | 48 => .int
  | 49 => .boolean
  | 50 => .int
  | 51 => .int
  | 52 => .int
  | 53 => .array .int
  | 54 => .array .int
  | 55 => .array .int
  | 56 => .int
  | 57 => .array .int
  | 58 => .array .int
  | 59 => .array .int
  | 60 => .array .int
  | 61 => .int
  | 62 => .int
  | 63 => .int
  | 64 => .int
  | 65 => .int
  | 66 => .array .int
  | 67 => .int
  | 68 => .int
  | 69 => .int
  | 70 => .array .int
  | 71 => .int
  | 72 => .array .int
  | 73 => .array .int
  | 74 => .int
  | 75 => .array .int
  | 76 => .array .int
  | 77 => .array .int
  | 78 => .array .int
  | 79 => .int
  | 80 => .array .int
  | 81 => .array .int
  | 82 => .array .int
  | 83 => .int
  | 84 => .array .int
  | 85 => .array .int
  | 86 => .array .int
  | 87 => .array .int
  | 88 => .int
  | 89 => .array .int
  | 90 => .array .int
  | 91 => .array .int
  | 92 => .array .long
  | _ => .array .long
abbrev wsX120 : List Cond := u_ws RX12 TX12 94
theorem nmX12 : ∀ a, a < 94 → ∀ b, b < 94 → a ≠ b → (TX12 a).2.1 ≠ (TX12 b).2.1 := by decide +kernel
theorem tyX12_ok : ∀ k, k < 94 → parseFieldDescriptor (TX12 k).2.2.1 = some (tyX12 k) := by decide +kernel
abbrev cX12_init : ByteArray := prog_14_method_1_code
def yX12_init : MethodName := ⟨RX12, "<init>", "()V"⟩
abbrev cX12_in : ByteArray := prog_14_method_3_code
def yX12_in : MethodName := ⟨RX12, "in", "(III)Z"⟩
abbrev cX12_lesser : ByteArray := prog_14_method_4_code
def yX12_lesser : MethodName := ⟨RX12, "lesser", "(II)I"⟩
abbrev cX12_greater : ByteArray := prog_14_method_5_code
def yX12_greater : MethodName := ⟨RX12, "greater", "(II)I"⟩
abbrev cX12_sizeOf : ByteArray := prog_14_method_6_code
def yX12_sizeOf : MethodName := ⟨RX12, "sizeOf", "(I)I"⟩
abbrev cX12_isShape : ByteArray := prog_14_method_7_code
def yX12_isShape : MethodName := ⟨RX12, "isShape", "(I)Z"⟩
abbrev cX12_isCorner : ByteArray := prog_14_method_8_code
def yX12_isCorner : MethodName := ⟨RX12, "isCorner", "(II)Z"⟩
abbrev cX12_at : ByteArray := prog_14_method_9_code
def yX12_at : MethodName := ⟨RX12, "at", "(III)I"⟩
abbrev cX12_hasPiece : ByteArray := prog_14_method_10_code
def yX12_hasPiece : MethodName := ⟨RX12, "hasPiece", "(III)Z"⟩
abbrev cX12_setPiece : ByteArray := prog_14_method_11_code
def yX12_setPiece : MethodName := ⟨RX12, "setPiece", "(IIIIII)V"⟩
abbrev cX12_clear : ByteArray := prog_14_method_12_code
def yX12_clear : MethodName := ⟨RX12, "clear", "(I)V"⟩
abbrev cX12_piecesOf : ByteArray := prog_14_method_13_code
def yX12_piecesOf : MethodName := ⟨RX12, "piecesOf", "(I)I"⟩
abbrev cX12_feed : ByteArray := prog_14_method_14_code
def yX12_feed : MethodName := ⟨RX12, "feed", "(II)I"⟩
abbrev cX12_look : ByteArray := prog_14_method_15_code
def yX12_look : MethodName := ⟨RX12, "look", "()I"⟩
abbrev cX12_wrong : ByteArray := prog_14_method_16_code
def yX12_wrong : MethodName := ⟨RX12, "wrong", "()V"⟩
abbrev cX12_isDigit : ByteArray := prog_14_method_17_code
def yX12_isDigit : MethodName := ⟨RX12, "isDigit", "()Z"⟩
abbrev cX12_digit : ByteArray := prog_14_method_18_code
def yX12_digit : MethodName := ⟨RX12, "digit", "()I"⟩
abbrev cX12_letter : ByteArray := prog_14_method_19_code
def yX12_letter : MethodName := ⟨RX12, "letter", "()I"⟩
abbrev cX12_readPiece : ByteArray := prog_14_method_20_code
def yX12_readPiece : MethodName := ⟨RX12, "readPiece", "()V"⟩
abbrev cX12_readPart : ByteArray := prog_14_method_21_code
def yX12_readPart : MethodName := ⟨RX12, "readPart", "()V"⟩
abbrev cX12_readShape : ByteArray := prog_14_method_22_code
def yX12_readShape : MethodName := ⟨RX12, "readShape", "()V"⟩
abbrev cX12_bear : ByteArray := prog_14_method_23_code
def yX12_bear : MethodName := ⟨RX12, "bear", "(III)V"⟩
abbrev cX12_shape : ByteArray := prog_14_method_24_code
def yX12_shape : MethodName := ⟨RX12, "shape", "()I"⟩
abbrev cX12_tonesOf : ByteArray := prog_14_method_25_code
def yX12_tonesOf : MethodName := ⟨RX12, "tonesOf", "(I)I"⟩
abbrev cX12_of : ByteArray := prog_14_method_26_code
def yX12_of : MethodName := ⟨RX12, "of", "(II)I"⟩
abbrev cX12_piece : ByteArray := prog_14_method_27_code
def yX12_piece : MethodName := ⟨RX12, "piece", "(IIII)I"⟩
abbrev cX12_kept : ByteArray := prog_14_method_28_code
def yX12_kept : MethodName := ⟨RX12, "kept", "(IIIII)V"⟩
abbrev cX12_setStiff : ByteArray := prog_14_method_29_code
def yX12_setStiff : MethodName := ⟨RX12, "setStiff", "(III)V"⟩
abbrev cX12_set : ByteArray := prog_14_method_30_code
def yX12_set : MethodName := ⟨RX12, "set", "(IIII)V"⟩
abbrev cX12_put : ByteArray := prog_14_method_31_code
def yX12_put : MethodName := ⟨RX12, "put", "(IIII)I"⟩
abbrev cX12_crack : ByteArray := prog_14_method_32_code
def yX12_crack : MethodName := ⟨RX12, "crack", "(IIII)I"⟩
abbrev cX12_stroke : ByteArray := prog_14_method_33_code
def yX12_stroke : MethodName := ⟨RX12, "stroke", "(III)I"⟩
abbrev cX12_undo : ByteArray := prog_14_method_34_code
def yX12_undo : MethodName := ⟨RX12, "undo", "()I"⟩
abbrev cX12_redo : ByteArray := prog_14_method_35_code
def yX12_redo : MethodName := ⟨RX12, "redo", "()I"⟩
abbrev cX12_digest : ByteArray := prog_14_method_36_code
def yX12_digest : MethodName := ⟨RX12, "digest", "()I"⟩
abbrev cX12_massOf : ByteArray := prog_14_method_37_code
def yX12_massOf : MethodName := ⟨RX12, "massOf", "(II)I"⟩
abbrev cX12_take : ByteArray := prog_14_method_38_code
def yX12_take : MethodName := ⟨RX12, "take", "(I)V"⟩
abbrev cX12_layMatrix : ByteArray := prog_14_method_39_code
def yX12_layMatrix : MethodName := ⟨RX12, "layMatrix", "(II)V"⟩
abbrev cX12_minor : ByteArray := prog_14_method_40_code
def yX12_minor : MethodName := ⟨RX12, "minor", "(II)J"⟩
abbrev cX12_bitsOf : ByteArray := prog_14_method_41_code
def yX12_bitsOf : MethodName := ⟨RX12, "bitsOf", "(I)I"⟩
abbrev cX12_findSums : ByteArray := prog_14_method_42_code
def yX12_findSums : MethodName := ⟨RX12, "findSums", "(II)V"⟩
abbrev cX12_changes : ByteArray := prog_14_method_43_code
def yX12_changes : MethodName := ⟨RX12, "changes", "(II)I"⟩
abbrev cX12_atMark : ByteArray := prog_14_method_44_code
def yX12_atMark : MethodName := ⟨RX12, "atMark", "(II)I"⟩
abbrev cX12_isMark : ByteArray := prog_14_method_45_code
def yX12_isMark : MethodName := ⟨RX12, "isMark", "(I)Z"⟩
abbrev cX12_below : ByteArray := prog_14_method_46_code
def yX12_below : MethodName := ⟨RX12, "below", "(III)I"⟩
abbrev cX12_sums : ByteArray := prog_14_method_47_code
def yX12_sums : MethodName := ⟨RX12, "sums", "(III)J"⟩
abbrev cX12_forgetChanges : ByteArray := prog_14_method_48_code
def yX12_forgetChanges : MethodName := ⟨RX12, "forgetChanges", "()V"⟩
abbrev cX12_shutOf : ByteArray := prog_14_method_49_code
def yX12_shutOf : MethodName := ⟨RX12, "shutOf", "(II)I"⟩
abbrev cX12_shutNow : ByteArray := prog_14_method_50_code
def yX12_shutNow : MethodName := ⟨RX12, "shutNow", "(II)I"⟩
abbrev cX12_shut : ByteArray := prog_14_method_51_code
def yX12_shut : MethodName := ⟨RX12, "shut", "(III)I"⟩
abbrev cX12_still : ByteArray := prog_14_method_52_code
def yX12_still : MethodName := ⟨RX12, "still", "(III)I"⟩
abbrev cX12_split : ByteArray := prog_14_method_53_code
def yX12_split : MethodName := ⟨RX12, "split", "(IIII)I"⟩
abbrev cX12_bounds : ByteArray := prog_14_method_54_code
def yX12_bounds : MethodName := ⟨RX12, "bounds", "(IIIII)I"⟩
abbrev cX12_setCount : ByteArray := prog_14_method_55_code
def yX12_setCount : MethodName := ⟨RX12, "setCount", "(III)V"⟩
abbrev cX12_led : ByteArray := prog_14_method_56_code
def yX12_led : MethodName := ⟨RX12, "led", "(IIII)I"⟩
abbrev cX12_areLike : ByteArray := prog_14_method_57_code
def yX12_areLike : MethodName := ⟨RX12, "areLike", "(IIII)Z"⟩
abbrev cX12_countBetween : ByteArray := prog_14_method_58_code
def yX12_countBetween : MethodName := ⟨RX12, "countBetween", "(III)I"⟩
abbrev cX12_turnOn : ByteArray := prog_14_method_59_code
def yX12_turnOn : MethodName := ⟨RX12, "turnOn", "(IIII)V"⟩
abbrev cX12_findTurns : ByteArray := prog_14_method_60_code
def yX12_findTurns : MethodName := ⟨RX12, "findTurns", "(III)V"⟩
abbrev cX12_turnsOf : ByteArray := prog_14_method_61_code
def yX12_turnsOf : MethodName := ⟨RX12, "turnsOf", "(I)I"⟩
abbrev cX12_orbit : ByteArray := prog_14_method_62_code
def yX12_orbit : MethodName := ⟨RX12, "orbit", "(II)I"⟩
abbrev cX12_tableOf : ByteArray := prog_14_method_63_code
def yX12_tableOf : MethodName := ⟨RX12, "tableOf", "(II)I"⟩
abbrev cX12_table : ByteArray := prog_14_method_64_code
def yX12_table : MethodName := ⟨RX12, "table", "(II)I"⟩
abbrev cX12_divisor : ByteArray := prog_14_method_65_code
def yX12_divisor : MethodName := ⟨RX12, "divisor", "(I)J"⟩
abbrev cX12_lastSum : ByteArray := prog_14_method_66_code
def yX12_lastSum : MethodName := ⟨RX12, "lastSum", "(II)J"⟩
abbrev cX12_soundAlike : ByteArray := prog_14_method_67_code
def yX12_soundAlike : MethodName := ⟨RX12, "soundAlike", "(II)Z"⟩
abbrev cX12_alike : ByteArray := prog_14_method_68_code
def yX12_alike : MethodName := ⟨RX12, "alike", "(III)I"⟩
abbrev cX12_plan : ByteArray := prog_14_method_69_code
def yX12_plan : MethodName := ⟨RX12, "plan", "(IIII)I"⟩
abbrev cX12_wish : ByteArray := prog_14_method_70_code
def yX12_wish : MethodName := ⟨RX12, "wish", "(III)I"⟩
abbrev cX12_struck : ByteArray := prog_14_method_71_code
def yX12_struck : MethodName := ⟨RX12, "struck", "(II)Z"⟩
abbrev cX12_moved : ByteArray := prog_14_method_72_code
def yX12_moved : MethodName := ⟨RX12, "moved", "(III)I"⟩
abbrev cX12_lacks : ByteArray := prog_14_method_73_code
def yX12_lacks : MethodName := ⟨RX12, "lacks", "()I"⟩
abbrev cX12_digitsOf : ByteArray := prog_14_method_74_code
def yX12_digitsOf : MethodName := ⟨RX12, "digitsOf", "()I"⟩
abbrev cX12_tuneOn : ByteArray := prog_14_method_75_code
def yX12_tuneOn : MethodName := ⟨RX12, "tuneOn", "(II)V"⟩
abbrev cX12_tune : ByteArray := prog_14_method_76_code
def yX12_tune : MethodName := ⟨RX12, "tune", "(I)I"⟩
abbrev cX12_forget : ByteArray := prog_14_method_77_code
def yX12_forget : MethodName := ⟨RX12, "forget", "()I"⟩
abbrev cX12_hear : ByteArray := prog_14_method_78_code
def yX12_hear : MethodName := ⟨RX12, "hear", "(I)I"⟩
abbrev cX12_unhear : ByteArray := prog_14_method_79_code
def yX12_unhear : MethodName := ⟨RX12, "unhear", "()I"⟩
abbrev cX12_tryFit : ByteArray := prog_14_method_80_code
def yX12_tryFit : MethodName := ⟨RX12, "tryFit", "(IIII)V"⟩
abbrev cX12_findFits : ByteArray := prog_14_method_81_code
def yX12_findFits : MethodName := ⟨RX12, "findFits", "(II)V"⟩
abbrev cX12_fits : ByteArray := prog_14_method_82_code
def yX12_fits : MethodName := ⟨RX12, "fits", "(III)I"⟩
abbrev cX12_next : ByteArray := prog_14_method_83_code
def yX12_next : MethodName := ⟨RX12, "next", "(II)I"⟩
abbrev cX12_damp : ByteArray := prog_14_method_84_code
def yX12_damp : MethodName := ⟨RX12, "damp", "(I)I"⟩
abbrev cX12_isEar : ByteArray := prog_14_method_85_code
def yX12_isEar : MethodName := ⟨RX12, "isEar", "(I)Z"⟩
abbrev cX12_ear : ByteArray := prog_14_method_86_code
def yX12_ear : MethodName := ⟨RX12, "ear", "(II)I"⟩
abbrev cX12_begin : ByteArray := prog_14_method_87_code
def yX12_begin : MethodName := ⟨RX12, "begin", "(I)V"⟩
abbrev cX12_step : ByteArray := prog_14_method_88_code
def yX12_step : MethodName := ⟨RX12, "step", "()I"⟩
abbrev cX12_blow : ByteArray := prog_14_method_89_code
def yX12_blow : MethodName := ⟨RX12, "blow", "(IIII)I"⟩
abbrev cX12_roll : ByteArray := prog_14_method_90_code
def yX12_roll : MethodName := ⟨RX12, "roll", "(III)I"⟩
abbrev cX12_rolled : ByteArray := prog_14_method_91_code
def yX12_rolled : MethodName := ⟨RX12, "rolled", "(II)I"⟩
abbrev cX12_heard : ByteArray := prog_14_method_92_code
def yX12_heard : MethodName := ⟨RX12, "heard", "(II)I"⟩
abbrev cX12_loud : ByteArray := prog_14_method_93_code
def yX12_loud : MethodName := ⟨RX12, "loud", "(II)I"⟩
abbrev cX12_isWhole : ByteArray := prog_14_method_94_code
def yX12_isWhole : MethodName := ⟨RX12, "isWhole", "(I)Z"⟩
abbrev cX12_mostOf : ByteArray := prog_14_method_95_code
def yX12_mostOf : MethodName := ⟨RX12, "mostOf", "(I)I"⟩
abbrev cX12_write : ByteArray := prog_14_method_96_code
def yX12_write : MethodName := ⟨RX12, "write", "(IIII)I"⟩
abbrev cX12_heardIn : ByteArray := prog_14_method_97_code
def yX12_heardIn : MethodName := ⟨RX12, "heardIn", "(II)J"⟩
abbrev cX12_signOf : ByteArray := prog_14_method_98_code
def yX12_signOf : MethodName := ⟨RX12, "signOf", "(II)I"⟩
abbrev cX12_loudnessOf : ByteArray := prog_14_method_99_code
def yX12_loudnessOf : MethodName := ⟨RX12, "loudnessOf", "(II)J"⟩
abbrev cX12_whyNoRow : ByteArray := prog_14_method_100_code
def yX12_whyNoRow : MethodName := ⟨RX12, "whyNoRow", "(I)I"⟩
abbrev cX12_loudness : ByteArray := prog_14_method_101_code
def yX12_loudness : MethodName := ⟨RX12, "loudness", "(II)I"⟩
abbrev cX12_strongest : ByteArray := prog_14_method_102_code
def yX12_strongest : MethodName := ⟨RX12, "strongest", "(I)I"⟩
abbrev cX12_ratio : ByteArray := prog_14_method_103_code
def yX12_ratio : MethodName := ⟨RX12, "ratio", "(II)I"⟩
abbrev cX12_unratio : ByteArray := prog_14_method_104_code
def yX12_unratio : MethodName := ⟨RX12, "unratio", "()I"⟩
abbrev cX12_doAgree : ByteArray := prog_14_method_105_code
def yX12_doAgree : MethodName := ⟨RX12, "doAgree", "(IIII)Z"⟩
abbrev cX12_allAgree : ByteArray := prog_14_method_106_code
def yX12_allAgree : MethodName := ⟨RX12, "allAgree", "(III)Z"⟩
abbrev cX12_agree : ByteArray := prog_14_method_107_code
def yX12_agree : MethodName := ⟨RX12, "agree", "(IIII)I"⟩
abbrev cX12_copyPieces : ByteArray := prog_14_method_108_code
def yX12_copyPieces : MethodName := ⟨RX12, "copyPieces", "(III)V"⟩
abbrev cX12_copyCorners : ByteArray := prog_14_method_109_code
def yX12_copyCorners : MethodName := ⟨RX12, "copyCorners", "(III)V"⟩
abbrev cX12_join : ByteArray := prog_14_method_110_code
def yX12_join : MethodName := ⟨RX12, "join", "(IIII)I"⟩
abbrev cX12_changesOf : ByteArray := prog_14_method_111_code
def yX12_changesOf : MethodName := ⟨RX12, "changesOf", "(II)I"⟩
abbrev cX12_law : ByteArray := prog_14_method_112_code
def yX12_law : MethodName := ⟨RX12, "law", "(II)I"⟩
abbrev cX12_isBody : ByteArray := prog_14_method_113_code
def yX12_isBody : MethodName := ⟨RX12, "isBody", "(I)Z"⟩
abbrev cX12_isUnder : ByteArray := prog_14_method_114_code
def yX12_isUnder : MethodName := ⟨RX12, "isUnder", "(II)Z"⟩
abbrev cX12_body : ByteArray := prog_14_method_115_code
def yX12_body : MethodName := ⟨RX12, "body", "(I)I"⟩
abbrev cX12_ran : ByteArray := prog_14_method_116_code
def yX12_ran : MethodName := ⟨RX12, "ran", "(I)V"⟩
abbrev cX12_plainStiffens : ByteArray := prog_14_method_117_code
def yX12_plainStiffens : MethodName := ⟨RX12, "plainStiffens", "(II)I"⟩
abbrev cX12_pieceStiffens : ByteArray := prog_14_method_118_code
def yX12_pieceStiffens : MethodName := ⟨RX12, "pieceStiffens", "(II)I"⟩
abbrev cX12_stiffens : ByteArray := prog_14_method_119_code
def yX12_stiffens : MethodName := ⟨RX12, "stiffens", "(II)I"⟩
abbrev cX12_plainWeighs : ByteArray := prog_14_method_120_code
def yX12_plainWeighs : MethodName := ⟨RX12, "plainWeighs", "(II)I"⟩
abbrev cX12_weighs : ByteArray := prog_14_method_121_code
def yX12_weighs : MethodName := ⟨RX12, "weighs", "(II)I"⟩
abbrev cX12_plainSounds : ByteArray := prog_14_method_122_code
def yX12_plainSounds : MethodName := ⟨RX12, "plainSounds", "(II)I"⟩
abbrev cX12_sounds : ByteArray := prog_14_method_123_code
def yX12_sounds : MethodName := ⟨RX12, "sounds", "(II)I"⟩
abbrev cX12_plainTells : ByteArray := prog_14_method_124_code
def yX12_plainTells : MethodName := ⟨RX12, "plainTells", "(II)I"⟩
abbrev cX12_crackedTells : ByteArray := prog_14_method_125_code
def yX12_crackedTells : MethodName := ⟨RX12, "crackedTells", "(II)I"⟩
abbrev cX12_tells : ByteArray := prog_14_method_126_code
def yX12_tells : MethodName := ⟨RX12, "tells", "(II)I"⟩
abbrev cX12_act : ByteArray := prog_14_method_127_code
def yX12_act : MethodName := ⟨RX12, "act", "(III)I"⟩
abbrev cX12_trace : ByteArray := prog_14_method_128_code
def yX12_trace : MethodName := ⟨RX12, "trace", "(I)I"⟩
abbrev cX12_count : ByteArray := prog_14_method_129_code
def yX12_count : MethodName := ⟨RX12, "count", "(I)I"⟩
abbrev cX12_isShelf : ByteArray := prog_14_method_130_code
def yX12_isShelf : MethodName := ⟨RX12, "isShelf", "(I)Z"⟩
abbrev cX12_keep : ByteArray := prog_14_method_131_code
def yX12_keep : MethodName := ⟨RX12, "keep", "(II)I"⟩
abbrev cX12_row : ByteArray := prog_14_method_132_code
def yX12_row : MethodName := ⟨RX12, "row", "(III)I"⟩
abbrev cX12_whyNoPlace : ByteArray := prog_14_method_133_code
def yX12_whyNoPlace : MethodName := ⟨RX12, "whyNoPlace", "(II)I"⟩
abbrev cX12_place : ByteArray := prog_14_method_134_code
def yX12_place : MethodName := ⟨RX12, "place", "(IIJ)I"⟩
abbrev cX12_element : ByteArray := prog_14_method_135_code
def yX12_element : MethodName := ⟨RX12, "element", "(II)J"⟩
abbrev cX12_shift : ByteArray := prog_14_method_136_code
def yX12_shift : MethodName := ⟨RX12, "shift", "(IIIII)I"⟩
abbrev cX12_taken : ByteArray := prog_14_method_137_code
def yX12_taken : MethodName := ⟨RX12, "taken", "(II)I"⟩
def RJ6 : String := "java/lang/Integer"
def TJ6 : u_T := fun k => match k with
  | _ => ("", "", "", false)
def tyJ6 : Nat → FieldType := fun k => match k with
  | _ => .int
abbrev wsJ60 : List Cond := u_ws RJ6 TJ6 0
abbrev cJ6_compare_7cf53 : ByteArray := prog_15_method_40_code
def yJ6_compare_7cf53 : MethodName := ⟨RJ6, "compare", "(II)I"⟩
abbrev cJ6_bitCount_0f7a4 : ByteArray := prog_15_method_49_code
def yJ6_bitCount_0f7a4 : MethodName := ⟨RJ6, "bitCount", "(I)I"⟩
def RJ9 : String := "java/lang/Math"
def TJ9 : u_T := fun k => match k with
  | _ => ("", "", "", false)
def tyJ9 : Nat → FieldType := fun k => match k with
  | _ => .int
abbrev wsJ90 : List Cond := u_ws RJ9 TJ9 0
abbrev cJ9_abs_0f7a4 : ByteArray := prog_16_method_59_code
def yJ9_abs_0f7a4 : MethodName := ⟨RJ9, "abs", "(I)I"⟩
abbrev cJ9_abs_067f4 : ByteArray := prog_16_method_61_code
def yJ9_abs_067f4 : MethodName := ⟨RJ9, "abs", "(J)J"⟩
abbrev cJ9_max_7cf53 : ByteArray := prog_16_method_65_code
def yJ9_max_7cf53 : MethodName := ⟨RJ9, "max", "(II)I"⟩
abbrev cJ9_max_f86c9 : ByteArray := prog_16_method_66_code
def yJ9_max_f86c9 : MethodName := ⟨RJ9, "max", "(JJ)J"⟩
abbrev cJ9_min_7cf53 : ByteArray := prog_16_method_69_code
def yJ9_min_7cf53 : MethodName := ⟨RJ9, "min", "(II)I"⟩
abbrev cJ9_min_f86c9 : ByteArray := prog_16_method_70_code
def yJ9_min_f86c9 : MethodName := ⟨RJ9, "min", "(JJ)J"⟩
def RJ10 : String := "java/lang/System"
def TJ10 : u_T := fun k => match k with
  | _ => ("", "", "", false)
def tyJ10 : Nat → FieldType := fun k => match k with
  | _ => .int
abbrev wsJ100 : List Cond := u_ws RJ10 TJ10 0
def RJ7 : String := "java/util/Arrays"
def TJ7 : u_T := fun k => match k with
  | _ => ("", "", "", false)
def tyJ7 : Nat → FieldType := fun k => match k with
  | _ => .int
abbrev wsJ70 : List Cond := u_ws RJ7 TJ7 0
abbrev cJ7_fill_d0a16 : ByteArray := prog_18_method_101_code
def yJ7_fill_d0a16 : MethodName := ⟨RJ7, "fill", "([JJ)V"⟩
abbrev cJ7_fill_53178 : ByteArray := prog_18_method_103_code
def yJ7_fill_53178 : MethodName := ⟨RJ7, "fill", "([II)V"⟩
def RL : String := "PlatesSingLaw"
abbrev cL_law : ByteArray := code
def yL_law : MethodName := ⟨RL, "law", "([I)Z"⟩
abbrev vwCl : List vw_C := [(RX0, TX0, 11), (RX1, TX1, 6), (RX2, TX2, 7), (RX3, TX3, 12), (RX4, TX4, 5), (RX5, TX5, 13), (RX6, TX6, 4), (RX7, TX7, 13), (RX8, TX8, 4), (RX9, TX9, 3), (RX10, TX10, 6), (RX11, TX11, 14), (RX12, TX12, 94)]
theorem inX0 : ∀ w ∈ wsX00, w ∈ lw_tbl := by decide +kernel
theorem inX1 : ∀ w ∈ wsX10, w ∈ lw_tbl := by decide +kernel
theorem inX2 : ∀ w ∈ wsX20, w ∈ lw_tbl := by decide +kernel
theorem inX3 : ∀ w ∈ wsX30, w ∈ lw_tbl := by decide +kernel
theorem inX4 : ∀ w ∈ wsX40, w ∈ lw_tbl := by decide +kernel
theorem inX5 : ∀ w ∈ wsX50, w ∈ lw_tbl := by decide +kernel
theorem inX6 : ∀ w ∈ wsX60, w ∈ lw_tbl := by decide +kernel
theorem inX7 : ∀ w ∈ wsX70, w ∈ lw_tbl := by decide +kernel
theorem inX8 : ∀ w ∈ wsX80, w ∈ lw_tbl := by decide +kernel
theorem inX9 : ∀ w ∈ wsX90, w ∈ lw_tbl := by decide +kernel
theorem inX10 : ∀ w ∈ wsX100, w ∈ lw_tbl := by decide +kernel
theorem inX11 : ∀ w ∈ wsX110, w ∈ lw_tbl := by decide +kernel
theorem inX12 : ∀ w ∈ wsX120, w ∈ lw_tbl := by decide +kernel
end
section
/-! the mini machine's data: cells in the order in which they are made, methods by number -/
abbrev mx_A : Type := Nat ⊕ (Nat × Nat)
abbrev mx_V : Type := Value ⊕ mx_A
abbrev mx_H : Type := Nat × (mx_A → Nat → Int32) × (mx_A → Nat → Int64) × (mx_A → Nat → Option mx_A)
abbrev mx_Lv : Type := List (Nat × mx_V)
abbrev mx_En : Type := Nat × Instr × Nat × Nat × Nat × Nat × Int32 × Int64
def mx_loT : List (List (Nat × Nat)) := [[(11, 14), (9, 3), (100, 120), (104, 12), (7, 13), (100, 6), (100, 6), (100, 6), (100, 6), (100, 15), (100, 15), (100, 15), (100, 15), (3, 12), (100, 6), (100, 6)], [(100, 6), (100, 36), (101, 7), (100, 6), (101, 36), (101, 7), (101, 6), (101, 6), (3, 12), (100, 6), (100, 6), (100, 6), (100, 36), (101, 7), (100, 6), (101, 36)], [(101, 7), (101, 6), (101, 6), (10, 6), (100, 6), (100, 6), (3, 12), (100, 6), (100, 6), (100, 6), (100, 36), (101, 7), (100, 6), (101, 36), (101, 7), (101, 6)], [(101, 6), (3, 12), (100, 6), (100, 6), (100, 6), (100, 36), (101, 7), (100, 6), (101, 36), (101, 7), (101, 6), (101, 6), (5, 13), (100, 6), (100, 6), (100, 6)], [(100, 6), (100, 6), (100, 6), (100, 6), (1, 6), (100, 6), (100, 600), (0, 11), (100, 4), (100, 4), (100, 800), (100, 6), (100, 6), (100, 6), (100, 6), (100, 6)], [(6, 4), (100, 6), (100, 6), (100, 7), (2, 7), (104, 40), (100, 40), (100, 40), (100, 40), (100, 40), (4, 5), (100, 200), (104, 200), (100, 24), (8, 4), (100, 6)], [(100, 6), (100, 6), (105, 6), (101, 60), (101, 60), (101, 60), (101, 60), (101, 60), (101, 60), (12, 94), (100, 13), (100, 78), (100, 78), (100, 78), (103, 78), (100, 468)], [(100, 468), (100, 468), (100, 12), (100, 12), (100, 200), (100, 200), (102, 120), (100, 15), (100, 15), (103, 6), (103, 6), (100, 40), (100, 40), (100, 40), (100, 40), (100, 40)], [(100, 6), (100, 6), (103, 6), (100, 36), (101, 36), (101, 7), (100, 6), (101, 4096), (100, 4096), (100, 100), (100, 6), (100, 6), (100, 8), (100, 8), (100, 8), (100, 6)], [(100, 6), (100, 6), (100, 8), (100, 6), (100, 600), (100, 4), (100, 4), (100, 6), (100, 6), (100, 6), (100, 800), (100, 6), (100, 6), (100, 6), (100, 6), (100, 6)], [(100, 7), (100, 7), (100, 24), (100, 6), (100, 6), (101, 360), (101, 60)]]
def mx_loS : List (Nat × Nat) := [(7, 13), (100, 6), (100, 6), (100, 6), (100, 6), (100, 15), (100, 15), (100, 15), (100, 15)]
def mx_loN : List (Nat × Nat) := [(3, 12), (100, 6), (100, 6), (100, 6), (100, 36), (101, 7), (100, 6), (101, 36), (101, 7), (101, 6), (101, 6)]
def mx_lo : mx_A → Nat × Nat
  | .inl k => (mx_loT.getD (k / 16) []).getD (k % 16) (999, 0)
  | .inr (_, o) => bif Nat.blt o 9 then mx_loS.getD o (999, 0) else bif Nat.beq o 20 then (101, 60) else mx_loN.getD (o - 30) (999, 0)
def mx_ffT : List (List Nat) := [[0, 2, 0, 2, 2, 2, 2, 0, 2, 2, 2], [0, 2, 0, 0, 0, 2], [0, 0, 2, 2, 2, 2, 2], [0, 2, 2, 2, 2, 2, 2, 0, 2, 2, 2, 2], [0, 2, 2, 0, 2], [0, 0, 2, 2, 2, 0, 2, 2, 2, 2, 0, 0, 0], [0, 2, 2, 2], [0, 2, 2, 2, 2, 0, 0, 2, 2, 2, 2, 0, 0], [2, 2, 2, 2], [2, 0, 0], [0, 0, 2, 2, 2, 2], [2, 2, 0, 2, 2, 2, 2, 2, 2, 2, 2, 2, 2, 2], [0, 0, 2, 2, 2, 2, 2, 2, 2, 2, 2, 2, 0, 2, 2, 2, 0, 0, 0, 0, 2, 2, 2, 2, 0, 0, 2, 2, 2, 2, 2, 2, 2, 2, 2, 0, 2, 0, 2, 2, 2, 2, 0, 2, 2, 2, 0, 0, 0, 1, 0, 0, 0, 2, 2, 2, 0, 2, 2, 2, 2, 0, 0, 0, 0, 0, 2, 0, 0, 0, 2, 0, 2, 2, 0, 2, 2, 2, 2, 0, 2, 2, 2, 0, 2, 2, 2, 2, 0, 2, 2, 2, 2, 2]]
def mx_ff (ci k : Nat) : Nat := (mx_ffT.getD ci []).getD k 0
def mx_fr0 : List (Option mx_A) := [some (.inl 1), some (.inl 3), none, none, some (.inr (0, 30)), some (.inr (1, 30)), some (.inl 35), some (.inl 60), some (.inl 68), some (.inl 71), some (.inl 80), some (.inl 84), some (.inl 90), some (.inl 94)]
def mx_fr1 : List (Option mx_A) := [some (.inl 2), none, none]
def mx_fr35 : List (Option mx_A) := [none, none, some (.inl 36), some (.inl 37), some (.inr (2, 30)), some (.inr (3, 30))]
def mx_fr60 : List (Option mx_A) := [none, none, some (.inl 61), some (.inl 62), some (.inl 63), none, some (.inl 64), some (.inl 65), some (.inl 66), some (.inl 67), none, none, none]
def mx_fr68 : List (Option mx_A) := [none, some (.inl 69), none, none, none, some (.inl 70)]
def mx_fr71 : List (Option mx_A) := [none, some (.inl 72), none, some (.inl 73), some (.inl 74), some (.inl 75), some (.inl 76), none, some (.inl 77), some (.inl 78), some (.inl 79)]
def mx_fr80 : List (Option mx_A) := [none, some (.inl 81), some (.inl 82), some (.inl 83)]
def mx_fr84 : List (Option mx_A) := [none, none, some (.inl 85), some (.inl 86), some (.inl 87), some (.inl 88), some (.inl 89)]
def mx_fr90 : List (Option mx_A) := [none, some (.inl 91), some (.inl 92), none, some (.inl 93)]
def mx_fr94 : List (Option mx_A) := [some (.inl 95), some (.inl 96), some (.inl 97), some (.inl 98)]
def mx_fr105 : List (Option mx_A) := [none, none, some (.inl 106), some (.inl 107), some (.inl 108), some (.inl 109), some (.inl 110), some (.inl 111), some (.inl 112), some (.inl 113), some (.inl 114), some (.inl 115), none, some (.inl 116), some (.inl 117), some (.inl 118), none, none, none, none, some (.inl 119), some (.inl 120), some (.inl 121), some (.inl 122), none, none, some (.inl 123), some (.inl 124), some (.inl 125), some (.inl 126), some (.inl 127), some (.inl 128), some (.inl 129), some (.inl 130), some (.inl 131), none, some (.inl 132), none, some (.inl 133), some (.inl 134), some (.inl 135), some (.inl 136), none, some (.inl 137), some (.inl 138), some (.inl 139), none, none, none, none, none, none, none, some (.inl 140), some (.inl 141), some (.inl 142), none, some (.inl 143), some (.inl 144), some (.inl 145), some (.inl 146), none, none, none, none, none, some (.inl 147), none, none, none, some (.inl 148), none, some (.inl 149), some (.inl 150), none, some (.inl 151), some (.inl 152), some (.inl 153), some (.inl 154), none, some (.inl 155), some (.inl 156), some (.inl 157), none, some (.inl 158), some (.inl 159), some (.inl 160), some (.inl 161), none, some (.inl 162), some (.inl 163), some (.inl 164), some (.inl 165), some (.inl 166)]
def mx_frS : List (Option Nat) := [none, some 1, some 2, some 3, some 4, none, none, some 5, some 6, some 7, some 8, none, none]
def mx_frN : List (Option Nat) := [none, some 31, some 32, some 33, some 34, some 35, some 36, none, some 37, some 38, some 39, some 40]
def mx_frT (k : Nat) : List (Option mx_A) := (bif Nat.blt k 71 then (bif Nat.blt k 35 then (bif Nat.blt k 1 then (bif Nat.beq k 0 then mx_fr0 else []) else (bif Nat.beq k 1 then mx_fr1 else [])) else (bif Nat.blt k 60 then (bif Nat.beq k 35 then mx_fr35 else []) else (bif Nat.blt k 68 then (bif Nat.beq k 60 then mx_fr60 else []) else (bif Nat.beq k 68 then mx_fr68 else [])))) else (bif Nat.blt k 90 then (bif Nat.blt k 80 then (bif Nat.beq k 71 then mx_fr71 else []) else (bif Nat.blt k 84 then (bif Nat.beq k 80 then mx_fr80 else []) else (bif Nat.beq k 84 then mx_fr84 else []))) else (bif Nat.blt k 94 then (bif Nat.beq k 90 then mx_fr90 else []) else (bif Nat.blt k 105 then (bif Nat.beq k 94 then mx_fr94 else []) else (bif Nat.beq k 105 then mx_fr105 else [])))))
def mx_fr : mx_A → Nat → Option mx_A
  | .inl k, f => (mx_frT k).getD f none
  | .inr (j, o), f => bif Nat.beq o 0 then (mx_frS.getD f none).map (fun x => .inr (j, x)) else bif Nat.beq o 30 then (mx_frN.getD f none).map (fun x => .inr (j, x)) else none
abbrev mx_Me : Type := Nat × MethodName × ByteArray × Nat × Option FieldType
def mx_m0 : mx_Me := (17, yL_law, cL_law, 4, (some .boolean))
def mx_m1 : mx_Me := (0, yX0_init, cX0_init, 1, none)
def mx_m2 : mx_Me := (0, yX0_add, cX0_add, 4, none)
def mx_m3 : mx_Me := (0, yX0_begin, cX0_begin, 3, none)
def mx_m4 : mx_Me := (0, yX0_push, cX0_push, 4, none)
def mx_m5 : mx_Me := (0, yX0_run, cX0_run, 7, (some .int))
def mx_m6 : mx_Me := (0, yX0_pull, cX0_pull, 5, none)
def mx_m7 : mx_Me := (0, yX0_wasAnywhere, cX0_wasAnywhere, 2, (some .boolean))
def mx_m8 : mx_Me := (0, yX0_kept, cX0_kept, 3, (some .int))
def mx_m9 : mx_Me := (0, yX0_loudest, cX0_loudest, 4, (some .int))
def mx_m10 : mx_Me := (0, yX0_diesAt, cX0_diesAt, 5, (some .int))
def mx_m11 : mx_Me := (1, yX1_init, cX1_init, 1, none)
def mx_m12 : mx_Me := (1, yX1_add, cX1_add, 2, none)
def mx_m13 : mx_Me := (1, yX1_search, cX1_search, 7, none)
def mx_m14 : mx_Me := (1, yX1_tryNet, cX1_tryNet, 7, none)
def mx_m15 : mx_Me := (1, yX1_bestParting, cX1_bestParting, 7, (some .int))
def mx_m16 : mx_Me := (2, yX2_init, cX2_init, 1, none)
def mx_m17 : mx_Me := (2, yX2_add, cX2_add, 6, none)
def mx_m18 : mx_Me := (2, yX2_dropOldest, cX2_dropOldest, 2, none)
def mx_m19 : mx_Me := (2, yX2_takeBack, cX2_takeBack, 1, none)
def mx_m20 : mx_Me := (2, yX2_bringBack, cX2_bringBack, 1, none)
def mx_m21 : mx_Me := (3, yX3_init, cX3_init, 1, none)
def mx_m22 : mx_Me := (3, yX3_load, cX3_load, 2, none)
def mx_m23 : mx_Me := (3, yX3_loadStiffer, cX3_loadStiffer, 5, none)
def mx_m24 : mx_Me := (3, yX3_oneToNine, cX3_oneToNine, 1, (some .int))
def mx_m25 : mx_Me := (3, yX3_weigh, cX3_weigh, 4, none)
def mx_m26 : mx_Me := (3, yX3_link, cX3_link, 4, none)
def mx_m27 : mx_Me := (3, yX3_linkOf, cX3_linkOf, 3, (some .int))
def mx_m28 : mx_Me := (3, yX3_fillMatrix, cX3_fillMatrix, 8, none)
def mx_m29 : mx_Me := (3, yX3_sumMinors, cX3_sumMinors, 8, none)
def mx_m30 : mx_Me := (3, yX3_fillFactor, cX3_fillFactor, 8, none)
def mx_m31 : mx_Me := (3, yX3_tonesUnder, cX3_tonesUnder, 6, (some .int))
def mx_m32 : mx_Me := (3, yX3_tonesAt, cX3_tonesAt, 5, (some .int))
def mx_m33 : mx_Me := (3, yX3_tone, cX3_tone, 5, (some .int))
def mx_m34 : mx_Me := (3, yX3_soundsLike, cX3_soundsLike, 3, (some .boolean))
def mx_m35 : mx_Me := (3, yX3_divisor, cX3_divisor, 4, (some .long))
def mx_m36 : mx_Me := (4, yX4_init, cX4_init, 1, none)
def mx_m37 : mx_Me := (4, yX4_add, cX4_add, 3, (some .int))
def mx_m38 : mx_Me := (4, yX4_isUnder, cX4_isUnder, 4, (some .boolean))
def mx_m39 : mx_Me := (4, yX4_stiffOf, cX4_stiffOf, 3, (some .int))
def mx_m40 : mx_Me := (4, yX4_run, cX4_run, 11, (some .int))
def mx_m41 : mx_Me := (4, yX4_begin, cX4_begin, 2, none)
def mx_m42 : mx_Me := (5, yX5_init, cX5_init, 1, none)
def mx_m43 : mx_Me := (5, yX5_hasStroke, cX5_hasStroke, 4, (some .boolean))
def mx_m44 : mx_Me := (5, yX5_addStroke, cX5_addStroke, 4, none)
def mx_m45 : mx_Me := (5, yX5_hasWish, cX5_hasWish, 4, (some .boolean))
def mx_m46 : mx_Me := (5, yX5_addWish, cX5_addWish, 4, none)
def mx_m47 : mx_Me := (5, yX5_highestWish, cX5_highestWish, 3, (some .int))
def mx_m48 : mx_Me := (5, yX5_applies, cX5_applies, 7, (some .boolean))
def mx_m49 : mx_Me := (5, yX5_search, cX5_search, 4, none)
def mx_m50 : mx_Me := (5, yX5_extend, cX5_extend, 8, none)
def mx_m51 : mx_Me := (5, yX5_compare, cX5_compare, 7, none)
def mx_m52 : mx_Me := (6, yX6_init, cX6_init, 1, none)
def mx_m53 : mx_Me := (6, yX6_add, cX6_add, 3, none)
def mx_m54 : mx_Me := (6, yX6_fit, cX6_fit, 5, (some .boolean))
def mx_m55 : mx_Me := (6, yX6_agreeing, cX6_agreeing, 5, (some .int))
def mx_m56 : mx_Me := (6, yX6_fewestOut, cX6_fewestOut, 5, (some .int))
def mx_m57 : mx_Me := (6, yX6_allFit, cX6_allFit, 7, (some .boolean))
def mx_m58 : mx_Me := (7, yX7_init, cX7_init, 1, none)
def mx_m59 : mx_Me := (7, yX7_clear, cX7_clear, 1, none)
def mx_m60 : mx_Me := (7, yX7_toneCount, cX7_toneCount, 3, (some .int))
def mx_m61 : mx_Me := (7, yX7_pieceBetween, cX7_pieceBetween, 4, (some .int))
def mx_m62 : mx_Me := (7, yX7_counting, cX7_counting, 2, (some .int))
def mx_m63 : mx_Me := (7, yX7_addPiece, cX7_addPiece, 4, none)
def mx_m64 : mx_Me := (7, yX7_addAllOf, cX7_addAllOf, 4, none)
def mx_m65 : mx_Me := (7, yX7_packed, cX7_packed, 2, (some .int))
def mx_m66 : mx_Me := (7, yX7_get, cX7_get, 3, (some .int))
def mx_m67 : mx_Me := (7, yX7_set, cX7_set, 4, none)
def mx_m68 : mx_Me := (7, yX7_addedTo, cX7_addedTo, 4, (some .int))
def mx_m69 : mx_Me := (8, yX8_init, cX8_init, 1, none)
def mx_m70 : mx_Me := (8, yX8_hold, cX8_hold, 3, none)
def mx_m71 : mx_Me := (8, yX8_holdRow, cX8_holdRow, 4, none)
def mx_m72 : mx_Me := (8, yX8_refusesRow, cX8_refusesRow, 2, (some .int))
def mx_m73 : mx_Me := (8, yX8_refusesNumbers, cX8_refusesNumbers, 2, (some .int))
def mx_m74 : mx_Me := (8, yX8_hasPlace, cX8_hasPlace, 3, (some .boolean))
def mx_m75 : mx_Me := (8, yX8_hasSpan, cX8_hasSpan, 4, (some .boolean))
def mx_m76 : mx_Me := (8, yX8_set, cX8_set, 5, none)
def mx_m77 : mx_Me := (8, yX8_cut, cX8_cut, 3, (some .long))
def mx_m78 : mx_Me := (8, yX8_greatest, cX8_greatest, 1, (some .long))
def mx_m79 : mx_Me := (8, yX8_setHeard, cX8_setHeard, 6, none)
def mx_m80 : mx_Me := (8, yX8_present, cX8_present, 5, (some .long))
def mx_m81 : mx_Me := (8, yX8_loudnessOf, cX8_loudnessOf, 8, (some .long))
def mx_m82 : mx_Me := (8, yX8_wave, cX8_wave, 2, (some .int))
def mx_m83 : mx_Me := (8, yX8_strongestPeriod, cX8_strongestPeriod, 8, (some .int))
def mx_m84 : mx_Me := (9, yX9_init, cX9_init, 1, none)
def mx_m85 : mx_Me := (9, yX9_add, cX9_add, 4, none)
def mx_m86 : mx_Me := (9, yX9_read, cX9_read, 4, (some .int))
def mx_m87 : mx_Me := (9, yX9_readCorners, cX9_readCorners, 3, (some .boolean))
def mx_m88 : mx_Me := (9, yX9_readPart, cX9_readPart, 3, (some .boolean))
def mx_m89 : mx_Me := (9, yX9_readPiece, cX9_readPiece, 4, (some .boolean))
def mx_m90 : mx_Me := (9, yX9_readHold, cX9_readHold, 3, (some .boolean))
def mx_m91 : mx_Me := (9, yX9_readNumber, cX9_readNumber, 4, (some .boolean))
def mx_m92 : mx_Me := (9, yX9_peek, cX9_peek, 1, (some .int))
def mx_m93 : mx_Me := (9, yX9_digit, cX9_digit, 2, (some .int))
def mx_m94 : mx_Me := (9, yX9_corner, cX9_corner, 3, (some .int))
def mx_m95 : mx_Me := (10, yX10_init, cX10_init, 1, none)
def mx_m96 : mx_Me := (10, yX10_seek, cX10_seek, 3, none)
def mx_m97 : mx_Me := (10, yX10_extend, cX10_extend, 5, none)
def mx_m98 : mx_Me := (10, yX10_isLike, cX10_isLike, 4, (some .boolean))
def mx_m99 : mx_Me := (10, yX10_keepsPieces, cX10_keepsPieces, 4, (some .boolean))
def mx_m100 : mx_Me := (10, yX10_noteFound, cX10_noteFound, 4, none)
def mx_m101 : mx_Me := (11, yX11_init, cX11_init, 1, none)
def mx_m102 : mx_Me := (11, yX11_feed, cX11_feed, 3, (some .int))
def mx_m103 : mx_Me := (11, yX11_shape, cX11_shape, 2, (some .int))
def mx_m104 : mx_Me := (11, yX11_of, cX11_of, 4, (some .int))
def mx_m105 : mx_Me := (11, yX11_piece, cX11_piece, 7, (some .int))
def mx_m106 : mx_Me := (11, yX11_put, cX11_put, 6, (some .int))
def mx_m107 : mx_Me := (11, yX11_crack, cX11_crack, 7, (some .int))
def mx_m108 : mx_Me := (11, yX11_stroke, cX11_stroke, 7, (some .int))
def mx_m109 : mx_Me := (11, yX11_below, cX11_below, 5, (some .int))
def mx_m110 : mx_Me := (11, yX11_sums, cX11_sums, 5, (some .long))
def mx_m111 : mx_Me := (11, yX11_shut, cX11_shut, 5, (some .int))
def mx_m112 : mx_Me := (11, yX11_still, cX11_still, 6, (some .int))
def mx_m113 : mx_Me := (11, yX11_split, cX11_split, 10, (some .int))
def mx_m114 : mx_Me := (11, yX11_bounds, cX11_bounds, 7, (some .int))
def mx_m115 : mx_Me := (11, yX11_led, cX11_led, 11, (some .int))
def mx_m116 : mx_Me := (11, yX11_turnsOf, cX11_turnsOf, 3, (some .int))
def mx_m117 : mx_Me := (11, yX11_orbit, cX11_orbit, 4, (some .int))
def mx_m118 : mx_Me := (11, yX11_table, cX11_table, 5, (some .int))
def mx_m119 : mx_Me := (11, yX11_alike, cX11_alike, 6, (some .int))
def mx_m120 : mx_Me := (11, yX11_plan, cX11_plan, 8, (some .int))
def mx_m121 : mx_Me := (11, yX11_wish, cX11_wish, 5, (some .int))
def mx_m122 : mx_Me := (11, yX11_moved, cX11_moved, 5, (some .int))
def mx_m123 : mx_Me := (11, yX11_tune, cX11_tune, 3, (some .int))
def mx_m124 : mx_Me := (11, yX11_forget, cX11_forget, 2, (some .int))
def mx_m125 : mx_Me := (11, yX11_hear, cX11_hear, 2, (some .int))
def mx_m126 : mx_Me := (11, yX11_fits, cX11_fits, 5, (some .int))
def mx_m127 : mx_Me := (11, yX11_next, cX11_next, 4, (some .int))
def mx_m128 : mx_Me := (11, yX11_unhear, cX11_unhear, 2, (some .int))
def mx_m129 : mx_Me := (11, yX11_damp, cX11_damp, 3, (some .int))
def mx_m130 : mx_Me := (11, yX11_ear, cX11_ear, 4, (some .int))
def mx_m131 : mx_Me := (11, yX11_blow, cX11_blow, 6, (some .int))
def mx_m132 : mx_Me := (11, yX11_roll, cX11_roll, 4, (some .int))
def mx_m133 : mx_Me := (11, yX11_rolled, cX11_rolled, 5, (some .int))
def mx_m134 : mx_Me := (11, yX11_heard, cX11_heard, 3, (some .int))
def mx_m135 : mx_Me := (11, yX11_loud, cX11_loud, 3, (some .int))
def mx_m136 : mx_Me := (11, yX11_write, cX11_write, 8, (some .int))
def mx_m137 : mx_Me := (11, yX11_loudness, cX11_loudness, 4, (some .int))
def mx_m138 : mx_Me := (11, yX11_strongest, cX11_strongest, 3, (some .int))
def mx_m139 : mx_Me := (11, yX11_ratio, cX11_ratio, 3, (some .int))
def mx_m140 : mx_Me := (11, yX11_agree, cX11_agree, 7, (some .int))
def mx_m141 : mx_Me := (11, yX11_unratio, cX11_unratio, 2, (some .int))
def mx_m142 : mx_Me := (11, yX11_join, cX11_join, 7, (some .int))
def mx_m143 : mx_Me := (11, yX11_law, cX11_law, 7, (some .int))
def mx_m144 : mx_Me := (11, yX11_undo, cX11_undo, 1, (some .int))
def mx_m145 : mx_Me := (11, yX11_redo, cX11_redo, 1, (some .int))
def mx_m146 : mx_Me := (11, yX11_digest, cX11_digest, 4, (some .int))
def mx_m147 : mx_Me := (11, yX11_body, cX11_body, 2, (some .int))
def mx_m148 : mx_Me := (11, yX11_act, cX11_act, 4, (some .int))
def mx_m149 : mx_Me := (11, yX11_trace, cX11_trace, 2, (some .int))
def mx_m150 : mx_Me := (11, yX11_keep, cX11_keep, 3, (some .int))
def mx_m151 : mx_Me := (11, yX11_row, cX11_row, 4, (some .int))
def mx_m152 : mx_Me := (11, yX11_place, cX11_place, 6, (some .int))
def mx_m153 : mx_Me := (11, yX11_element, cX11_element, 3, (some .long))
def mx_m154 : mx_Me := (11, yX11_shift, cX11_shift, 7, (some .int))
def mx_m155 : mx_Me := (11, yX11_taken, cX11_taken, 5, (some .int))
def mx_m156 : mx_Me := (11, yX11_count, cX11_count, 2, (some .int))
def mx_m157 : mx_Me := (11, yX11_within, cX11_within, 3, (some .boolean))
def mx_m158 : mx_Me := (11, yX11_isMark, cX11_isMark, 1, (some .boolean))
def mx_m159 : mx_Me := (11, yX11_isForce, cX11_isForce, 1, (some .boolean))
def mx_m160 : mx_Me := (11, yX11_isEar, cX11_isEar, 1, (some .boolean))
def mx_m161 : mx_Me := (11, yX11_isShelf, cX11_isShelf, 1, (some .boolean))
def mx_m162 : mx_Me := (11, yX11_isKind, cX11_isKind, 1, (some .boolean))
def mx_m163 : mx_Me := (11, yX11_isBody, cX11_isBody, 2, (some .boolean))
def mx_m164 : mx_Me := (11, yX11_isCorner, cX11_isCorner, 2, (some .boolean))
def mx_m165 : mx_Me := (11, yX11_isTone, cX11_isTone, 3, (some .boolean))
def mx_m166 : mx_Me := (11, yX11_shapeAt, cX11_shapeAt, 2, (some (.object "PlatesSing$Shape")))
def mx_m167 : mx_Me := (11, yX11_planned, cX11_planned, 1, (some (.object "PlatesSing$Shape")))
def mx_m168 : mx_Me := (11, yX11_isFullFor, cX11_isFullFor, 2, (some .boolean))
def mx_m169 : mx_Me := (11, yX11_addDraft, cX11_addDraft, 2, (some .int))
def mx_m170 : mx_Me := (11, yX11_change, cX11_change, 6, (some .int))
def mx_m171 : mx_Me := (11, yX11_under, cX11_under, 3, (some .int))
def mx_m172 : mx_Me := (12, yX12_init, cX12_init, 1, none)
def mx_m173 : mx_Me := (12, yX12_in, cX12_in, 3, (some .boolean))
def mx_m174 : mx_Me := (12, yX12_lesser, cX12_lesser, 2, (some .int))
def mx_m175 : mx_Me := (12, yX12_greater, cX12_greater, 2, (some .int))
def mx_m176 : mx_Me := (12, yX12_sizeOf, cX12_sizeOf, 1, (some .int))
def mx_m177 : mx_Me := (12, yX12_isShape, cX12_isShape, 2, (some .boolean))
def mx_m178 : mx_Me := (12, yX12_isCorner, cX12_isCorner, 3, (some .boolean))
def mx_m179 : mx_Me := (12, yX12_at, cX12_at, 3, (some .int))
def mx_m180 : mx_Me := (12, yX12_hasPiece, cX12_hasPiece, 4, (some .boolean))
def mx_m181 : mx_Me := (12, yX12_setPiece, cX12_setPiece, 9, none)
def mx_m182 : mx_Me := (12, yX12_clear, cX12_clear, 3, none)
def mx_m183 : mx_Me := (12, yX12_piecesOf, cX12_piecesOf, 5, (some .int))
def mx_m184 : mx_Me := (12, yX12_feed, cX12_feed, 4, (some .int))
def mx_m185 : mx_Me := (12, yX12_look, cX12_look, 1, (some .int))
def mx_m186 : mx_Me := (12, yX12_wrong, cX12_wrong, 1, none)
def mx_m187 : mx_Me := (12, yX12_isDigit, cX12_isDigit, 1, (some .boolean))
def mx_m188 : mx_Me := (12, yX12_digit, cX12_digit, 2, (some .int))
def mx_m189 : mx_Me := (12, yX12_letter, cX12_letter, 2, (some .int))
def mx_m190 : mx_Me := (12, yX12_readPiece, cX12_readPiece, 4, none)
def mx_m191 : mx_Me := (12, yX12_readPart, cX12_readPart, 6, none)
def mx_m192 : mx_Me := (12, yX12_readShape, cX12_readShape, 2, none)
def mx_m193 : mx_Me := (12, yX12_bear, cX12_bear, 4, none)
def mx_m194 : mx_Me := (12, yX12_shape, cX12_shape, 2, (some .int))
def mx_m195 : mx_Me := (12, yX12_tonesOf, cX12_tonesOf, 4, (some .int))
def mx_m196 : mx_Me := (12, yX12_of, cX12_of, 4, (some .int))
def mx_m197 : mx_Me := (12, yX12_piece, cX12_piece, 6, (some .int))
def mx_m198 : mx_Me := (12, yX12_kept, cX12_kept, 7, none)
def mx_m199 : mx_Me := (12, yX12_setStiff, cX12_setStiff, 7, none)
def mx_m200 : mx_Me := (12, yX12_set, cX12_set, 5, none)
def mx_m201 : mx_Me := (12, yX12_put, cX12_put, 7, (some .int))
def mx_m202 : mx_Me := (12, yX12_crack, cX12_crack, 7, (some .int))
def mx_m203 : mx_Me := (12, yX12_stroke, cX12_stroke, 5, (some .int))
def mx_m204 : mx_Me := (12, yX12_undo, cX12_undo, 1, (some .int))
def mx_m205 : mx_Me := (12, yX12_redo, cX12_redo, 1, (some .int))
def mx_m206 : mx_Me := (12, yX12_digest, cX12_digest, 5, (some .int))
def mx_m207 : mx_Me := (12, yX12_massOf, cX12_massOf, 2, (some .int))
def mx_m208 : mx_Me := (12, yX12_take, cX12_take, 4, none)
def mx_m209 : mx_Me := (12, yX12_layMatrix, cX12_layMatrix, 7, none)
def mx_m210 : mx_Me := (12, yX12_minor, cX12_minor, 11, (some .long))
def mx_m211 : mx_Me := (12, yX12_bitsOf, cX12_bitsOf, 3, (some .int))
def mx_m212 : mx_Me := (12, yX12_findSums, cX12_findSums, 4, none)
def mx_m213 : mx_Me := (12, yX12_changes, cX12_changes, 6, (some .int))
def mx_m214 : mx_Me := (12, yX12_atMark, cX12_atMark, 5, (some .int))
def mx_m215 : mx_Me := (12, yX12_isMark, cX12_isMark, 1, (some .boolean))
def mx_m216 : mx_Me := (12, yX12_below, cX12_below, 4, (some .int))
def mx_m217 : mx_Me := (12, yX12_sums, cX12_sums, 4, (some .long))
def mx_m218 : mx_Me := (12, yX12_forgetChanges, cX12_forgetChanges, 2, none)
def mx_m219 : mx_Me := (12, yX12_shutOf, cX12_shutOf, 6, (some .int))
def mx_m220 : mx_Me := (12, yX12_shutNow, cX12_shutNow, 3, (some .int))
def mx_m221 : mx_Me := (12, yX12_shut, cX12_shut, 4, (some .int))
def mx_m222 : mx_Me := (12, yX12_still, cX12_still, 5, (some .int))
def mx_m223 : mx_Me := (12, yX12_split, cX12_split, 9, (some .int))
def mx_m224 : mx_Me := (12, yX12_bounds, cX12_bounds, 10, (some .int))
def mx_m225 : mx_Me := (12, yX12_setCount, cX12_setCount, 4, none)
def mx_m226 : mx_Me := (12, yX12_led, cX12_led, 14, (some .int))
def mx_m227 : mx_Me := (12, yX12_areLike, cX12_areLike, 7, (some .boolean))
def mx_m228 : mx_Me := (12, yX12_countBetween, cX12_countBetween, 4, (some .int))
def mx_m229 : mx_Me := (12, yX12_turnOn, cX12_turnOn, 8, none)
def mx_m230 : mx_Me := (12, yX12_findTurns, cX12_findTurns, 4, none)
def mx_m231 : mx_Me := (12, yX12_turnsOf, cX12_turnsOf, 2, (some .int))
def mx_m232 : mx_Me := (12, yX12_orbit, cX12_orbit, 3, (some .int))
def mx_m233 : mx_Me := (12, yX12_tableOf, cX12_tableOf, 3, (some .int))
def mx_m234 : mx_Me := (12, yX12_table, cX12_table, 3, (some .int))
def mx_m235 : mx_Me := (12, yX12_divisor, cX12_divisor, 5, (some .long))
def mx_m236 : mx_Me := (12, yX12_lastSum, cX12_lastSum, 3, (some .long))
def mx_m237 : mx_Me := (12, yX12_soundAlike, cX12_soundAlike, 4, (some .boolean))
def mx_m238 : mx_Me := (12, yX12_alike, cX12_alike, 4, (some .int))
def mx_m239 : mx_Me := (12, yX12_plan, cX12_plan, 6, (some .int))
def mx_m240 : mx_Me := (12, yX12_wish, cX12_wish, 5, (some .int))
def mx_m241 : mx_Me := (12, yX12_struck, cX12_struck, 7, (some .boolean))
def mx_m242 : mx_Me := (12, yX12_moved, cX12_moved, 4, (some .int))
def mx_m243 : mx_Me := (12, yX12_lacks, cX12_lacks, 4, (some .int))
def mx_m244 : mx_Me := (12, yX12_digitsOf, cX12_digitsOf, 4, (some .int))
def mx_m245 : mx_Me := (12, yX12_tuneOn, cX12_tuneOn, 4, none)
def mx_m246 : mx_Me := (12, yX12_tune, cX12_tune, 3, (some .int))
def mx_m247 : mx_Me := (12, yX12_forget, cX12_forget, 2, (some .int))
def mx_m248 : mx_Me := (12, yX12_hear, cX12_hear, 2, (some .int))
def mx_m249 : mx_Me := (12, yX12_unhear, cX12_unhear, 2, (some .int))
def mx_m250 : mx_Me := (12, yX12_tryFit, cX12_tryFit, 6, none)
def mx_m251 : mx_Me := (12, yX12_findFits, cX12_findFits, 6, none)
def mx_m252 : mx_Me := (12, yX12_fits, cX12_fits, 4, (some .int))
def mx_m253 : mx_Me := (12, yX12_next, cX12_next, 8, (some .int))
def mx_m254 : mx_Me := (12, yX12_damp, cX12_damp, 3, (some .int))
def mx_m255 : mx_Me := (12, yX12_isEar, cX12_isEar, 1, (some .boolean))
def mx_m256 : mx_Me := (12, yX12_ear, cX12_ear, 4, (some .int))
def mx_m257 : mx_Me := (12, yX12_begin, cX12_begin, 3, none)
def mx_m258 : mx_Me := (12, yX12_step, cX12_step, 4, (some .int))
def mx_m259 : mx_Me := (12, yX12_blow, cX12_blow, 7, (some .int))
def mx_m260 : mx_Me := (12, yX12_roll, cX12_roll, 4, (some .int))
def mx_m261 : mx_Me := (12, yX12_rolled, cX12_rolled, 6, (some .int))
def mx_m262 : mx_Me := (12, yX12_heard, cX12_heard, 3, (some .int))
def mx_m263 : mx_Me := (12, yX12_loud, cX12_loud, 5, (some .int))
def mx_m264 : mx_Me := (12, yX12_isWhole, cX12_isWhole, 2, (some .boolean))
def mx_m265 : mx_Me := (12, yX12_mostOf, cX12_mostOf, 1, (some .int))
def mx_m266 : mx_Me := (12, yX12_write, cX12_write, 8, (some .int))
def mx_m267 : mx_Me := (12, yX12_heardIn, cX12_heardIn, 5, (some .long))
def mx_m268 : mx_Me := (12, yX12_signOf, cX12_signOf, 3, (some .int))
def mx_m269 : mx_Me := (12, yX12_loudnessOf, cX12_loudnessOf, 8, (some .long))
def mx_m270 : mx_Me := (12, yX12_whyNoRow, cX12_whyNoRow, 2, (some .int))
def mx_m271 : mx_Me := (12, yX12_loudness, cX12_loudness, 5, (some .int))
def mx_m272 : mx_Me := (12, yX12_strongest, cX12_strongest, 8, (some .int))
def mx_m273 : mx_Me := (12, yX12_ratio, cX12_ratio, 3, (some .int))
def mx_m274 : mx_Me := (12, yX12_unratio, cX12_unratio, 2, (some .int))
def mx_m275 : mx_Me := (12, yX12_doAgree, cX12_doAgree, 5, (some .boolean))
def mx_m276 : mx_Me := (12, yX12_allAgree, cX12_allAgree, 7, (some .boolean))
def mx_m277 : mx_Me := (12, yX12_agree, cX12_agree, 8, (some .int))
def mx_m278 : mx_Me := (12, yX12_copyPieces, cX12_copyPieces, 9, none)
def mx_m279 : mx_Me := (12, yX12_copyCorners, cX12_copyCorners, 7, none)
def mx_m280 : mx_Me := (12, yX12_join, cX12_join, 6, (some .int))
def mx_m281 : mx_Me := (12, yX12_changesOf, cX12_changesOf, 3, (some .int))
def mx_m282 : mx_Me := (12, yX12_law, cX12_law, 5, (some .int))
def mx_m283 : mx_Me := (12, yX12_isBody, cX12_isBody, 2, (some .boolean))
def mx_m284 : mx_Me := (12, yX12_isUnder, cX12_isUnder, 2, (some .boolean))
def mx_m285 : mx_Me := (12, yX12_body, cX12_body, 2, (some .int))
def mx_m286 : mx_Me := (12, yX12_ran, cX12_ran, 2, none)
def mx_m287 : mx_Me := (12, yX12_plainStiffens, cX12_plainStiffens, 3, (some .int))
def mx_m288 : mx_Me := (12, yX12_pieceStiffens, cX12_pieceStiffens, 3, (some .int))
def mx_m289 : mx_Me := (12, yX12_stiffens, cX12_stiffens, 3, (some .int))
def mx_m290 : mx_Me := (12, yX12_plainWeighs, cX12_plainWeighs, 3, (some .int))
def mx_m291 : mx_Me := (12, yX12_weighs, cX12_weighs, 4, (some .int))
def mx_m292 : mx_Me := (12, yX12_plainSounds, cX12_plainSounds, 3, (some .int))
def mx_m293 : mx_Me := (12, yX12_sounds, cX12_sounds, 4, (some .int))
def mx_m294 : mx_Me := (12, yX12_plainTells, cX12_plainTells, 4, (some .int))
def mx_m295 : mx_Me := (12, yX12_crackedTells, cX12_crackedTells, 3, (some .int))
def mx_m296 : mx_Me := (12, yX12_tells, cX12_tells, 3, (some .int))
def mx_m297 : mx_Me := (12, yX12_act, cX12_act, 4, (some .int))
def mx_m298 : mx_Me := (12, yX12_trace, cX12_trace, 2, (some .int))
def mx_m299 : mx_Me := (12, yX12_count, cX12_count, 2, (some .int))
def mx_m300 : mx_Me := (12, yX12_isShelf, cX12_isShelf, 1, (some .boolean))
def mx_m301 : mx_Me := (12, yX12_keep, cX12_keep, 3, (some .int))
def mx_m302 : mx_Me := (12, yX12_row, cX12_row, 5, (some .int))
def mx_m303 : mx_Me := (12, yX12_whyNoPlace, cX12_whyNoPlace, 3, (some .int))
def mx_m304 : mx_Me := (12, yX12_place, cX12_place, 7, (some .int))
def mx_m305 : mx_Me := (12, yX12_element, cX12_element, 3, (some .long))
def mx_m306 : mx_Me := (12, yX12_shift, cX12_shift, 7, (some .int))
def mx_m307 : mx_Me := (12, yX12_taken, cX12_taken, 3, (some .int))
def mx_m308 : mx_Me := (13, yJ6_compare_7cf53, cJ6_compare_7cf53, 2, (some .int))
def mx_m309 : mx_Me := (13, yJ6_bitCount_0f7a4, cJ6_bitCount_0f7a4, 1, (some .int))
def mx_m310 : mx_Me := (14, yJ9_abs_0f7a4, cJ9_abs_0f7a4, 1, (some .int))
def mx_m311 : mx_Me := (14, yJ9_abs_067f4, cJ9_abs_067f4, 2, (some .long))
def mx_m312 : mx_Me := (14, yJ9_max_7cf53, cJ9_max_7cf53, 2, (some .int))
def mx_m313 : mx_Me := (14, yJ9_max_f86c9, cJ9_max_f86c9, 4, (some .long))
def mx_m314 : mx_Me := (14, yJ9_min_7cf53, cJ9_min_7cf53, 2, (some .int))
def mx_m315 : mx_Me := (14, yJ9_min_f86c9, cJ9_min_f86c9, 4, (some .long))
def mx_m316 : mx_Me := (16, yJ7_fill_d0a16, cJ7_fill_d0a16, 5, none)
def mx_m317 : mx_Me := (16, yJ7_fill_53178, cJ7_fill_53178, 4, none)
def mx_meT : List (List mx_Me) := [[mx_m0, mx_m1, mx_m2, mx_m3, mx_m4, mx_m5, mx_m6, mx_m7, mx_m8, mx_m9, mx_m10, mx_m11, mx_m12, mx_m13, mx_m14, mx_m15], [mx_m16, mx_m17, mx_m18, mx_m19, mx_m20, mx_m21, mx_m22, mx_m23, mx_m24, mx_m25, mx_m26, mx_m27, mx_m28, mx_m29, mx_m30, mx_m31], [mx_m32, mx_m33, mx_m34, mx_m35, mx_m36, mx_m37, mx_m38, mx_m39, mx_m40, mx_m41, mx_m42, mx_m43, mx_m44, mx_m45, mx_m46, mx_m47], [mx_m48, mx_m49, mx_m50, mx_m51, mx_m52, mx_m53, mx_m54, mx_m55, mx_m56, mx_m57, mx_m58, mx_m59, mx_m60, mx_m61, mx_m62, mx_m63], [mx_m64, mx_m65, mx_m66, mx_m67, mx_m68, mx_m69, mx_m70, mx_m71, mx_m72, mx_m73, mx_m74, mx_m75, mx_m76, mx_m77, mx_m78, mx_m79], [mx_m80, mx_m81, mx_m82, mx_m83, mx_m84, mx_m85, mx_m86, mx_m87, mx_m88, mx_m89, mx_m90, mx_m91, mx_m92, mx_m93, mx_m94, mx_m95], [mx_m96, mx_m97, mx_m98, mx_m99, mx_m100, mx_m101, mx_m102, mx_m103, mx_m104, mx_m105, mx_m106, mx_m107, mx_m108, mx_m109, mx_m110, mx_m111], [mx_m112, mx_m113, mx_m114, mx_m115, mx_m116, mx_m117, mx_m118, mx_m119, mx_m120, mx_m121, mx_m122, mx_m123, mx_m124, mx_m125, mx_m126, mx_m127], [mx_m128, mx_m129, mx_m130, mx_m131, mx_m132, mx_m133, mx_m134, mx_m135, mx_m136, mx_m137, mx_m138, mx_m139, mx_m140, mx_m141, mx_m142, mx_m143], [mx_m144, mx_m145, mx_m146, mx_m147, mx_m148, mx_m149, mx_m150, mx_m151, mx_m152, mx_m153, mx_m154, mx_m155, mx_m156, mx_m157, mx_m158, mx_m159], [mx_m160, mx_m161, mx_m162, mx_m163, mx_m164, mx_m165, mx_m166, mx_m167, mx_m168, mx_m169, mx_m170, mx_m171, mx_m172, mx_m173, mx_m174, mx_m175], [mx_m176, mx_m177, mx_m178, mx_m179, mx_m180, mx_m181, mx_m182, mx_m183, mx_m184, mx_m185, mx_m186, mx_m187, mx_m188, mx_m189, mx_m190, mx_m191], [mx_m192, mx_m193, mx_m194, mx_m195, mx_m196, mx_m197, mx_m198, mx_m199, mx_m200, mx_m201, mx_m202, mx_m203, mx_m204, mx_m205, mx_m206, mx_m207], [mx_m208, mx_m209, mx_m210, mx_m211, mx_m212, mx_m213, mx_m214, mx_m215, mx_m216, mx_m217, mx_m218, mx_m219, mx_m220, mx_m221, mx_m222, mx_m223], [mx_m224, mx_m225, mx_m226, mx_m227, mx_m228, mx_m229, mx_m230, mx_m231, mx_m232, mx_m233, mx_m234, mx_m235, mx_m236, mx_m237, mx_m238, mx_m239], [mx_m240, mx_m241, mx_m242, mx_m243, mx_m244, mx_m245, mx_m246, mx_m247, mx_m248, mx_m249, mx_m250, mx_m251, mx_m252, mx_m253, mx_m254, mx_m255], [mx_m256, mx_m257, mx_m258, mx_m259, mx_m260, mx_m261, mx_m262, mx_m263, mx_m264, mx_m265, mx_m266, mx_m267, mx_m268, mx_m269, mx_m270, mx_m271], [mx_m272, mx_m273, mx_m274, mx_m275, mx_m276, mx_m277, mx_m278, mx_m279, mx_m280, mx_m281, mx_m282, mx_m283, mx_m284, mx_m285, mx_m286, mx_m287], [mx_m288, mx_m289, mx_m290, mx_m291, mx_m292, mx_m293, mx_m294, mx_m295, mx_m296, mx_m297, mx_m298, mx_m299, mx_m300, mx_m301, mx_m302, mx_m303], [mx_m304, mx_m305, mx_m306, mx_m307, mx_m308, mx_m309, mx_m310, mx_m311, mx_m312, mx_m313, mx_m314, mx_m315, mx_m316, mx_m317]]
def mx_me (i : Nat) : mx_Me := (mx_meT.getD (i / 16) []).getD (i % 16) mx_m0
def mx_cnT : List String := [RX0, RX1, RX2, RX3, RX4, RX5, RX6, RX7, RX8, RX9, RX10, RX11, RX12, RJ6, RJ9, RJ10, RJ7, RL]
def mx_cn (i : Nat) : String := mx_cnT.getD i RL
/-- cells and slots that a call of the method makes at most: only the constructors, shape, join and addDraft make any -/
def mx_buT : List (Nat × Nat × Nat) := [(1, 8, 838), (11, 2, 606), (16, 5, 200), (21, 10, 122), (36, 3, 424), (42, 7, 42), (52, 3, 19), (58, 8, 84), (69, 10, 384), (84, 1, 120), (95, 24, 280), (101, 104, 3349), (103, 9, 97), (142, 9, 97), (169, 9, 97), (172, 61, 12904)]
def mx_bu (i : Nat) : Nat × Nat := ((mx_buT.find? (fun q => Nat.beq q.1 i)).map (fun q => q.2)).getD (0, 0)
end
section
/-! ===== words, and the check of code tables ===== -/
def mx_ws : List Cond := lw_tbl.filter goodWord
def mx_nest : List Cond := tables_1.filter (fun w => match w with | .methodLinkNest _ _ _ _ => true | _ => false)
abbrev mx_ow (i : Nat) : String := mx_cn (mx_me i).1
abbrev mx_y (i : Nat) : MethodName := (mx_me i).2.1
abbrev mx_by (i : Nat) : ByteArray := (mx_me i).2.2.1
abbrev mx_nL (i : Nat) : Nat := (mx_me i).2.2.2.1
abbrev mx_rt (i : Nat) : Option FieldType := (mx_me i).2.2.2.2
def mx_cr (ci : Nat) : vw_C := vwCl.getD ci (RX0, TX0, 11)
def mx_ty (ci : Nat) : Nat → FieldType := [tyX0, tyX1, tyX2, tyX3, tyX4, tyX5, tyX6, tyX7, tyX8, tyX9, tyX10, tyX11, tyX12].getD ci tyX0
abbrev mx_fT (ci k : Nat) : String × String × String × Bool := (mx_cr ci).2.1 k
/-- the field's kind, by its type -/
def mx_fok (ci k : Nat) : Prop := (mx_ff ci k = 0 ∧ mx_ty ci k = .int) ∨ (mx_ff ci k = 1 ∧ mx_ty ci k = .boolean) ∨ (mx_ff ci k = 2 ∧ (∃ n, mx_ty ci k = .object n) ∨ (mx_ff ci k = 2 ∧ ∃ t, mx_ty ci k = .array t))
def mx_MK (mid : Nat) : Prop := plainName (mx_y mid).cls = true ∧ (mx_y mid).cls = mx_ow mid ∧ Cond.code (mx_y mid) (mx_by mid) (mx_nL mid) (mx_rt mid) ∈ mx_ws ∧ Cond.initialized (mx_y mid).cls ∈ mx_ws ∧
  ((mx_y mid).cls ≠ "java/lang/invoke/MethodHandle" ∧ (mx_y mid).cls ≠ "java/lang/invoke/VarHandle") ∧ mx_nL mid ≤ 21
/-- a call's own words: by opcode (0 static, 1 virtual, 2 special), and as a nest mate's or not -/
def mx_LK (mid idx callee n kd : Nat) (nest : Bool) : Prop :=
  (parseMethodDescriptor (mx_y callee).desc).map (fun d => d.parameters.length) = some n ∧
  (if nest then ∃ host, Cond.methodLinkNest (mx_ow mid) idx (mx_y callee) host ∈ mx_nest else Cond.methodLink (mx_ow mid) idx (mx_y callee) ∈ mx_ws) ∧
  (if kd = 0 then Cond.static (mx_y callee) ∈ mx_ws else if kd = 1 then Cond.instanceMethod (mx_y callee) ∈ mx_ws ∧ Cond.selects (mx_y callee).cls (mx_y callee) (mx_y callee) ∈ mx_ws else Cond.instanceMethod (mx_y callee) ∈ mx_ws ∧ (mx_y callee).name = "<init>" ∧ mx_rt callee = none)
/-- the array kinds that newarray makes -/
def mx_ak : ArrayType → Nat
  | .int => 0
  | .long => 1
  | .byte => 2
  | .boolean => 3
  | _ => 9
/-- the words of a Math method -/
def mx_MW (o i : Nat) (x : MethodName) (c : ByteArray) (n : Nat) (r : Option FieldType) : Prop := Cond.methodLink (mx_cn o) i x ∈ mx_ws ∧ Cond.static x ∈ mx_ws ∧ Cond.initialized "java/lang/Math" ∈ mx_ws ∧ Cond.code x c n r ∈ mx_ws
def mx_mw (o i a : Nat) : Prop := match a with
  | 0 => mx_MW o i Lib.Math.abs.name Lib.Math.abs.code 1 (some .int)
  | 1 => mx_MW o i Lib.MathLoose.abs_long.x Lib.MathLoose.abs_long.code 2 (some .long)
  | 2 => mx_MW o i Lib.Math.max.name Lib.Math.max.code 2 (some .int)
  | 3 => mx_MW o i Lib.MathLoose.max_long.x Lib.MathLoose.max_long.code 4 (some .long)
  | 4 => mx_MW o i Lib.Math.min.name Lib.Math.min.code 2 (some .int)
  | 5 => mx_MW o i Lib.MathLoose.min_long.x Lib.MathLoose.min_long.code 4 (some .long)
  | _ => False
def mx_fl (mid idx ci k : Nat) : Prop := ci < 13 ∧ k < (mx_cr ci).2.2 ∧ Cond.fieldLink (mx_ow mid) idx (mx_fT ci k).1 (mx_fT ci k).2.1 (mx_fT ci k).2.2.1 ∈ mx_ws ∧ mx_fok ci k
def mx_ax (mid pc : Nat) (ins : Instr) (len a b z : Nat) (c : Int32) (l : Int64) : Prop := match ins with
  | .iconst n => len = 1 ∧ (Int32.ofInt n = c)
  | .bipush n => len = 2 ∧ ((Int8.ofInt n).toInt32 = c)
  | .sipush n => len = 3 ∧ ((Int16.ofInt n).toInt32 = c)
  | .lconst n => len = 1 ∧ (Int64.ofNat (n : Nat) = l)
  | .ldc n => len = 2 ∧ (Cond.constant (mx_ow mid) n c ∈ mx_ws)
  | .ldc_w n => len = 3 ∧ (Cond.constant (mx_ow mid) n c ∈ mx_ws)
  | .ldc2_w n => len = 3 ∧ (Cond.constantLong (mx_ow mid) n l ∈ mx_ws)
  | .aconst_null => len = 1 ∧ (True)
  | .iload_n n => len = 1 ∧ (True)
  | .iload n => len = 2 ∧ (True)
  | .lload_n n => len = 1 ∧ (True)
  | .lload n => len = 2 ∧ (True)
  | .aload_n n => len = 1 ∧ (True)
  | .aload n => len = 2 ∧ (True)
  | .istore_n n => len = 1 ∧ (n.val < mx_nL mid)
  | .istore n => len = 2 ∧ (n < mx_nL mid)
  | .lstore_n n => len = 1 ∧ (n.val + 1 < mx_nL mid)
  | .lstore n => len = 2 ∧ (n + 1 < mx_nL mid)
  | .astore_n n => len = 1 ∧ (n.val < mx_nL mid)
  | .astore n => len = 2 ∧ (n < mx_nL mid)
  | .iinc n k => len = 3 ∧ (Int32.ofInt k = c ∧ n < mx_nL mid)
  | .iadd => len = 1 ∧ (True)
  | .isub => len = 1 ∧ (True)
  | .imul => len = 1 ∧ (True)
  | .iand => len = 1 ∧ (True)
  | .ior => len = 1 ∧ (True)
  | .ixor => len = 1 ∧ (True)
  | .ishl => len = 1 ∧ (True)
  | .ishr => len = 1 ∧ (True)
  | .iushr => len = 1 ∧ (True)
  | .idiv => len = 1 ∧ (True)
  | .irem => len = 1 ∧ (True)
  | .ladd => len = 1 ∧ (True)
  | .lsub => len = 1 ∧ (True)
  | .lmul => len = 1 ∧ (True)
  | .land => len = 1 ∧ (True)
  | .lor => len = 1 ∧ (True)
  | .ldiv => len = 1 ∧ (True)
  | .lshl => len = 1 ∧ (True)
  | .lcmp => len = 1 ∧ (True)
  | .ineg => len = 1 ∧ (True)
  | .lneg => len = 1 ∧ (True)
  | .i2l => len = 1 ∧ (True)
  | .l2i => len = 1 ∧ (True)
  | .i2b => len = 1 ∧ (True)
  | .i2s => len = 1 ∧ (True)
  | .goto k => len = 3 ∧ ((pc : Int) + k = a)
  | .pop => len = 1 ∧ (True)
  | .dup => len = 1 ∧ (True)
  | .dup2 => len = 1 ∧ (True)
  | .ifCond cd k => len = 3 ∧ ((pc : Int) + k = a)
  | .if_icmp cd k => len = 3 ∧ ((pc : Int) + k = a)
  | .ifnull k => len = 3 ∧ ((pc : Int) + k = a)
  | .ifnonnull k => len = 3 ∧ ((pc : Int) + k = a)
  | .tableswitch df lo hi offs => (0 ≤ (pc : Int) + df ∧ (∀ o ∈ offs, 0 ≤ (pc : Int) + o) ∧ (hi - lo + 1).toNat ≤ offs.size)
  | .lookupswitch df ps => ((ps.toList.zip (ps.toList.drop 1)).all (fun (a, next) => a.1 < next.1) = true)
  | .ireturn => len = 1 ∧ (mx_rt mid = some .int ∨ mx_rt mid = some .boolean)
  | .lreturn => len = 1 ∧ (mx_rt mid = some .long)
  | .areturn => len = 1 ∧ (mx_rt mid = some (.object RX7))
  | .return_ => len = 1 ∧ (mx_rt mid = none)
  | .iaload => len = 1 ∧ (True)
  | .baload => len = 1 ∧ (True)
  | .laload => len = 1 ∧ (True)
  | .aaload => len = 1 ∧ (True)
  | .arraylength => len = 1 ∧ (True)
  | .iastore => len = 1 ∧ (True)
  | .lastore => len = 1 ∧ (True)
  | .bastore => len = 1 ∧ (True)
  | .aastore => len = 1 ∧ (True)
  | .getfield n => len = 3 ∧ (mx_fl mid n a b)
  | .putfield n => len = 3 ∧ (mx_fl mid n a b ∧ ((mx_fT a b).2.2.2 = false ∨ ((mx_fT a b).2.2.2 = true ∧ (mx_y mid).name = "<init>" ∧ (mx_fT a b).1 = mx_ow mid)))
  | .getstatic n => len = 3 ∧ ((a = 0 ∧ Cond.fieldLink (mx_ow mid) n RX4 "KIND_ABOVE" "[I" ∈ mx_ws) ∨ (a = 1 ∧ Cond.fieldLink (mx_ow mid) n RX4 "ACTS" "[I" ∈ mx_ws))
  | .new n => len = 3 ∧ (a < 13 ∧ (∀ j, j < (mx_cr a).2.2 → mx_fok a j) ∧ Cond.classLink (mx_ow mid) n (mx_cr a).1 ∈ mx_ws ∧ Cond.instantiable (mx_cr a).1 (mx_cr a).2.2 ∈ mx_ws ∧ Cond.initialized (mx_cr a).1 ∈ mx_ws)
  | .newarray t => len = 2 ∧ (mx_ak t ≤ 3 ∧ Cond.arrayClass (newarray.typeOf t) ∈ mx_ws)
  | .anewarray n => len = 3 ∧ (Cond.classLink (mx_ow mid) n RX7 ∈ mx_ws)
  | .invokestatic n => len = 3 ∧ ((Nat.beq z 2 = false ∧ mx_MK a ∧ mx_LK mid n a b 0 (Nat.beq z 1)) ∨ (Nat.beq z 2 = true ∧ mx_mw (mx_me mid).1 n a))
  | .invokevirtual n => len = 3 ∧ (mx_MK a ∧ mx_LK mid n a b 1 false ∧ (mx_me a).1 < 13 ∧ (mx_y a).cls = (mx_cr (mx_me a).1).1)
  | .invokespecial n => len = 3 ∧ ((a = 1000 ∧ Cond.methodLink (mx_ow mid) n Lib.objectInit ∈ mx_ws ∧ Cond.instanceMethod Lib.objectInit ∈ mx_ws ∧ Cond.code Lib.objectInit ⟨#[0xb1]⟩ 1 none ∈ mx_ws) ∨ (a ≠ 1000 ∧ mx_MK a ∧ mx_LK mid n a b 2 (Nat.beq z 1)))
  | _ => False
def mx_gd (mid : Nat) (en : mx_En) : Prop := decode (mx_by mid) en.1 = .ok (en.2.1, en.2.2.1) ∧ mx_ax mid en.1 en.2.1 en.2.2.1 en.2.2.2.1 en.2.2.2.2.1 en.2.2.2.2.2.1 en.2.2.2.2.2.2.1 en.2.2.2.2.2.2.2
def mx_ft : List (Nat × List mx_En) → Nat → Option mx_En
  | [], _ => none
  | (b, l) :: r, pc => bif Nat.blt pc b then l.find? (fun e => Nat.beq e.1 pc) else mx_ft r pc
theorem mx_ft_mem : ∀ {tb : List (Nat × List mx_En)} {pc : Nat} {en : mx_En}, mx_ft tb pc = some en → en.1 = pc ∧ ∃ q ∈ tb, en ∈ q.2
  | [], _, _, h => by cases h
  | (b, l) :: r, pc, en, h => by
    unfold mx_ft at h
    cases hb : Nat.blt pc b with
    | true =>
      rw [hb, cond_true] at h
      exact ⟨Nat.eq_of_beq_eq_true (List.find?_some (p := fun e : mx_En => Nat.beq e.1 pc) h), (b, l), List.mem_cons_self, List.mem_of_find?_eq_some h⟩
    | false =>
      rw [hb, cond_false] at h
      obtain ⟨h1, q, h2, h3⟩ := mx_ft_mem h
      exact ⟨h1, q, List.mem_cons_of_mem _ h2, h3⟩
def mx_LKo (o idx callee n kd : Nat) (nest : Bool) : Prop :=
  (parseMethodDescriptor (mx_y callee).desc).map (fun d => d.parameters.length) = some n ∧
  (if nest then ∃ host, Cond.methodLinkNest (mx_cn o) idx (mx_y callee) host ∈ mx_nest else Cond.methodLink (mx_cn o) idx (mx_y callee) ∈ mx_ws) ∧
  (if kd = 0 then Cond.static (mx_y callee) ∈ mx_ws else if kd = 1 then Cond.instanceMethod (mx_y callee) ∈ mx_ws ∧ Cond.selects (mx_y callee).cls (mx_y callee) (mx_y callee) ∈ mx_ws else Cond.instanceMethod (mx_y callee) ∈ mx_ws ∧ (mx_y callee).name = "<init>" ∧ mx_rt callee = none)
def mx_fokb (ci k : Nat) : Bool := match mx_ff ci k, mx_ty ci k with
  | 0, .int => true
  | 1, .boolean => true
  | 2, .object _ => true
  | 2, .array _ => true
  | _, _ => false
theorem mx_fokb_s {ci k : Nat} (h : mx_fokb ci k = true) : mx_fok ci k := by
  unfold mx_fokb at h
  unfold mx_fok
  split at h
  · next h1 h2 => exact Or.inl ⟨h1, h2⟩
  · next h1 h2 => exact Or.inr (Or.inl ⟨h1, h2⟩)
  · next h1 h2 => exact Or.inr (Or.inr (Or.inl ⟨h1, _, h2⟩))
  · next h1 h2 => exact Or.inr (Or.inr (Or.inr ⟨h1, _, h2⟩))
  · cases h
abbrev mx_L5 : Type := Nat × Nat × Nat × Nat × Nat
/-- the links of class o: by kind (0 field, 1 static, 2 virtual, 3 special, 4 new, 5 getstatic, 6 anewarray, 7 Object's constructor) -/
def mx_PL (o : Nat) : mx_L5 → Prop
  | (0, i, a, b, _) => a < 13 ∧ b < (mx_cr a).2.2 ∧ Cond.fieldLink (mx_cn o) i (mx_fT a b).1 (mx_fT a b).2.1 (mx_fT a b).2.2.1 ∈ mx_ws ∧ mx_fok a b
  | (8, i, a, _, _) => mx_mw o i a
  | (1, i, a, b, z) => mx_MK a ∧ mx_LKo o i a b 0 (Nat.beq z 1)
  | (2, i, a, b, _) => mx_MK a ∧ mx_LKo o i a b 1 false ∧ (mx_me a).1 < 13 ∧ (mx_y a).cls = (mx_cr (mx_me a).1).1
  | (3, i, a, b, z) => a ≠ 1000 ∧ mx_MK a ∧ mx_LKo o i a b 2 (Nat.beq z 1)
  | (4, i, a, _, _) => a < 13 ∧ (∀ j, j < (mx_cr a).2.2 → mx_fok a j) ∧ Cond.classLink (mx_cn o) i (mx_cr a).1 ∈ mx_ws ∧ Cond.instantiable (mx_cr a).1 (mx_cr a).2.2 ∈ mx_ws ∧ Cond.initialized (mx_cr a).1 ∈ mx_ws
  | (5, i, a, _, _) => (a = 0 ∧ Cond.fieldLink (mx_cn o) i RX4 "KIND_ABOVE" "[I" ∈ mx_ws) ∨ (a = 1 ∧ Cond.fieldLink (mx_cn o) i RX4 "ACTS" "[I" ∈ mx_ws)
  | (6, i, _, _, _) => Cond.classLink (mx_cn o) i RX7 ∈ mx_ws
  | (7, i, a, _, _) => a = 1000 ∧ Cond.methodLink (mx_cn o) i Lib.objectInit ∈ mx_ws ∧ Cond.instanceMethod Lib.objectInit ∈ mx_ws ∧ Cond.code Lib.objectInit ⟨#[0xb1]⟩ 1 none ∈ mx_ws
  | _ => False
theorem mx_mm0 (i : Nat) {w : Cond} (h : (k2_sels lw_privs)[i]? = some w) (hg : goodWord w = true) : w ∈ mx_ws := List.mem_filter.mpr ⟨List.mem_append_left _ (List.mem_of_getElem? h), hg⟩
theorem mx_mm1 (i : Nat) {w : Cond} (h : tables_1_1[i]? = some w) (hg : goodWord w = true) : w ∈ mx_ws := List.mem_filter.mpr ⟨List.mem_append_right _ (List.mem_append_left _ (List.mem_of_getElem? h)), hg⟩
theorem mx_mm2 (i : Nat) {w : Cond} (h : tables_1_2[i]? = some w) (hg : goodWord w = true) : w ∈ mx_ws := List.mem_filter.mpr ⟨List.mem_append_right _ (List.mem_append_right _ (List.mem_append_left _ (List.mem_of_getElem? h))), hg⟩
theorem mx_mm3 (i : Nat) {w : Cond} (h : tables_1_3[i]? = some w) (hg : goodWord w = true) : w ∈ mx_ws := List.mem_filter.mpr ⟨List.mem_append_right _ (List.mem_append_right _ (List.mem_append_right _ (List.mem_append_left _ (List.mem_of_getElem? h)))), hg⟩
theorem mx_mm4 (i : Nat) {w : Cond} (h : tables_1_4[i]? = some w) (hg : goodWord w = true) : w ∈ mx_ws := List.mem_filter.mpr ⟨List.mem_append_right _ (List.mem_append_right _ (List.mem_append_right _ (List.mem_append_right _ (List.mem_append_left _ (List.mem_of_getElem? h))))), hg⟩
theorem mx_mm5 (i : Nat) {w : Cond} (h : tables_1_5[i]? = some w) (hg : goodWord w = true) : w ∈ mx_ws := List.mem_filter.mpr ⟨List.mem_append_right _ (List.mem_append_right _ (List.mem_append_right _ (List.mem_append_right _ (List.mem_append_right _ (List.mem_append_left _ (List.mem_of_getElem? h)))))), hg⟩
theorem mx_mm6 (i : Nat) {w : Cond} (h : tables_1_6[i]? = some w) (hg : goodWord w = true) : w ∈ mx_ws := List.mem_filter.mpr ⟨List.mem_append_right _ (List.mem_append_right _ (List.mem_append_right _ (List.mem_append_right _ (List.mem_append_right _ (List.mem_append_right _ (List.mem_append_left _ (List.mem_of_getElem? h))))))), hg⟩
theorem mx_mm7 (i : Nat) {w : Cond} (h : tables_1_7[i]? = some w) (hg : goodWord w = true) : w ∈ mx_ws := List.mem_filter.mpr ⟨List.mem_append_right _ (List.mem_append_right _ (List.mem_append_right _ (List.mem_append_right _ (List.mem_append_right _ (List.mem_append_right _ (List.mem_append_right _ (List.mem_append_left _ (List.mem_of_getElem? h)))))))), hg⟩
theorem mx_mm8 (i : Nat) {w : Cond} (h : tables_1_8[i]? = some w) (hg : goodWord w = true) : w ∈ mx_ws := List.mem_filter.mpr ⟨List.mem_append_right _ (List.mem_append_right _ (List.mem_append_right _ (List.mem_append_right _ (List.mem_append_right _ (List.mem_append_right _ (List.mem_append_right _ (List.mem_append_right _ (List.mem_append_left _ (List.mem_of_getElem? h))))))))), hg⟩
theorem mx_mm9 (i : Nat) {w : Cond} (h : tables_1_9[i]? = some w) (hg : goodWord w = true) : w ∈ mx_ws := List.mem_filter.mpr ⟨List.mem_append_right _ (List.mem_append_right _ (List.mem_append_right _ (List.mem_append_right _ (List.mem_append_right _ (List.mem_append_right _ (List.mem_append_right _ (List.mem_append_right _ (List.mem_append_right _ (List.mem_of_getElem? h))))))))), hg⟩
theorem mx_mem (i : Nat) {w : Cond} (h : lw_tbl[i]? = some w) (hg : goodWord w = true) : w ∈ mx_ws := List.mem_filter.mpr ⟨List.mem_of_getElem? h, hg⟩
theorem mx_memN (i : Nat) {a : String} {k : Nat} {x : MethodName} {o : String} (h : tables_1[i]? = some (.methodLinkNest a k x o)) : Cond.methodLinkNest a k x o ∈ mx_nest := List.mem_filter.mpr ⟨List.mem_of_getElem? h, rfl⟩
def mx_gb (mid : Nat) (LL : List mx_L5) (KL : List (Nat × Int32)) (JL : List (Nat × Int64)) (pc : Nat) (ins : Instr) (len a b z : Nat) (c : Int32) (l : Int64) : Bool := match ins with
  | .iconst n => Nat.beq len 1 && decide (Int32.ofInt n = c)
  | .bipush n => Nat.beq len 2 && decide ((Int8.ofInt n).toInt32 = c)
  | .sipush n => Nat.beq len 3 && decide ((Int16.ofInt n).toInt32 = c)
  | .lconst n => Nat.beq len 1 && decide (Int64.ofNat (n : Nat) = l)
  | .ldc n => Nat.beq len 2 && KL.elem (n, c)
  | .ldc_w n => Nat.beq len 3 && KL.elem (n, c)
  | .ldc2_w n => Nat.beq len 3 && JL.elem (n, l)
  | .aconst_null => Nat.beq len 1
  | .iload_n n => Nat.beq len 1
  | .iload n => Nat.beq len 2
  | .lload_n n => Nat.beq len 1
  | .lload n => Nat.beq len 2
  | .aload_n n => Nat.beq len 1
  | .aload n => Nat.beq len 2
  | .istore_n n => Nat.beq len 1 && decide (n.val < mx_nL mid)
  | .istore n => Nat.beq len 2 && decide (n < mx_nL mid)
  | .lstore_n n => Nat.beq len 1 && decide (n.val + 1 < mx_nL mid)
  | .lstore n => Nat.beq len 2 && decide (n + 1 < mx_nL mid)
  | .astore_n n => Nat.beq len 1 && decide (n.val < mx_nL mid)
  | .astore n => Nat.beq len 2 && decide (n < mx_nL mid)
  | .iinc n k => Nat.beq len 3 && decide (Int32.ofInt k = c ∧ n < mx_nL mid)
  | .iadd => Nat.beq len 1
  | .isub => Nat.beq len 1
  | .imul => Nat.beq len 1
  | .iand => Nat.beq len 1
  | .ior => Nat.beq len 1
  | .ixor => Nat.beq len 1
  | .ishl => Nat.beq len 1
  | .ishr => Nat.beq len 1
  | .iushr => Nat.beq len 1
  | .idiv => Nat.beq len 1
  | .irem => Nat.beq len 1
  | .ladd => Nat.beq len 1
  | .lsub => Nat.beq len 1
  | .lmul => Nat.beq len 1
  | .land => Nat.beq len 1
  | .lor => Nat.beq len 1
  | .ldiv => Nat.beq len 1
  | .lshl => Nat.beq len 1
  | .lcmp => Nat.beq len 1
  | .ineg => Nat.beq len 1
  | .lneg => Nat.beq len 1
  | .i2l => Nat.beq len 1
  | .l2i => Nat.beq len 1
  | .i2b => Nat.beq len 1
  | .i2s => Nat.beq len 1
  | .goto k => Nat.beq len 3 && decide ((pc : Int) + k = a)
  | .pop => Nat.beq len 1
  | .dup => Nat.beq len 1
  | .dup2 => Nat.beq len 1
  | .ifCond cd k => Nat.beq len 3 && decide ((pc : Int) + k = a)
  | .if_icmp cd k => Nat.beq len 3 && decide ((pc : Int) + k = a)
  | .ifnull k => Nat.beq len 3 && decide ((pc : Int) + k = a)
  | .ifnonnull k => Nat.beq len 3 && decide ((pc : Int) + k = a)
  | .tableswitch df lo hi offs => true && decide (0 ≤ (pc : Int) + df ∧ (∀ o ∈ offs, 0 ≤ (pc : Int) + o) ∧ (hi - lo + 1).toNat ≤ offs.size)
  | .lookupswitch df ps => true && decide ((ps.toList.zip (ps.toList.drop 1)).all (fun (a, next) => a.1 < next.1) = true)
  | .ireturn => Nat.beq len 1 && decide (mx_rt mid = some .int ∨ mx_rt mid = some .boolean)
  | .lreturn => Nat.beq len 1 && decide (mx_rt mid = some .long)
  | .areturn => Nat.beq len 1 && decide (mx_rt mid = some (.object RX7))
  | .return_ => Nat.beq len 1 && decide (mx_rt mid = none)
  | .iaload => Nat.beq len 1
  | .baload => Nat.beq len 1
  | .laload => Nat.beq len 1
  | .aaload => Nat.beq len 1
  | .arraylength => Nat.beq len 1
  | .iastore => Nat.beq len 1
  | .lastore => Nat.beq len 1
  | .bastore => Nat.beq len 1
  | .aastore => Nat.beq len 1
  | .getfield n => Nat.beq len 3 && LL.elem (0, n, a, b, 0)
  | .putfield n => Nat.beq len 3 && (LL.elem (0, n, a, b, 0) && (!(mx_fT a b).2.2.2 || (decide ((mx_y mid).name = "<init>") && decide ((mx_fT a b).1 = mx_ow mid))))
  | .getstatic n => Nat.beq len 3 && LL.elem (5, n, a, 0, 0)
  | .new n => Nat.beq len 3 && LL.elem (4, n, a, 0, 0)
  | .newarray t => Nat.beq len 2 && (Nat.ble (mx_ak t) 3)
  | .anewarray n => Nat.beq len 3 && LL.elem (6, n, 0, 0, 0)
  | .invokestatic n => Nat.beq len 3 && ((!(Nat.beq z 2) && LL.elem (1, n, a, b, z)) || (Nat.beq z 2 && LL.elem (8, n, a, 0, 2)))
  | .invokevirtual n => Nat.beq len 3 && LL.elem (2, n, a, b, 0)
  | .invokespecial n => Nat.beq len 3 && (LL.elem (3, n, a, b, z) || LL.elem (7, n, a, 0, 0))
  | _ => false
set_option maxHeartbeats 4000000 in
theorem mx_gb_s {mid : Nat} {LL : List mx_L5} {KL : List (Nat × Int32)} {JL : List (Nat × Int64)} {pc : Nat} {ins : Instr} {len a b z : Nat} {c : Int32} {l : Int64} (hL : ∀ q ∈ LL, mx_PL (mx_me mid).1 q) (hK : ∀ q ∈ KL, Cond.constant (mx_ow mid) q.1 q.2 ∈ mx_ws) (hJ : ∀ q ∈ JL, Cond.constantLong (mx_ow mid) q.1 q.2 ∈ mx_ws) (hA : ∀ t, mx_ak t ≤ 3 → Cond.arrayClass (newarray.typeOf t) ∈ mx_ws)
    (h : mx_gb mid LL KL JL pc ins len a b z c l = true) : mx_ax mid pc ins len a b z c l := by
  cases ins with
  | iconst n =>
    have h : (Nat.beq len 1 && decide (Int32.ofInt n = c)) = true := h
    rw [Bool.and_eq_true] at h
    obtain ⟨h1, h2⟩ := h
    exact ⟨Nat.eq_of_beq_eq_true h1, of_decide_eq_true h2⟩
  | bipush n =>
    have h : (Nat.beq len 2 && decide ((Int8.ofInt n).toInt32 = c)) = true := h
    rw [Bool.and_eq_true] at h
    obtain ⟨h1, h2⟩ := h
    exact ⟨Nat.eq_of_beq_eq_true h1, of_decide_eq_true h2⟩
  | sipush n =>
    have h : (Nat.beq len 3 && decide ((Int16.ofInt n).toInt32 = c)) = true := h
    rw [Bool.and_eq_true] at h
    obtain ⟨h1, h2⟩ := h
    exact ⟨Nat.eq_of_beq_eq_true h1, of_decide_eq_true h2⟩
  | lconst n =>
    have h : (Nat.beq len 1 && decide (Int64.ofNat (n : Nat) = l)) = true := h
    rw [Bool.and_eq_true] at h
    obtain ⟨h1, h2⟩ := h
    exact ⟨Nat.eq_of_beq_eq_true h1, of_decide_eq_true h2⟩
  | ldc n =>
    have h : (Nat.beq len 2 && KL.elem (n, c)) = true := h
    rw [Bool.and_eq_true] at h
    obtain ⟨h1, h2⟩ := h
    exact ⟨Nat.eq_of_beq_eq_true h1, hK (n, c) (List.mem_of_elem_eq_true h2)⟩
  | ldc_w n =>
    have h : (Nat.beq len 3 && KL.elem (n, c)) = true := h
    rw [Bool.and_eq_true] at h
    obtain ⟨h1, h2⟩ := h
    exact ⟨Nat.eq_of_beq_eq_true h1, hK (n, c) (List.mem_of_elem_eq_true h2)⟩
  | ldc2_w n =>
    have h : (Nat.beq len 3 && JL.elem (n, l)) = true := h
    rw [Bool.and_eq_true] at h
    obtain ⟨h1, h2⟩ := h
    exact ⟨Nat.eq_of_beq_eq_true h1, hJ (n, l) (List.mem_of_elem_eq_true h2)⟩
  | aconst_null =>
    have h : (Nat.beq len 1) = true := h
    have h1 := h
    exact ⟨Nat.eq_of_beq_eq_true h1, trivial⟩
  | iload_n n =>
    have h : (Nat.beq len 1) = true := h
    have h1 := h
    exact ⟨Nat.eq_of_beq_eq_true h1, trivial⟩
  | iload n =>
    have h : (Nat.beq len 2) = true := h
    have h1 := h
    exact ⟨Nat.eq_of_beq_eq_true h1, trivial⟩
  | lload_n n =>
    have h : (Nat.beq len 1) = true := h
    have h1 := h
    exact ⟨Nat.eq_of_beq_eq_true h1, trivial⟩
  | lload n =>
    have h : (Nat.beq len 2) = true := h
    have h1 := h
    exact ⟨Nat.eq_of_beq_eq_true h1, trivial⟩
  | aload_n n =>
    have h : (Nat.beq len 1) = true := h
    have h1 := h
    exact ⟨Nat.eq_of_beq_eq_true h1, trivial⟩
  | aload n =>
    have h : (Nat.beq len 2) = true := h
    have h1 := h
    exact ⟨Nat.eq_of_beq_eq_true h1, trivial⟩
  | istore_n n =>
    have h : (Nat.beq len 1 && decide (n.val < mx_nL mid)) = true := h
    rw [Bool.and_eq_true] at h
    obtain ⟨h1, h2⟩ := h
    exact ⟨Nat.eq_of_beq_eq_true h1, of_decide_eq_true h2⟩
  | istore n =>
    have h : (Nat.beq len 2 && decide (n < mx_nL mid)) = true := h
    rw [Bool.and_eq_true] at h
    obtain ⟨h1, h2⟩ := h
    exact ⟨Nat.eq_of_beq_eq_true h1, of_decide_eq_true h2⟩
  | lstore_n n =>
    have h : (Nat.beq len 1 && decide (n.val + 1 < mx_nL mid)) = true := h
    rw [Bool.and_eq_true] at h
    obtain ⟨h1, h2⟩ := h
    exact ⟨Nat.eq_of_beq_eq_true h1, of_decide_eq_true h2⟩
  | lstore n =>
    have h : (Nat.beq len 2 && decide (n + 1 < mx_nL mid)) = true := h
    rw [Bool.and_eq_true] at h
    obtain ⟨h1, h2⟩ := h
    exact ⟨Nat.eq_of_beq_eq_true h1, of_decide_eq_true h2⟩
  | astore_n n =>
    have h : (Nat.beq len 1 && decide (n.val < mx_nL mid)) = true := h
    rw [Bool.and_eq_true] at h
    obtain ⟨h1, h2⟩ := h
    exact ⟨Nat.eq_of_beq_eq_true h1, of_decide_eq_true h2⟩
  | astore n =>
    have h : (Nat.beq len 2 && decide (n < mx_nL mid)) = true := h
    rw [Bool.and_eq_true] at h
    obtain ⟨h1, h2⟩ := h
    exact ⟨Nat.eq_of_beq_eq_true h1, of_decide_eq_true h2⟩
  | iinc n k =>
    have h : (Nat.beq len 3 && decide (Int32.ofInt k = c ∧ n < mx_nL mid)) = true := h
    rw [Bool.and_eq_true] at h
    obtain ⟨h1, h2⟩ := h
    exact ⟨Nat.eq_of_beq_eq_true h1, of_decide_eq_true h2⟩
  | iadd =>
    have h : (Nat.beq len 1) = true := h
    have h1 := h
    exact ⟨Nat.eq_of_beq_eq_true h1, trivial⟩
  | isub =>
    have h : (Nat.beq len 1) = true := h
    have h1 := h
    exact ⟨Nat.eq_of_beq_eq_true h1, trivial⟩
  | imul =>
    have h : (Nat.beq len 1) = true := h
    have h1 := h
    exact ⟨Nat.eq_of_beq_eq_true h1, trivial⟩
  | iand =>
    have h : (Nat.beq len 1) = true := h
    have h1 := h
    exact ⟨Nat.eq_of_beq_eq_true h1, trivial⟩
  | ior =>
    have h : (Nat.beq len 1) = true := h
    have h1 := h
    exact ⟨Nat.eq_of_beq_eq_true h1, trivial⟩
  | ixor =>
    have h : (Nat.beq len 1) = true := h
    have h1 := h
    exact ⟨Nat.eq_of_beq_eq_true h1, trivial⟩
  | ishl =>
    have h : (Nat.beq len 1) = true := h
    have h1 := h
    exact ⟨Nat.eq_of_beq_eq_true h1, trivial⟩
  | ishr =>
    have h : (Nat.beq len 1) = true := h
    have h1 := h
    exact ⟨Nat.eq_of_beq_eq_true h1, trivial⟩
  | iushr =>
    have h : (Nat.beq len 1) = true := h
    have h1 := h
    exact ⟨Nat.eq_of_beq_eq_true h1, trivial⟩
  | idiv =>
    have h : (Nat.beq len 1) = true := h
    have h1 := h
    exact ⟨Nat.eq_of_beq_eq_true h1, trivial⟩
  | irem =>
    have h : (Nat.beq len 1) = true := h
    have h1 := h
    exact ⟨Nat.eq_of_beq_eq_true h1, trivial⟩
  | ladd =>
    have h : (Nat.beq len 1) = true := h
    have h1 := h
    exact ⟨Nat.eq_of_beq_eq_true h1, trivial⟩
  | lsub =>
    have h : (Nat.beq len 1) = true := h
    have h1 := h
    exact ⟨Nat.eq_of_beq_eq_true h1, trivial⟩
  | lmul =>
    have h : (Nat.beq len 1) = true := h
    have h1 := h
    exact ⟨Nat.eq_of_beq_eq_true h1, trivial⟩
  | land =>
    have h : (Nat.beq len 1) = true := h
    have h1 := h
    exact ⟨Nat.eq_of_beq_eq_true h1, trivial⟩
  | lor =>
    have h : (Nat.beq len 1) = true := h
    have h1 := h
    exact ⟨Nat.eq_of_beq_eq_true h1, trivial⟩
  | ldiv =>
    have h : (Nat.beq len 1) = true := h
    have h1 := h
    exact ⟨Nat.eq_of_beq_eq_true h1, trivial⟩
  | lshl =>
    have h : (Nat.beq len 1) = true := h
    have h1 := h
    exact ⟨Nat.eq_of_beq_eq_true h1, trivial⟩
  | lcmp =>
    have h : (Nat.beq len 1) = true := h
    have h1 := h
    exact ⟨Nat.eq_of_beq_eq_true h1, trivial⟩
  | ineg =>
    have h : (Nat.beq len 1) = true := h
    have h1 := h
    exact ⟨Nat.eq_of_beq_eq_true h1, trivial⟩
  | lneg =>
    have h : (Nat.beq len 1) = true := h
    have h1 := h
    exact ⟨Nat.eq_of_beq_eq_true h1, trivial⟩
  | i2l =>
    have h : (Nat.beq len 1) = true := h
    have h1 := h
    exact ⟨Nat.eq_of_beq_eq_true h1, trivial⟩
  | l2i =>
    have h : (Nat.beq len 1) = true := h
    have h1 := h
    exact ⟨Nat.eq_of_beq_eq_true h1, trivial⟩
  | i2b =>
    have h : (Nat.beq len 1) = true := h
    have h1 := h
    exact ⟨Nat.eq_of_beq_eq_true h1, trivial⟩
  | i2s =>
    have h : (Nat.beq len 1) = true := h
    have h1 := h
    exact ⟨Nat.eq_of_beq_eq_true h1, trivial⟩
  | goto k =>
    have h : (Nat.beq len 3 && decide ((pc : Int) + k = a)) = true := h
    rw [Bool.and_eq_true] at h
    obtain ⟨h1, h2⟩ := h
    exact ⟨Nat.eq_of_beq_eq_true h1, of_decide_eq_true h2⟩
  | pop =>
    have h : (Nat.beq len 1) = true := h
    have h1 := h
    exact ⟨Nat.eq_of_beq_eq_true h1, trivial⟩
  | dup =>
    have h : (Nat.beq len 1) = true := h
    have h1 := h
    exact ⟨Nat.eq_of_beq_eq_true h1, trivial⟩
  | dup2 =>
    have h : (Nat.beq len 1) = true := h
    have h1 := h
    exact ⟨Nat.eq_of_beq_eq_true h1, trivial⟩
  | ifCond cd k =>
    have h : (Nat.beq len 3 && decide ((pc : Int) + k = a)) = true := h
    rw [Bool.and_eq_true] at h
    obtain ⟨h1, h2⟩ := h
    exact ⟨Nat.eq_of_beq_eq_true h1, of_decide_eq_true h2⟩
  | if_icmp cd k =>
    have h : (Nat.beq len 3 && decide ((pc : Int) + k = a)) = true := h
    rw [Bool.and_eq_true] at h
    obtain ⟨h1, h2⟩ := h
    exact ⟨Nat.eq_of_beq_eq_true h1, of_decide_eq_true h2⟩
  | ifnull k =>
    have h : (Nat.beq len 3 && decide ((pc : Int) + k = a)) = true := h
    rw [Bool.and_eq_true] at h
    obtain ⟨h1, h2⟩ := h
    exact ⟨Nat.eq_of_beq_eq_true h1, of_decide_eq_true h2⟩
  | ifnonnull k =>
    have h : (Nat.beq len 3 && decide ((pc : Int) + k = a)) = true := h
    rw [Bool.and_eq_true] at h
    obtain ⟨h1, h2⟩ := h
    exact ⟨Nat.eq_of_beq_eq_true h1, of_decide_eq_true h2⟩
  | tableswitch df lo hi offs =>
    have h : (true && decide (0 ≤ (pc : Int) + df ∧ (∀ o ∈ offs, 0 ≤ (pc : Int) + o) ∧ (hi - lo + 1).toNat ≤ offs.size)) = true := h
    rw [Bool.and_eq_true] at h
    obtain ⟨h1, h2⟩ := h
    have h3 := of_decide_eq_true h2
    exact h3
  | lookupswitch df ps =>
    have h : (true && decide ((ps.toList.zip (ps.toList.drop 1)).all (fun (a, next) => a.1 < next.1) = true)) = true := h
    rw [Bool.and_eq_true] at h
    obtain ⟨h1, h2⟩ := h
    have h3 := of_decide_eq_true h2
    exact h3
  | ireturn =>
    have h : (Nat.beq len 1 && decide (mx_rt mid = some .int ∨ mx_rt mid = some .boolean)) = true := h
    rw [Bool.and_eq_true] at h
    obtain ⟨h1, h2⟩ := h
    exact ⟨Nat.eq_of_beq_eq_true h1, of_decide_eq_true h2⟩
  | lreturn =>
    have h : (Nat.beq len 1 && decide (mx_rt mid = some .long)) = true := h
    rw [Bool.and_eq_true] at h
    obtain ⟨h1, h2⟩ := h
    exact ⟨Nat.eq_of_beq_eq_true h1, of_decide_eq_true h2⟩
  | areturn =>
    have h : (Nat.beq len 1 && decide (mx_rt mid = some (.object RX7))) = true := h
    rw [Bool.and_eq_true] at h
    obtain ⟨h1, h2⟩ := h
    exact ⟨Nat.eq_of_beq_eq_true h1, of_decide_eq_true h2⟩
  | return_ =>
    have h : (Nat.beq len 1 && decide (mx_rt mid = none)) = true := h
    rw [Bool.and_eq_true] at h
    obtain ⟨h1, h2⟩ := h
    exact ⟨Nat.eq_of_beq_eq_true h1, of_decide_eq_true h2⟩
  | iaload =>
    have h : (Nat.beq len 1) = true := h
    have h1 := h
    exact ⟨Nat.eq_of_beq_eq_true h1, trivial⟩
  | baload =>
    have h : (Nat.beq len 1) = true := h
    have h1 := h
    exact ⟨Nat.eq_of_beq_eq_true h1, trivial⟩
  | laload =>
    have h : (Nat.beq len 1) = true := h
    have h1 := h
    exact ⟨Nat.eq_of_beq_eq_true h1, trivial⟩
  | aaload =>
    have h : (Nat.beq len 1) = true := h
    have h1 := h
    exact ⟨Nat.eq_of_beq_eq_true h1, trivial⟩
  | arraylength =>
    have h : (Nat.beq len 1) = true := h
    have h1 := h
    exact ⟨Nat.eq_of_beq_eq_true h1, trivial⟩
  | iastore =>
    have h : (Nat.beq len 1) = true := h
    have h1 := h
    exact ⟨Nat.eq_of_beq_eq_true h1, trivial⟩
  | lastore =>
    have h : (Nat.beq len 1) = true := h
    have h1 := h
    exact ⟨Nat.eq_of_beq_eq_true h1, trivial⟩
  | bastore =>
    have h : (Nat.beq len 1) = true := h
    have h1 := h
    exact ⟨Nat.eq_of_beq_eq_true h1, trivial⟩
  | aastore =>
    have h : (Nat.beq len 1) = true := h
    have h1 := h
    exact ⟨Nat.eq_of_beq_eq_true h1, trivial⟩
  | getfield n =>
    have h : (Nat.beq len 3 && LL.elem (0, n, a, b, 0)) = true := h
    rw [Bool.and_eq_true] at h
    obtain ⟨h1, h2⟩ := h
    exact ⟨Nat.eq_of_beq_eq_true h1, hL _ (List.mem_of_elem_eq_true h2)⟩
  | putfield n =>
    have h : (Nat.beq len 3 && (LL.elem (0, n, a, b, 0) && (!(mx_fT a b).2.2.2 || (decide ((mx_y mid).name = "<init>") && decide ((mx_fT a b).1 = mx_ow mid))))) = true := h
    rw [Bool.and_eq_true] at h
    obtain ⟨h1, h2⟩ := h
    rw [Bool.and_eq_true] at h2
    refine ⟨Nat.eq_of_beq_eq_true h1, hL _ (List.mem_of_elem_eq_true h2.1), ?_⟩
    cases hq : (mx_fT a b).2.2.2 with
    | false => exact Or.inl rfl
    | true =>
      have h3 := h2.2
      rw [hq, Bool.not_true, Bool.false_or, Bool.and_eq_true] at h3
      exact Or.inr ⟨rfl, of_decide_eq_true h3.1, of_decide_eq_true h3.2⟩
  | getstatic n =>
    have h : (Nat.beq len 3 && LL.elem (5, n, a, 0, 0)) = true := h
    rw [Bool.and_eq_true] at h
    obtain ⟨h1, h2⟩ := h
    exact ⟨Nat.eq_of_beq_eq_true h1, hL _ (List.mem_of_elem_eq_true h2)⟩
  | new n =>
    have h : (Nat.beq len 3 && LL.elem (4, n, a, 0, 0)) = true := h
    rw [Bool.and_eq_true] at h
    obtain ⟨h1, h2⟩ := h
    exact ⟨Nat.eq_of_beq_eq_true h1, hL _ (List.mem_of_elem_eq_true h2)⟩
  | newarray t =>
    have h : (Nat.beq len 2 && (Nat.ble (mx_ak t) 3)) = true := h
    rw [Bool.and_eq_true] at h
    obtain ⟨h1, h2⟩ := h
    exact ⟨Nat.eq_of_beq_eq_true h1, Nat.le_of_ble_eq_true h2, hA t (Nat.le_of_ble_eq_true h2)⟩
  | anewarray n =>
    have h : (Nat.beq len 3 && LL.elem (6, n, 0, 0, 0)) = true := h
    rw [Bool.and_eq_true] at h
    obtain ⟨h1, h2⟩ := h
    exact ⟨Nat.eq_of_beq_eq_true h1, hL _ (List.mem_of_elem_eq_true h2)⟩
  | invokestatic n =>
    have h : (Nat.beq len 3 && ((!(Nat.beq z 2) && LL.elem (1, n, a, b, z)) || (Nat.beq z 2 && LL.elem (8, n, a, 0, 2)))) = true := h
    rw [Bool.and_eq_true] at h
    obtain ⟨h1, h2⟩ := h
    rcases (Bool.or_eq_true _ _).mp h2 with h2 | h2
    · rw [Bool.and_eq_true] at h2
      exact ⟨Nat.eq_of_beq_eq_true h1, Or.inl ⟨by simpa using h2.1, hL _ (List.mem_of_elem_eq_true h2.2)⟩⟩
    · rw [Bool.and_eq_true] at h2
      exact ⟨Nat.eq_of_beq_eq_true h1, Or.inr ⟨h2.1, hL _ (List.mem_of_elem_eq_true h2.2)⟩⟩
  | invokevirtual n =>
    have h : (Nat.beq len 3 && LL.elem (2, n, a, b, 0)) = true := h
    rw [Bool.and_eq_true] at h
    obtain ⟨h1, h2⟩ := h
    exact ⟨Nat.eq_of_beq_eq_true h1, hL _ (List.mem_of_elem_eq_true h2)⟩
  | invokespecial n =>
    have h : (Nat.beq len 3 && (LL.elem (3, n, a, b, z) || LL.elem (7, n, a, 0, 0))) = true := h
    rw [Bool.and_eq_true] at h
    obtain ⟨h1, h2⟩ := h
    rcases (Bool.or_eq_true _ _).mp h2 with h2 | h2
    · exact ⟨Nat.eq_of_beq_eq_true h1, Or.inr (hL _ (List.mem_of_elem_eq_true h2))⟩
    · exact ⟨Nat.eq_of_beq_eq_true h1, Or.inl (hL _ (List.mem_of_elem_eq_true h2))⟩
  | _ => cases h
def mx_gt (mid : Nat) (LL : List mx_L5) (KL : List (Nat × Int32)) (JL : List (Nat × Int64)) (tb : List (Nat × List mx_En)) : Bool :=
  tb.all (fun q => q.2.all (fun en => decide (decode (mx_by mid) en.1 = .ok (en.2.1, en.2.2.1)) && mx_gb mid LL KL JL en.1 en.2.1 en.2.2.1 en.2.2.2.1 en.2.2.2.2.1 en.2.2.2.2.2.1 en.2.2.2.2.2.2.1 en.2.2.2.2.2.2.2))
theorem mx_gt_s {mid : Nat} {LL : List mx_L5} {KL : List (Nat × Int32)} {JL : List (Nat × Int64)} {tb : List (Nat × List mx_En)} (hL : ∀ q ∈ LL, mx_PL (mx_me mid).1 q) (hK : ∀ q ∈ KL, Cond.constant (mx_ow mid) q.1 q.2 ∈ mx_ws) (hJ : ∀ q ∈ JL, Cond.constantLong (mx_ow mid) q.1 q.2 ∈ mx_ws) (hA : ∀ t, mx_ak t ≤ 3 → Cond.arrayClass (newarray.typeOf t) ∈ mx_ws)
    (h : mx_gt mid LL KL JL tb = true) : ∀ q ∈ tb, ∀ en ∈ q.2, mx_gd mid en := by
  intro q hq en he
  have h1 := List.all_eq_true.mp (List.all_eq_true.mp h q hq) en he
  rw [Bool.and_eq_true] at h1
  exact ⟨of_decide_eq_true h1.1, mx_gb_s hL hK hJ hA h1.2⟩
/-! ===== the check of links ===== -/
def mx_sub (k : Nat) : List Cond := match k with
  | 1 => tables_1_1
  | 2 => tables_1_2
  | 3 => tables_1_3
  | 4 => tables_1_4
  | 5 => tables_1_5
  | 6 => tables_1_6
  | 7 => tables_1_7
  | 8 => tables_1_8
  | 9 => tables_1_9
  | _ => []
theorem mx_sub_t {w : Cond} : ∀ k, w ∈ mx_sub k → w ∈ tables_1
  | 1, h => (List.mem_append_left _ h)
  | 2, h => (List.mem_append_right _ (List.mem_append_left _ h))
  | 3, h => (List.mem_append_right _ (List.mem_append_right _ (List.mem_append_left _ h)))
  | 4, h => (List.mem_append_right _ (List.mem_append_right _ (List.mem_append_right _ (List.mem_append_left _ h))))
  | 5, h => (List.mem_append_right _ (List.mem_append_right _ (List.mem_append_right _ (List.mem_append_right _ (List.mem_append_left _ h)))))
  | 6, h => (List.mem_append_right _ (List.mem_append_right _ (List.mem_append_right _ (List.mem_append_right _ (List.mem_append_right _ (List.mem_append_left _ h))))))
  | 7, h => (List.mem_append_right _ (List.mem_append_right _ (List.mem_append_right _ (List.mem_append_right _ (List.mem_append_right _ (List.mem_append_right _ (List.mem_append_left _ h)))))))
  | 8, h => (List.mem_append_right _ (List.mem_append_right _ (List.mem_append_right _ (List.mem_append_right _ (List.mem_append_right _ (List.mem_append_right _ (List.mem_append_right _ (List.mem_append_left _ h))))))))
  | 9, h => (List.mem_append_right _ (List.mem_append_right _ (List.mem_append_right _ (List.mem_append_right _ (List.mem_append_right _ (List.mem_append_right _ (List.mem_append_right _ (List.mem_append_right _ h))))))))
  | 0, h => absurd h List.not_mem_nil
  | k + 10, h => absurd h List.not_mem_nil
/-- the word stands at this place of the tables, and is one that a callee may be given -/
def mx_hw (p : Nat) (w : Cond) : Bool := (bif Nat.blt p 1000 then decide ((k2_sels lw_privs)[p]? = some w) else decide ((mx_sub (p / 1000))[p % 1000]? = some w)) && goodWord w
theorem mx_hw_s {p : Nat} {w : Cond} (h : mx_hw p w = true) : w ∈ mx_ws := by
  unfold mx_hw at h
  rw [Bool.and_eq_true] at h
  refine List.mem_filter.mpr ⟨?_, h.2⟩
  have h1 := h.1
  cases hb : Nat.blt p 1000 with
  | true =>
    rw [hb, cond_true] at h1
    exact List.mem_append_left _ (List.mem_of_getElem? (of_decide_eq_true h1))
  | false =>
    rw [hb, cond_false] at h1
    exact List.mem_append_right _ (mx_sub_t _ (List.mem_of_getElem? (of_decide_eq_true h1)))
def mx_hn (p : Nat) (a : String) (k : Nat) (x : MethodName) (o : String) : Bool := decide ((mx_sub (p / 1000))[p % 1000]? = some (.methodLinkNest a k x o))
theorem mx_hn_s {p : Nat} {a : String} {k : Nat} {x : MethodName} {o : String} (h : mx_hn p a k x o = true) : Cond.methodLinkNest a k x o ∈ mx_nest :=
  List.mem_filter.mpr ⟨mx_sub_t _ (List.mem_of_getElem? (of_decide_eq_true h)), rfl⟩
def mx_MKc (mid p2 : Nat) : Bool := plainName (mx_y mid).cls && (decide ((mx_y mid).cls = mx_ow mid) && (mx_hw p2 (Cond.initialized (mx_y mid).cls) && (decide ((mx_y mid).cls ≠ "java/lang/invoke/MethodHandle" ∧ (mx_y mid).cls ≠ "java/lang/invoke/VarHandle") && Nat.ble (mx_nL mid) 21)))
abbrev mx_CD (mid : Nat) : Prop := Cond.code (mx_y mid) (mx_by mid) (mx_nL mid) (mx_rt mid) ∈ mx_ws
theorem mx_CDi {mid : Nat} (k i : Nat) (h : (mx_sub k)[i]? = some (Cond.code (mx_y mid) (mx_by mid) (mx_nL mid) (mx_rt mid))) : mx_CD mid := List.mem_filter.mpr ⟨List.mem_append_right _ (mx_sub_t _ (List.mem_of_getElem? h)), rfl⟩
theorem mx_MKc_s {mid p2 : Nat} (hc : mx_CD mid) (h : mx_MKc mid p2 = true) : mx_MK mid := by
  unfold mx_MKc at h
  simp only [Bool.and_eq_true] at h
  obtain ⟨h1, h2, h4, h5, h6⟩ := h
  exact ⟨h1, of_decide_eq_true h2, hc, mx_hw_s h4, of_decide_eq_true h5, Nat.le_of_ble_eq_true h6⟩
def mx_LKb (o idx callee n kd : Nat) (nest : Bool) (p1 p2 p3 : Nat) : Bool :=
  decide ((parseMethodDescriptor (mx_y callee).desc).map (fun d => d.parameters.length) = some n) &&
  ((bif nest then mx_hn p1 (mx_cn o) idx (mx_y callee) "PlatesSing" else mx_hw p1 (Cond.methodLink (mx_cn o) idx (mx_y callee))) &&
  (bif Nat.beq kd 0 then mx_hw p2 (Cond.static (mx_y callee)) else bif Nat.beq kd 1 then mx_hw p2 (Cond.instanceMethod (mx_y callee)) && mx_hw p3 (Cond.selects (mx_y callee).cls (mx_y callee) (mx_y callee)) else mx_hw p2 (Cond.instanceMethod (mx_y callee)) && (decide ((mx_y callee).name = "<init>") && decide (mx_rt callee = none))))
theorem mx_LKb_s {o idx callee n kd : Nat} {nest : Bool} {p1 p2 p3 : Nat} (h : mx_LKb o idx callee n kd nest p1 p2 p3 = true) : mx_LKo o idx callee n kd nest := by
  unfold mx_LKb at h
  rw [Bool.and_eq_true, Bool.and_eq_true] at h
  obtain ⟨h1, h2, h3⟩ := h
  refine ⟨of_decide_eq_true h1, ?_, ?_⟩
  · cases nest
    · exact mx_hw_s h2
    · exact ⟨_, mx_hn_s h2⟩
  · cases hb : Nat.beq kd 0 with
    | true =>
      rw [hb, cond_true] at h3
      rw [if_pos (Nat.eq_of_beq_eq_true hb)]
      exact mx_hw_s h3
    | false =>
      rw [hb, cond_false] at h3
      rw [if_neg (Nat.ne_of_beq_eq_false hb)]
      cases hb2 : Nat.beq kd 1 with
      | true =>
        rw [hb2, cond_true, Bool.and_eq_true] at h3
        rw [if_pos (Nat.eq_of_beq_eq_true hb2)]
        exact ⟨mx_hw_s h3.1, mx_hw_s h3.2⟩
      | false =>
        rw [hb2, cond_false, Bool.and_eq_true, Bool.and_eq_true] at h3
        rw [if_neg (Nat.ne_of_beq_eq_false hb2)]
        exact ⟨mx_hw_s h3.1, of_decide_eq_true h3.2.1, of_decide_eq_true h3.2.2⟩
def mx_MWb (o i : Nat) (x : MethodName) (c : ByteArray) (n : Nat) (r : Option FieldType) (p1 p2 p3 p4 : Nat) : Bool := mx_hw p1 (Cond.methodLink (mx_cn o) i x) && (mx_hw p2 (Cond.static x) && (mx_hw p3 (Cond.initialized "java/lang/Math") && mx_hw p4 (Cond.code x c n r)))
theorem mx_MWb_s {o i : Nat} {x : MethodName} {c : ByteArray} {n : Nat} {r : Option FieldType} {p1 p2 p3 p4 : Nat} (h : mx_MWb o i x c n r p1 p2 p3 p4 = true) : mx_MW o i x c n r := by
  unfold mx_MWb at h
  simp only [Bool.and_eq_true] at h
  exact ⟨mx_hw_s h.1, mx_hw_s h.2.1, mx_hw_s h.2.2.1, mx_hw_s h.2.2.2⟩
end
section
/-! ===== links and methods, held against the tables by program ===== -/
def mx_pMT : List (List (Nat × Nat)) := [[(0, 0), (2062, 1008), (4209, 1008), (4184, 1008), (4189, 1008), (4193, 1008), (4198, 1008), (4221, 1008), (4225, 1008), (4233, 1008), (4238, 1008), (2033, 1007), (4131, 1007), (4139, 1007), (4147, 1007), (4156, 1007)], [(2127, 1010), (3137, 1010), (3141, 1010), (5131, 1010), (5140, 1010), (1141, 1004), (3162, 1004), (3166, 1004), (3170, 1004), (3176, 1004), (3180, 1004), (4031, 1004), (3192, 1004), (3188, 1004), (3196, 1004), (3184, 1004)], [(3200, 1004), (3217, 1004), (4047, 1004), (4051, 1004), (2158, 1011), (3093, 1011), (6001, 1011), (5179, 1011), (5167, 1011), (5175, 1011), (1221, 1006), (4059, 1006), (4063, 1006), (4075, 1006), (4079, 1006), (4098, 1006)], [(4087, 1006), (4103, 1006), (4109, 1006), (4113, 1006), (2106, 1009), (5073, 1009), (5085, 1009), (5081, 1009), (5090, 1009), (5100, 1009), (1049, 1003), (3031, 1003), (3106, 1003), (3063, 1003), (4001, 1003), (3073, 1003)], [(5113, 1003), (3129, 1003), (3126, 1003), (3133, 1003), (5148, 1003), (2185, 1012), (5193, 1012), (5201, 1012), (5212, 1012), (5009, 1012), (5014, 1012), (5231, 1012), (5216, 1012), (5219, 1012), (5021, 1012), (5018, 1012)], [(5042, 1012), (5038, 1012), (5045, 1012), (5062, 1012), (1030, 1002), (3019, 1002), (3027, 1002), (3038, 1002), (3051, 1002), (3055, 1002), (3077, 1002), (3081, 1002), (3042, 1002), (3046, 1002), (3059, 1002), (1191, 1005)], [(4010, 1005), (4016, 1005), (4023, 1005), (4027, 1005), (4020, 1005), (1022, 1001), (3012, 1001), (3023, 1001), (3097, 1001), (3110, 1001), (3118, 1001), (3145, 1001), (3150, 1001), (3155, 1001), (3204, 1001), (3210, 1001)], [(3222, 1001), (3226, 1001), (3231, 1001), (3236, 1001), (4006, 1001), (4035, 1001), (4039, 1001), (4043, 1001), (4055, 1001), (4067, 1001), (4083, 1001), (4094, 1001), (4123, 1001), (4127, 1001), (4135, 1001), (4152, 1001)], [(4162, 1001), (4166, 1001), (4170, 1001), (4177, 1001), (4205, 1001), (4213, 1001), (4217, 1001), (4229, 1001), (5002, 1001), (5034, 1001), (5058, 1001), (5069, 1001), (5077, 1001), (5104, 1001), (5108, 1001), (5119, 1001)], [(5127, 1001), (5136, 1001), (5144, 1001), (5152, 1001), (5159, 1001), (5185, 1001), (5189, 1001), (5197, 1001), (5208, 1001), (5223, 1001), (5227, 1001), (5238, 1001), (6005, 1001), (3015, 1001), (3158, 1001), (4180, 1001)], [(4173, 1001), (5005, 1001), (5155, 1001), (5163, 1001), (3113, 1001), (3213, 1001), (3101, 1001), (4071, 1001), (3085, 1001), (3089, 1001), (3122, 1001), (5123, 1001), (6010, 1013), (7062, 1013), (7169, 1013), (7184, 1013)], [(8101, 1013), (7129, 1013), (7106, 1013), (7113, 1013), (7110, 1013), (7117, 1013), (7074, 1013), (7134, 1013), (7059, 1013), (7078, 1013), (7082, 1013), (7086, 1013), (7090, 1013), (7102, 1013), (7098, 1013), (7094, 1013)], [(7070, 1013), (7121, 1013), (7066, 1013), (7138, 1013), (7125, 1013), (7142, 1013), (7150, 1013), (7158, 1013), (7154, 1013), (7146, 1013), (7162, 1013), (7166, 1013), (7173, 1013), (7177, 1013), (7181, 1013), (7198, 1013)], [(7195, 1013), (7210, 1013), (7217, 1013), (7213, 1013), (7206, 1013), (7202, 1013), (7221, 1013), (7191, 1013), (7188, 1013), (7225, 1013), (7238, 1013), (8002, 1013), (7234, 1013), (7230, 1013), (8006, 1013), (8010, 1013)], [(8014, 1013), (8022, 1013), (8018, 1013), (8038, 1013), (8042, 1013), (8034, 1013), (8030, 1013), (8026, 1013), (8046, 1013), (8054, 1013), (8050, 1013), (8070, 1013), (8066, 1013), (8062, 1013), (8058, 1013), (8074, 1013)], [(8078, 1013), (8086, 1013), (8082, 1013), (8098, 1013), (8105, 1013), (8094, 1013), (8090, 1013), (8109, 1013), (8113, 1013), (8117, 1013), (8129, 1013), (8125, 1013), (8121, 1013), (8133, 1013), (8137, 1013), (8144, 1013)], [(8141, 1013), (8152, 1013), (8156, 1013), (8148, 1013), (8160, 1013), (8164, 1013), (8168, 1013), (8172, 1013), (8183, 1013), (8186, 1013), (8176, 1013), (8203, 1013), (8207, 1013), (8199, 1013), (8195, 1013), (8191, 1013)], [(8214, 1013), (8218, 1013), (8222, 1013), (8230, 1013), (8234, 1013), (8226, 1013), (9006, 1013), (9002, 1013), (8238, 1013), (9014, 1013), (9010, 1013), (9026, 1013), (9033, 1013), (9018, 1013), (9037, 1013), (9045, 1013)], [(9041, 1013), (9030, 1013), (9053, 1013), (9049, 1013), (9061, 1013), (9057, 1013), (9073, 1013), (9069, 1013), (9065, 1013), (9022, 1013), (9077, 1013), (9081, 1013), (8179, 1013), (9085, 1013), (9089, 1013), (9097, 1013)], [(9093, 1013), (9101, 1013), (9105, 1013), (9109, 1013), (5048, 1016), (5093, 1016), (0, 0), (0, 0), (0, 0), (0, 0), (0, 0), (0, 0), (5204, 1014), (3034, 1014)]]
def mx_pM (i : Nat) : Nat × Nat := (mx_pMT.getD (i / 16) []).getD (i % 16) (0, 0)
/-- the methods whose own words stand in the tables -/
def mx_iM (i : Nat) : Bool := Nat.blt 0 i && (Nat.blt i 310 || (Nat.blt 315 i && Nat.blt i 318))
theorem mx_cd1 : mx_CD 1 := mx_CDi 2 62 rfl
theorem mx_cd2 : mx_CD 2 := mx_CDi 4 209 rfl
theorem mx_cd3 : mx_CD 3 := mx_CDi 4 184 rfl
theorem mx_cd4 : mx_CD 4 := mx_CDi 4 189 rfl
theorem mx_cd5 : mx_CD 5 := mx_CDi 4 193 rfl
theorem mx_cd6 : mx_CD 6 := mx_CDi 4 198 rfl
theorem mx_cd7 : mx_CD 7 := mx_CDi 4 221 rfl
theorem mx_cd8 : mx_CD 8 := mx_CDi 4 225 rfl
theorem mx_cd9 : mx_CD 9 := mx_CDi 4 233 rfl
theorem mx_cd10 : mx_CD 10 := mx_CDi 4 238 rfl
theorem mx_cd11 : mx_CD 11 := mx_CDi 2 33 rfl
theorem mx_cd12 : mx_CD 12 := mx_CDi 4 131 rfl
theorem mx_cd13 : mx_CD 13 := mx_CDi 4 139 rfl
theorem mx_cd14 : mx_CD 14 := mx_CDi 4 147 rfl
theorem mx_cd15 : mx_CD 15 := mx_CDi 4 156 rfl
theorem mx_cd16 : mx_CD 16 := mx_CDi 2 127 rfl
theorem mx_cd17 : mx_CD 17 := mx_CDi 3 137 rfl
theorem mx_cd18 : mx_CD 18 := mx_CDi 3 141 rfl
theorem mx_cd19 : mx_CD 19 := mx_CDi 5 131 rfl
theorem mx_cd20 : mx_CD 20 := mx_CDi 5 140 rfl
theorem mx_cd21 : mx_CD 21 := mx_CDi 1 141 rfl
theorem mx_cd22 : mx_CD 22 := mx_CDi 3 162 rfl
theorem mx_cd23 : mx_CD 23 := mx_CDi 3 166 rfl
theorem mx_cd24 : mx_CD 24 := mx_CDi 3 170 rfl
theorem mx_cd25 : mx_CD 25 := mx_CDi 3 176 rfl
theorem mx_cd26 : mx_CD 26 := mx_CDi 3 180 rfl
theorem mx_cd27 : mx_CD 27 := mx_CDi 4 31 rfl
theorem mx_cd28 : mx_CD 28 := mx_CDi 3 192 rfl
theorem mx_cd29 : mx_CD 29 := mx_CDi 3 188 rfl
theorem mx_cd30 : mx_CD 30 := mx_CDi 3 196 rfl
theorem mx_cd31 : mx_CD 31 := mx_CDi 3 184 rfl
theorem mx_cd32 : mx_CD 32 := mx_CDi 3 200 rfl
theorem mx_cd33 : mx_CD 33 := mx_CDi 3 217 rfl
theorem mx_cd34 : mx_CD 34 := mx_CDi 4 47 rfl
theorem mx_cd35 : mx_CD 35 := mx_CDi 4 51 rfl
theorem mx_cd36 : mx_CD 36 := mx_CDi 2 158 rfl
theorem mx_cd37 : mx_CD 37 := mx_CDi 3 93 rfl
theorem mx_cd38 : mx_CD 38 := mx_CDi 6 1 rfl
theorem mx_cd39 : mx_CD 39 := mx_CDi 5 179 rfl
theorem mx_cd40 : mx_CD 40 := mx_CDi 5 167 rfl
theorem mx_cd41 : mx_CD 41 := mx_CDi 5 175 rfl
theorem mx_cd42 : mx_CD 42 := mx_CDi 1 221 rfl
theorem mx_cd43 : mx_CD 43 := mx_CDi 4 59 rfl
theorem mx_cd44 : mx_CD 44 := mx_CDi 4 63 rfl
theorem mx_cd45 : mx_CD 45 := mx_CDi 4 75 rfl
theorem mx_cd46 : mx_CD 46 := mx_CDi 4 79 rfl
theorem mx_cd47 : mx_CD 47 := mx_CDi 4 98 rfl
theorem mx_cd48 : mx_CD 48 := mx_CDi 4 87 rfl
theorem mx_cd49 : mx_CD 49 := mx_CDi 4 103 rfl
theorem mx_cd50 : mx_CD 50 := mx_CDi 4 109 rfl
theorem mx_cd51 : mx_CD 51 := mx_CDi 4 113 rfl
theorem mx_cd52 : mx_CD 52 := mx_CDi 2 106 rfl
theorem mx_cd53 : mx_CD 53 := mx_CDi 5 73 rfl
theorem mx_cd54 : mx_CD 54 := mx_CDi 5 85 rfl
theorem mx_cd55 : mx_CD 55 := mx_CDi 5 81 rfl
theorem mx_cd56 : mx_CD 56 := mx_CDi 5 90 rfl
theorem mx_cd57 : mx_CD 57 := mx_CDi 5 100 rfl
theorem mx_cd58 : mx_CD 58 := mx_CDi 1 49 rfl
theorem mx_cd59 : mx_CD 59 := mx_CDi 3 31 rfl
theorem mx_cd60 : mx_CD 60 := mx_CDi 3 106 rfl
theorem mx_cd61 : mx_CD 61 := mx_CDi 3 63 rfl
theorem mx_cd62 : mx_CD 62 := mx_CDi 4 1 rfl
theorem mx_cd63 : mx_CD 63 := mx_CDi 3 73 rfl
theorem mx_cd64 : mx_CD 64 := mx_CDi 5 113 rfl
theorem mx_cd65 : mx_CD 65 := mx_CDi 3 129 rfl
theorem mx_cd66 : mx_CD 66 := mx_CDi 3 126 rfl
theorem mx_cd67 : mx_CD 67 := mx_CDi 3 133 rfl
theorem mx_cd68 : mx_CD 68 := mx_CDi 5 148 rfl
theorem mx_cd69 : mx_CD 69 := mx_CDi 2 185 rfl
theorem mx_cd70 : mx_CD 70 := mx_CDi 5 193 rfl
theorem mx_cd71 : mx_CD 71 := mx_CDi 5 201 rfl
theorem mx_cd72 : mx_CD 72 := mx_CDi 5 212 rfl
theorem mx_cd73 : mx_CD 73 := mx_CDi 5 9 rfl
theorem mx_cd74 : mx_CD 74 := mx_CDi 5 14 rfl
theorem mx_cd75 : mx_CD 75 := mx_CDi 5 231 rfl
theorem mx_cd76 : mx_CD 76 := mx_CDi 5 216 rfl
theorem mx_cd77 : mx_CD 77 := mx_CDi 5 219 rfl
theorem mx_cd78 : mx_CD 78 := mx_CDi 5 21 rfl
theorem mx_cd79 : mx_CD 79 := mx_CDi 5 18 rfl
theorem mx_cd80 : mx_CD 80 := mx_CDi 5 42 rfl
theorem mx_cd81 : mx_CD 81 := mx_CDi 5 38 rfl
theorem mx_cd82 : mx_CD 82 := mx_CDi 5 45 rfl
theorem mx_cd83 : mx_CD 83 := mx_CDi 5 62 rfl
theorem mx_cd84 : mx_CD 84 := mx_CDi 1 30 rfl
theorem mx_cd85 : mx_CD 85 := mx_CDi 3 19 rfl
theorem mx_cd86 : mx_CD 86 := mx_CDi 3 27 rfl
theorem mx_cd87 : mx_CD 87 := mx_CDi 3 38 rfl
theorem mx_cd88 : mx_CD 88 := mx_CDi 3 51 rfl
theorem mx_cd89 : mx_CD 89 := mx_CDi 3 55 rfl
theorem mx_cd90 : mx_CD 90 := mx_CDi 3 77 rfl
theorem mx_cd91 : mx_CD 91 := mx_CDi 3 81 rfl
theorem mx_cd92 : mx_CD 92 := mx_CDi 3 42 rfl
theorem mx_cd93 : mx_CD 93 := mx_CDi 3 46 rfl
theorem mx_cd94 : mx_CD 94 := mx_CDi 3 59 rfl
theorem mx_cd95 : mx_CD 95 := mx_CDi 1 191 rfl
theorem mx_cd96 : mx_CD 96 := mx_CDi 4 10 rfl
theorem mx_cd97 : mx_CD 97 := mx_CDi 4 16 rfl
theorem mx_cd98 : mx_CD 98 := mx_CDi 4 23 rfl
theorem mx_cd99 : mx_CD 99 := mx_CDi 4 27 rfl
theorem mx_cd100 : mx_CD 100 := mx_CDi 4 20 rfl
theorem mx_cd101 : mx_CD 101 := mx_CDi 1 22 rfl
theorem mx_cd102 : mx_CD 102 := mx_CDi 3 12 rfl
theorem mx_cd103 : mx_CD 103 := mx_CDi 3 23 rfl
theorem mx_cd104 : mx_CD 104 := mx_CDi 3 97 rfl
theorem mx_cd105 : mx_CD 105 := mx_CDi 3 110 rfl
theorem mx_cd106 : mx_CD 106 := mx_CDi 3 118 rfl
theorem mx_cd107 : mx_CD 107 := mx_CDi 3 145 rfl
theorem mx_cd108 : mx_CD 108 := mx_CDi 3 150 rfl
theorem mx_cd109 : mx_CD 109 := mx_CDi 3 155 rfl
theorem mx_cd110 : mx_CD 110 := mx_CDi 3 204 rfl
theorem mx_cd111 : mx_CD 111 := mx_CDi 3 210 rfl
theorem mx_cd112 : mx_CD 112 := mx_CDi 3 222 rfl
theorem mx_cd113 : mx_CD 113 := mx_CDi 3 226 rfl
theorem mx_cd114 : mx_CD 114 := mx_CDi 3 231 rfl
theorem mx_cd115 : mx_CD 115 := mx_CDi 3 236 rfl
theorem mx_cd116 : mx_CD 116 := mx_CDi 4 6 rfl
theorem mx_cd117 : mx_CD 117 := mx_CDi 4 35 rfl
theorem mx_cd118 : mx_CD 118 := mx_CDi 4 39 rfl
theorem mx_cd119 : mx_CD 119 := mx_CDi 4 43 rfl
theorem mx_cd120 : mx_CD 120 := mx_CDi 4 55 rfl
theorem mx_cd121 : mx_CD 121 := mx_CDi 4 67 rfl
theorem mx_cd122 : mx_CD 122 := mx_CDi 4 83 rfl
theorem mx_cd123 : mx_CD 123 := mx_CDi 4 94 rfl
theorem mx_cd124 : mx_CD 124 := mx_CDi 4 123 rfl
theorem mx_cd125 : mx_CD 125 := mx_CDi 4 127 rfl
theorem mx_cd126 : mx_CD 126 := mx_CDi 4 135 rfl
theorem mx_cd127 : mx_CD 127 := mx_CDi 4 152 rfl
theorem mx_cd128 : mx_CD 128 := mx_CDi 4 162 rfl
theorem mx_cd129 : mx_CD 129 := mx_CDi 4 166 rfl
theorem mx_cd130 : mx_CD 130 := mx_CDi 4 170 rfl
theorem mx_cd131 : mx_CD 131 := mx_CDi 4 177 rfl
theorem mx_cd132 : mx_CD 132 := mx_CDi 4 205 rfl
theorem mx_cd133 : mx_CD 133 := mx_CDi 4 213 rfl
theorem mx_cd134 : mx_CD 134 := mx_CDi 4 217 rfl
theorem mx_cd135 : mx_CD 135 := mx_CDi 4 229 rfl
theorem mx_cd136 : mx_CD 136 := mx_CDi 5 2 rfl
theorem mx_cd137 : mx_CD 137 := mx_CDi 5 34 rfl
theorem mx_cd138 : mx_CD 138 := mx_CDi 5 58 rfl
theorem mx_cd139 : mx_CD 139 := mx_CDi 5 69 rfl
theorem mx_cd140 : mx_CD 140 := mx_CDi 5 77 rfl
theorem mx_cd141 : mx_CD 141 := mx_CDi 5 104 rfl
theorem mx_cd142 : mx_CD 142 := mx_CDi 5 108 rfl
theorem mx_cd143 : mx_CD 143 := mx_CDi 5 119 rfl
theorem mx_cd144 : mx_CD 144 := mx_CDi 5 127 rfl
theorem mx_cd145 : mx_CD 145 := mx_CDi 5 136 rfl
theorem mx_cd146 : mx_CD 146 := mx_CDi 5 144 rfl
theorem mx_cd147 : mx_CD 147 := mx_CDi 5 152 rfl
theorem mx_cd148 : mx_CD 148 := mx_CDi 5 159 rfl
theorem mx_cd149 : mx_CD 149 := mx_CDi 5 185 rfl
theorem mx_cd150 : mx_CD 150 := mx_CDi 5 189 rfl
theorem mx_cd151 : mx_CD 151 := mx_CDi 5 197 rfl
theorem mx_cd152 : mx_CD 152 := mx_CDi 5 208 rfl
theorem mx_cd153 : mx_CD 153 := mx_CDi 5 223 rfl
theorem mx_cd154 : mx_CD 154 := mx_CDi 5 227 rfl
theorem mx_cd155 : mx_CD 155 := mx_CDi 5 238 rfl
theorem mx_cd156 : mx_CD 156 := mx_CDi 6 5 rfl
theorem mx_cd157 : mx_CD 157 := mx_CDi 3 15 rfl
theorem mx_cd158 : mx_CD 158 := mx_CDi 3 158 rfl
theorem mx_cd159 : mx_CD 159 := mx_CDi 4 180 rfl
theorem mx_cd160 : mx_CD 160 := mx_CDi 4 173 rfl
theorem mx_cd161 : mx_CD 161 := mx_CDi 5 5 rfl
theorem mx_cd162 : mx_CD 162 := mx_CDi 5 155 rfl
theorem mx_cd163 : mx_CD 163 := mx_CDi 5 163 rfl
theorem mx_cd164 : mx_CD 164 := mx_CDi 3 113 rfl
theorem mx_cd165 : mx_CD 165 := mx_CDi 3 213 rfl
theorem mx_cd166 : mx_CD 166 := mx_CDi 3 101 rfl
theorem mx_cd167 : mx_CD 167 := mx_CDi 4 71 rfl
theorem mx_cd168 : mx_CD 168 := mx_CDi 3 85 rfl
theorem mx_cd169 : mx_CD 169 := mx_CDi 3 89 rfl
theorem mx_cd170 : mx_CD 170 := mx_CDi 3 122 rfl
theorem mx_cd171 : mx_CD 171 := mx_CDi 5 123 rfl
theorem mx_cd172 : mx_CD 172 := mx_CDi 6 10 rfl
theorem mx_cd173 : mx_CD 173 := mx_CDi 7 62 rfl
theorem mx_cd174 : mx_CD 174 := mx_CDi 7 169 rfl
theorem mx_cd175 : mx_CD 175 := mx_CDi 7 184 rfl
theorem mx_cd176 : mx_CD 176 := mx_CDi 8 101 rfl
theorem mx_cd177 : mx_CD 177 := mx_CDi 7 129 rfl
theorem mx_cd178 : mx_CD 178 := mx_CDi 7 106 rfl
theorem mx_cd179 : mx_CD 179 := mx_CDi 7 113 rfl
theorem mx_cd180 : mx_CD 180 := mx_CDi 7 110 rfl
theorem mx_cd181 : mx_CD 181 := mx_CDi 7 117 rfl
theorem mx_cd182 : mx_CD 182 := mx_CDi 7 74 rfl
theorem mx_cd183 : mx_CD 183 := mx_CDi 7 134 rfl
theorem mx_cd184 : mx_CD 184 := mx_CDi 7 59 rfl
theorem mx_cd185 : mx_CD 185 := mx_CDi 7 78 rfl
theorem mx_cd186 : mx_CD 186 := mx_CDi 7 82 rfl
theorem mx_cd187 : mx_CD 187 := mx_CDi 7 86 rfl
theorem mx_cd188 : mx_CD 188 := mx_CDi 7 90 rfl
theorem mx_cd189 : mx_CD 189 := mx_CDi 7 102 rfl
theorem mx_cd190 : mx_CD 190 := mx_CDi 7 98 rfl
theorem mx_cd191 : mx_CD 191 := mx_CDi 7 94 rfl
theorem mx_cd192 : mx_CD 192 := mx_CDi 7 70 rfl
theorem mx_cd193 : mx_CD 193 := mx_CDi 7 121 rfl
theorem mx_cd194 : mx_CD 194 := mx_CDi 7 66 rfl
theorem mx_cd195 : mx_CD 195 := mx_CDi 7 138 rfl
theorem mx_cd196 : mx_CD 196 := mx_CDi 7 125 rfl
theorem mx_cd197 : mx_CD 197 := mx_CDi 7 142 rfl
theorem mx_cd198 : mx_CD 198 := mx_CDi 7 150 rfl
theorem mx_cd199 : mx_CD 199 := mx_CDi 7 158 rfl
theorem mx_cd200 : mx_CD 200 := mx_CDi 7 154 rfl
theorem mx_cd201 : mx_CD 201 := mx_CDi 7 146 rfl
theorem mx_cd202 : mx_CD 202 := mx_CDi 7 162 rfl
theorem mx_cd203 : mx_CD 203 := mx_CDi 7 166 rfl
theorem mx_cd204 : mx_CD 204 := mx_CDi 7 173 rfl
theorem mx_cd205 : mx_CD 205 := mx_CDi 7 177 rfl
theorem mx_cd206 : mx_CD 206 := mx_CDi 7 181 rfl
theorem mx_cd207 : mx_CD 207 := mx_CDi 7 198 rfl
theorem mx_cd208 : mx_CD 208 := mx_CDi 7 195 rfl
theorem mx_cd209 : mx_CD 209 := mx_CDi 7 210 rfl
theorem mx_cd210 : mx_CD 210 := mx_CDi 7 217 rfl
theorem mx_cd211 : mx_CD 211 := mx_CDi 7 213 rfl
theorem mx_cd212 : mx_CD 212 := mx_CDi 7 206 rfl
theorem mx_cd213 : mx_CD 213 := mx_CDi 7 202 rfl
theorem mx_cd214 : mx_CD 214 := mx_CDi 7 221 rfl
theorem mx_cd215 : mx_CD 215 := mx_CDi 7 191 rfl
theorem mx_cd216 : mx_CD 216 := mx_CDi 7 188 rfl
theorem mx_cd217 : mx_CD 217 := mx_CDi 7 225 rfl
theorem mx_cd218 : mx_CD 218 := mx_CDi 7 238 rfl
theorem mx_cd219 : mx_CD 219 := mx_CDi 8 2 rfl
theorem mx_cd220 : mx_CD 220 := mx_CDi 7 234 rfl
theorem mx_cd221 : mx_CD 221 := mx_CDi 7 230 rfl
theorem mx_cd222 : mx_CD 222 := mx_CDi 8 6 rfl
theorem mx_cd223 : mx_CD 223 := mx_CDi 8 10 rfl
theorem mx_cd224 : mx_CD 224 := mx_CDi 8 14 rfl
theorem mx_cd225 : mx_CD 225 := mx_CDi 8 22 rfl
theorem mx_cd226 : mx_CD 226 := mx_CDi 8 18 rfl
theorem mx_cd227 : mx_CD 227 := mx_CDi 8 38 rfl
theorem mx_cd228 : mx_CD 228 := mx_CDi 8 42 rfl
theorem mx_cd229 : mx_CD 229 := mx_CDi 8 34 rfl
theorem mx_cd230 : mx_CD 230 := mx_CDi 8 30 rfl
theorem mx_cd231 : mx_CD 231 := mx_CDi 8 26 rfl
theorem mx_cd232 : mx_CD 232 := mx_CDi 8 46 rfl
theorem mx_cd233 : mx_CD 233 := mx_CDi 8 54 rfl
theorem mx_cd234 : mx_CD 234 := mx_CDi 8 50 rfl
theorem mx_cd235 : mx_CD 235 := mx_CDi 8 70 rfl
theorem mx_cd236 : mx_CD 236 := mx_CDi 8 66 rfl
theorem mx_cd237 : mx_CD 237 := mx_CDi 8 62 rfl
theorem mx_cd238 : mx_CD 238 := mx_CDi 8 58 rfl
theorem mx_cd239 : mx_CD 239 := mx_CDi 8 74 rfl
theorem mx_cd240 : mx_CD 240 := mx_CDi 8 78 rfl
theorem mx_cd241 : mx_CD 241 := mx_CDi 8 86 rfl
theorem mx_cd242 : mx_CD 242 := mx_CDi 8 82 rfl
theorem mx_cd243 : mx_CD 243 := mx_CDi 8 98 rfl
theorem mx_cd244 : mx_CD 244 := mx_CDi 8 105 rfl
theorem mx_cd245 : mx_CD 245 := mx_CDi 8 94 rfl
theorem mx_cd246 : mx_CD 246 := mx_CDi 8 90 rfl
theorem mx_cd247 : mx_CD 247 := mx_CDi 8 109 rfl
theorem mx_cd248 : mx_CD 248 := mx_CDi 8 113 rfl
theorem mx_cd249 : mx_CD 249 := mx_CDi 8 117 rfl
theorem mx_cd250 : mx_CD 250 := mx_CDi 8 129 rfl
theorem mx_cd251 : mx_CD 251 := mx_CDi 8 125 rfl
theorem mx_cd252 : mx_CD 252 := mx_CDi 8 121 rfl
theorem mx_cd253 : mx_CD 253 := mx_CDi 8 133 rfl
theorem mx_cd254 : mx_CD 254 := mx_CDi 8 137 rfl
theorem mx_cd255 : mx_CD 255 := mx_CDi 8 144 rfl
theorem mx_cd256 : mx_CD 256 := mx_CDi 8 141 rfl
theorem mx_cd257 : mx_CD 257 := mx_CDi 8 152 rfl
theorem mx_cd258 : mx_CD 258 := mx_CDi 8 156 rfl
theorem mx_cd259 : mx_CD 259 := mx_CDi 8 148 rfl
theorem mx_cd260 : mx_CD 260 := mx_CDi 8 160 rfl
theorem mx_cd261 : mx_CD 261 := mx_CDi 8 164 rfl
theorem mx_cd262 : mx_CD 262 := mx_CDi 8 168 rfl
theorem mx_cd263 : mx_CD 263 := mx_CDi 8 172 rfl
theorem mx_cd264 : mx_CD 264 := mx_CDi 8 183 rfl
theorem mx_cd265 : mx_CD 265 := mx_CDi 8 186 rfl
theorem mx_cd266 : mx_CD 266 := mx_CDi 8 176 rfl
theorem mx_cd267 : mx_CD 267 := mx_CDi 8 203 rfl
theorem mx_cd268 : mx_CD 268 := mx_CDi 8 207 rfl
theorem mx_cd269 : mx_CD 269 := mx_CDi 8 199 rfl
theorem mx_cd270 : mx_CD 270 := mx_CDi 8 195 rfl
theorem mx_cd271 : mx_CD 271 := mx_CDi 8 191 rfl
theorem mx_cd272 : mx_CD 272 := mx_CDi 8 214 rfl
theorem mx_cd273 : mx_CD 273 := mx_CDi 8 218 rfl
theorem mx_cd274 : mx_CD 274 := mx_CDi 8 222 rfl
theorem mx_cd275 : mx_CD 275 := mx_CDi 8 230 rfl
theorem mx_cd276 : mx_CD 276 := mx_CDi 8 234 rfl
theorem mx_cd277 : mx_CD 277 := mx_CDi 8 226 rfl
theorem mx_cd278 : mx_CD 278 := mx_CDi 9 6 rfl
theorem mx_cd279 : mx_CD 279 := mx_CDi 9 2 rfl
theorem mx_cd280 : mx_CD 280 := mx_CDi 8 238 rfl
theorem mx_cd281 : mx_CD 281 := mx_CDi 9 14 rfl
theorem mx_cd282 : mx_CD 282 := mx_CDi 9 10 rfl
theorem mx_cd283 : mx_CD 283 := mx_CDi 9 26 rfl
theorem mx_cd284 : mx_CD 284 := mx_CDi 9 33 rfl
theorem mx_cd285 : mx_CD 285 := mx_CDi 9 18 rfl
theorem mx_cd286 : mx_CD 286 := mx_CDi 9 37 rfl
theorem mx_cd287 : mx_CD 287 := mx_CDi 9 45 rfl
theorem mx_cd288 : mx_CD 288 := mx_CDi 9 41 rfl
theorem mx_cd289 : mx_CD 289 := mx_CDi 9 30 rfl
theorem mx_cd290 : mx_CD 290 := mx_CDi 9 53 rfl
theorem mx_cd291 : mx_CD 291 := mx_CDi 9 49 rfl
theorem mx_cd292 : mx_CD 292 := mx_CDi 9 61 rfl
theorem mx_cd293 : mx_CD 293 := mx_CDi 9 57 rfl
theorem mx_cd294 : mx_CD 294 := mx_CDi 9 73 rfl
theorem mx_cd295 : mx_CD 295 := mx_CDi 9 69 rfl
theorem mx_cd296 : mx_CD 296 := mx_CDi 9 65 rfl
theorem mx_cd297 : mx_CD 297 := mx_CDi 9 22 rfl
theorem mx_cd298 : mx_CD 298 := mx_CDi 9 77 rfl
theorem mx_cd299 : mx_CD 299 := mx_CDi 9 81 rfl
theorem mx_cd300 : mx_CD 300 := mx_CDi 8 179 rfl
theorem mx_cd301 : mx_CD 301 := mx_CDi 9 85 rfl
theorem mx_cd302 : mx_CD 302 := mx_CDi 9 89 rfl
theorem mx_cd303 : mx_CD 303 := mx_CDi 9 97 rfl
theorem mx_cd304 : mx_CD 304 := mx_CDi 9 93 rfl
theorem mx_cd305 : mx_CD 305 := mx_CDi 9 101 rfl
theorem mx_cd306 : mx_CD 306 := mx_CDi 9 105 rfl
theorem mx_cd307 : mx_CD 307 := mx_CDi 9 109 rfl
theorem mx_cd308 : mx_CD 308 := mx_CDi 5 48 rfl
theorem mx_cd309 : mx_CD 309 := mx_CDi 5 93 rfl
theorem mx_cd316 : mx_CD 316 := mx_CDi 5 204 rfl
theorem mx_cd317 : mx_CD 317 := mx_CDi 3 34 rfl
theorem mx_cds0 : ∀ i ∈ ([1, 2, 3, 4, 5, 6, 7, 8, 9, 10, 11, 12, 13, 14, 15, 16, 17, 18, 19, 20, 21, 22, 23, 24, 25, 26, 27, 28, 29, 30, 31, 32, 33, 34, 35, 36, 37, 38, 39] : List Nat), mx_CD i := (List.forall_mem_cons.mpr ⟨mx_cd1, (List.forall_mem_cons.mpr ⟨mx_cd2, (List.forall_mem_cons.mpr ⟨mx_cd3, (List.forall_mem_cons.mpr ⟨mx_cd4, (List.forall_mem_cons.mpr ⟨mx_cd5, (List.forall_mem_cons.mpr ⟨mx_cd6, (List.forall_mem_cons.mpr ⟨mx_cd7, (List.forall_mem_cons.mpr ⟨mx_cd8, (List.forall_mem_cons.mpr ⟨mx_cd9, (List.forall_mem_cons.mpr ⟨mx_cd10, (List.forall_mem_cons.mpr ⟨mx_cd11, (List.forall_mem_cons.mpr ⟨mx_cd12, (List.forall_mem_cons.mpr ⟨mx_cd13, (List.forall_mem_cons.mpr ⟨mx_cd14, (List.forall_mem_cons.mpr ⟨mx_cd15, (List.forall_mem_cons.mpr ⟨mx_cd16, (List.forall_mem_cons.mpr ⟨mx_cd17, (List.forall_mem_cons.mpr ⟨mx_cd18, (List.forall_mem_cons.mpr ⟨mx_cd19, (List.forall_mem_cons.mpr ⟨mx_cd20, (List.forall_mem_cons.mpr ⟨mx_cd21, (List.forall_mem_cons.mpr ⟨mx_cd22, (List.forall_mem_cons.mpr ⟨mx_cd23, (List.forall_mem_cons.mpr ⟨mx_cd24, (List.forall_mem_cons.mpr ⟨mx_cd25, (List.forall_mem_cons.mpr ⟨mx_cd26, (List.forall_mem_cons.mpr ⟨mx_cd27, (List.forall_mem_cons.mpr ⟨mx_cd28, (List.forall_mem_cons.mpr ⟨mx_cd29, (List.forall_mem_cons.mpr ⟨mx_cd30, (List.forall_mem_cons.mpr ⟨mx_cd31, (List.forall_mem_cons.mpr ⟨mx_cd32, (List.forall_mem_cons.mpr ⟨mx_cd33, (List.forall_mem_cons.mpr ⟨mx_cd34, (List.forall_mem_cons.mpr ⟨mx_cd35, (List.forall_mem_cons.mpr ⟨mx_cd36, (List.forall_mem_cons.mpr ⟨mx_cd37, (List.forall_mem_cons.mpr ⟨mx_cd38, (List.forall_mem_cons.mpr ⟨mx_cd39, (fun _ h => absurd h List.not_mem_nil)⟩)⟩)⟩)⟩)⟩)⟩)⟩)⟩)⟩)⟩)⟩)⟩)⟩)⟩)⟩)⟩)⟩)⟩)⟩)⟩)⟩)⟩)⟩)⟩)⟩)⟩)⟩)⟩)⟩)⟩)⟩)⟩)⟩)⟩)⟩)⟩)⟩)⟩)⟩)
theorem mx_MKa0 : ∀ i, i < 40 → mx_iM (0 + i) = true → mx_MKc (0 + i) (mx_pM (0 + i)).2 = true ∧ (0 + i) ∈ ([1, 2, 3, 4, 5, 6, 7, 8, 9, 10, 11, 12, 13, 14, 15, 16, 17, 18, 19, 20, 21, 22, 23, 24, 25, 26, 27, 28, 29, 30, 31, 32, 33, 34, 35, 36, 37, 38, 39] : List Nat) := by decide +kernel
theorem mx_cds40 : ∀ i ∈ ([40, 41, 42, 43, 44, 45, 46, 47, 48, 49, 50, 51, 52, 53, 54, 55, 56, 57, 58, 59, 60, 61, 62, 63, 64, 65, 66, 67, 68, 69, 70, 71, 72, 73, 74, 75, 76, 77, 78, 79] : List Nat), mx_CD i := (List.forall_mem_cons.mpr ⟨mx_cd40, (List.forall_mem_cons.mpr ⟨mx_cd41, (List.forall_mem_cons.mpr ⟨mx_cd42, (List.forall_mem_cons.mpr ⟨mx_cd43, (List.forall_mem_cons.mpr ⟨mx_cd44, (List.forall_mem_cons.mpr ⟨mx_cd45, (List.forall_mem_cons.mpr ⟨mx_cd46, (List.forall_mem_cons.mpr ⟨mx_cd47, (List.forall_mem_cons.mpr ⟨mx_cd48, (List.forall_mem_cons.mpr ⟨mx_cd49, (List.forall_mem_cons.mpr ⟨mx_cd50, (List.forall_mem_cons.mpr ⟨mx_cd51, (List.forall_mem_cons.mpr ⟨mx_cd52, (List.forall_mem_cons.mpr ⟨mx_cd53, (List.forall_mem_cons.mpr ⟨mx_cd54, (List.forall_mem_cons.mpr ⟨mx_cd55, (List.forall_mem_cons.mpr ⟨mx_cd56, (List.forall_mem_cons.mpr ⟨mx_cd57, (List.forall_mem_cons.mpr ⟨mx_cd58, (List.forall_mem_cons.mpr ⟨mx_cd59, (List.forall_mem_cons.mpr ⟨mx_cd60, (List.forall_mem_cons.mpr ⟨mx_cd61, (List.forall_mem_cons.mpr ⟨mx_cd62, (List.forall_mem_cons.mpr ⟨mx_cd63, (List.forall_mem_cons.mpr ⟨mx_cd64, (List.forall_mem_cons.mpr ⟨mx_cd65, (List.forall_mem_cons.mpr ⟨mx_cd66, (List.forall_mem_cons.mpr ⟨mx_cd67, (List.forall_mem_cons.mpr ⟨mx_cd68, (List.forall_mem_cons.mpr ⟨mx_cd69, (List.forall_mem_cons.mpr ⟨mx_cd70, (List.forall_mem_cons.mpr ⟨mx_cd71, (List.forall_mem_cons.mpr ⟨mx_cd72, (List.forall_mem_cons.mpr ⟨mx_cd73, (List.forall_mem_cons.mpr ⟨mx_cd74, (List.forall_mem_cons.mpr ⟨mx_cd75, (List.forall_mem_cons.mpr ⟨mx_cd76, (List.forall_mem_cons.mpr ⟨mx_cd77, (List.forall_mem_cons.mpr ⟨mx_cd78, (List.forall_mem_cons.mpr ⟨mx_cd79, (fun _ h => absurd h List.not_mem_nil)⟩)⟩)⟩)⟩)⟩)⟩)⟩)⟩)⟩)⟩)⟩)⟩)⟩)⟩)⟩)⟩)⟩)⟩)⟩)⟩)⟩)⟩)⟩)⟩)⟩)⟩)⟩)⟩)⟩)⟩)⟩)⟩)⟩)⟩)⟩)⟩)⟩)⟩)⟩)⟩)
theorem mx_MKa40 : ∀ i, i < 40 → mx_iM (40 + i) = true → mx_MKc (40 + i) (mx_pM (40 + i)).2 = true ∧ (40 + i) ∈ ([40, 41, 42, 43, 44, 45, 46, 47, 48, 49, 50, 51, 52, 53, 54, 55, 56, 57, 58, 59, 60, 61, 62, 63, 64, 65, 66, 67, 68, 69, 70, 71, 72, 73, 74, 75, 76, 77, 78, 79] : List Nat) := by decide +kernel
theorem mx_cds80 : ∀ i ∈ ([80, 81, 82, 83, 84, 85, 86, 87, 88, 89, 90, 91, 92, 93, 94, 95, 96, 97, 98, 99, 100, 101, 102, 103, 104, 105, 106, 107, 108, 109, 110, 111, 112, 113, 114, 115, 116, 117, 118, 119] : List Nat), mx_CD i := (List.forall_mem_cons.mpr ⟨mx_cd80, (List.forall_mem_cons.mpr ⟨mx_cd81, (List.forall_mem_cons.mpr ⟨mx_cd82, (List.forall_mem_cons.mpr ⟨mx_cd83, (List.forall_mem_cons.mpr ⟨mx_cd84, (List.forall_mem_cons.mpr ⟨mx_cd85, (List.forall_mem_cons.mpr ⟨mx_cd86, (List.forall_mem_cons.mpr ⟨mx_cd87, (List.forall_mem_cons.mpr ⟨mx_cd88, (List.forall_mem_cons.mpr ⟨mx_cd89, (List.forall_mem_cons.mpr ⟨mx_cd90, (List.forall_mem_cons.mpr ⟨mx_cd91, (List.forall_mem_cons.mpr ⟨mx_cd92, (List.forall_mem_cons.mpr ⟨mx_cd93, (List.forall_mem_cons.mpr ⟨mx_cd94, (List.forall_mem_cons.mpr ⟨mx_cd95, (List.forall_mem_cons.mpr ⟨mx_cd96, (List.forall_mem_cons.mpr ⟨mx_cd97, (List.forall_mem_cons.mpr ⟨mx_cd98, (List.forall_mem_cons.mpr ⟨mx_cd99, (List.forall_mem_cons.mpr ⟨mx_cd100, (List.forall_mem_cons.mpr ⟨mx_cd101, (List.forall_mem_cons.mpr ⟨mx_cd102, (List.forall_mem_cons.mpr ⟨mx_cd103, (List.forall_mem_cons.mpr ⟨mx_cd104, (List.forall_mem_cons.mpr ⟨mx_cd105, (List.forall_mem_cons.mpr ⟨mx_cd106, (List.forall_mem_cons.mpr ⟨mx_cd107, (List.forall_mem_cons.mpr ⟨mx_cd108, (List.forall_mem_cons.mpr ⟨mx_cd109, (List.forall_mem_cons.mpr ⟨mx_cd110, (List.forall_mem_cons.mpr ⟨mx_cd111, (List.forall_mem_cons.mpr ⟨mx_cd112, (List.forall_mem_cons.mpr ⟨mx_cd113, (List.forall_mem_cons.mpr ⟨mx_cd114, (List.forall_mem_cons.mpr ⟨mx_cd115, (List.forall_mem_cons.mpr ⟨mx_cd116, (List.forall_mem_cons.mpr ⟨mx_cd117, (List.forall_mem_cons.mpr ⟨mx_cd118, (List.forall_mem_cons.mpr ⟨mx_cd119, (fun _ h => absurd h List.not_mem_nil)⟩)⟩)⟩)⟩)⟩)⟩)⟩)⟩)⟩)⟩)⟩)⟩)⟩)⟩)⟩)⟩)⟩)⟩)⟩)⟩)⟩)⟩)⟩)⟩)⟩)⟩)⟩)⟩)⟩)⟩)⟩)⟩)⟩)⟩)⟩)⟩)⟩)⟩)⟩)⟩)
theorem mx_MKa80 : ∀ i, i < 40 → mx_iM (80 + i) = true → mx_MKc (80 + i) (mx_pM (80 + i)).2 = true ∧ (80 + i) ∈ ([80, 81, 82, 83, 84, 85, 86, 87, 88, 89, 90, 91, 92, 93, 94, 95, 96, 97, 98, 99, 100, 101, 102, 103, 104, 105, 106, 107, 108, 109, 110, 111, 112, 113, 114, 115, 116, 117, 118, 119] : List Nat) := by decide +kernel
theorem mx_cds120 : ∀ i ∈ ([120, 121, 122, 123, 124, 125, 126, 127, 128, 129, 130, 131, 132, 133, 134, 135, 136, 137, 138, 139, 140, 141, 142, 143, 144, 145, 146, 147, 148, 149, 150, 151, 152, 153, 154, 155, 156, 157, 158, 159] : List Nat), mx_CD i := (List.forall_mem_cons.mpr ⟨mx_cd120, (List.forall_mem_cons.mpr ⟨mx_cd121, (List.forall_mem_cons.mpr ⟨mx_cd122, (List.forall_mem_cons.mpr ⟨mx_cd123, (List.forall_mem_cons.mpr ⟨mx_cd124, (List.forall_mem_cons.mpr ⟨mx_cd125, (List.forall_mem_cons.mpr ⟨mx_cd126, (List.forall_mem_cons.mpr ⟨mx_cd127, (List.forall_mem_cons.mpr ⟨mx_cd128, (List.forall_mem_cons.mpr ⟨mx_cd129, (List.forall_mem_cons.mpr ⟨mx_cd130, (List.forall_mem_cons.mpr ⟨mx_cd131, (List.forall_mem_cons.mpr ⟨mx_cd132, (List.forall_mem_cons.mpr ⟨mx_cd133, (List.forall_mem_cons.mpr ⟨mx_cd134, (List.forall_mem_cons.mpr ⟨mx_cd135, (List.forall_mem_cons.mpr ⟨mx_cd136, (List.forall_mem_cons.mpr ⟨mx_cd137, (List.forall_mem_cons.mpr ⟨mx_cd138, (List.forall_mem_cons.mpr ⟨mx_cd139, (List.forall_mem_cons.mpr ⟨mx_cd140, (List.forall_mem_cons.mpr ⟨mx_cd141, (List.forall_mem_cons.mpr ⟨mx_cd142, (List.forall_mem_cons.mpr ⟨mx_cd143, (List.forall_mem_cons.mpr ⟨mx_cd144, (List.forall_mem_cons.mpr ⟨mx_cd145, (List.forall_mem_cons.mpr ⟨mx_cd146, (List.forall_mem_cons.mpr ⟨mx_cd147, (List.forall_mem_cons.mpr ⟨mx_cd148, (List.forall_mem_cons.mpr ⟨mx_cd149, (List.forall_mem_cons.mpr ⟨mx_cd150, (List.forall_mem_cons.mpr ⟨mx_cd151, (List.forall_mem_cons.mpr ⟨mx_cd152, (List.forall_mem_cons.mpr ⟨mx_cd153, (List.forall_mem_cons.mpr ⟨mx_cd154, (List.forall_mem_cons.mpr ⟨mx_cd155, (List.forall_mem_cons.mpr ⟨mx_cd156, (List.forall_mem_cons.mpr ⟨mx_cd157, (List.forall_mem_cons.mpr ⟨mx_cd158, (List.forall_mem_cons.mpr ⟨mx_cd159, (fun _ h => absurd h List.not_mem_nil)⟩)⟩)⟩)⟩)⟩)⟩)⟩)⟩)⟩)⟩)⟩)⟩)⟩)⟩)⟩)⟩)⟩)⟩)⟩)⟩)⟩)⟩)⟩)⟩)⟩)⟩)⟩)⟩)⟩)⟩)⟩)⟩)⟩)⟩)⟩)⟩)⟩)⟩)⟩)⟩)
theorem mx_MKa120 : ∀ i, i < 40 → mx_iM (120 + i) = true → mx_MKc (120 + i) (mx_pM (120 + i)).2 = true ∧ (120 + i) ∈ ([120, 121, 122, 123, 124, 125, 126, 127, 128, 129, 130, 131, 132, 133, 134, 135, 136, 137, 138, 139, 140, 141, 142, 143, 144, 145, 146, 147, 148, 149, 150, 151, 152, 153, 154, 155, 156, 157, 158, 159] : List Nat) := by decide +kernel
theorem mx_cds160 : ∀ i ∈ ([160, 161, 162, 163, 164, 165, 166, 167, 168, 169, 170, 171, 172, 173, 174, 175, 176, 177, 178, 179, 180, 181, 182, 183, 184, 185, 186, 187, 188, 189, 190, 191, 192, 193, 194, 195, 196, 197, 198, 199] : List Nat), mx_CD i := (List.forall_mem_cons.mpr ⟨mx_cd160, (List.forall_mem_cons.mpr ⟨mx_cd161, (List.forall_mem_cons.mpr ⟨mx_cd162, (List.forall_mem_cons.mpr ⟨mx_cd163, (List.forall_mem_cons.mpr ⟨mx_cd164, (List.forall_mem_cons.mpr ⟨mx_cd165, (List.forall_mem_cons.mpr ⟨mx_cd166, (List.forall_mem_cons.mpr ⟨mx_cd167, (List.forall_mem_cons.mpr ⟨mx_cd168, (List.forall_mem_cons.mpr ⟨mx_cd169, (List.forall_mem_cons.mpr ⟨mx_cd170, (List.forall_mem_cons.mpr ⟨mx_cd171, (List.forall_mem_cons.mpr ⟨mx_cd172, (List.forall_mem_cons.mpr ⟨mx_cd173, (List.forall_mem_cons.mpr ⟨mx_cd174, (List.forall_mem_cons.mpr ⟨mx_cd175, (List.forall_mem_cons.mpr ⟨mx_cd176, (List.forall_mem_cons.mpr ⟨mx_cd177, (List.forall_mem_cons.mpr ⟨mx_cd178, (List.forall_mem_cons.mpr ⟨mx_cd179, (List.forall_mem_cons.mpr ⟨mx_cd180, (List.forall_mem_cons.mpr ⟨mx_cd181, (List.forall_mem_cons.mpr ⟨mx_cd182, (List.forall_mem_cons.mpr ⟨mx_cd183, (List.forall_mem_cons.mpr ⟨mx_cd184, (List.forall_mem_cons.mpr ⟨mx_cd185, (List.forall_mem_cons.mpr ⟨mx_cd186, (List.forall_mem_cons.mpr ⟨mx_cd187, (List.forall_mem_cons.mpr ⟨mx_cd188, (List.forall_mem_cons.mpr ⟨mx_cd189, (List.forall_mem_cons.mpr ⟨mx_cd190, (List.forall_mem_cons.mpr ⟨mx_cd191, (List.forall_mem_cons.mpr ⟨mx_cd192, (List.forall_mem_cons.mpr ⟨mx_cd193, (List.forall_mem_cons.mpr ⟨mx_cd194, (List.forall_mem_cons.mpr ⟨mx_cd195, (List.forall_mem_cons.mpr ⟨mx_cd196, (List.forall_mem_cons.mpr ⟨mx_cd197, (List.forall_mem_cons.mpr ⟨mx_cd198, (List.forall_mem_cons.mpr ⟨mx_cd199, (fun _ h => absurd h List.not_mem_nil)⟩)⟩)⟩)⟩)⟩)⟩)⟩)⟩)⟩)⟩)⟩)⟩)⟩)⟩)⟩)⟩)⟩)⟩)⟩)⟩)⟩)⟩)⟩)⟩)⟩)⟩)⟩)⟩)⟩)⟩)⟩)⟩)⟩)⟩)⟩)⟩)⟩)⟩)⟩)⟩)
theorem mx_MKa160 : ∀ i, i < 40 → mx_iM (160 + i) = true → mx_MKc (160 + i) (mx_pM (160 + i)).2 = true ∧ (160 + i) ∈ ([160, 161, 162, 163, 164, 165, 166, 167, 168, 169, 170, 171, 172, 173, 174, 175, 176, 177, 178, 179, 180, 181, 182, 183, 184, 185, 186, 187, 188, 189, 190, 191, 192, 193, 194, 195, 196, 197, 198, 199] : List Nat) := by decide +kernel
theorem mx_cds200 : ∀ i ∈ ([200, 201, 202, 203, 204, 205, 206, 207, 208, 209, 210, 211, 212, 213, 214, 215, 216, 217, 218, 219, 220, 221, 222, 223, 224, 225, 226, 227, 228, 229, 230, 231, 232, 233, 234, 235, 236, 237, 238, 239] : List Nat), mx_CD i := (List.forall_mem_cons.mpr ⟨mx_cd200, (List.forall_mem_cons.mpr ⟨mx_cd201, (List.forall_mem_cons.mpr ⟨mx_cd202, (List.forall_mem_cons.mpr ⟨mx_cd203, (List.forall_mem_cons.mpr ⟨mx_cd204, (List.forall_mem_cons.mpr ⟨mx_cd205, (List.forall_mem_cons.mpr ⟨mx_cd206, (List.forall_mem_cons.mpr ⟨mx_cd207, (List.forall_mem_cons.mpr ⟨mx_cd208, (List.forall_mem_cons.mpr ⟨mx_cd209, (List.forall_mem_cons.mpr ⟨mx_cd210, (List.forall_mem_cons.mpr ⟨mx_cd211, (List.forall_mem_cons.mpr ⟨mx_cd212, (List.forall_mem_cons.mpr ⟨mx_cd213, (List.forall_mem_cons.mpr ⟨mx_cd214, (List.forall_mem_cons.mpr ⟨mx_cd215, (List.forall_mem_cons.mpr ⟨mx_cd216, (List.forall_mem_cons.mpr ⟨mx_cd217, (List.forall_mem_cons.mpr ⟨mx_cd218, (List.forall_mem_cons.mpr ⟨mx_cd219, (List.forall_mem_cons.mpr ⟨mx_cd220, (List.forall_mem_cons.mpr ⟨mx_cd221, (List.forall_mem_cons.mpr ⟨mx_cd222, (List.forall_mem_cons.mpr ⟨mx_cd223, (List.forall_mem_cons.mpr ⟨mx_cd224, (List.forall_mem_cons.mpr ⟨mx_cd225, (List.forall_mem_cons.mpr ⟨mx_cd226, (List.forall_mem_cons.mpr ⟨mx_cd227, (List.forall_mem_cons.mpr ⟨mx_cd228, (List.forall_mem_cons.mpr ⟨mx_cd229, (List.forall_mem_cons.mpr ⟨mx_cd230, (List.forall_mem_cons.mpr ⟨mx_cd231, (List.forall_mem_cons.mpr ⟨mx_cd232, (List.forall_mem_cons.mpr ⟨mx_cd233, (List.forall_mem_cons.mpr ⟨mx_cd234, (List.forall_mem_cons.mpr ⟨mx_cd235, (List.forall_mem_cons.mpr ⟨mx_cd236, (List.forall_mem_cons.mpr ⟨mx_cd237, (List.forall_mem_cons.mpr ⟨mx_cd238, (List.forall_mem_cons.mpr ⟨mx_cd239, (fun _ h => absurd h List.not_mem_nil)⟩)⟩)⟩)⟩)⟩)⟩)⟩)⟩)⟩)⟩)⟩)⟩)⟩)⟩)⟩)⟩)⟩)⟩)⟩)⟩)⟩)⟩)⟩)⟩)⟩)⟩)⟩)⟩)⟩)⟩)⟩)⟩)⟩)⟩)⟩)⟩)⟩)⟩)⟩)⟩)
theorem mx_MKa200 : ∀ i, i < 40 → mx_iM (200 + i) = true → mx_MKc (200 + i) (mx_pM (200 + i)).2 = true ∧ (200 + i) ∈ ([200, 201, 202, 203, 204, 205, 206, 207, 208, 209, 210, 211, 212, 213, 214, 215, 216, 217, 218, 219, 220, 221, 222, 223, 224, 225, 226, 227, 228, 229, 230, 231, 232, 233, 234, 235, 236, 237, 238, 239] : List Nat) := by decide +kernel
theorem mx_cds240 : ∀ i ∈ ([240, 241, 242, 243, 244, 245, 246, 247, 248, 249, 250, 251, 252, 253, 254, 255, 256, 257, 258, 259, 260, 261, 262, 263, 264, 265, 266, 267, 268, 269, 270, 271, 272, 273, 274, 275, 276, 277, 278, 279] : List Nat), mx_CD i := (List.forall_mem_cons.mpr ⟨mx_cd240, (List.forall_mem_cons.mpr ⟨mx_cd241, (List.forall_mem_cons.mpr ⟨mx_cd242, (List.forall_mem_cons.mpr ⟨mx_cd243, (List.forall_mem_cons.mpr ⟨mx_cd244, (List.forall_mem_cons.mpr ⟨mx_cd245, (List.forall_mem_cons.mpr ⟨mx_cd246, (List.forall_mem_cons.mpr ⟨mx_cd247, (List.forall_mem_cons.mpr ⟨mx_cd248, (List.forall_mem_cons.mpr ⟨mx_cd249, (List.forall_mem_cons.mpr ⟨mx_cd250, (List.forall_mem_cons.mpr ⟨mx_cd251, (List.forall_mem_cons.mpr ⟨mx_cd252, (List.forall_mem_cons.mpr ⟨mx_cd253, (List.forall_mem_cons.mpr ⟨mx_cd254, (List.forall_mem_cons.mpr ⟨mx_cd255, (List.forall_mem_cons.mpr ⟨mx_cd256, (List.forall_mem_cons.mpr ⟨mx_cd257, (List.forall_mem_cons.mpr ⟨mx_cd258, (List.forall_mem_cons.mpr ⟨mx_cd259, (List.forall_mem_cons.mpr ⟨mx_cd260, (List.forall_mem_cons.mpr ⟨mx_cd261, (List.forall_mem_cons.mpr ⟨mx_cd262, (List.forall_mem_cons.mpr ⟨mx_cd263, (List.forall_mem_cons.mpr ⟨mx_cd264, (List.forall_mem_cons.mpr ⟨mx_cd265, (List.forall_mem_cons.mpr ⟨mx_cd266, (List.forall_mem_cons.mpr ⟨mx_cd267, (List.forall_mem_cons.mpr ⟨mx_cd268, (List.forall_mem_cons.mpr ⟨mx_cd269, (List.forall_mem_cons.mpr ⟨mx_cd270, (List.forall_mem_cons.mpr ⟨mx_cd271, (List.forall_mem_cons.mpr ⟨mx_cd272, (List.forall_mem_cons.mpr ⟨mx_cd273, (List.forall_mem_cons.mpr ⟨mx_cd274, (List.forall_mem_cons.mpr ⟨mx_cd275, (List.forall_mem_cons.mpr ⟨mx_cd276, (List.forall_mem_cons.mpr ⟨mx_cd277, (List.forall_mem_cons.mpr ⟨mx_cd278, (List.forall_mem_cons.mpr ⟨mx_cd279, (fun _ h => absurd h List.not_mem_nil)⟩)⟩)⟩)⟩)⟩)⟩)⟩)⟩)⟩)⟩)⟩)⟩)⟩)⟩)⟩)⟩)⟩)⟩)⟩)⟩)⟩)⟩)⟩)⟩)⟩)⟩)⟩)⟩)⟩)⟩)⟩)⟩)⟩)⟩)⟩)⟩)⟩)⟩)⟩)⟩)
theorem mx_MKa240 : ∀ i, i < 40 → mx_iM (240 + i) = true → mx_MKc (240 + i) (mx_pM (240 + i)).2 = true ∧ (240 + i) ∈ ([240, 241, 242, 243, 244, 245, 246, 247, 248, 249, 250, 251, 252, 253, 254, 255, 256, 257, 258, 259, 260, 261, 262, 263, 264, 265, 266, 267, 268, 269, 270, 271, 272, 273, 274, 275, 276, 277, 278, 279] : List Nat) := by decide +kernel
theorem mx_cds280 : ∀ i ∈ ([280, 281, 282, 283, 284, 285, 286, 287, 288, 289, 290, 291, 292, 293, 294, 295, 296, 297, 298, 299, 300, 301, 302, 303, 304, 305, 306, 307, 308, 309, 316, 317] : List Nat), mx_CD i := (List.forall_mem_cons.mpr ⟨mx_cd280, (List.forall_mem_cons.mpr ⟨mx_cd281, (List.forall_mem_cons.mpr ⟨mx_cd282, (List.forall_mem_cons.mpr ⟨mx_cd283, (List.forall_mem_cons.mpr ⟨mx_cd284, (List.forall_mem_cons.mpr ⟨mx_cd285, (List.forall_mem_cons.mpr ⟨mx_cd286, (List.forall_mem_cons.mpr ⟨mx_cd287, (List.forall_mem_cons.mpr ⟨mx_cd288, (List.forall_mem_cons.mpr ⟨mx_cd289, (List.forall_mem_cons.mpr ⟨mx_cd290, (List.forall_mem_cons.mpr ⟨mx_cd291, (List.forall_mem_cons.mpr ⟨mx_cd292, (List.forall_mem_cons.mpr ⟨mx_cd293, (List.forall_mem_cons.mpr ⟨mx_cd294, (List.forall_mem_cons.mpr ⟨mx_cd295, (List.forall_mem_cons.mpr ⟨mx_cd296, (List.forall_mem_cons.mpr ⟨mx_cd297, (List.forall_mem_cons.mpr ⟨mx_cd298, (List.forall_mem_cons.mpr ⟨mx_cd299, (List.forall_mem_cons.mpr ⟨mx_cd300, (List.forall_mem_cons.mpr ⟨mx_cd301, (List.forall_mem_cons.mpr ⟨mx_cd302, (List.forall_mem_cons.mpr ⟨mx_cd303, (List.forall_mem_cons.mpr ⟨mx_cd304, (List.forall_mem_cons.mpr ⟨mx_cd305, (List.forall_mem_cons.mpr ⟨mx_cd306, (List.forall_mem_cons.mpr ⟨mx_cd307, (List.forall_mem_cons.mpr ⟨mx_cd308, (List.forall_mem_cons.mpr ⟨mx_cd309, (List.forall_mem_cons.mpr ⟨mx_cd316, (List.forall_mem_cons.mpr ⟨mx_cd317, (fun _ h => absurd h List.not_mem_nil)⟩)⟩)⟩)⟩)⟩)⟩)⟩)⟩)⟩)⟩)⟩)⟩)⟩)⟩)⟩)⟩)⟩)⟩)⟩)⟩)⟩)⟩)⟩)⟩)⟩)⟩)⟩)⟩)⟩)⟩)⟩)⟩)
theorem mx_MKa280 : ∀ i, i < 40 → mx_iM (280 + i) = true → mx_MKc (280 + i) (mx_pM (280 + i)).2 = true ∧ (280 + i) ∈ ([280, 281, 282, 283, 284, 285, 286, 287, 288, 289, 290, 291, 292, 293, 294, 295, 296, 297, 298, 299, 300, 301, 302, 303, 304, 305, 306, 307, 308, 309, 316, 317] : List Nat) := by decide +kernel
theorem mx_MKall {a : Nat} (h : mx_iM a = true) : mx_MK a := by
  have ha : a < 320 := by
    simp only [mx_iM, Bool.and_eq_true, Bool.or_eq_true, Nat.blt_eq] at h
    omega
  have h9 : a < 40 ∨ (40 ≤ a ∧ a < 80) ∨ (80 ≤ a ∧ a < 120) ∨ (120 ≤ a ∧ a < 160) ∨ (160 ≤ a ∧ a < 200) ∨ (200 ≤ a ∧ a < 240) ∨ (240 ≤ a ∧ a < 280) ∨ 280 ≤ a := by omega
  rcases h9 with q | q | q | q | q | q | q | q
  · have e : 0 + (a - 0) = a := by omega
    have h7 := mx_MKa0 (a - 0) (by omega) (by rw [e]; exact h)
    rw [e] at h7
    exact mx_MKc_s (mx_cds0 a h7.2) h7.1
  · have e : 40 + (a - 40) = a := by omega
    have h7 := mx_MKa40 (a - 40) (by omega) (by rw [e]; exact h)
    rw [e] at h7
    exact mx_MKc_s (mx_cds40 a h7.2) h7.1
  · have e : 80 + (a - 80) = a := by omega
    have h7 := mx_MKa80 (a - 80) (by omega) (by rw [e]; exact h)
    rw [e] at h7
    exact mx_MKc_s (mx_cds80 a h7.2) h7.1
  · have e : 120 + (a - 120) = a := by omega
    have h7 := mx_MKa120 (a - 120) (by omega) (by rw [e]; exact h)
    rw [e] at h7
    exact mx_MKc_s (mx_cds120 a h7.2) h7.1
  · have e : 160 + (a - 160) = a := by omega
    have h7 := mx_MKa160 (a - 160) (by omega) (by rw [e]; exact h)
    rw [e] at h7
    exact mx_MKc_s (mx_cds160 a h7.2) h7.1
  · have e : 200 + (a - 200) = a := by omega
    have h7 := mx_MKa200 (a - 200) (by omega) (by rw [e]; exact h)
    rw [e] at h7
    exact mx_MKc_s (mx_cds200 a h7.2) h7.1
  · have e : 240 + (a - 240) = a := by omega
    have h7 := mx_MKa240 (a - 240) (by omega) (by rw [e]; exact h)
    rw [e] at h7
    exact mx_MKc_s (mx_cds240 a h7.2) h7.1
  · have e : 280 + (a - 280) = a := by omega
    have h7 := mx_MKa280 (a - 280) (by omega) (by rw [e]; exact h)
    rw [e] at h7
    exact mx_MKc_s (mx_cds280 a h7.2) h7.1
theorem mx_fo0 : ∀ j, j < (mx_cr 0).2.2 → mx_fok 0 j := fun j hj => mx_fokb_s ((by decide +kernel : ∀ j, j < (mx_cr 0).2.2 → mx_fokb 0 j = true) j hj)
theorem mx_fo1 : ∀ j, j < (mx_cr 1).2.2 → mx_fok 1 j := fun j hj => mx_fokb_s ((by decide +kernel : ∀ j, j < (mx_cr 1).2.2 → mx_fokb 1 j = true) j hj)
theorem mx_fo2 : ∀ j, j < (mx_cr 2).2.2 → mx_fok 2 j := fun j hj => mx_fokb_s ((by decide +kernel : ∀ j, j < (mx_cr 2).2.2 → mx_fokb 2 j = true) j hj)
theorem mx_fo3 : ∀ j, j < (mx_cr 3).2.2 → mx_fok 3 j := fun j hj => mx_fokb_s ((by decide +kernel : ∀ j, j < (mx_cr 3).2.2 → mx_fokb 3 j = true) j hj)
theorem mx_fo4 : ∀ j, j < (mx_cr 4).2.2 → mx_fok 4 j := fun j hj => mx_fokb_s ((by decide +kernel : ∀ j, j < (mx_cr 4).2.2 → mx_fokb 4 j = true) j hj)
theorem mx_fo5 : ∀ j, j < (mx_cr 5).2.2 → mx_fok 5 j := fun j hj => mx_fokb_s ((by decide +kernel : ∀ j, j < (mx_cr 5).2.2 → mx_fokb 5 j = true) j hj)
theorem mx_fo6 : ∀ j, j < (mx_cr 6).2.2 → mx_fok 6 j := fun j hj => mx_fokb_s ((by decide +kernel : ∀ j, j < (mx_cr 6).2.2 → mx_fokb 6 j = true) j hj)
theorem mx_fo7 : ∀ j, j < (mx_cr 7).2.2 → mx_fok 7 j := fun j hj => mx_fokb_s ((by decide +kernel : ∀ j, j < (mx_cr 7).2.2 → mx_fokb 7 j = true) j hj)
theorem mx_fo8 : ∀ j, j < (mx_cr 8).2.2 → mx_fok 8 j := fun j hj => mx_fokb_s ((by decide +kernel : ∀ j, j < (mx_cr 8).2.2 → mx_fokb 8 j = true) j hj)
theorem mx_fo9 : ∀ j, j < (mx_cr 9).2.2 → mx_fok 9 j := fun j hj => mx_fokb_s ((by decide +kernel : ∀ j, j < (mx_cr 9).2.2 → mx_fokb 9 j = true) j hj)
theorem mx_fo10 : ∀ j, j < (mx_cr 10).2.2 → mx_fok 10 j := fun j hj => mx_fokb_s ((by decide +kernel : ∀ j, j < (mx_cr 10).2.2 → mx_fokb 10 j = true) j hj)
theorem mx_fo11 : ∀ j, j < (mx_cr 11).2.2 → mx_fok 11 j := fun j hj => mx_fokb_s ((by decide +kernel : ∀ j, j < (mx_cr 11).2.2 → mx_fokb 11 j = true) j hj)
theorem mx_fo12 : ∀ j, j < (mx_cr 12).2.2 → mx_fok 12 j := fun j hj => mx_fokb_s ((by decide +kernel : ∀ j, j < (mx_cr 12).2.2 → mx_fokb 12 j = true) j hj)
theorem mx_fob {ci : Nat} (h : ci < 13) : ∀ j, j < (mx_cr ci).2.2 → mx_fok ci j := by
  rcases (show ci = 0 ∨ ci = 1 ∨ ci = 2 ∨ ci = 3 ∨ ci = 4 ∨ ci = 5 ∨ ci = 6 ∨ ci = 7 ∨ ci = 8 ∨ ci = 9 ∨ ci = 10 ∨ ci = 11 ∨ ci = 12 by omega) with rfl | rfl | rfl | rfl | rfl | rfl | rfl | rfl | rfl | rfl | rfl | rfl | rfl
  · exact mx_fo0
  · exact mx_fo1
  · exact mx_fo2
  · exact mx_fo3
  · exact mx_fo4
  · exact mx_fo5
  · exact mx_fo6
  · exact mx_fo7
  · exact mx_fo8
  · exact mx_fo9
  · exact mx_fo10
  · exact mx_fo11
  · exact mx_fo12
def mx_mwb (o i a p1 p2 p3 p4 : Nat) : Bool := match a with
  | 0 => mx_MWb o i Lib.Math.abs.name Lib.Math.abs.code 1 (some .int) p1 p2 p3 p4
  | 1 => mx_MWb o i Lib.MathLoose.abs_long.x Lib.MathLoose.abs_long.code 2 (some .long) p1 p2 p3 p4
  | 2 => mx_MWb o i Lib.Math.max.name Lib.Math.max.code 2 (some .int) p1 p2 p3 p4
  | 3 => mx_MWb o i Lib.MathLoose.max_long.x Lib.MathLoose.max_long.code 4 (some .long) p1 p2 p3 p4
  | 4 => mx_MWb o i Lib.Math.min.name Lib.Math.min.code 2 (some .int) p1 p2 p3 p4
  | 5 => mx_MWb o i Lib.MathLoose.min_long.x Lib.MathLoose.min_long.code 4 (some .long) p1 p2 p3 p4
  | _ => false
theorem mx_mwb_s {o i a p1 p2 p3 p4 : Nat} (h : mx_mwb o i a p1 p2 p3 p4 = true) : mx_mw o i a := by
  unfold mx_mwb at h
  unfold mx_mw
  split at h
  · exact mx_MWb_s h
  · exact mx_MWb_s h
  · exact mx_MWb_s h
  · exact mx_MWb_s h
  · exact mx_MWb_s h
  · exact mx_MWb_s h
  · cases h
def mx_PLb (o : Nat) (q : mx_L5) (p1 p2 p3 p4 : Nat) : Bool := match q with
  | (0, i, a, b, _) => Nat.blt a 13 && (Nat.blt b (mx_cr a).2.2 && mx_hw p1 (Cond.fieldLink (mx_cn o) i (mx_fT a b).1 (mx_fT a b).2.1 (mx_fT a b).2.2.1))
  | (8, i, a, _, _) => mx_mwb o i a p1 p2 p3 p4
  | (1, i, a, b, z) => mx_iM a && mx_LKb o i a b 0 (Nat.beq z 1) p1 p2 p3
  | (2, i, a, b, _) => mx_iM a && (mx_LKb o i a b 1 false p1 p2 p3 && (Nat.blt (mx_me a).1 13 && decide ((mx_y a).cls = (mx_cr (mx_me a).1).1)))
  | (3, i, a, b, z) => mx_iM a && mx_LKb o i a b 2 (Nat.beq z 1) p1 p2 p3
  | (4, i, a, _, _) => Nat.blt a 13 && (mx_hw p1 (Cond.classLink (mx_cn o) i (mx_cr a).1) && (mx_hw p2 (Cond.instantiable (mx_cr a).1 (mx_cr a).2.2) && mx_hw p3 (Cond.initialized (mx_cr a).1)))
  | (5, i, a, _, _) => (Nat.beq a 0 && mx_hw p1 (Cond.fieldLink (mx_cn o) i RX4 "KIND_ABOVE" "[I")) || (Nat.beq a 1 && mx_hw p1 (Cond.fieldLink (mx_cn o) i RX4 "ACTS" "[I"))
  | (6, i, _, _, _) => mx_hw p1 (Cond.classLink (mx_cn o) i RX7)
  | (7, i, a, _, _) => Nat.beq a 1000 && (mx_hw p1 (Cond.methodLink (mx_cn o) i Lib.objectInit) && (mx_hw p2 (Cond.instanceMethod Lib.objectInit) && mx_hw p3 (Cond.code Lib.objectInit ⟨#[0xb1]⟩ 1 none)))
  | _ => false
theorem mx_iM_ne {a : Nat} (h : mx_iM a = true) : a ≠ 1000 := by
  simp only [mx_iM, Bool.and_eq_true, Bool.or_eq_true, Nat.blt_eq] at h
  omega
theorem mx_PLb_s {o : Nat} {q : mx_L5} {p1 p2 p3 p4 : Nat} (h : mx_PLb o q p1 p2 p3 p4 = true) : mx_PL o q := by
  unfold mx_PLb at h
  split at h
  · simp only [Bool.and_eq_true, Nat.blt_eq] at h
    exact ⟨h.1, h.2.1, mx_hw_s h.2.2, mx_fob h.1 _ h.2.1⟩
  · exact mx_mwb_s h
  · rw [Bool.and_eq_true] at h
    exact ⟨mx_MKall h.1, mx_LKb_s h.2⟩
  · simp only [Bool.and_eq_true, Nat.blt_eq] at h
    exact ⟨mx_MKall h.1, mx_LKb_s h.2.1, h.2.2.1, of_decide_eq_true h.2.2.2⟩
  · rw [Bool.and_eq_true] at h
    exact ⟨mx_iM_ne h.1, mx_MKall h.1, mx_LKb_s h.2⟩
  · simp only [Bool.and_eq_true, Nat.blt_eq] at h
    exact ⟨h.1, mx_fob h.1, mx_hw_s h.2.1, mx_hw_s h.2.2.1, mx_hw_s h.2.2.2⟩
  · simp only [Bool.or_eq_true, Bool.and_eq_true] at h
    exact h.elim (fun h => Or.inl ⟨Nat.eq_of_beq_eq_true h.1, mx_hw_s h.2⟩) (fun h => Or.inr ⟨Nat.eq_of_beq_eq_true h.1, mx_hw_s h.2⟩)
  · exact mx_hw_s h
  · simp only [Bool.and_eq_true] at h
    exact ⟨Nat.eq_of_beq_eq_true h.1, mx_hw_s h.2.1, mx_hw_s h.2.2.1, mx_hw_s h.2.2.2⟩
  · cases h
theorem mx_LP_s {o : Nat} {LP : List (mx_L5 × Nat × Nat × Nat × Nat)} (h : LP.all (fun q => mx_PLb o q.1 q.2.1 q.2.2.1 q.2.2.2.1 q.2.2.2.2) = true) : ∀ q ∈ LP.map (fun q => q.1), mx_PL o q := by
  intro q hq
  obtain ⟨x, hx, rfl⟩ := List.mem_map.mp hq
  exact mx_PLb_s (List.all_eq_true.mp h x hx)
def mx_LP0 : List (mx_L5 × Nat × Nat × Nat × Nat) := [((7, 3, 1000, 0, 0), 2063, 1024, 1025, 0), ((0, 9, 0, 0, 0), 2064, 0, 0, 0), ((0, 15, 0, 1, 0), 2066, 0, 0, 0), ((0, 19, 0, 2, 0), 2068, 0, 0, 0), ((0, 22, 0, 3, 0), 2070, 0, 0, 0), ((0, 25, 0, 4, 0), 2071, 0, 0, 0), ((0, 28, 0, 5, 0), 2072, 0, 0, 0), ((0, 31, 0, 6, 0), 2073, 0, 0, 0), ((0, 34, 0, 7, 0), 2074, 0, 0, 0), ((0, 37, 0, 8, 0), 2076, 0, 0, 0), ((0, 40, 0, 9, 0), 2077, 0, 0, 0), ((0, 43, 0, 10, 0), 2078, 0, 0, 0), ((1, 46, 317, 2, 0), 4185, 3033, 0, 0), ((0, 52, 3, 0, 0), 1144, 0, 0, 0), ((0, 57, 3, 3, 0), 1150, 0, 0, 0), ((2, 60, 4, 3, 0), 4194, 4187, 4188, 0), ((2, 64, 6, 2, 0), 4195, 4197, 23, 0), ((8, 68, 0, 0, 2), 4201, 4118, 1015, 4119), ((8, 74, 2, 0, 2), 4200, 3068, 1015, 3069), ((0, 78, 3, 2, 0), 1148, 0, 0, 0), ((2, 81, 27, 2, 0), 4199, 4029, 4030, 0), ((0, 84, 3, 1, 0), 1146, 0, 0, 0), ((2, 87, 8, 2, 0), 4234, 4223, 4224, 0)]
def mx_LL0 : List mx_L5 := mx_LP0.map (fun q => q.1)
set_option maxRecDepth 100000 in
theorem mx_LLok0 : ∀ q ∈ mx_LL0, mx_PL 0 q := mx_LP_s (by decide +kernel)
def mx_KL0 : List (Nat × Int32) := []
def mx_JL0 : List (Nat × Int64) := []
theorem mx_KLok0 : ∀ q ∈ mx_KL0, Cond.constant (mx_cn 0) q.1 q.2 ∈ mx_ws := (fun _ h => absurd h List.not_mem_nil)
theorem mx_JLok0 : ∀ q ∈ mx_JL0, Cond.constantLong (mx_cn 0) q.1 q.2 ∈ mx_ws := (fun _ h => absurd h List.not_mem_nil)
def mx_LP1 : List (mx_L5 × Nat × Nat × Nat × Nat) := [((7, 3, 1000, 0, 0), 2034, 1024, 1025, 0), ((0, 9, 1, 0, 0), 2035, 0, 0, 0), ((0, 15, 1, 1, 0), 2037, 0, 0, 0), ((0, 19, 1, 2, 0), 2038, 0, 0, 0), ((0, 22, 1, 3, 0), 2040, 0, 0, 0), ((0, 25, 1, 4, 0), 2042, 0, 0, 0), ((0, 28, 1, 5, 0), 2044, 0, 0, 0), ((1, 31, 317, 2, 0), 4140, 3033, 0, 0), ((2, 37, 22, 1, 0), 4141, 3160, 3161, 0), ((0, 43, 7, 6, 0), 1083, 0, 0, 0), ((0, 48, 7, 7, 0), 1087, 0, 0, 0), ((0, 51, 7, 8, 0), 1092, 0, 0, 0), ((0, 54, 7, 9, 0), 1097, 0, 0, 0), ((2, 57, 26, 3, 0), 4142, 3178, 3179, 0), ((2, 61, 60, 0, 0), 4143, 3104, 3105, 0), ((2, 65, 14, 5, 0), 4144, 4146, 22, 0), ((2, 69, 33, 2, 0), 4148, 3215, 3216, 0), ((8, 74, 2, 0, 2), 4158, 3068, 1015, 3069)]
def mx_LL1 : List mx_L5 := mx_LP1.map (fun q => q.1)
set_option maxRecDepth 100000 in
theorem mx_LLok1 : ∀ q ∈ mx_LL1, mx_PL 1 q := mx_LP_s (by decide +kernel)
def mx_KL1 : List (Nat × Int32) := [(73, 2147483647)]
def mx_JL1 : List (Nat × Int64) := []
theorem mx_KLok1 : ∀ q ∈ mx_KL1, Cond.constant (mx_cn 1) q.1 q.2 ∈ mx_ws := (List.forall_mem_cons.mpr ⟨mx_hw_s (p := 4157) (by decide +kernel), (fun _ h => absurd h List.not_mem_nil)⟩)
theorem mx_JLok1 : ∀ q ∈ mx_JL1, Cond.constantLong (mx_cn 1) q.1 q.2 ∈ mx_ws := (fun _ h => absurd h List.not_mem_nil)
def mx_LP2 : List (mx_L5 × Nat × Nat × Nat × Nat) := [((7, 1, 1000, 0, 0), 2128, 1024, 1025, 0), ((0, 7, 2, 0, 0), 2130, 0, 0, 0), ((0, 13, 2, 1, 0), 2132, 0, 0, 0), ((6, 16, 0, 0, 0), 2129, 0, 0, 0), ((0, 18, 2, 2, 0), 2134, 0, 0, 0), ((0, 22, 2, 3, 0), 2135, 0, 0, 0), ((0, 26, 2, 4, 0), 2136, 0, 0, 0), ((0, 29, 2, 5, 0), 2137, 0, 0, 0), ((0, 32, 2, 6, 0), 2138, 0, 0, 0), ((2, 35, 18, 0, 0), 3138, 3140, 12, 0), ((2, 38, 67, 3, 0), 5132, 3131, 3132, 0)]
def mx_LL2 : List mx_L5 := mx_LP2.map (fun q => q.1)
set_option maxRecDepth 100000 in
theorem mx_LLok2 : ∀ q ∈ mx_LL2, mx_PL 2 q := mx_LP_s (by decide +kernel)
def mx_KL2 : List (Nat × Int32) := []
def mx_JL2 : List (Nat × Int64) := []
theorem mx_KLok2 : ∀ q ∈ mx_KL2, Cond.constant (mx_cn 2) q.1 q.2 ∈ mx_ws := (fun _ h => absurd h List.not_mem_nil)
theorem mx_JLok2 : ∀ q ∈ mx_JL2, Cond.constantLong (mx_cn 2) q.1 q.2 ∈ mx_ws := (fun _ h => absurd h List.not_mem_nil)
def mx_LP3 : List (mx_L5 × Nat × Nat × Nat × Nat) := [((7, 3, 1000, 0, 0), 1142, 1024, 1025, 0), ((0, 9, 3, 0, 0), 1143, 0, 0, 0), ((0, 15, 3, 1, 0), 1145, 0, 0, 0), ((0, 19, 3, 2, 0), 1147, 0, 0, 0), ((0, 22, 3, 3, 0), 1149, 0, 0, 0), ((0, 25, 3, 4, 0), 1152, 0, 0, 0), ((0, 28, 3, 5, 0), 1153, 0, 0, 0), ((0, 32, 3, 6, 0), 1155, 0, 0, 0), ((0, 35, 3, 7, 0), 1156, 0, 0, 0), ((0, 38, 3, 8, 0), 1157, 0, 0, 0), ((0, 41, 3, 9, 0), 1158, 0, 0, 0), ((0, 44, 3, 10, 0), 1159, 0, 0, 0), ((0, 47, 3, 11, 0), 1160, 0, 0, 0), ((2, 50, 23, 2, 0), 3163, 3164, 3165, 0), ((0, 54, 7, 0, 0), 1053, 0, 0, 0), ((1, 57, 317, 2, 0), 3167, 3033, 0, 0), ((0, 63, 7, 1, 0), 1057, 0, 0, 0), ((1, 66, 24, 1, 0), 3168, 3169, 0, 0), ((0, 70, 7, 3, 0), 1068, 0, 0, 0), ((2, 73, 25, 3, 0), 3173, 3174, 3175, 0), ((0, 77, 7, 2, 0), 1063, 0, 0, 0), ((0, 78, 7, 4, 0), 1074, 0, 0, 0), ((0, 79, 7, 6, 0), 1084, 0, 0, 0), ((0, 82, 7, 9, 0), 1098, 0, 0, 0), ((0, 85, 7, 7, 0), 1088, 0, 0, 0), ((0, 88, 7, 8, 0), 1093, 0, 0, 0), ((0, 91, 7, 10, 0), 1103, 0, 0, 0), ((8, 94, 4, 0, 2), 3171, 3065, 1015, 3066), ((2, 100, 26, 3, 0), 3177, 3178, 3179, 0), ((8, 103, 2, 0, 2), 3172, 3068, 1015, 3069), ((2, 106, 28, 2, 0), 3189, 3191, 13, 0), ((2, 110, 30, 1, 0), 3193, 3195, 14, 0), ((2, 114, 29, 2, 0), 3185, 3186, 3187, 0), ((2, 117, 31, 2, 0), 3218, 3182, 3183, 0), ((2, 120, 35, 0, 0), 4048, 4050, 18, 0)]
def mx_LL3 : List mx_L5 := mx_LP3.map (fun q => q.1)
set_option maxRecDepth 100000 in
theorem mx_LLok3 : ∀ q ∈ mx_LL3, mx_PL 3 q := mx_LP_s (by decide +kernel)
def mx_KL3 : List (Nat × Int32) := []
def mx_JL3 : List (Nat × Int64) := []
theorem mx_KLok3 : ∀ q ∈ mx_KL3, Cond.constant (mx_cn 3) q.1 q.2 ∈ mx_ws := (fun _ h => absurd h List.not_mem_nil)
theorem mx_JLok3 : ∀ q ∈ mx_JL3, Cond.constantLong (mx_cn 3) q.1 q.2 ∈ mx_ws := (fun _ h => absurd h List.not_mem_nil)
def mx_LP4 : List (mx_L5 × Nat × Nat × Nat × Nat) := [((7, 3, 1000, 0, 0), 2159, 1024, 1025, 0), ((0, 9, 4, 0, 0), 2161, 0, 0, 0), ((0, 15, 4, 1, 0), 2163, 0, 0, 0), ((6, 19, 0, 0, 0), 2160, 0, 0, 0), ((0, 21, 4, 2, 0), 2165, 0, 0, 0), ((0, 25, 4, 3, 0), 2166, 0, 0, 0), ((0, 28, 4, 4, 0), 2168, 0, 0, 0), ((5, 31, 0, 0, 0), 5168, 0, 0, 0), ((0, 34, 7, 5, 0), 1079, 0, 0, 0), ((0, 37, 7, 6, 0), 1085, 0, 0, 0), ((1, 40, 157, 3, 1), 5180, 3014, 0, 0), ((0, 44, 7, 9, 0), 1099, 0, 0, 0), ((5, 47, 1, 0, 0), 5170, 0, 0, 0), ((2, 50, 41, 1, 0), 5172, 5174, 29, 0), ((2, 54, 39, 1, 0), 5176, 5178, 30, 0), ((2, 58, 40, 5, 0), 5181, 5165, 5166, 0)]
def mx_LL4 : List mx_L5 := mx_LP4.map (fun q => q.1)
set_option maxRecDepth 100000 in
theorem mx_LLok4 : ∀ q ∈ mx_LL4, mx_PL 4 q := mx_LP_s (by decide +kernel)
def mx_KL4 : List (Nat × Int32) := []
def mx_JL4 : List (Nat × Int64) := []
theorem mx_KLok4 : ∀ q ∈ mx_KL4, Cond.constant (mx_cn 4) q.1 q.2 ∈ mx_ws := (fun _ h => absurd h List.not_mem_nil)
theorem mx_JLok4 : ∀ q ∈ mx_JL4, Cond.constantLong (mx_cn 4) q.1 q.2 ∈ mx_ws := (fun _ h => absurd h List.not_mem_nil)
def mx_LP5 : List (mx_L5 × Nat × Nat × Nat × Nat) := [((7, 3, 1000, 0, 0), 1222, 1024, 1025, 0), ((0, 9, 5, 0, 0), 1223, 0, 0, 0), ((0, 15, 5, 1, 0), 1225, 0, 0, 0), ((0, 18, 5, 2, 0), 1227, 0, 0, 0), ((0, 22, 5, 3, 0), 1228, 0, 0, 0), ((0, 25, 5, 4, 0), 1229, 0, 0, 0), ((0, 28, 5, 5, 0), 1230, 0, 0, 0), ((0, 31, 5, 6, 0), 1232, 0, 0, 0), ((0, 34, 5, 7, 0), 1233, 0, 0, 0), ((0, 37, 5, 8, 0), 1234, 0, 0, 0), ((0, 40, 5, 9, 0), 1235, 0, 0, 0), ((0, 43, 5, 10, 0), 1236, 0, 0, 0), ((0, 46, 5, 11, 0), 1238, 0, 0, 0), ((0, 49, 5, 12, 0), 2000, 0, 0, 0), ((8, 52, 2, 0, 2), 4099, 3068, 1015, 3069), ((0, 60, 7, 1, 0), 1061, 0, 0, 0), ((0, 63, 7, 3, 0), 1072, 0, 0, 0), ((2, 66, 25, 3, 0), 4088, 3174, 3175, 0), ((0, 72, 7, 9, 0), 1101, 0, 0, 0), ((0, 75, 7, 7, 0), 1089, 0, 0, 0), ((0, 78, 7, 8, 0), 1094, 0, 0, 0), ((0, 81, 7, 10, 0), 1105, 0, 0, 0), ((8, 84, 4, 0, 2), 4089, 3065, 1015, 3066), ((2, 87, 26, 3, 0), 4090, 3178, 3179, 0), ((1, 91, 317, 2, 0), 4105, 3033, 0, 0), ((2, 97, 50, 6, 0), 4106, 4108, 20, 0), ((2, 101, 51, 4, 0), 4110, 4112, 21, 0), ((2, 105, 22, 1, 0), 4114, 3160, 3161, 0), ((2, 109, 48, 4, 0), 4115, 4085, 4086, 0), ((2, 113, 33, 2, 0), 4116, 3215, 3216, 0), ((8, 115, 0, 0, 2), 4117, 4118, 1015, 4119)]
def mx_LL5 : List mx_L5 := mx_LP5.map (fun q => q.1)
set_option maxRecDepth 100000 in
theorem mx_LLok5 : ∀ q ∈ mx_LL5, mx_PL 5 q := mx_LP_s (by decide +kernel)
def mx_KL5 : List (Nat × Int32) := [(90, 2147483647)]
def mx_JL5 : List (Nat × Int64) := []
theorem mx_KLok5 : ∀ q ∈ mx_KL5, Cond.constant (mx_cn 5) q.1 q.2 ∈ mx_ws := (List.forall_mem_cons.mpr ⟨mx_hw_s (p := 4104) (by decide +kernel), (fun _ h => absurd h List.not_mem_nil)⟩)
theorem mx_JLok5 : ∀ q ∈ mx_JL5, Cond.constantLong (mx_cn 5) q.1 q.2 ∈ mx_ws := (fun _ h => absurd h List.not_mem_nil)
def mx_LP6 : List (mx_L5 × Nat × Nat × Nat × Nat) := [((7, 3, 1000, 0, 0), 2107, 1024, 1025, 0), ((0, 9, 6, 0, 0), 2108, 0, 0, 0), ((0, 15, 6, 1, 0), 2110, 0, 0, 0), ((0, 19, 6, 2, 0), 2111, 0, 0, 0), ((0, 22, 6, 3, 0), 2112, 0, 0, 0), ((8, 25, 0, 0, 2), 5086, 4118, 1015, 4119), ((2, 31, 54, 4, 0), 5082, 5084, 25, 0), ((1, 35, 309, 1, 0), 5091, 5092, 0, 0), ((2, 40, 57, 3, 0), 5097, 5099, 26, 0)]
def mx_LL6 : List mx_L5 := mx_LP6.map (fun q => q.1)
set_option maxRecDepth 100000 in
theorem mx_LLok6 : ∀ q ∈ mx_LL6, mx_PL 6 q := mx_LP_s (by decide +kernel)
def mx_KL6 : List (Nat × Int32) := []
def mx_JL6 : List (Nat × Int64) := []
theorem mx_KLok6 : ∀ q ∈ mx_KL6, Cond.constant (mx_cn 6) q.1 q.2 ∈ mx_ws := (fun _ h => absurd h List.not_mem_nil)
theorem mx_JLok6 : ∀ q ∈ mx_JL6, Cond.constantLong (mx_cn 6) q.1 q.2 ∈ mx_ws := (fun _ h => absurd h List.not_mem_nil)
def mx_LP7 : List (mx_L5 × Nat × Nat × Nat × Nat) := [((7, 3, 1000, 0, 0), 1050, 1024, 1025, 0), ((0, 9, 7, 0, 0), 1051, 0, 0, 0), ((0, 15, 7, 1, 0), 1056, 0, 0, 0), ((0, 19, 7, 2, 0), 1062, 0, 0, 0), ((0, 22, 7, 3, 0), 1067, 0, 0, 0), ((0, 25, 7, 4, 0), 1073, 0, 0, 0), ((0, 28, 7, 5, 0), 1078, 0, 0, 0), ((0, 31, 7, 6, 0), 1081, 0, 0, 0), ((0, 34, 7, 7, 0), 1086, 0, 0, 0), ((0, 37, 7, 8, 0), 1091, 0, 0, 0), ((0, 40, 7, 9, 0), 1096, 0, 0, 0), ((0, 43, 7, 10, 0), 1102, 0, 0, 0), ((0, 46, 7, 11, 0), 1106, 0, 0, 0), ((0, 49, 7, 12, 0), 1108, 0, 0, 0), ((1, 52, 317, 2, 0), 3032, 3033, 0, 0), ((8, 58, 4, 0, 2), 3064, 3065, 1015, 3066), ((8, 64, 2, 0, 2), 3067, 3068, 1015, 3069), ((2, 67, 63, 3, 0), 5114, 3071, 3072, 0), ((1, 71, 65, 2, 0), 3127, 3128, 0, 0)]
def mx_LL7 : List mx_L5 := mx_LP7.map (fun q => q.1)
set_option maxRecDepth 100000 in
theorem mx_LLok7 : ∀ q ∈ mx_LL7, mx_PL 7 q := mx_LP_s (by decide +kernel)
def mx_KL7 : List (Nat × Int32) := []
def mx_JL7 : List (Nat × Int64) := []
theorem mx_KLok7 : ∀ q ∈ mx_KL7, Cond.constant (mx_cn 7) q.1 q.2 ∈ mx_ws := (fun _ h => absurd h List.not_mem_nil)
theorem mx_JLok7 : ∀ q ∈ mx_JL7, Cond.constantLong (mx_cn 7) q.1 q.2 ∈ mx_ws := (fun _ h => absurd h List.not_mem_nil)
def mx_LP8 : List (mx_L5 × Nat × Nat × Nat × Nat) := [((7, 3, 1000, 0, 0), 2186, 1024, 1025, 0), ((0, 11, 8, 0, 0), 2189, 0, 0, 0), ((0, 15, 8, 1, 0), 2191, 0, 0, 0), ((0, 18, 8, 2, 0), 2193, 0, 0, 0), ((0, 23, 8, 3, 0), 2195, 0, 0, 0), ((8, 26, 2, 0, 2), 5065, 3068, 1015, 3069), ((1, 32, 316, 2, 0), 5202, 5203, 0, 0), ((1, 38, 157, 3, 1), 5010, 3014, 0, 0), ((1, 42, 77, 2, 0), 5217, 5218, 0, 0), ((1, 52, 78, 1, 0), 5019, 5020, 0, 0), ((8, 56, 5, 0, 2), 5025, 5026, 1015, 5027), ((8, 60, 3, 0, 2), 5028, 5029, 1015, 5030), ((2, 62, 80, 2, 0), 5039, 5041, 24, 0), ((1, 66, 82, 2, 0), 5043, 5044, 0, 0), ((8, 69, 1, 0, 2), 5049, 5050, 1015, 5051), ((1, 75, 308, 2, 0), 5046, 5047, 0, 0), ((2, 82, 81, 2, 0), 5064, 5036, 5037, 0)]
def mx_LL8 : List mx_L5 := mx_LP8.map (fun q => q.1)
set_option maxRecDepth 100000 in
theorem mx_LLok8 : ∀ q ∈ mx_LL8, mx_PL 8 q := mx_LP_s (by decide +kernel)
def mx_KL8 : List (Nat × Int32) := []
def mx_JL8 : List (Nat × Int64) := [(46, 127), (48, 32767), (50, 2147483647), (73, 2), (80, (-1))]
theorem mx_KLok8 : ∀ q ∈ mx_KL8, Cond.constant (mx_cn 8) q.1 q.2 ∈ mx_ws := (fun _ h => absurd h List.not_mem_nil)
theorem mx_JLok8 : ∀ q ∈ mx_JL8, Cond.constantLong (mx_cn 8) q.1 q.2 ∈ mx_ws := (List.forall_mem_cons.mpr ⟨mx_hw_s (p := 5022) (by decide +kernel), (List.forall_mem_cons.mpr ⟨mx_hw_s (p := 5023) (by decide +kernel), (List.forall_mem_cons.mpr ⟨mx_hw_s (p := 5024) (by decide +kernel), (List.forall_mem_cons.mpr ⟨mx_hw_s (p := 5052) (by decide +kernel), (List.forall_mem_cons.mpr ⟨mx_hw_s (p := 5063) (by decide +kernel), (fun _ h => absurd h List.not_mem_nil)⟩)⟩)⟩)⟩)⟩)
def mx_LP9 : List (mx_L5 × Nat × Nat × Nat × Nat) := [((7, 3, 1000, 0, 0), 1031, 1024, 1025, 0), ((0, 11, 9, 0, 0), 1032, 0, 0, 0), ((0, 15, 9, 1, 0), 1033, 0, 0, 0), ((0, 19, 9, 2, 0), 1035, 0, 0, 0), ((2, 22, 59, 0, 0), 3028, 3029, 3030, 0), ((2, 27, 87, 1, 0), 3035, 3037, 0, 0), ((2, 31, 88, 1, 0), 3048, 3050, 3, 0), ((2, 34, 92, 0, 0), 3039, 3041, 1, 0), ((2, 38, 93, 0, 0), 3043, 3045, 2, 0), ((0, 41, 7, 1, 0), 1059, 0, 0, 0), ((0, 44, 7, 0, 0), 1055, 0, 0, 0), ((2, 47, 89, 1, 0), 3052, 3054, 4, 0), ((2, 50, 90, 1, 0), 3074, 3076, 6, 0), ((0, 53, 7, 2, 0), 1066, 0, 0, 0), ((0, 56, 7, 3, 0), 1071, 0, 0, 0), ((2, 59, 91, 2, 0), 3078, 3080, 7, 0), ((2, 63, 94, 1, 0), 3056, 3058, 5, 0), ((2, 67, 61, 2, 0), 3060, 3061, 3062, 0), ((2, 71, 63, 3, 0), 3070, 3071, 3072, 0), ((0, 75, 7, 4, 0), 1077, 0, 0, 0), ((1, 78, 157, 3, 1), 3047, 3014, 0, 0)]
def mx_LL9 : List mx_L5 := mx_LP9.map (fun q => q.1)
set_option maxRecDepth 100000 in
theorem mx_LLok9 : ∀ q ∈ mx_LL9, mx_PL 9 q := mx_LP_s (by decide +kernel)
def mx_KL9 : List (Nat × Int32) := []
def mx_JL9 : List (Nat × Int64) := []
theorem mx_KLok9 : ∀ q ∈ mx_KL9, Cond.constant (mx_cn 9) q.1 q.2 ∈ mx_ws := (fun _ h => absurd h List.not_mem_nil)
theorem mx_JLok9 : ∀ q ∈ mx_JL9, Cond.constantLong (mx_cn 9) q.1 q.2 ∈ mx_ws := (fun _ h => absurd h List.not_mem_nil)
def mx_LP10 : List (mx_L5 × Nat × Nat × Nat × Nat) := [((7, 3, 1000, 0, 0), 1192, 1024, 1025, 0), ((0, 9, 10, 0, 0), 1195, 0, 0, 0), ((0, 15, 10, 1, 0), 1197, 0, 0, 0), ((0, 18, 10, 2, 0), 1199, 0, 0, 0), ((0, 22, 10, 3, 0), 1201, 0, 0, 0), ((4, 25, 3, 0, 0), 1193, 1138, 1004, 0), ((3, 27, 21, 0, 1), 1194, 1140, 0, 0), ((0, 28, 10, 4, 0), 1202, 0, 0, 0), ((0, 32, 10, 5, 0), 1203, 0, 0, 0), ((1, 35, 317, 2, 0), 4011, 3033, 0, 0), ((0, 41, 7, 0, 0), 1052, 0, 0, 0), ((2, 46, 22, 1, 0), 4012, 3160, 3161, 0), ((2, 50, 97, 3, 0), 4013, 4015, 15, 0), ((2, 54, 100, 1, 0), 4017, 4019, 16, 0), ((1, 58, 98, 4, 0), 4021, 4022, 0, 0), ((2, 62, 99, 2, 0), 4024, 4026, 17, 0), ((0, 66, 7, 1, 0), 1058, 0, 0, 0), ((0, 69, 7, 2, 0), 1064, 0, 0, 0), ((0, 72, 7, 3, 0), 1069, 0, 0, 0), ((0, 75, 7, 4, 0), 1075, 0, 0, 0), ((2, 78, 27, 2, 0), 4028, 4029, 4030, 0)]
def mx_LL10 : List mx_L5 := mx_LP10.map (fun q => q.1)
set_option maxRecDepth 100000 in
theorem mx_LLok10 : ∀ q ∈ mx_LL10, mx_PL 10 q := mx_LP_s (by decide +kernel)
def mx_KL10 : List (Nat × Int32) := []
def mx_JL10 : List (Nat × Int64) := []
theorem mx_KLok10 : ∀ q ∈ mx_KL10, Cond.constant (mx_cn 10) q.1 q.2 ∈ mx_ws := (fun _ h => absurd h List.not_mem_nil)
theorem mx_JLok10 : ∀ q ∈ mx_JL10, Cond.constantLong (mx_cn 10) q.1 q.2 ∈ mx_ws := (fun _ h => absurd h List.not_mem_nil)
def mx_LP11 : List (mx_L5 × Nat × Nat × Nat × Nat) := [((7, 1, 1000, 0, 0), 1023, 1024, 1025, 0), ((4, 7, 9, 0, 0), 1026, 1027, 1002, 0), ((3, 9, 84, 0, 1), 1028, 1029, 0, 0), ((0, 10, 11, 0, 0), 2206, 0, 0, 0), ((6, 16, 0, 0, 0), 1044, 0, 0, 0), ((0, 18, 11, 1, 0), 2207, 0, 0, 0), ((0, 22, 11, 2, 0), 2208, 0, 0, 0), ((4, 16, 7, 0, 0), 1044, 1046, 1003, 0), ((3, 26, 58, 0, 1), 1047, 1048, 0, 0), ((0, 27, 11, 3, 0), 2209, 0, 0, 0), ((4, 31, 3, 0, 0), 1137, 1138, 1004, 0), ((3, 33, 21, 0, 1), 1139, 1140, 0, 0), ((0, 34, 11, 4, 0), 2210, 0, 0, 0), ((0, 38, 11, 5, 0), 2211, 0, 0, 0), ((4, 41, 10, 0, 0), 1187, 1188, 1005, 0), ((3, 43, 95, 0, 1), 1189, 1190, 0, 0), ((0, 44, 11, 6, 0), 2212, 0, 0, 0), ((4, 48, 5, 0, 0), 1217, 1218, 1006, 0), ((3, 50, 42, 0, 1), 1219, 1220, 0, 0), ((0, 51, 11, 7, 0), 2213, 0, 0, 0), ((4, 55, 1, 0, 0), 2029, 2030, 1007, 0), ((3, 57, 11, 0, 1), 2031, 2032, 0, 0), ((0, 58, 11, 8, 0), 2214, 0, 0, 0), ((4, 62, 0, 0, 0), 2058, 2059, 1008, 0), ((3, 64, 1, 0, 1), 2060, 2061, 0, 0), ((0, 65, 11, 9, 0), 2215, 0, 0, 0), ((4, 69, 6, 0, 0), 2102, 2103, 1009, 0), ((3, 71, 52, 0, 1), 2104, 2105, 0, 0), ((0, 72, 11, 10, 0), 2216, 0, 0, 0), ((4, 76, 2, 0, 0), 2123, 2124, 1010, 0), ((3, 78, 16, 0, 1), 2125, 2126, 0, 0), ((0, 79, 11, 11, 0), 2217, 0, 0, 0), ((4, 83, 4, 0, 0), 2154, 2155, 1011, 0), ((3, 85, 36, 0, 1), 2156, 2157, 0, 0), ((0, 86, 11, 12, 0), 2218, 0, 0, 0), ((4, 90, 8, 0, 0), 2181, 2182, 1012, 0), ((3, 92, 69, 0, 1), 2183, 2184, 0, 0), ((0, 93, 11, 13, 0), 2219, 0, 0, 0), ((1, 97, 157, 3, 0), 3013, 3014, 0, 0), ((0, 101, 9, 1, 0), 1034, 0, 0, 0), ((2, 104, 85, 2, 0), 3016, 3017, 3018, 0), ((2, 108, 86, 1, 0), 3024, 3025, 3026, 0), ((0, 112, 7, 6, 0), 1082, 0, 0, 0), ((2, 115, 168, 1, 0), 3082, 3084, 8, 0), ((2, 119, 169, 0, 0), 3086, 3088, 9, 0), ((2, 123, 166, 1, 0), 3098, 3100, 10, 0), ((0, 128, 7, 0, 0), 1054, 0, 0, 0), ((2, 131, 60, 0, 0), 3103, 3104, 3105, 0), ((0, 134, 7, 1, 0), 1060, 0, 0, 0), ((0, 138, 7, 2, 0), 1065, 0, 0, 0), ((0, 141, 7, 3, 0), 1070, 0, 0, 0), ((0, 144, 7, 4, 0), 1076, 0, 0, 0), ((1, 147, 164, 2, 0), 3111, 3112, 0, 0), ((2, 151, 61, 2, 0), 3114, 3061, 3062, 0), ((0, 155, 7, 5, 0), 1080, 0, 0, 0), ((0, 158, 7, 9, 0), 1100, 0, 0, 0), ((0, 161, 7, 10, 0), 1104, 0, 0, 0), ((2, 164, 170, 4, 0), 3119, 3121, 11, 0), ((1, 168, 65, 2, 0), 3146, 3128, 0, 0), ((8, 171, 4, 0, 2), 3151, 3065, 1015, 3066), ((1, 176, 158, 1, 0), 3156, 3157, 0, 0), ((2, 179, 22, 1, 0), 3159, 3160, 3161, 0), ((2, 183, 31, 2, 0), 3181, 3182, 3183, 0), ((2, 186, 32, 2, 0), 3197, 3198, 3199, 0), ((2, 191, 29, 2, 0), 3206, 3186, 3187, 0), ((0, 194, 3, 5, 0), 1154, 0, 0, 0), ((1, 198, 165, 3, 0), 3211, 3212, 0, 0), ((2, 202, 33, 2, 0), 3214, 3215, 3216, 0), ((0, 205, 3, 3, 0), 1151, 0, 0, 0), ((2, 206, 25, 3, 0), 3227, 3174, 3175, 0), ((2, 210, 23, 2, 0), 3232, 3164, 3165, 0), ((0, 214, 7, 7, 0), 1090, 0, 0, 0), ((0, 217, 7, 8, 0), 1095, 0, 0, 0), ((2, 220, 26, 3, 0), 3237, 3178, 3179, 0), ((2, 223, 62, 1, 0), 3238, 3239, 4000, 0), ((8, 227, 2, 0, 2), 4002, 3068, 1015, 3069), ((2, 230, 96, 2, 0), 4007, 4008, 4009, 0), ((0, 234, 10, 0, 0), 1196, 0, 0, 0), ((0, 237, 10, 2, 0), 1200, 0, 0, 0), ((0, 240, 10, 1, 0), 1198, 0, 0, 0), ((2, 243, 34, 1, 0), 4044, 4045, 4046, 0), ((0, 247, 5, 1, 0), 1226, 0, 0, 0), ((0, 250, 5, 0, 0), 1224, 0, 0, 0), ((2, 253, 43, 2, 0), 4056, 4057, 4058, 0), ((2, 257, 44, 3, 0), 4060, 4061, 4062, 0), ((2, 260, 167, 0, 0), 4068, 4070, 19, 0), ((2, 264, 45, 2, 0), 4072, 4073, 4074, 0), ((0, 267, 5, 5, 0), 1231, 0, 0, 0), ((2, 270, 46, 3, 0), 4076, 4077, 4078, 0), ((2, 273, 48, 4, 0), 4084, 4085, 4086, 0), ((2, 277, 47, 0, 0), 4095, 4096, 4097, 0), ((2, 280, 49, 2, 0), 4100, 4101, 4102, 0), ((0, 284, 5, 10, 0), 1237, 0, 0, 0), ((0, 287, 5, 11, 0), 1239, 0, 0, 0), ((0, 290, 5, 12, 0), 2001, 0, 0, 0), ((0, 293, 1, 0, 0), 2036, 0, 0, 0), ((2, 296, 12, 1, 0), 4128, 4129, 4130, 0), ((2, 299, 13, 3, 0), 4136, 4137, 4138, 0), ((0, 302, 1, 2, 0), 2039, 0, 0, 0), ((0, 305, 1, 4, 0), 2043, 0, 0, 0), ((0, 308, 1, 3, 0), 2041, 0, 0, 0), ((2, 311, 15, 1, 0), 4153, 4154, 4155, 0), ((0, 314, 0, 0, 0), 2065, 0, 0, 0), ((1, 317, 160, 1, 0), 4171, 4172, 0, 0), ((0, 320, 0, 1, 0), 2067, 0, 0, 0), ((1, 323, 159, 1, 0), 4178, 4179, 0, 0), ((2, 326, 3, 1, 0), 4181, 4182, 4183, 0), ((2, 330, 4, 3, 0), 4186, 4187, 4188, 0), ((2, 334, 5, 3, 0), 4190, 4191, 4192, 0), ((0, 338, 0, 7, 0), 2075, 0, 0, 0), ((2, 339, 2, 3, 0), 4206, 4207, 4208, 0), ((0, 341, 0, 2, 0), 2069, 0, 0, 0), ((2, 344, 7, 1, 0), 4218, 4219, 4220, 0), ((2, 347, 8, 2, 0), 4222, 4223, 4224, 0), ((2, 350, 9, 1, 0), 4230, 4231, 4232, 0), ((2, 353, 10, 2, 0), 4235, 4236, 4237, 0), ((1, 356, 161, 1, 0), 5003, 5004, 0, 0), ((2, 359, 73, 1, 0), 5006, 5007, 5008, 0), ((2, 362, 74, 2, 0), 5011, 5012, 5013, 0), ((0, 365, 8, 1, 0), 2192, 0, 0, 0), ((2, 368, 79, 3, 0), 5015, 5016, 5017, 0), ((2, 371, 81, 2, 0), 5035, 5036, 5037, 0), ((8, 377, 5, 0, 2), 5054, 5026, 1015, 5027), ((2, 380, 83, 1, 0), 5059, 5060, 5061, 0), ((0, 383, 6, 0, 0), 2109, 0, 0, 0), ((2, 384, 53, 2, 0), 5070, 5071, 5072, 0), ((0, 385, 6, 3, 0), 2113, 0, 0, 0), ((2, 388, 55, 2, 0), 5078, 5079, 5080, 0), ((2, 391, 56, 2, 0), 5087, 5088, 5089, 0), ((2, 394, 59, 0, 0), 5109, 3029, 3030, 0), ((2, 397, 64, 1, 0), 5110, 5111, 5112, 0), ((2, 400, 63, 3, 0), 5115, 3071, 3072, 0), ((0, 403, 7, 11, 0), 1107, 0, 0, 0), ((0, 406, 7, 12, 0), 1109, 0, 0, 0), ((2, 409, 171, 2, 0), 5120, 5122, 27, 0), ((0, 413, 2, 0, 0), 2131, 0, 0, 0), ((2, 416, 19, 0, 0), 5128, 5129, 5130, 0), ((0, 419, 2, 1, 0), 2133, 0, 0, 0), ((2, 422, 20, 0, 0), 5137, 5138, 5139, 0), ((2, 425, 68, 1, 0), 5145, 5146, 5147, 0), ((1, 428, 162, 1, 0), 5153, 5154, 0, 0), ((0, 431, 4, 0, 0), 2162, 0, 0, 0), ((2, 434, 37, 2, 0), 3090, 3091, 3092, 0), ((0, 437, 4, 3, 0), 2167, 0, 0, 0), ((2, 440, 163, 1, 0), 5160, 5162, 28, 0), ((0, 443, 4, 1, 0), 2164, 0, 0, 0), ((2, 446, 40, 5, 0), 5164, 5165, 5166, 0), ((0, 449, 4, 4, 0), 2169, 0, 0, 0), ((2, 452, 70, 2, 0), 5190, 5191, 5192, 0), ((2, 455, 71, 3, 0), 5198, 5199, 5200, 0), ((2, 458, 72, 1, 0), 5209, 5210, 5211, 0), ((2, 461, 76, 3, 0), 5213, 5214, 5215, 0), ((0, 465, 8, 3, 0), 2196, 0, 0, 0), ((0, 469, 8, 0, 0), 2190, 0, 0, 0), ((2, 472, 75, 3, 0), 5228, 5229, 5230, 0), ((0, 481, 8, 2, 0), 2194, 0, 0, 0), ((1, 484, 38, 2, 0), 5239, 6000, 0, 0), ((2, 487, 66, 2, 0), 3123, 3124, 3125, 0), ((2, 490, 67, 3, 0), 3130, 3131, 3132, 0), ((2, 492, 17, 5, 0), 3134, 3135, 3136, 0)]
def mx_LL11 : List mx_L5 := mx_LP11.map (fun q => q.1)
set_option maxRecDepth 100000 in
theorem mx_LLok11 : ∀ q ∈ mx_LL11, mx_PL 11 q := mx_LP_s (by decide +kernel)
def mx_KL11 : List (Nat × Int32) := [(127, (-2000000000))]
def mx_JL11 : List (Nat × Int64) := [(189, (-9223372036854775808)), (375, 1999999999)]
theorem mx_KLok11 : ∀ q ∈ mx_KL11, Cond.constant (mx_cn 11) q.1 q.2 ∈ mx_ws := (List.forall_mem_cons.mpr ⟨mx_hw_s (p := 3102) (by decide +kernel), (fun _ h => absurd h List.not_mem_nil)⟩)
theorem mx_JLok11 : ∀ q ∈ mx_JL11, Cond.constantLong (mx_cn 11) q.1 q.2 ∈ mx_ws := (List.forall_mem_cons.mpr ⟨mx_hw_s (p := 3205) (by decide +kernel), (List.forall_mem_cons.mpr ⟨mx_hw_s (p := 5053) (by decide +kernel), (fun _ h => absurd h List.not_mem_nil)⟩)⟩)
def mx_LP12 : List (mx_L5 × Nat × Nat × Nat × Nat) := [((7, 1, 1000, 0, 0), 6011, 1024, 1025, 0), ((0, 7, 12, 2, 0), 6013, 0, 0, 0), ((0, 13, 12, 3, 0), 6014, 0, 0, 0), ((0, 16, 12, 4, 0), 6015, 0, 0, 0), ((0, 19, 12, 5, 0), 6016, 0, 0, 0), ((0, 22, 12, 6, 0), 6017, 0, 0, 0), ((0, 26, 12, 7, 0), 6018, 0, 0, 0), ((0, 29, 12, 8, 0), 6019, 0, 0, 0), ((0, 32, 12, 9, 0), 6020, 0, 0, 0), ((0, 35, 12, 10, 0), 6021, 0, 0, 0), ((0, 38, 12, 11, 0), 6022, 0, 0, 0), ((0, 41, 12, 13, 0), 6024, 0, 0, 0), ((0, 44, 12, 14, 0), 6025, 0, 0, 0), ((0, 47, 12, 15, 0), 6026, 0, 0, 0), ((0, 51, 12, 20, 0), 6031, 0, 0, 0), ((0, 54, 12, 21, 0), 6032, 0, 0, 0), ((0, 57, 12, 22, 0), 6033, 0, 0, 0), ((0, 60, 12, 23, 0), 6034, 0, 0, 0), ((0, 63, 12, 26, 0), 6037, 0, 0, 0), ((0, 66, 12, 27, 0), 6038, 0, 0, 0), ((0, 69, 12, 28, 0), 6039, 0, 0, 0), ((0, 72, 12, 29, 0), 6040, 0, 0, 0), ((0, 75, 12, 30, 0), 6041, 0, 0, 0), ((0, 78, 12, 31, 0), 6042, 0, 0, 0), ((0, 81, 12, 32, 0), 6043, 0, 0, 0), ((0, 84, 12, 33, 0), 6044, 0, 0, 0), ((0, 87, 12, 34, 0), 6045, 0, 0, 0), ((0, 90, 12, 36, 0), 6047, 0, 0, 0), ((0, 94, 12, 38, 0), 6049, 0, 0, 0), ((0, 97, 12, 39, 0), 6050, 0, 0, 0), ((0, 100, 12, 40, 0), 6051, 0, 0, 0), ((0, 103, 12, 41, 0), 6052, 0, 0, 0), ((0, 106, 12, 43, 0), 6054, 0, 0, 0), ((0, 109, 12, 44, 0), 6055, 0, 0, 0), ((0, 112, 12, 45, 0), 6056, 0, 0, 0), ((0, 115, 12, 53, 0), 6064, 0, 0, 0), ((0, 118, 12, 54, 0), 6065, 0, 0, 0), ((0, 121, 12, 55, 0), 6066, 0, 0, 0), ((0, 124, 12, 57, 0), 6068, 0, 0, 0), ((0, 127, 12, 58, 0), 6069, 0, 0, 0), ((0, 130, 12, 59, 0), 6070, 0, 0, 0), ((0, 133, 12, 60, 0), 6071, 0, 0, 0), ((0, 136, 12, 66, 0), 6077, 0, 0, 0), ((0, 139, 12, 70, 0), 6081, 0, 0, 0), ((0, 142, 12, 72, 0), 6083, 0, 0, 0), ((0, 145, 12, 73, 0), 6084, 0, 0, 0), ((0, 148, 12, 75, 0), 6086, 0, 0, 0), ((0, 151, 12, 76, 0), 6087, 0, 0, 0), ((0, 154, 12, 77, 0), 6088, 0, 0, 0), ((0, 157, 12, 78, 0), 6089, 0, 0, 0), ((0, 160, 12, 80, 0), 6091, 0, 0, 0), ((0, 163, 12, 81, 0), 6092, 0, 0, 0), ((0, 166, 12, 82, 0), 6093, 0, 0, 0), ((0, 169, 12, 84, 0), 6095, 0, 0, 0), ((0, 172, 12, 85, 0), 6096, 0, 0, 0), ((0, 175, 12, 86, 0), 6097, 0, 0, 0), ((0, 178, 12, 87, 0), 6098, 0, 0, 0), ((0, 181, 12, 89, 0), 6100, 0, 0, 0), ((0, 184, 12, 90, 0), 6101, 0, 0, 0), ((0, 187, 12, 91, 0), 6102, 0, 0, 0), ((0, 190, 12, 92, 0), 6103, 0, 0, 0), ((0, 193, 12, 93, 0), 6104, 0, 0, 0), ((0, 200, 12, 1, 0), 6012, 0, 0, 0), ((1, 203, 173, 3, 0), 7060, 7061, 0, 0), ((1, 207, 179, 3, 0), 7111, 7112, 0, 0), ((2, 211, 180, 3, 0), 7107, 7109, 41, 0), ((0, 214, 12, 16, 0), 6027, 0, 0, 0), ((0, 217, 12, 17, 0), 6028, 0, 0, 0), ((0, 220, 12, 18, 0), 6029, 0, 0, 0), ((2, 223, 185, 0, 0), 7075, 7077, 33, 0), ((2, 227, 187, 0, 0), 7083, 7085, 35, 0), ((2, 231, 186, 0, 0), 7079, 7081, 34, 0), ((2, 234, 178, 2, 0), 7103, 7105, 40, 0), ((2, 238, 189, 0, 0), 7099, 7101, 39, 0), ((2, 241, 188, 0, 0), 7087, 7089, 36, 0), ((2, 244, 181, 6, 0), 7114, 7116, 42, 0), ((0, 248, 12, 19, 0), 6030, 0, 0, 0), ((2, 251, 190, 0, 0), 7095, 7097, 38, 0), ((2, 254, 182, 1, 0), 7071, 7073, 32, 0), ((2, 258, 191, 0, 0), 7091, 7093, 37, 0), ((0, 261, 12, 12, 0), 6023, 0, 0, 0), ((2, 264, 192, 0, 0), 7067, 7069, 31, 0), ((2, 267, 193, 3, 0), 7118, 7120, 43, 0), ((2, 271, 177, 1, 0), 7126, 7128, 44, 0), ((2, 276, 183, 1, 0), 7131, 7133, 45, 0), ((2, 280, 195, 1, 0), 7135, 7137, 46, 0), ((0, 283, 12, 25, 0), 6036, 0, 0, 0), ((0, 286, 12, 24, 0), 6035, 0, 0, 0), ((2, 289, 199, 3, 0), 7155, 7157, 49, 0), ((2, 292, 198, 5, 0), 7147, 7149, 47, 0), ((2, 296, 200, 4, 0), 7151, 7153, 48, 0), ((1, 300, 174, 2, 0), 7167, 7168, 0, 0), ((1, 304, 175, 2, 0), 7182, 7183, 0, 0), ((0, 307, 12, 35, 0), 6046, 0, 0, 0), ((1, 310, 207, 2, 0), 7196, 7197, 0, 0), ((0, 313, 12, 42, 0), 6053, 0, 0, 0), ((0, 316, 12, 37, 0), 6048, 0, 0, 0), ((2, 319, 210, 2, 0), 7214, 7216, 54, 0), ((2, 323, 209, 2, 0), 7207, 7209, 53, 0), ((1, 327, 211, 1, 0), 7211, 7212, 0, 0), ((2, 330, 212, 2, 0), 7203, 7205, 52, 0), ((1, 333, 215, 1, 0), 7189, 7190, 0, 0), ((2, 336, 208, 1, 0), 7192, 7194, 50, 0), ((2, 339, 213, 2, 0), 7199, 7201, 51, 0), ((2, 342, 214, 2, 0), 7218, 7220, 55, 0), ((2, 349, 218, 0, 0), 7235, 7237, 57, 0), ((2, 352, 219, 2, 0), 7239, 8001, 58, 0), ((2, 355, 220, 2, 0), 7231, 7233, 56, 0), ((2, 358, 225, 3, 0), 8019, 8021, 59, 0), ((0, 361, 12, 46, 0), 6057, 0, 0, 0), ((0, 364, 12, 47, 0), 6058, 0, 0, 0), ((0, 367, 12, 48, 0), 6059, 0, 0, 0), ((0, 370, 12, 49, 0), 6060, 0, 0, 0), ((0, 374, 12, 50, 0), 6061, 0, 0, 0), ((2, 377, 227, 4, 0), 8035, 8037, 62, 0), ((2, 381, 228, 3, 0), 8039, 8041, 63, 0), ((2, 384, 229, 4, 0), 8031, 8033, 61, 0), ((2, 387, 230, 3, 0), 8027, 8029, 60, 0), ((2, 390, 233, 2, 0), 8051, 8053, 64, 0), ((2, 393, 236, 2, 0), 8063, 8065, 66, 0), ((2, 396, 235, 1, 0), 8067, 8069, 67, 0), ((2, 400, 237, 2, 0), 8059, 8061, 65, 0), ((0, 403, 12, 51, 0), 6062, 0, 0, 0), ((0, 406, 12, 52, 0), 6063, 0, 0, 0), ((0, 409, 12, 56, 0), 6067, 0, 0, 0), ((2, 412, 241, 2, 0), 8083, 8085, 68, 0), ((1, 415, 176, 1, 0), 8099, 8100, 0, 0), ((2, 418, 243, 0, 0), 8095, 8097, 70, 0), ((0, 421, 12, 63, 0), 6074, 0, 0, 0), ((0, 424, 12, 64, 0), 6075, 0, 0, 0), ((0, 427, 12, 61, 0), 6072, 0, 0, 0), ((2, 430, 244, 0, 0), 8102, 8104, 71, 0), ((0, 433, 12, 62, 0), 6073, 0, 0, 0), ((2, 436, 245, 2, 0), 8091, 8093, 69, 0), ((0, 439, 12, 65, 0), 6076, 0, 0, 0), ((0, 442, 12, 67, 0), 6078, 0, 0, 0), ((0, 445, 12, 68, 0), 6079, 0, 0, 0), ((0, 448, 12, 69, 0), 6080, 0, 0, 0), ((2, 451, 250, 4, 0), 8126, 8128, 73, 0), ((2, 454, 251, 2, 0), 8122, 8124, 72, 0), ((0, 457, 12, 71, 0), 6082, 0, 0, 0), ((1, 460, 255, 1, 0), 8142, 8143, 0, 0), ((0, 463, 12, 74, 0), 6085, 0, 0, 0), ((2, 466, 257, 1, 0), 8149, 8151, 74, 0), ((2, 469, 258, 0, 0), 8153, 8155, 75, 0), ((0, 472, 12, 79, 0), 6090, 0, 0, 0), ((1, 476, 300, 1, 0), 8177, 8178, 0, 0), ((2, 479, 264, 1, 0), 8180, 8182, 76, 0), ((1, 482, 265, 1, 0), 8184, 8185, 0, 0), ((2, 487, 267, 2, 0), 8200, 8202, 79, 0), ((1, 490, 268, 2, 0), 8205, 8206, 0, 0), ((2, 495, 270, 1, 0), 8192, 8194, 77, 0), ((2, 498, 269, 2, 0), 8196, 8198, 78, 0), ((0, 504, 12, 83, 0), 6094, 0, 0, 0), ((2, 507, 275, 4, 0), 8227, 8229, 80, 0), ((2, 510, 276, 3, 0), 8231, 8233, 81, 0), ((2, 513, 279, 3, 0), 8239, 9001, 82, 0), ((2, 516, 278, 3, 0), 9003, 9005, 83, 0), ((2, 519, 281, 2, 0), 9011, 9013, 84, 0), ((0, 522, 12, 88, 0), 6099, 0, 0, 0), ((2, 525, 286, 1, 0), 9034, 9036, 87, 0), ((2, 528, 287, 2, 0), 9042, 9044, 89, 0), ((1, 531, 284, 2, 0), 9031, 9032, 0, 0), ((2, 534, 288, 2, 0), 9038, 9040, 88, 0), ((2, 537, 289, 2, 0), 9027, 9029, 86, 0), ((2, 540, 290, 2, 0), 9050, 9052, 91, 0), ((2, 543, 292, 2, 0), 9058, 9060, 93, 0), ((2, 546, 291, 2, 0), 9046, 9048, 90, 0), ((2, 549, 293, 2, 0), 9054, 9056, 92, 0), ((2, 552, 294, 2, 0), 9070, 9072, 96, 0), ((2, 555, 295, 2, 0), 9066, 9068, 95, 0), ((2, 558, 283, 1, 0), 9023, 9025, 85, 0), ((2, 561, 296, 2, 0), 9062, 9064, 94, 0), ((2, 564, 303, 2, 0), 9094, 9096, 97, 0)]
def mx_LL12 : List mx_L5 := mx_LP12.map (fun q => q.1)
set_option maxRecDepth 100000 in
theorem mx_LLok12 : ∀ q ∈ mx_LL12, mx_PL 12 q := mx_LP_s (by decide +kernel)
def mx_KL12 : List (Nat × Int32) := [(275, (-2000000000)), (475, 2147483647), (503, 1999999999)]
def mx_JL12 : List (Nat × Int64) := [(347, (-9223372036854775808)), (485, (-1)), (493, 2), (501, 1999999999)]
theorem mx_KLok12 : ∀ q ∈ mx_KL12, Cond.constant (mx_cn 12) q.1 q.2 ∈ mx_ws := (List.forall_mem_cons.mpr ⟨mx_hw_s (p := 7130) (by decide +kernel), (List.forall_mem_cons.mpr ⟨mx_hw_s (p := 8187) (by decide +kernel), (List.forall_mem_cons.mpr ⟨mx_hw_s (p := 8210) (by decide +kernel), (fun _ h => absurd h List.not_mem_nil)⟩)⟩)⟩)
theorem mx_JLok12 : ∀ q ∈ mx_JL12, Cond.constantLong (mx_cn 12) q.1 q.2 ∈ mx_ws := (List.forall_mem_cons.mpr ⟨mx_hw_s (p := 7226) (by decide +kernel), (List.forall_mem_cons.mpr ⟨mx_hw_s (p := 8204) (by decide +kernel), (List.forall_mem_cons.mpr ⟨mx_hw_s (p := 8208) (by decide +kernel), (List.forall_mem_cons.mpr ⟨mx_hw_s (p := 8209) (by decide +kernel), (fun _ h => absurd h List.not_mem_nil)⟩)⟩)⟩)⟩)
def mx_LP13 : List (mx_L5 × Nat × Nat × Nat × Nat) := []
def mx_LL13 : List mx_L5 := mx_LP13.map (fun q => q.1)
set_option maxRecDepth 100000 in
theorem mx_LLok13 : ∀ q ∈ mx_LL13, mx_PL 13 q := mx_LP_s (by decide +kernel)
def mx_KL13 : List (Nat × Int32) := [(265, 1431655765), (266, 858993459), (267, 252645135)]
def mx_JL13 : List (Nat × Int64) := []
theorem mx_KLok13 : ∀ q ∈ mx_KL13, Cond.constant (mx_cn 13) q.1 q.2 ∈ mx_ws := (List.forall_mem_cons.mpr ⟨mx_hw_s (p := 5094) (by decide +kernel), (List.forall_mem_cons.mpr ⟨mx_hw_s (p := 5095) (by decide +kernel), (List.forall_mem_cons.mpr ⟨mx_hw_s (p := 5096) (by decide +kernel), (fun _ h => absurd h List.not_mem_nil)⟩)⟩)⟩)
theorem mx_JLok13 : ∀ q ∈ mx_JL13, Cond.constantLong (mx_cn 13) q.1 q.2 ∈ mx_ws := (fun _ h => absurd h List.not_mem_nil)
def mx_LP14 : List (mx_L5 × Nat × Nat × Nat × Nat) := []
def mx_LL14 : List mx_L5 := mx_LP14.map (fun q => q.1)
set_option maxRecDepth 100000 in
theorem mx_LLok14 : ∀ q ∈ mx_LL14, mx_PL 14 q := mx_LP_s (by decide +kernel)
def mx_KL14 : List (Nat × Int32) := []
def mx_JL14 : List (Nat × Int64) := []
theorem mx_KLok14 : ∀ q ∈ mx_KL14, Cond.constant (mx_cn 14) q.1 q.2 ∈ mx_ws := (fun _ h => absurd h List.not_mem_nil)
theorem mx_JLok14 : ∀ q ∈ mx_JL14, Cond.constantLong (mx_cn 14) q.1 q.2 ∈ mx_ws := (fun _ h => absurd h List.not_mem_nil)
def mx_LP15 : List (mx_L5 × Nat × Nat × Nat × Nat) := []
def mx_LL15 : List mx_L5 := mx_LP15.map (fun q => q.1)
set_option maxRecDepth 100000 in
theorem mx_LLok15 : ∀ q ∈ mx_LL15, mx_PL 15 q := mx_LP_s (by decide +kernel)
def mx_KL15 : List (Nat × Int32) := []
def mx_JL15 : List (Nat × Int64) := []
theorem mx_KLok15 : ∀ q ∈ mx_KL15, Cond.constant (mx_cn 15) q.1 q.2 ∈ mx_ws := (fun _ h => absurd h List.not_mem_nil)
theorem mx_JLok15 : ∀ q ∈ mx_JL15, Cond.constantLong (mx_cn 15) q.1 q.2 ∈ mx_ws := (fun _ h => absurd h List.not_mem_nil)
def mx_LP16 : List (mx_L5 × Nat × Nat × Nat × Nat) := []
def mx_LL16 : List mx_L5 := mx_LP16.map (fun q => q.1)
set_option maxRecDepth 100000 in
theorem mx_LLok16 : ∀ q ∈ mx_LL16, mx_PL 16 q := mx_LP_s (by decide +kernel)
def mx_KL16 : List (Nat × Int32) := []
def mx_JL16 : List (Nat × Int64) := []
theorem mx_KLok16 : ∀ q ∈ mx_KL16, Cond.constant (mx_cn 16) q.1 q.2 ∈ mx_ws := (fun _ h => absurd h List.not_mem_nil)
theorem mx_JLok16 : ∀ q ∈ mx_JL16, Cond.constantLong (mx_cn 16) q.1 q.2 ∈ mx_ws := (fun _ h => absurd h List.not_mem_nil)
def mx_LP17 : List (mx_L5 × Nat × Nat × Nat × Nat) := [((4, 7, 11, 0, 0), 1018, 1019, 1001, 0), ((3, 9, 101, 0, 0), 1020, 1021, 0, 0), ((4, 10, 12, 0, 0), 6006, 6007, 1013, 0), ((3, 12, 172, 0, 0), 6008, 6009, 0, 0), ((2, 13, 102, 2, 0), 3009, 3010, 3011, 0), ((2, 17, 184, 2, 0), 7056, 7057, 7058, 0), ((2, 18, 103, 0, 0), 3020, 3021, 3022, 0), ((2, 22, 194, 0, 0), 7063, 7064, 7065, 0), ((2, 23, 104, 2, 0), 3094, 3095, 3096, 0), ((2, 26, 196, 2, 0), 7122, 7123, 7124, 0), ((2, 27, 105, 4, 0), 3107, 3108, 3109, 0), ((2, 31, 197, 4, 0), 7139, 7140, 7141, 0), ((2, 32, 106, 4, 0), 3115, 3116, 3117, 0), ((2, 35, 201, 4, 0), 7143, 7144, 7145, 0), ((2, 36, 107, 4, 0), 3142, 3143, 3144, 0), ((2, 39, 202, 4, 0), 7159, 7160, 7161, 0), ((2, 40, 108, 3, 0), 3147, 3148, 3149, 0), ((2, 44, 203, 3, 0), 7163, 7164, 7165, 0), ((2, 45, 109, 3, 0), 3152, 3153, 3154, 0), ((2, 48, 216, 3, 0), 7185, 7186, 7187, 0), ((2, 49, 110, 3, 0), 3201, 3202, 3203, 0), ((2, 53, 217, 3, 0), 7222, 7223, 7224, 0), ((2, 54, 111, 3, 0), 3207, 3208, 3209, 0), ((2, 57, 221, 3, 0), 7227, 7228, 7229, 0), ((2, 58, 112, 3, 0), 3219, 3220, 3221, 0), ((2, 61, 222, 3, 0), 8003, 8004, 8005, 0), ((2, 62, 113, 4, 0), 3223, 3224, 3225, 0), ((2, 65, 223, 4, 0), 8007, 8008, 8009, 0), ((2, 66, 114, 5, 0), 3228, 3229, 3230, 0), ((2, 70, 224, 5, 0), 8011, 8012, 8013, 0), ((2, 71, 115, 4, 0), 3233, 3234, 3235, 0), ((2, 74, 226, 4, 0), 8015, 8016, 8017, 0), ((2, 75, 116, 1, 0), 4003, 4004, 4005, 0), ((2, 79, 231, 1, 0), 8023, 8024, 8025, 0), ((2, 80, 117, 2, 0), 4032, 4033, 4034, 0), ((2, 83, 232, 2, 0), 8043, 8044, 8045, 0), ((2, 84, 118, 2, 0), 4036, 4037, 4038, 0), ((2, 87, 234, 2, 0), 8047, 8048, 8049, 0), ((2, 88, 119, 3, 0), 4040, 4041, 4042, 0), ((2, 91, 238, 3, 0), 8055, 8056, 8057, 0), ((2, 92, 120, 4, 0), 4052, 4053, 4054, 0), ((2, 95, 239, 4, 0), 8071, 8072, 8073, 0), ((2, 96, 121, 3, 0), 4064, 4065, 4066, 0), ((2, 99, 240, 3, 0), 8075, 8076, 8077, 0), ((2, 100, 122, 3, 0), 4080, 4081, 4082, 0), ((2, 103, 242, 3, 0), 8079, 8080, 8081, 0), ((2, 104, 123, 1, 0), 4091, 4092, 4093, 0), ((2, 107, 246, 1, 0), 8087, 8088, 8089, 0), ((2, 108, 124, 0, 0), 4120, 4121, 4122, 0), ((2, 111, 247, 0, 0), 8106, 8107, 8108, 0), ((2, 112, 125, 1, 0), 4124, 4125, 4126, 0), ((2, 115, 248, 1, 0), 8110, 8111, 8112, 0), ((2, 116, 126, 3, 0), 4132, 4133, 4134, 0), ((2, 119, 252, 3, 0), 8118, 8119, 8120, 0), ((2, 120, 127, 2, 0), 4149, 4150, 4151, 0), ((2, 123, 253, 2, 0), 8130, 8131, 8132, 0), ((2, 124, 128, 0, 0), 4159, 4160, 4161, 0), ((2, 127, 249, 0, 0), 8114, 8115, 8116, 0), ((2, 128, 129, 1, 0), 4163, 4164, 4165, 0), ((2, 131, 254, 1, 0), 8134, 8135, 8136, 0), ((2, 132, 130, 2, 0), 4167, 4168, 4169, 0), ((2, 135, 256, 2, 0), 8138, 8139, 8140, 0), ((2, 136, 131, 4, 0), 4174, 4175, 4176, 0), ((2, 139, 259, 4, 0), 8145, 8146, 8147, 0), ((2, 140, 132, 3, 0), 4202, 4203, 4204, 0), ((2, 143, 260, 3, 0), 8157, 8158, 8159, 0), ((2, 144, 133, 2, 0), 4210, 4211, 4212, 0), ((2, 147, 261, 2, 0), 8161, 8162, 8163, 0), ((2, 148, 134, 2, 0), 4214, 4215, 4216, 0), ((2, 151, 262, 2, 0), 8165, 8166, 8167, 0), ((2, 152, 135, 2, 0), 4226, 4227, 4228, 0), ((2, 155, 263, 2, 0), 8169, 8170, 8171, 0), ((2, 156, 136, 4, 0), 4239, 5000, 5001, 0), ((2, 159, 266, 4, 0), 8173, 8174, 8175, 0), ((2, 160, 137, 2, 0), 5031, 5032, 5033, 0), ((2, 163, 271, 2, 0), 8188, 8189, 8190, 0), ((2, 164, 138, 1, 0), 5055, 5056, 5057, 0), ((2, 167, 272, 1, 0), 8211, 8212, 8213, 0), ((2, 168, 139, 2, 0), 5066, 5067, 5068, 0), ((2, 171, 273, 2, 0), 8215, 8216, 8217, 0), ((2, 172, 140, 4, 0), 5074, 5075, 5076, 0), ((2, 175, 277, 4, 0), 8223, 8224, 8225, 0), ((2, 176, 141, 0, 0), 5101, 5102, 5103, 0), ((2, 179, 274, 0, 0), 8219, 8220, 8221, 0), ((2, 180, 142, 4, 0), 5105, 5106, 5107, 0), ((2, 183, 280, 4, 0), 8235, 8236, 8237, 0), ((2, 184, 143, 2, 0), 5116, 5117, 5118, 0), ((2, 187, 282, 2, 0), 9007, 9008, 9009, 0), ((2, 188, 144, 0, 0), 5124, 5125, 5126, 0), ((2, 191, 204, 0, 0), 7170, 7171, 7172, 0), ((2, 192, 145, 0, 0), 5133, 5134, 5135, 0), ((2, 195, 205, 0, 0), 7174, 7175, 7176, 0), ((2, 196, 146, 0, 0), 5141, 5142, 5143, 0), ((2, 199, 206, 0, 0), 7178, 7179, 7180, 0), ((2, 200, 147, 1, 0), 5149, 5150, 5151, 0), ((2, 203, 285, 1, 0), 9015, 9016, 9017, 0), ((2, 204, 148, 3, 0), 5156, 5157, 5158, 0), ((2, 207, 297, 3, 0), 9019, 9020, 9021, 0), ((2, 208, 149, 1, 0), 5182, 5183, 5184, 0), ((2, 211, 298, 1, 0), 9074, 9075, 9076, 0), ((2, 212, 150, 2, 0), 5186, 5187, 5188, 0), ((2, 215, 301, 2, 0), 9082, 9083, 9084, 0), ((2, 216, 151, 3, 0), 5194, 5195, 5196, 0), ((2, 219, 302, 3, 0), 9086, 9087, 9088, 0), ((2, 222, 152, 3, 0), 5205, 5206, 5207, 0), ((2, 226, 304, 3, 0), 9090, 9091, 9092, 0), ((2, 227, 153, 2, 0), 5220, 5221, 5222, 0), ((2, 231, 305, 2, 0), 9098, 9099, 9100, 0), ((2, 232, 154, 5, 0), 5224, 5225, 5226, 0), ((2, 235, 306, 5, 0), 9102, 9103, 9104, 0), ((2, 236, 155, 2, 0), 5235, 5236, 5237, 0), ((2, 239, 307, 2, 0), 9106, 9107, 9108, 0), ((2, 240, 156, 1, 0), 6002, 6003, 6004, 0), ((2, 243, 299, 1, 0), 9078, 9079, 9080, 0)]
def mx_LL17 : List mx_L5 := mx_LP17.map (fun q => q.1)
set_option maxRecDepth 100000 in
theorem mx_LLok17 : ∀ q ∈ mx_LL17, mx_PL 17 q := mx_LP_s (by decide +kernel)
def mx_KL17 : List (Nat × Int32) := []
def mx_JL17 : List (Nat × Int64) := [(220, 4294967295)]
theorem mx_KLok17 : ∀ q ∈ mx_KL17, Cond.constant (mx_cn 17) q.1 q.2 ∈ mx_ws := (fun _ h => absurd h List.not_mem_nil)
theorem mx_JLok17 : ∀ q ∈ mx_JL17, Cond.constantLong (mx_cn 17) q.1 q.2 ∈ mx_ws := (List.forall_mem_cons.mpr ⟨mx_hw_s (p := 9110) (by decide +kernel), (fun _ h => absurd h List.not_mem_nil)⟩)
theorem mx_ARok : ∀ t, mx_ak t ≤ 3 → Cond.arrayClass (newarray.typeOf t) ∈ mx_ws := fun t h => by
  cases t with
  | int => exact mx_hw_s (p := 1043) (by decide +kernel)
  | long => exact mx_hw_s (p := 1186) (by decide +kernel)
  | byte => exact mx_hw_s (p := 7055) (by decide +kernel)
  | boolean => exact mx_hw_s (p := 7054) (by decide +kernel)
  | _ => exact absurd h (by decide)
end
