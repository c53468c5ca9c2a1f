section
-- ===== PART A: goes FIRST, ahead of the names: the tables' words, and 'selects' of the private methods out of them =====
/-- a private method of a class that the tables say can be made, by its rows of tables_1 -/
def lw_okq (q : MethodName × Nat) : Prop := (q.1.cls ≠ "java/lang/invoke/MethodHandle" ∧ q.1.cls ≠ "java/lang/invoke/VarHandle") ∧ Cond.instantiable q.1.cls q.2 ∈ tables_1 ∧ Cond.privateMethod q.1 ∈ tables_1 ∧ Cond.instanceMethod q.1 ∈ tables_1
theorem lw_p0 : lw_okq (⟨"PlatesSing$Tape", "readCorners", "(LPlatesSing$Shape;)Z"⟩, 3) := ⟨⟨by decide +kernel, by decide +kernel⟩, List.mem_of_getElem? (i := 27) (by decide +kernel), List.mem_of_getElem? (i := 516) (by decide +kernel), List.mem_of_getElem? (i := 517) (by decide +kernel)⟩
theorem lw_p1 : lw_okq (⟨"PlatesSing$Tape", "peek", "()I"⟩, 3) := ⟨⟨by decide +kernel, by decide +kernel⟩, List.mem_of_getElem? (i := 27) (by decide +kernel), List.mem_of_getElem? (i := 520) (by decide +kernel), List.mem_of_getElem? (i := 521) (by decide +kernel)⟩
theorem lw_p2 : lw_okq (⟨"PlatesSing$Tape", "digit", "()I"⟩, 3) := ⟨⟨by decide +kernel, by decide +kernel⟩, List.mem_of_getElem? (i := 27) (by decide +kernel), List.mem_of_getElem? (i := 524) (by decide +kernel), List.mem_of_getElem? (i := 525) (by decide +kernel)⟩
theorem lw_p3 : lw_okq (⟨"PlatesSing$Tape", "readPart", "(LPlatesSing$Shape;)Z"⟩, 3) := ⟨⟨by decide +kernel, by decide +kernel⟩, List.mem_of_getElem? (i := 27) (by decide +kernel), List.mem_of_getElem? (i := 529) (by decide +kernel), List.mem_of_getElem? (i := 530) (by decide +kernel)⟩
theorem lw_p4 : lw_okq (⟨"PlatesSing$Tape", "readPiece", "(LPlatesSing$Shape;)Z"⟩, 3) := ⟨⟨by decide +kernel, by decide +kernel⟩, List.mem_of_getElem? (i := 27) (by decide +kernel), List.mem_of_getElem? (i := 533) (by decide +kernel), List.mem_of_getElem? (i := 534) (by decide +kernel)⟩
theorem lw_p5 : lw_okq (⟨"PlatesSing$Tape", "corner", "(LPlatesSing$Shape;)I"⟩, 3) := ⟨⟨by decide +kernel, by decide +kernel⟩, List.mem_of_getElem? (i := 27) (by decide +kernel), List.mem_of_getElem? (i := 537) (by decide +kernel), List.mem_of_getElem? (i := 538) (by decide +kernel)⟩
theorem lw_p6 : lw_okq (⟨"PlatesSing$Tape", "readHold", "(LPlatesSing$Shape;)Z"⟩, 3) := ⟨⟨by decide +kernel, by decide +kernel⟩, List.mem_of_getElem? (i := 27) (by decide +kernel), List.mem_of_getElem? (i := 555) (by decide +kernel), List.mem_of_getElem? (i := 556) (by decide +kernel)⟩
theorem lw_p7 : lw_okq (⟨"PlatesSing$Tape", "readNumber", "(LPlatesSing$Shape;[I)Z"⟩, 3) := ⟨⟨by decide +kernel, by decide +kernel⟩, List.mem_of_getElem? (i := 27) (by decide +kernel), List.mem_of_getElem? (i := 559) (by decide +kernel), List.mem_of_getElem? (i := 560) (by decide +kernel)⟩
theorem lw_p8 : lw_okq (⟨"PlatesSing", "isFullFor", "(I)Z"⟩, 14) := ⟨⟨by decide +kernel, by decide +kernel⟩, List.mem_of_getElem? (i := 19) (by decide +kernel), List.mem_of_getElem? (i := 563) (by decide +kernel), List.mem_of_getElem? (i := 564) (by decide +kernel)⟩
theorem lw_p9 : lw_okq (⟨"PlatesSing", "addDraft", "()I"⟩, 14) := ⟨⟨by decide +kernel, by decide +kernel⟩, List.mem_of_getElem? (i := 19) (by decide +kernel), List.mem_of_getElem? (i := 567) (by decide +kernel), List.mem_of_getElem? (i := 568) (by decide +kernel)⟩
theorem lw_p10 : lw_okq (⟨"PlatesSing", "shapeAt", "(I)LPlatesSing$Shape;"⟩, 14) := ⟨⟨by decide +kernel, by decide +kernel⟩, List.mem_of_getElem? (i := 19) (by decide +kernel), List.mem_of_getElem? (i := 579) (by decide +kernel), List.mem_of_getElem? (i := 580) (by decide +kernel)⟩
theorem lw_p11 : lw_okq (⟨"PlatesSing", "change", "(LPlatesSing$Shape;III)I"⟩, 14) := ⟨⟨by decide +kernel, by decide +kernel⟩, List.mem_of_getElem? (i := 19) (by decide +kernel), List.mem_of_getElem? (i := 600) (by decide +kernel), List.mem_of_getElem? (i := 601) (by decide +kernel)⟩
theorem lw_p12 : lw_okq (⟨"PlatesSing$History", "dropOldest", "()V"⟩, 7) := ⟨⟨by decide +kernel, by decide +kernel⟩, List.mem_of_getElem? (i := 364) (by decide +kernel), List.mem_of_getElem? (i := 619) (by decide +kernel), List.mem_of_getElem? (i := 620) (by decide +kernel)⟩
theorem lw_p13 : lw_okq (⟨"PlatesSing$Net", "fillMatrix", "(II)V"⟩, 12) := ⟨⟨by decide +kernel, by decide +kernel⟩, List.mem_of_getElem? (i := 138) (by decide +kernel), List.mem_of_getElem? (i := 670) (by decide +kernel), List.mem_of_getElem? (i := 671) (by decide +kernel)⟩
theorem lw_p14 : lw_okq (⟨"PlatesSing$Net", "fillFactor", "(I)V"⟩, 12) := ⟨⟨by decide +kernel, by decide +kernel⟩, List.mem_of_getElem? (i := 138) (by decide +kernel), List.mem_of_getElem? (i := 674) (by decide +kernel), List.mem_of_getElem? (i := 675) (by decide +kernel)⟩
theorem lw_p15 : lw_okq (⟨"PlatesSing$Turns", "extend", "(LPlatesSing$Shape;LPlatesSing$Shape;I)V"⟩, 6) := ⟨⟨by decide +kernel, by decide +kernel⟩, List.mem_of_getElem? (i := 188) (by decide +kernel), List.mem_of_getElem? (i := 734) (by decide +kernel), List.mem_of_getElem? (i := 735) (by decide +kernel)⟩
def lw_privs_1 : List (MethodName × Nat) := [(⟨"PlatesSing$Tape", "readCorners", "(LPlatesSing$Shape;)Z"⟩, 3), (⟨"PlatesSing$Tape", "peek", "()I"⟩, 3), (⟨"PlatesSing$Tape", "digit", "()I"⟩, 3), (⟨"PlatesSing$Tape", "readPart", "(LPlatesSing$Shape;)Z"⟩, 3), (⟨"PlatesSing$Tape", "readPiece", "(LPlatesSing$Shape;)Z"⟩, 3), (⟨"PlatesSing$Tape", "corner", "(LPlatesSing$Shape;)I"⟩, 3), (⟨"PlatesSing$Tape", "readHold", "(LPlatesSing$Shape;)Z"⟩, 3), (⟨"PlatesSing$Tape", "readNumber", "(LPlatesSing$Shape;[I)Z"⟩, 3), (⟨"PlatesSing", "isFullFor", "(I)Z"⟩, 14), (⟨"PlatesSing", "addDraft", "()I"⟩, 14), (⟨"PlatesSing", "shapeAt", "(I)LPlatesSing$Shape;"⟩, 14), (⟨"PlatesSing", "change", "(LPlatesSing$Shape;III)I"⟩, 14), (⟨"PlatesSing$History", "dropOldest", "()V"⟩, 7), (⟨"PlatesSing$Net", "fillMatrix", "(II)V"⟩, 12), (⟨"PlatesSing$Net", "fillFactor", "(I)V"⟩, 12), (⟨"PlatesSing$Turns", "extend", "(LPlatesSing$Shape;LPlatesSing$Shape;I)V"⟩, 6)]
theorem lw_r1 : ∀ q ∈ lw_privs_1, lw_okq q := List.forall_mem_cons.mpr ⟨lw_p0, List.forall_mem_cons.mpr ⟨lw_p1, List.forall_mem_cons.mpr ⟨lw_p2, List.forall_mem_cons.mpr ⟨lw_p3, List.forall_mem_cons.mpr ⟨lw_p4, List.forall_mem_cons.mpr ⟨lw_p5, List.forall_mem_cons.mpr ⟨lw_p6, List.forall_mem_cons.mpr ⟨lw_p7, List.forall_mem_cons.mpr ⟨lw_p8, List.forall_mem_cons.mpr ⟨lw_p9, List.forall_mem_cons.mpr ⟨lw_p10, List.forall_mem_cons.mpr ⟨lw_p11, List.forall_mem_cons.mpr ⟨lw_p12, List.forall_mem_cons.mpr ⟨lw_p13, List.forall_mem_cons.mpr ⟨lw_p14, List.forall_mem_cons.mpr ⟨lw_p15, fun _ h => absurd h List.not_mem_nil⟩⟩⟩⟩⟩⟩⟩⟩⟩⟩⟩⟩⟩⟩⟩⟩
theorem lw_p16 : lw_okq (⟨"PlatesSing$Turns", "noteFound", "(I)V"⟩, 6) := ⟨⟨by decide +kernel, by decide +kernel⟩, List.mem_of_getElem? (i := 188) (by decide +kernel), List.mem_of_getElem? (i := 738) (by decide +kernel), List.mem_of_getElem? (i := 739) (by decide +kernel)⟩
theorem lw_p17 : lw_okq (⟨"PlatesSing$Turns", "keepsPieces", "(II)Z"⟩, 6) := ⟨⟨by decide +kernel, by decide +kernel⟩, List.mem_of_getElem? (i := 188) (by decide +kernel), List.mem_of_getElem? (i := 745) (by decide +kernel), List.mem_of_getElem? (i := 746) (by decide +kernel)⟩
theorem lw_p18 : lw_okq (⟨"PlatesSing$Net", "divisor", "()J"⟩, 12) := ⟨⟨by decide +kernel, by decide +kernel⟩, List.mem_of_getElem? (i := 138) (by decide +kernel), List.mem_of_getElem? (i := 769) (by decide +kernel), List.mem_of_getElem? (i := 770) (by decide +kernel)⟩
theorem lw_p19 : lw_okq (⟨"PlatesSing", "planned", "()LPlatesSing$Shape;"⟩, 14) := ⟨⟨by decide +kernel, by decide +kernel⟩, List.mem_of_getElem? (i := 19) (by decide +kernel), List.mem_of_getElem? (i := 789) (by decide +kernel), List.mem_of_getElem? (i := 790) (by decide +kernel)⟩
theorem lw_p20 : lw_okq (⟨"PlatesSing$Plan", "extend", "(LPlatesSing$Shape;LPlatesSing$Net;IIII)V"⟩, 13) := ⟨⟨by decide +kernel, by decide +kernel⟩, List.mem_of_getElem? (i := 218) (by decide +kernel), List.mem_of_getElem? (i := 827) (by decide +kernel), List.mem_of_getElem? (i := 828) (by decide +kernel)⟩
theorem lw_p21 : lw_okq (⟨"PlatesSing$Plan", "compare", "(LPlatesSing$Shape;LPlatesSing$Net;II)V"⟩, 13) := ⟨⟨by decide +kernel, by decide +kernel⟩, List.mem_of_getElem? (i := 218) (by decide +kernel), List.mem_of_getElem? (i := 831) (by decide +kernel), List.mem_of_getElem? (i := 832) (by decide +kernel)⟩
theorem lw_p22 : lw_okq (⟨"PlatesSing$Hearing", "tryNet", "(LPlatesSing$Net;IIII)V"⟩, 6) := ⟨⟨by decide +kernel, by decide +kernel⟩, List.mem_of_getElem? (i := 270) (by decide +kernel), List.mem_of_getElem? (i := 865) (by decide +kernel), List.mem_of_getElem? (i := 866) (by decide +kernel)⟩
theorem lw_p23 : lw_okq (⟨"PlatesSing$Blows", "pull", "(LPlatesSing$Net;I)V"⟩, 11) := ⟨⟨by decide +kernel, by decide +kernel⟩, List.mem_of_getElem? (i := 299) (by decide +kernel), List.mem_of_getElem? (i := 916) (by decide +kernel), List.mem_of_getElem? (i := 917) (by decide +kernel)⟩
theorem lw_p24 : lw_okq (⟨"PlatesSing$Shelves", "present", "(II)J"⟩, 4) := ⟨⟨by decide +kernel, by decide +kernel⟩, List.mem_of_getElem? (i := 422) (by decide +kernel), List.mem_of_getElem? (i := 1000) (by decide +kernel), List.mem_of_getElem? (i := 1001) (by decide +kernel)⟩
theorem lw_p25 : lw_okq (⟨"PlatesSing$Ratios", "fit", "(IIII)Z"⟩, 4) := ⟨⟨by decide +kernel, by decide +kernel⟩, List.mem_of_getElem? (i := 343) (by decide +kernel), List.mem_of_getElem? (i := 1043) (by decide +kernel), List.mem_of_getElem? (i := 1044) (by decide +kernel)⟩
theorem lw_p26 : lw_okq (⟨"PlatesSing$Ratios", "allFit", "(III)Z"⟩, 4) := ⟨⟨by decide +kernel, by decide +kernel⟩, List.mem_of_getElem? (i := 343) (by decide +kernel), List.mem_of_getElem? (i := 1058) (by decide +kernel), List.mem_of_getElem? (i := 1059) (by decide +kernel)⟩
theorem lw_p27 : lw_okq (⟨"PlatesSing", "under", "(LPlatesSing$Shape;I)I"⟩, 14) := ⟨⟨by decide +kernel, by decide +kernel⟩, List.mem_of_getElem? (i := 19) (by decide +kernel), List.mem_of_getElem? (i := 1081) (by decide +kernel), List.mem_of_getElem? (i := 1082) (by decide +kernel)⟩
theorem lw_p28 : lw_okq (⟨"PlatesSing", "isBody", "(I)Z"⟩, 14) := ⟨⟨by decide +kernel, by decide +kernel⟩, List.mem_of_getElem? (i := 19) (by decide +kernel), List.mem_of_getElem? (i := 1121) (by decide +kernel), List.mem_of_getElem? (i := 1122) (by decide +kernel)⟩
theorem lw_p29 : lw_okq (⟨"PlatesSing$Parts", "begin", "(I)V"⟩, 5) := ⟨⟨by decide +kernel, by decide +kernel⟩, List.mem_of_getElem? (i := 395) (by decide +kernel), List.mem_of_getElem? (i := 1133) (by decide +kernel), List.mem_of_getElem? (i := 1134) (by decide +kernel)⟩
theorem lw_p30 : lw_okq (⟨"PlatesSing$Parts", "stiffOf", "(I)I"⟩, 5) := ⟨⟨by decide +kernel, by decide +kernel⟩, List.mem_of_getElem? (i := 395) (by decide +kernel), List.mem_of_getElem? (i := 1137) (by decide +kernel), List.mem_of_getElem? (i := 1138) (by decide +kernel)⟩
theorem lw_p31 : lw_okq (⟨"PlatesSingModel", "readShape", "()V"⟩, 94) := ⟨⟨by decide +kernel, by decide +kernel⟩, List.mem_of_getElem? (i := 1207) (by decide +kernel), List.mem_of_getElem? (i := 1508) (by decide +kernel), List.mem_of_getElem? (i := 1509) (by decide +kernel)⟩
def lw_privs_2 : List (MethodName × Nat) := [(⟨"PlatesSing$Turns", "noteFound", "(I)V"⟩, 6), (⟨"PlatesSing$Turns", "keepsPieces", "(II)Z"⟩, 6), (⟨"PlatesSing$Net", "divisor", "()J"⟩, 12), (⟨"PlatesSing", "planned", "()LPlatesSing$Shape;"⟩, 14), (⟨"PlatesSing$Plan", "extend", "(LPlatesSing$Shape;LPlatesSing$Net;IIII)V"⟩, 13), (⟨"PlatesSing$Plan", "compare", "(LPlatesSing$Shape;LPlatesSing$Net;II)V"⟩, 13), (⟨"PlatesSing$Hearing", "tryNet", "(LPlatesSing$Net;IIII)V"⟩, 6), (⟨"PlatesSing$Blows", "pull", "(LPlatesSing$Net;I)V"⟩, 11), (⟨"PlatesSing$Shelves", "present", "(II)J"⟩, 4), (⟨"PlatesSing$Ratios", "fit", "(IIII)Z"⟩, 4), (⟨"PlatesSing$Ratios", "allFit", "(III)Z"⟩, 4), (⟨"PlatesSing", "under", "(LPlatesSing$Shape;I)I"⟩, 14), (⟨"PlatesSing", "isBody", "(I)Z"⟩, 14), (⟨"PlatesSing$Parts", "begin", "(I)V"⟩, 5), (⟨"PlatesSing$Parts", "stiffOf", "(I)I"⟩, 5), (⟨"PlatesSingModel", "readShape", "()V"⟩, 94)]
theorem lw_r2 : ∀ q ∈ lw_privs_2, lw_okq q := List.forall_mem_cons.mpr ⟨lw_p16, List.forall_mem_cons.mpr ⟨lw_p17, List.forall_mem_cons.mpr ⟨lw_p18, List.forall_mem_cons.mpr ⟨lw_p19, List.forall_mem_cons.mpr ⟨lw_p20, List.forall_mem_cons.mpr ⟨lw_p21, List.forall_mem_cons.mpr ⟨lw_p22, List.forall_mem_cons.mpr ⟨lw_p23, List.forall_mem_cons.mpr ⟨lw_p24, List.forall_mem_cons.mpr ⟨lw_p25, List.forall_mem_cons.mpr ⟨lw_p26, List.forall_mem_cons.mpr ⟨lw_p27, List.forall_mem_cons.mpr ⟨lw_p28, List.forall_mem_cons.mpr ⟨lw_p29, List.forall_mem_cons.mpr ⟨lw_p30, List.forall_mem_cons.mpr ⟨lw_p31, fun _ h => absurd h List.not_mem_nil⟩⟩⟩⟩⟩⟩⟩⟩⟩⟩⟩⟩⟩⟩⟩⟩
theorem lw_p32 : lw_okq (⟨"PlatesSingModel", "clear", "(I)V"⟩, 94) := ⟨⟨by decide +kernel, by decide +kernel⟩, List.mem_of_getElem? (i := 1207) (by decide +kernel), List.mem_of_getElem? (i := 1512) (by decide +kernel), List.mem_of_getElem? (i := 1513) (by decide +kernel)⟩
theorem lw_p33 : lw_okq (⟨"PlatesSingModel", "look", "()I"⟩, 94) := ⟨⟨by decide +kernel, by decide +kernel⟩, List.mem_of_getElem? (i := 1207) (by decide +kernel), List.mem_of_getElem? (i := 1516) (by decide +kernel), List.mem_of_getElem? (i := 1517) (by decide +kernel)⟩
theorem lw_p34 : lw_okq (⟨"PlatesSingModel", "wrong", "()V"⟩, 94) := ⟨⟨by decide +kernel, by decide +kernel⟩, List.mem_of_getElem? (i := 1207) (by decide +kernel), List.mem_of_getElem? (i := 1520) (by decide +kernel), List.mem_of_getElem? (i := 1521) (by decide +kernel)⟩
theorem lw_p35 : lw_okq (⟨"PlatesSingModel", "isDigit", "()Z"⟩, 94) := ⟨⟨by decide +kernel, by decide +kernel⟩, List.mem_of_getElem? (i := 1207) (by decide +kernel), List.mem_of_getElem? (i := 1524) (by decide +kernel), List.mem_of_getElem? (i := 1525) (by decide +kernel)⟩
theorem lw_p36 : lw_okq (⟨"PlatesSingModel", "digit", "()I"⟩, 94) := ⟨⟨by decide +kernel, by decide +kernel⟩, List.mem_of_getElem? (i := 1207) (by decide +kernel), List.mem_of_getElem? (i := 1528) (by decide +kernel), List.mem_of_getElem? (i := 1529) (by decide +kernel)⟩
theorem lw_p37 : lw_okq (⟨"PlatesSingModel", "readPart", "()V"⟩, 94) := ⟨⟨by decide +kernel, by decide +kernel⟩, List.mem_of_getElem? (i := 1207) (by decide +kernel), List.mem_of_getElem? (i := 1532) (by decide +kernel), List.mem_of_getElem? (i := 1533) (by decide +kernel)⟩
theorem lw_p38 : lw_okq (⟨"PlatesSingModel", "readPiece", "()V"⟩, 94) := ⟨⟨by decide +kernel, by decide +kernel⟩, List.mem_of_getElem? (i := 1207) (by decide +kernel), List.mem_of_getElem? (i := 1536) (by decide +kernel), List.mem_of_getElem? (i := 1537) (by decide +kernel)⟩
theorem lw_p39 : lw_okq (⟨"PlatesSingModel", "letter", "()I"⟩, 94) := ⟨⟨by decide +kernel, by decide +kernel⟩, List.mem_of_getElem? (i := 1207) (by decide +kernel), List.mem_of_getElem? (i := 1540) (by decide +kernel), List.mem_of_getElem? (i := 1541) (by decide +kernel)⟩
theorem lw_p40 : lw_okq (⟨"PlatesSingModel", "isCorner", "(II)Z"⟩, 94) := ⟨⟨by decide +kernel, by decide +kernel⟩, List.mem_of_getElem? (i := 1207) (by decide +kernel), List.mem_of_getElem? (i := 1544) (by decide +kernel), List.mem_of_getElem? (i := 1545) (by decide +kernel)⟩
theorem lw_p41 : lw_okq (⟨"PlatesSingModel", "hasPiece", "(III)Z"⟩, 94) := ⟨⟨by decide +kernel, by decide +kernel⟩, List.mem_of_getElem? (i := 1207) (by decide +kernel), List.mem_of_getElem? (i := 1548) (by decide +kernel), List.mem_of_getElem? (i := 1549) (by decide +kernel)⟩
theorem lw_p42 : lw_okq (⟨"PlatesSingModel", "setPiece", "(IIIIII)V"⟩, 94) := ⟨⟨by decide +kernel, by decide +kernel⟩, List.mem_of_getElem? (i := 1207) (by decide +kernel), List.mem_of_getElem? (i := 1555) (by decide +kernel), List.mem_of_getElem? (i := 1556) (by decide +kernel)⟩
theorem lw_p43 : lw_okq (⟨"PlatesSingModel", "bear", "(III)V"⟩, 94) := ⟨⟨by decide +kernel, by decide +kernel⟩, List.mem_of_getElem? (i := 1207) (by decide +kernel), List.mem_of_getElem? (i := 1559) (by decide +kernel), List.mem_of_getElem? (i := 1560) (by decide +kernel)⟩
theorem lw_p44 : lw_okq (⟨"PlatesSingModel", "isShape", "(I)Z"⟩, 94) := ⟨⟨by decide +kernel, by decide +kernel⟩, List.mem_of_getElem? (i := 1207) (by decide +kernel), List.mem_of_getElem? (i := 1567) (by decide +kernel), List.mem_of_getElem? (i := 1568) (by decide +kernel)⟩
theorem lw_p45 : lw_okq (⟨"PlatesSingModel", "piecesOf", "(I)I"⟩, 94) := ⟨⟨by decide +kernel, by decide +kernel⟩, List.mem_of_getElem? (i := 1207) (by decide +kernel), List.mem_of_getElem? (i := 1572) (by decide +kernel), List.mem_of_getElem? (i := 1573) (by decide +kernel)⟩
theorem lw_p46 : lw_okq (⟨"PlatesSingModel", "tonesOf", "(I)I"⟩, 94) := ⟨⟨by decide +kernel, by decide +kernel⟩, List.mem_of_getElem? (i := 1207) (by decide +kernel), List.mem_of_getElem? (i := 1576) (by decide +kernel), List.mem_of_getElem? (i := 1577) (by decide +kernel)⟩
theorem lw_p47 : lw_okq (⟨"PlatesSingModel", "kept", "(IIIII)V"⟩, 94) := ⟨⟨by decide +kernel, by decide +kernel⟩, List.mem_of_getElem? (i := 1207) (by decide +kernel), List.mem_of_getElem? (i := 1588) (by decide +kernel), List.mem_of_getElem? (i := 1589) (by decide +kernel)⟩
def lw_privs_3 : List (MethodName × Nat) := [(⟨"PlatesSingModel", "clear", "(I)V"⟩, 94), (⟨"PlatesSingModel", "look", "()I"⟩, 94), (⟨"PlatesSingModel", "wrong", "()V"⟩, 94), (⟨"PlatesSingModel", "isDigit", "()Z"⟩, 94), (⟨"PlatesSingModel", "digit", "()I"⟩, 94), (⟨"PlatesSingModel", "readPart", "()V"⟩, 94), (⟨"PlatesSingModel", "readPiece", "()V"⟩, 94), (⟨"PlatesSingModel", "letter", "()I"⟩, 94), (⟨"PlatesSingModel", "isCorner", "(II)Z"⟩, 94), (⟨"PlatesSingModel", "hasPiece", "(III)Z"⟩, 94), (⟨"PlatesSingModel", "setPiece", "(IIIIII)V"⟩, 94), (⟨"PlatesSingModel", "bear", "(III)V"⟩, 94), (⟨"PlatesSingModel", "isShape", "(I)Z"⟩, 94), (⟨"PlatesSingModel", "piecesOf", "(I)I"⟩, 94), (⟨"PlatesSingModel", "tonesOf", "(I)I"⟩, 94), (⟨"PlatesSingModel", "kept", "(IIIII)V"⟩, 94)]
theorem lw_r3 : ∀ q ∈ lw_privs_3, lw_okq q := List.forall_mem_cons.mpr ⟨lw_p32, List.forall_mem_cons.mpr ⟨lw_p33, List.forall_mem_cons.mpr ⟨lw_p34, List.forall_mem_cons.mpr ⟨lw_p35, List.forall_mem_cons.mpr ⟨lw_p36, List.forall_mem_cons.mpr ⟨lw_p37, List.forall_mem_cons.mpr ⟨lw_p38, List.forall_mem_cons.mpr ⟨lw_p39, List.forall_mem_cons.mpr ⟨lw_p40, List.forall_mem_cons.mpr ⟨lw_p41, List.forall_mem_cons.mpr ⟨lw_p42, List.forall_mem_cons.mpr ⟨lw_p43, List.forall_mem_cons.mpr ⟨lw_p44, List.forall_mem_cons.mpr ⟨lw_p45, List.forall_mem_cons.mpr ⟨lw_p46, List.forall_mem_cons.mpr ⟨lw_p47, fun _ h => absurd h List.not_mem_nil⟩⟩⟩⟩⟩⟩⟩⟩⟩⟩⟩⟩⟩⟩⟩⟩
theorem lw_p48 : lw_okq (⟨"PlatesSingModel", "set", "(IIII)V"⟩, 94) := ⟨⟨by decide +kernel, by decide +kernel⟩, List.mem_of_getElem? (i := 1207) (by decide +kernel), List.mem_of_getElem? (i := 1592) (by decide +kernel), List.mem_of_getElem? (i := 1593) (by decide +kernel)⟩
theorem lw_p49 : lw_okq (⟨"PlatesSingModel", "setStiff", "(III)V"⟩, 94) := ⟨⟨by decide +kernel, by decide +kernel⟩, List.mem_of_getElem? (i := 1207) (by decide +kernel), List.mem_of_getElem? (i := 1596) (by decide +kernel), List.mem_of_getElem? (i := 1597) (by decide +kernel)⟩
theorem lw_p50 : lw_okq (⟨"PlatesSingModel", "take", "(I)V"⟩, 94) := ⟨⟨by decide +kernel, by decide +kernel⟩, List.mem_of_getElem? (i := 1207) (by decide +kernel), List.mem_of_getElem? (i := 1633) (by decide +kernel), List.mem_of_getElem? (i := 1634) (by decide +kernel)⟩
theorem lw_p51 : lw_okq (⟨"PlatesSingModel", "changes", "(II)I"⟩, 94) := ⟨⟨by decide +kernel, by decide +kernel⟩, List.mem_of_getElem? (i := 1207) (by decide +kernel), List.mem_of_getElem? (i := 1640) (by decide +kernel), List.mem_of_getElem? (i := 1641) (by decide +kernel)⟩
theorem lw_p52 : lw_okq (⟨"PlatesSingModel", "findSums", "(II)V"⟩, 94) := ⟨⟨by decide +kernel, by decide +kernel⟩, List.mem_of_getElem? (i := 1207) (by decide +kernel), List.mem_of_getElem? (i := 1644) (by decide +kernel), List.mem_of_getElem? (i := 1645) (by decide +kernel)⟩
theorem lw_p53 : lw_okq (⟨"PlatesSingModel", "layMatrix", "(II)V"⟩, 94) := ⟨⟨by decide +kernel, by decide +kernel⟩, List.mem_of_getElem? (i := 1207) (by decide +kernel), List.mem_of_getElem? (i := 1648) (by decide +kernel), List.mem_of_getElem? (i := 1649) (by decide +kernel)⟩
theorem lw_p54 : lw_okq (⟨"PlatesSingModel", "minor", "(II)J"⟩, 94) := ⟨⟨by decide +kernel, by decide +kernel⟩, List.mem_of_getElem? (i := 1207) (by decide +kernel), List.mem_of_getElem? (i := 1655) (by decide +kernel), List.mem_of_getElem? (i := 1656) (by decide +kernel)⟩
theorem lw_p55 : lw_okq (⟨"PlatesSingModel", "atMark", "(II)I"⟩, 94) := ⟨⟨by decide +kernel, by decide +kernel⟩, List.mem_of_getElem? (i := 1207) (by decide +kernel), List.mem_of_getElem? (i := 1659) (by decide +kernel), List.mem_of_getElem? (i := 1660) (by decide +kernel)⟩
theorem lw_p56 : lw_okq (⟨"PlatesSingModel", "shutNow", "(II)I"⟩, 94) := ⟨⟨by decide +kernel, by decide +kernel⟩, List.mem_of_getElem? (i := 1207) (by decide +kernel), List.mem_of_getElem? (i := 1672) (by decide +kernel), List.mem_of_getElem? (i := 1673) (by decide +kernel)⟩
theorem lw_p57 : lw_okq (⟨"PlatesSingModel", "forgetChanges", "()V"⟩, 94) := ⟨⟨by decide +kernel, by decide +kernel⟩, List.mem_of_getElem? (i := 1207) (by decide +kernel), List.mem_of_getElem? (i := 1676) (by decide +kernel), List.mem_of_getElem? (i := 1677) (by decide +kernel)⟩
theorem lw_p58 : lw_okq (⟨"PlatesSingModel", "shutOf", "(II)I"⟩, 94) := ⟨⟨by decide +kernel, by decide +kernel⟩, List.mem_of_getElem? (i := 1207) (by decide +kernel), List.mem_of_getElem? (i := 1680) (by decide +kernel), List.mem_of_getElem? (i := 1681) (by decide +kernel)⟩
theorem lw_p59 : lw_okq (⟨"PlatesSingModel", "setCount", "(III)V"⟩, 94) := ⟨⟨by decide +kernel, by decide +kernel⟩, List.mem_of_getElem? (i := 1207) (by decide +kernel), List.mem_of_getElem? (i := 1700) (by decide +kernel), List.mem_of_getElem? (i := 1701) (by decide +kernel)⟩
theorem lw_p60 : lw_okq (⟨"PlatesSingModel", "findTurns", "(III)V"⟩, 94) := ⟨⟨by decide +kernel, by decide +kernel⟩, List.mem_of_getElem? (i := 1207) (by decide +kernel), List.mem_of_getElem? (i := 1708) (by decide +kernel), List.mem_of_getElem? (i := 1709) (by decide +kernel)⟩
theorem lw_p61 : lw_okq (⟨"PlatesSingModel", "turnOn", "(IIII)V"⟩, 94) := ⟨⟨by decide +kernel, by decide +kernel⟩, List.mem_of_getElem? (i := 1207) (by decide +kernel), List.mem_of_getElem? (i := 1712) (by decide +kernel), List.mem_of_getElem? (i := 1713) (by decide +kernel)⟩
theorem lw_p62 : lw_okq (⟨"PlatesSingModel", "areLike", "(IIII)Z"⟩, 94) := ⟨⟨by decide +kernel, by decide +kernel⟩, List.mem_of_getElem? (i := 1207) (by decide +kernel), List.mem_of_getElem? (i := 1716) (by decide +kernel), List.mem_of_getElem? (i := 1717) (by decide +kernel)⟩
theorem lw_p63 : lw_okq (⟨"PlatesSingModel", "countBetween", "(III)I"⟩, 94) := ⟨⟨by decide +kernel, by decide +kernel⟩, List.mem_of_getElem? (i := 1207) (by decide +kernel), List.mem_of_getElem? (i := 1720) (by decide +kernel), List.mem_of_getElem? (i := 1721) (by decide +kernel)⟩
def lw_privs_4 : List (MethodName × Nat) := [(⟨"PlatesSingModel", "set", "(IIII)V"⟩, 94), (⟨"PlatesSingModel", "setStiff", "(III)V"⟩, 94), (⟨"PlatesSingModel", "take", "(I)V"⟩, 94), (⟨"PlatesSingModel", "changes", "(II)I"⟩, 94), (⟨"PlatesSingModel", "findSums", "(II)V"⟩, 94), (⟨"PlatesSingModel", "layMatrix", "(II)V"⟩, 94), (⟨"PlatesSingModel", "minor", "(II)J"⟩, 94), (⟨"PlatesSingModel", "atMark", "(II)I"⟩, 94), (⟨"PlatesSingModel", "shutNow", "(II)I"⟩, 94), (⟨"PlatesSingModel", "forgetChanges", "()V"⟩, 94), (⟨"PlatesSingModel", "shutOf", "(II)I"⟩, 94), (⟨"PlatesSingModel", "setCount", "(III)V"⟩, 94), (⟨"PlatesSingModel", "findTurns", "(III)V"⟩, 94), (⟨"PlatesSingModel", "turnOn", "(IIII)V"⟩, 94), (⟨"PlatesSingModel", "areLike", "(IIII)Z"⟩, 94), (⟨"PlatesSingModel", "countBetween", "(III)I"⟩, 94)]
theorem lw_r4 : ∀ q ∈ lw_privs_4, lw_okq q := List.forall_mem_cons.mpr ⟨lw_p48, List.forall_mem_cons.mpr ⟨lw_p49, List.forall_mem_cons.mpr ⟨lw_p50, List.forall_mem_cons.mpr ⟨lw_p51, List.forall_mem_cons.mpr ⟨lw_p52, List.forall_mem_cons.mpr ⟨lw_p53, List.forall_mem_cons.mpr ⟨lw_p54, List.forall_mem_cons.mpr ⟨lw_p55, List.forall_mem_cons.mpr ⟨lw_p56, List.forall_mem_cons.mpr ⟨lw_p57, List.forall_mem_cons.mpr ⟨lw_p58, List.forall_mem_cons.mpr ⟨lw_p59, List.forall_mem_cons.mpr ⟨lw_p60, List.forall_mem_cons.mpr ⟨lw_p61, List.forall_mem_cons.mpr ⟨lw_p62, List.forall_mem_cons.mpr ⟨lw_p63, fun _ h => absurd h List.not_mem_nil⟩⟩⟩⟩⟩⟩⟩⟩⟩⟩⟩⟩⟩⟩⟩⟩
theorem lw_p64 : lw_okq (⟨"PlatesSingModel", "tableOf", "(II)I"⟩, 94) := ⟨⟨by decide +kernel, by decide +kernel⟩, List.mem_of_getElem? (i := 1207) (by decide +kernel), List.mem_of_getElem? (i := 1732) (by decide +kernel), List.mem_of_getElem? (i := 1733) (by decide +kernel)⟩
theorem lw_p65 : lw_okq (⟨"PlatesSingModel", "soundAlike", "(II)Z"⟩, 94) := ⟨⟨by decide +kernel, by decide +kernel⟩, List.mem_of_getElem? (i := 1207) (by decide +kernel), List.mem_of_getElem? (i := 1740) (by decide +kernel), List.mem_of_getElem? (i := 1741) (by decide +kernel)⟩
theorem lw_p66 : lw_okq (⟨"PlatesSingModel", "lastSum", "(II)J"⟩, 94) := ⟨⟨by decide +kernel, by decide +kernel⟩, List.mem_of_getElem? (i := 1207) (by decide +kernel), List.mem_of_getElem? (i := 1744) (by decide +kernel), List.mem_of_getElem? (i := 1745) (by decide +kernel)⟩
theorem lw_p67 : lw_okq (⟨"PlatesSingModel", "divisor", "(I)J"⟩, 94) := ⟨⟨by decide +kernel, by decide +kernel⟩, List.mem_of_getElem? (i := 1207) (by decide +kernel), List.mem_of_getElem? (i := 1748) (by decide +kernel), List.mem_of_getElem? (i := 1749) (by decide +kernel)⟩
theorem lw_p68 : lw_okq (⟨"PlatesSingModel", "struck", "(II)Z"⟩, 94) := ⟨⟨by decide +kernel, by decide +kernel⟩, List.mem_of_getElem? (i := 1207) (by decide +kernel), List.mem_of_getElem? (i := 1764) (by decide +kernel), List.mem_of_getElem? (i := 1765) (by decide +kernel)⟩
theorem lw_p69 : lw_okq (⟨"PlatesSingModel", "tuneOn", "(II)V"⟩, 94) := ⟨⟨by decide +kernel, by decide +kernel⟩, List.mem_of_getElem? (i := 1207) (by decide +kernel), List.mem_of_getElem? (i := 1772) (by decide +kernel), List.mem_of_getElem? (i := 1773) (by decide +kernel)⟩
theorem lw_p70 : lw_okq (⟨"PlatesSingModel", "lacks", "()I"⟩, 94) := ⟨⟨by decide +kernel, by decide +kernel⟩, List.mem_of_getElem? (i := 1207) (by decide +kernel), List.mem_of_getElem? (i := 1776) (by decide +kernel), List.mem_of_getElem? (i := 1777) (by decide +kernel)⟩
theorem lw_p71 : lw_okq (⟨"PlatesSingModel", "digitsOf", "()I"⟩, 94) := ⟨⟨by decide +kernel, by decide +kernel⟩, List.mem_of_getElem? (i := 1207) (by decide +kernel), List.mem_of_getElem? (i := 1783) (by decide +kernel), List.mem_of_getElem? (i := 1784) (by decide +kernel)⟩
theorem lw_p72 : lw_okq (⟨"PlatesSingModel", "findFits", "(II)V"⟩, 94) := ⟨⟨by decide +kernel, by decide +kernel⟩, List.mem_of_getElem? (i := 1207) (by decide +kernel), List.mem_of_getElem? (i := 1803) (by decide +kernel), List.mem_of_getElem? (i := 1804) (by decide +kernel)⟩
theorem lw_p73 : lw_okq (⟨"PlatesSingModel", "tryFit", "(IIII)V"⟩, 94) := ⟨⟨by decide +kernel, by decide +kernel⟩, List.mem_of_getElem? (i := 1207) (by decide +kernel), List.mem_of_getElem? (i := 1807) (by decide +kernel), List.mem_of_getElem? (i := 1808) (by decide +kernel)⟩
theorem lw_p74 : lw_okq (⟨"PlatesSingModel", "begin", "(I)V"⟩, 94) := ⟨⟨by decide +kernel, by decide +kernel⟩, List.mem_of_getElem? (i := 1207) (by decide +kernel), List.mem_of_getElem? (i := 1830) (by decide +kernel), List.mem_of_getElem? (i := 1831) (by decide +kernel)⟩
theorem lw_p75 : lw_okq (⟨"PlatesSingModel", "step", "()I"⟩, 94) := ⟨⟨by decide +kernel, by decide +kernel⟩, List.mem_of_getElem? (i := 1207) (by decide +kernel), List.mem_of_getElem? (i := 1834) (by decide +kernel), List.mem_of_getElem? (i := 1835) (by decide +kernel)⟩
theorem lw_p76 : lw_okq (⟨"PlatesSingModel", "isWhole", "(I)Z"⟩, 94) := ⟨⟨by decide +kernel, by decide +kernel⟩, List.mem_of_getElem? (i := 1207) (by decide +kernel), List.mem_of_getElem? (i := 1861) (by decide +kernel), List.mem_of_getElem? (i := 1862) (by decide +kernel)⟩
theorem lw_p77 : lw_okq (⟨"PlatesSingModel", "whyNoRow", "(I)I"⟩, 94) := ⟨⟨by decide +kernel, by decide +kernel⟩, List.mem_of_getElem? (i := 1207) (by decide +kernel), List.mem_of_getElem? (i := 1873) (by decide +kernel), List.mem_of_getElem? (i := 1874) (by decide +kernel)⟩
theorem lw_p78 : lw_okq (⟨"PlatesSingModel", "loudnessOf", "(II)J"⟩, 94) := ⟨⟨by decide +kernel, by decide +kernel⟩, List.mem_of_getElem? (i := 1207) (by decide +kernel), List.mem_of_getElem? (i := 1877) (by decide +kernel), List.mem_of_getElem? (i := 1878) (by decide +kernel)⟩
theorem lw_p79 : lw_okq (⟨"PlatesSingModel", "heardIn", "(II)J"⟩, 94) := ⟨⟨by decide +kernel, by decide +kernel⟩, List.mem_of_getElem? (i := 1207) (by decide +kernel), List.mem_of_getElem? (i := 1881) (by decide +kernel), List.mem_of_getElem? (i := 1882) (by decide +kernel)⟩
def lw_privs_5 : List (MethodName × Nat) := [(⟨"PlatesSingModel", "tableOf", "(II)I"⟩, 94), (⟨"PlatesSingModel", "soundAlike", "(II)Z"⟩, 94), (⟨"PlatesSingModel", "lastSum", "(II)J"⟩, 94), (⟨"PlatesSingModel", "divisor", "(I)J"⟩, 94), (⟨"PlatesSingModel", "struck", "(II)Z"⟩, 94), (⟨"PlatesSingModel", "tuneOn", "(II)V"⟩, 94), (⟨"PlatesSingModel", "lacks", "()I"⟩, 94), (⟨"PlatesSingModel", "digitsOf", "()I"⟩, 94), (⟨"PlatesSingModel", "findFits", "(II)V"⟩, 94), (⟨"PlatesSingModel", "tryFit", "(IIII)V"⟩, 94), (⟨"PlatesSingModel", "begin", "(I)V"⟩, 94), (⟨"PlatesSingModel", "step", "()I"⟩, 94), (⟨"PlatesSingModel", "isWhole", "(I)Z"⟩, 94), (⟨"PlatesSingModel", "whyNoRow", "(I)I"⟩, 94), (⟨"PlatesSingModel", "loudnessOf", "(II)J"⟩, 94), (⟨"PlatesSingModel", "heardIn", "(II)J"⟩, 94)]
theorem lw_r5 : ∀ q ∈ lw_privs_5, lw_okq q := List.forall_mem_cons.mpr ⟨lw_p64, List.forall_mem_cons.mpr ⟨lw_p65, List.forall_mem_cons.mpr ⟨lw_p66, List.forall_mem_cons.mpr ⟨lw_p67, List.forall_mem_cons.mpr ⟨lw_p68, List.forall_mem_cons.mpr ⟨lw_p69, List.forall_mem_cons.mpr ⟨lw_p70, List.forall_mem_cons.mpr ⟨lw_p71, List.forall_mem_cons.mpr ⟨lw_p72, List.forall_mem_cons.mpr ⟨lw_p73, List.forall_mem_cons.mpr ⟨lw_p74, List.forall_mem_cons.mpr ⟨lw_p75, List.forall_mem_cons.mpr ⟨lw_p76, List.forall_mem_cons.mpr ⟨lw_p77, List.forall_mem_cons.mpr ⟨lw_p78, List.forall_mem_cons.mpr ⟨lw_p79, fun _ h => absurd h List.not_mem_nil⟩⟩⟩⟩⟩⟩⟩⟩⟩⟩⟩⟩⟩⟩⟩⟩
theorem lw_p80 : lw_okq (⟨"PlatesSingModel", "doAgree", "(IIII)Z"⟩, 94) := ⟨⟨by decide +kernel, by decide +kernel⟩, List.mem_of_getElem? (i := 1207) (by decide +kernel), List.mem_of_getElem? (i := 1908) (by decide +kernel), List.mem_of_getElem? (i := 1909) (by decide +kernel)⟩
theorem lw_p81 : lw_okq (⟨"PlatesSingModel", "allAgree", "(III)Z"⟩, 94) := ⟨⟨by decide +kernel, by decide +kernel⟩, List.mem_of_getElem? (i := 1207) (by decide +kernel), List.mem_of_getElem? (i := 1912) (by decide +kernel), List.mem_of_getElem? (i := 1913) (by decide +kernel)⟩
theorem lw_p82 : lw_okq (⟨"PlatesSingModel", "copyCorners", "(III)V"⟩, 94) := ⟨⟨by decide +kernel, by decide +kernel⟩, List.mem_of_getElem? (i := 1207) (by decide +kernel), List.mem_of_getElem? (i := 1920) (by decide +kernel), List.mem_of_getElem? (i := 1921) (by decide +kernel)⟩
theorem lw_p83 : lw_okq (⟨"PlatesSingModel", "copyPieces", "(III)V"⟩, 94) := ⟨⟨by decide +kernel, by decide +kernel⟩, List.mem_of_getElem? (i := 1207) (by decide +kernel), List.mem_of_getElem? (i := 1924) (by decide +kernel), List.mem_of_getElem? (i := 1925) (by decide +kernel)⟩
theorem lw_p84 : lw_okq (⟨"PlatesSingModel", "changesOf", "(II)I"⟩, 94) := ⟨⟨by decide +kernel, by decide +kernel⟩, List.mem_of_getElem? (i := 1207) (by decide +kernel), List.mem_of_getElem? (i := 1932) (by decide +kernel), List.mem_of_getElem? (i := 1933) (by decide +kernel)⟩
theorem lw_p85 : lw_okq (⟨"PlatesSingModel", "isBody", "(I)Z"⟩, 94) := ⟨⟨by decide +kernel, by decide +kernel⟩, List.mem_of_getElem? (i := 1207) (by decide +kernel), List.mem_of_getElem? (i := 1944) (by decide +kernel), List.mem_of_getElem? (i := 1945) (by decide +kernel)⟩
theorem lw_p86 : lw_okq (⟨"PlatesSingModel", "stiffens", "(II)I"⟩, 94) := ⟨⟨by decide +kernel, by decide +kernel⟩, List.mem_of_getElem? (i := 1207) (by decide +kernel), List.mem_of_getElem? (i := 1948) (by decide +kernel), List.mem_of_getElem? (i := 1949) (by decide +kernel)⟩
theorem lw_p87 : lw_okq (⟨"PlatesSingModel", "ran", "(I)V"⟩, 94) := ⟨⟨by decide +kernel, by decide +kernel⟩, List.mem_of_getElem? (i := 1207) (by decide +kernel), List.mem_of_getElem? (i := 1955) (by decide +kernel), List.mem_of_getElem? (i := 1956) (by decide +kernel)⟩
theorem lw_p88 : lw_okq (⟨"PlatesSingModel", "pieceStiffens", "(II)I"⟩, 94) := ⟨⟨by decide +kernel, by decide +kernel⟩, List.mem_of_getElem? (i := 1207) (by decide +kernel), List.mem_of_getElem? (i := 1959) (by decide +kernel), List.mem_of_getElem? (i := 1960) (by decide +kernel)⟩
theorem lw_p89 : lw_okq (⟨"PlatesSingModel", "plainStiffens", "(II)I"⟩, 94) := ⟨⟨by decide +kernel, by decide +kernel⟩, List.mem_of_getElem? (i := 1207) (by decide +kernel), List.mem_of_getElem? (i := 1963) (by decide +kernel), List.mem_of_getElem? (i := 1964) (by decide +kernel)⟩
theorem lw_p90 : lw_okq (⟨"PlatesSingModel", "weighs", "(II)I"⟩, 94) := ⟨⟨by decide +kernel, by decide +kernel⟩, List.mem_of_getElem? (i := 1207) (by decide +kernel), List.mem_of_getElem? (i := 1967) (by decide +kernel), List.mem_of_getElem? (i := 1968) (by decide +kernel)⟩
theorem lw_p91 : lw_okq (⟨"PlatesSingModel", "plainWeighs", "(II)I"⟩, 94) := ⟨⟨by decide +kernel, by decide +kernel⟩, List.mem_of_getElem? (i := 1207) (by decide +kernel), List.mem_of_getElem? (i := 1971) (by decide +kernel), List.mem_of_getElem? (i := 1972) (by decide +kernel)⟩
theorem lw_p92 : lw_okq (⟨"PlatesSingModel", "sounds", "(II)I"⟩, 94) := ⟨⟨by decide +kernel, by decide +kernel⟩, List.mem_of_getElem? (i := 1207) (by decide +kernel), List.mem_of_getElem? (i := 1975) (by decide +kernel), List.mem_of_getElem? (i := 1976) (by decide +kernel)⟩
theorem lw_p93 : lw_okq (⟨"PlatesSingModel", "plainSounds", "(II)I"⟩, 94) := ⟨⟨by decide +kernel, by decide +kernel⟩, List.mem_of_getElem? (i := 1207) (by decide +kernel), List.mem_of_getElem? (i := 1979) (by decide +kernel), List.mem_of_getElem? (i := 1980) (by decide +kernel)⟩
theorem lw_p94 : lw_okq (⟨"PlatesSingModel", "tells", "(II)I"⟩, 94) := ⟨⟨by decide +kernel, by decide +kernel⟩, List.mem_of_getElem? (i := 1207) (by decide +kernel), List.mem_of_getElem? (i := 1983) (by decide +kernel), List.mem_of_getElem? (i := 1984) (by decide +kernel)⟩
theorem lw_p95 : lw_okq (⟨"PlatesSingModel", "crackedTells", "(II)I"⟩, 94) := ⟨⟨by decide +kernel, by decide +kernel⟩, List.mem_of_getElem? (i := 1207) (by decide +kernel), List.mem_of_getElem? (i := 1987) (by decide +kernel), List.mem_of_getElem? (i := 1988) (by decide +kernel)⟩
def lw_privs_6 : List (MethodName × Nat) := [(⟨"PlatesSingModel", "doAgree", "(IIII)Z"⟩, 94), (⟨"PlatesSingModel", "allAgree", "(III)Z"⟩, 94), (⟨"PlatesSingModel", "copyCorners", "(III)V"⟩, 94), (⟨"PlatesSingModel", "copyPieces", "(III)V"⟩, 94), (⟨"PlatesSingModel", "changesOf", "(II)I"⟩, 94), (⟨"PlatesSingModel", "isBody", "(I)Z"⟩, 94), (⟨"PlatesSingModel", "stiffens", "(II)I"⟩, 94), (⟨"PlatesSingModel", "ran", "(I)V"⟩, 94), (⟨"PlatesSingModel", "pieceStiffens", "(II)I"⟩, 94), (⟨"PlatesSingModel", "plainStiffens", "(II)I"⟩, 94), (⟨"PlatesSingModel", "weighs", "(II)I"⟩, 94), (⟨"PlatesSingModel", "plainWeighs", "(II)I"⟩, 94), (⟨"PlatesSingModel", "sounds", "(II)I"⟩, 94), (⟨"PlatesSingModel", "plainSounds", "(II)I"⟩, 94), (⟨"PlatesSingModel", "tells", "(II)I"⟩, 94), (⟨"PlatesSingModel", "crackedTells", "(II)I"⟩, 94)]
theorem lw_r6 : ∀ q ∈ lw_privs_6, lw_okq q := List.forall_mem_cons.mpr ⟨lw_p80, List.forall_mem_cons.mpr ⟨lw_p81, List.forall_mem_cons.mpr ⟨lw_p82, List.forall_mem_cons.mpr ⟨lw_p83, List.forall_mem_cons.mpr ⟨lw_p84, List.forall_mem_cons.mpr ⟨lw_p85, List.forall_mem_cons.mpr ⟨lw_p86, List.forall_mem_cons.mpr ⟨lw_p87, List.forall_mem_cons.mpr ⟨lw_p88, List.forall_mem_cons.mpr ⟨lw_p89, List.forall_mem_cons.mpr ⟨lw_p90, List.forall_mem_cons.mpr ⟨lw_p91, List.forall_mem_cons.mpr ⟨lw_p92, List.forall_mem_cons.mpr ⟨lw_p93, List.forall_mem_cons.mpr ⟨lw_p94, List.forall_mem_cons.mpr ⟨lw_p95, fun _ h => absurd h List.not_mem_nil⟩⟩⟩⟩⟩⟩⟩⟩⟩⟩⟩⟩⟩⟩⟩⟩
theorem lw_p96 : lw_okq (⟨"PlatesSingModel", "plainTells", "(II)I"⟩, 94) := ⟨⟨by decide +kernel, by decide +kernel⟩, List.mem_of_getElem? (i := 1207) (by decide +kernel), List.mem_of_getElem? (i := 1991) (by decide +kernel), List.mem_of_getElem? (i := 1992) (by decide +kernel)⟩
theorem lw_p97 : lw_okq (⟨"PlatesSingModel", "whyNoPlace", "(II)I"⟩, 94) := ⟨⟨by decide +kernel, by decide +kernel⟩, List.mem_of_getElem? (i := 1207) (by decide +kernel), List.mem_of_getElem? (i := 2015) (by decide +kernel), List.mem_of_getElem? (i := 2016) (by decide +kernel)⟩
def lw_privs_7 : List (MethodName × Nat) := [(⟨"PlatesSingModel", "plainTells", "(II)I"⟩, 94), (⟨"PlatesSingModel", "whyNoPlace", "(II)I"⟩, 94)]
theorem lw_r7 : ∀ q ∈ lw_privs_7, lw_okq q := List.forall_mem_cons.mpr ⟨lw_p96, List.forall_mem_cons.mpr ⟨lw_p97, fun _ h => absurd h List.not_mem_nil⟩⟩
def lw_privs : List (MethodName × Nat) := lw_privs_1 ++ (lw_privs_2 ++ (lw_privs_3 ++ (lw_privs_4 ++ (lw_privs_5 ++ (lw_privs_6 ++ (lw_privs_7))))))
def lw_tbl : List Cond := k2_sels lw_privs ++ tables_1
theorem lw_privs_ok : ∀ q ∈ lw_privs, lw_okq q := by
  show ∀ q ∈ lw_privs_1 ++ (lw_privs_2 ++ (lw_privs_3 ++ (lw_privs_4 ++ (lw_privs_5 ++ (lw_privs_6 ++ (lw_privs_7)))))), lw_okq q
  exact List.forall_mem_append.mpr ⟨lw_r1, List.forall_mem_append.mpr ⟨lw_r2, List.forall_mem_append.mpr ⟨lw_r3, List.forall_mem_append.mpr ⟨lw_r4, List.forall_mem_append.mpr ⟨lw_r5, List.forall_mem_append.mpr ⟨lw_r6, lw_r7⟩⟩⟩⟩⟩⟩
-- ===== end of PART A =====
end
section
def RX0 : String := "PlatesSing$Blows"
def TX0 : u_T := fun k => match k with
  | 0 => ("PlatesSing$Blows", "damp", "I", false)
  | 1 => ("PlatesSing$Blows", "ears", "[I", true)
  | 2 => ("PlatesSing$Blows", "steps", "I", false)
  | 3 => ("PlatesSing$Blows", "earsThen", "[I", true)
  | 4 => ("PlatesSing$Blows", "rows", "[I", true)
  | 5 => ("PlatesSing$Blows", "x", "[I", true)
  | 6 => ("PlatesSing$Blows", "u", "[I", true)
  | 7 => ("PlatesSing$Blows", "told", "I", false)
  | 8 => ("PlatesSing$Blows", "corner", "[I", true)
  | 9 => ("PlatesSing$Blows", "force", "[I", true)
  | _ => ("PlatesSing$Blows", "when", "[I", true)
def tyX0 : Nat → FieldType := fun k => match k with
  | 0 => .int
  | 1 => .array .int
  | 2 => .int
  | 3 => .array .int
  | 4 => .array .int
  | 5 => .array .int
  | 6 => .array .int
  | 7 => .int
  | 8 => .array .int
  | 9 => .array .int
  | _ => .array .int
abbrev wsX00 : List Cond := u_ws RX0 TX0 11
theorem nmX0 : ∀ a, a < 11 → ∀ b, b < 11 → a ≠ b → (TX0 a).2.1 ≠ (TX0 b).2.1 := by decide +kernel
theorem tyX0_ok : ∀ k, k < 11 → parseFieldDescriptor (TX0 k).2.2.1 = some (tyX0 k) := by decide +kernel
abbrev cX0_init : ByteArray := prog_2_method_1_code
def yX0_init : MethodName := ⟨RX0, "<init>", "()V"⟩
abbrev cX0_add : ByteArray := prog_2_method_2_code
def yX0_add : MethodName := ⟨RX0, "add", "(III)V"⟩
abbrev cX0_begin : ByteArray := prog_2_method_3_code
def yX0_begin : MethodName := ⟨RX0, "begin", "(LPlatesSing$Net;)V"⟩
abbrev cX0_push : ByteArray := prog_2_method_4_code
def yX0_push : MethodName := ⟨RX0, "push", "(LPlatesSing$Net;II)V"⟩
abbrev cX0_run : ByteArray := prog_2_method_5_code
def yX0_run : MethodName := ⟨RX0, "run", "(LPlatesSing$Net;II)I"⟩
abbrev cX0_pull : ByteArray := prog_2_method_6_code
def yX0_pull : MethodName := ⟨RX0, "pull", "(LPlatesSing$Net;I)V"⟩
abbrev cX0_wasAnywhere : ByteArray := prog_2_method_7_code
def yX0_wasAnywhere : MethodName := ⟨RX0, "wasAnywhere", "(I)Z"⟩
abbrev cX0_kept : ByteArray := prog_2_method_8_code
def yX0_kept : MethodName := ⟨RX0, "kept", "(II)I"⟩
abbrev cX0_loudest : ByteArray := prog_2_method_9_code
def yX0_loudest : MethodName := ⟨RX0, "loudest", "(I)I"⟩
abbrev cX0_diesAt : ByteArray := prog_2_method_10_code
def yX0_diesAt : MethodName := ⟨RX0, "diesAt", "(II)I"⟩
def RX1 : String := "PlatesSing$Hearing"
def TX1 : u_T := fun k => match k with
  | 0 => ("PlatesSing$Hearing", "told", "I", false)
  | 1 => ("PlatesSing$Hearing", "heard", "[I", true)
  | 2 => ("PlatesSing$Hearing", "fitting", "I", false)
  | 3 => ("PlatesSing$Hearing", "firstPiece", "I", false)
  | 4 => ("PlatesSing$Hearing", "firstCrack", "I", false)
  | _ => ("PlatesSing$Hearing", "alike", "[I", true)
def tyX1 : Nat → FieldType := fun k => match k with
  | 0 => .int
  | 1 => .array .int
  | 2 => .int
  | 3 => .int
  | 4 => .int
  | _ => .array .int
abbrev wsX10 : List Cond := u_ws RX1 TX1 6
theorem nmX1 : ∀ a, a < 6 → ∀ b, b < 6 → a ≠ b → (TX1 a).2.1 ≠ (TX1 b).2.1 := by decide +kernel
theorem tyX1_ok : ∀ k, k < 6 → parseFieldDescriptor (TX1 k).2.2.1 = some (tyX1 k) := by decide +kernel
abbrev cX1_init : ByteArray := prog_3_method_1_code
def yX1_init : MethodName := ⟨RX1, "<init>", "()V"⟩
abbrev cX1_add : ByteArray := prog_3_method_2_code
def yX1_add : MethodName := ⟨RX1, "add", "(I)V"⟩
abbrev cX1_search : ByteArray := prog_3_method_3_code
def yX1_search : MethodName := ⟨RX1, "search", "(LPlatesSing$Shape;LPlatesSing$Net;I)V"⟩
abbrev cX1_tryNet : ByteArray := prog_3_method_4_code
def yX1_tryNet : MethodName := ⟨RX1, "tryNet", "(LPlatesSing$Net;IIII)V"⟩
abbrev cX1_bestParting : ByteArray := prog_3_method_5_code
def yX1_bestParting : MethodName := ⟨RX1, "bestParting", "(I)I"⟩
def RX2 : String := "PlatesSing$History"
def TX2 : u_T := fun k => match k with
  | 0 => ("PlatesSing$History", "done", "I", false)
  | 1 => ("PlatesSing$History", "undone", "I", false)
  | 2 => ("PlatesSing$History", "shape", "[LPlatesSing$Shape;", true)
  | 3 => ("PlatesSing$History", "field", "[I", true)
  | 4 => ("PlatesSing$History", "at", "[I", true)
  | 5 => ("PlatesSing$History", "before", "[I", true)
  | _ => ("PlatesSing$History", "after", "[I", true)
def tyX2 : Nat → FieldType := fun k => match k with
  | 0 => .int
  | 1 => .int
  | 2 => .array (.object "PlatesSing$Shape")
  | 3 => .array .int
  | 4 => .array .int
  | 5 => .array .int
  | _ => .array .int
abbrev wsX20 : List Cond := u_ws RX2 TX2 7
theorem nmX2 : ∀ a, a < 7 → ∀ b, b < 7 → a ≠ b → (TX2 a).2.1 ≠ (TX2 b).2.1 := by decide +kernel
theorem tyX2_ok : ∀ k, k < 7 → parseFieldDescriptor (TX2 k).2.2.1 = some (tyX2 k) := by decide +kernel
abbrev cX2_init : ByteArray := prog_4_method_1_code
def yX2_init : MethodName := ⟨RX2, "<init>", "()V"⟩
abbrev cX2_add : ByteArray := prog_4_method_2_code
def yX2_add : MethodName := ⟨RX2, "add", "(LPlatesSing$Shape;IIII)V"⟩
abbrev cX2_dropOldest : ByteArray := prog_4_method_3_code
def yX2_dropOldest : MethodName := ⟨RX2, "dropOldest", "()V"⟩
abbrev cX2_takeBack : ByteArray := prog_4_method_4_code
def yX2_takeBack : MethodName := ⟨RX2, "takeBack", "()V"⟩
abbrev cX2_bringBack : ByteArray := prog_4_method_5_code
def yX2_bringBack : MethodName := ⟨RX2, "bringBack", "()V"⟩
def RX3 : String := "PlatesSing$Net"
def TX3 : u_T := fun k => match k with
  | 0 => ("PlatesSing$Net", "corners", "I", false)
  | 1 => ("PlatesSing$Net", "mass", "[I", true)
  | 2 => ("PlatesSing$Net", "pad", "[I", true)
  | 3 => ("PlatesSing$Net", "held", "[I", true)
  | 4 => ("PlatesSing$Net", "links", "[I", true)
  | 5 => ("PlatesSing$Net", "minors", "[J", true)
  | 6 => ("PlatesSing$Net", "free", "[I", true)
  | 7 => ("PlatesSing$Net", "rows", "I", false)
  | 8 => ("PlatesSing$Net", "matrix", "[J", true)
  | 9 => ("PlatesSing$Net", "factor", "[J", true)
  | 10 => ("PlatesSing$Net", "vector", "[J", true)
  | _ => ("PlatesSing$Net", "image", "[J", true)
def tyX3 : Nat → FieldType := fun k => match k with
  | 0 => .int
  | 1 => .array .int
  | 2 => .array .int
  | 3 => .array .int
  | 4 => .array .int
  | 5 => .array .long
  | 6 => .array .int
  | 7 => .int
  | 8 => .array .long
  | 9 => .array .long
  | 10 => .array .long
  | _ => .array .long
abbrev wsX30 : List Cond := u_ws RX3 TX3 12
theorem nmX3 : ∀ a, a < 12 → ∀ b, b < 12 → a ≠ b → (TX3 a).2.1 ≠ (TX3 b).2.1 := by decide +kernel
theorem tyX3_ok : ∀ k, k < 12 → parseFieldDescriptor (TX3 k).2.2.1 = some (tyX3 k) := by decide +kernel
abbrev cX3_init : ByteArray := prog_5_method_1_code
def yX3_init : MethodName := ⟨RX3, "<init>", "()V"⟩
abbrev cX3_load : ByteArray := prog_5_method_2_code
def yX3_load : MethodName := ⟨RX3, "load", "(LPlatesSing$Shape;)V"⟩
abbrev cX3_loadStiffer : ByteArray := prog_5_method_3_code
def yX3_loadStiffer : MethodName := ⟨RX3, "loadStiffer", "(LPlatesSing$Shape;I)V"⟩
abbrev cX3_oneToNine : ByteArray := prog_5_method_4_code
def yX3_oneToNine : MethodName := ⟨RX3, "oneToNine", "(I)I"⟩
abbrev cX3_weigh : ByteArray := prog_5_method_5_code
def yX3_weigh : MethodName := ⟨RX3, "weigh", "(III)V"⟩
abbrev cX3_link : ByteArray := prog_5_method_6_code
def yX3_link : MethodName := ⟨RX3, "link", "(III)V"⟩
abbrev cX3_linkOf : ByteArray := prog_5_method_7_code
def yX3_linkOf : MethodName := ⟨RX3, "linkOf", "(II)I"⟩
abbrev cX3_fillMatrix : ByteArray := prog_5_method_8_code
def yX3_fillMatrix : MethodName := ⟨RX3, "fillMatrix", "(II)V"⟩
abbrev cX3_sumMinors : ByteArray := prog_5_method_9_code
def yX3_sumMinors : MethodName := ⟨RX3, "sumMinors", "(II)V"⟩
abbrev cX3_fillFactor : ByteArray := prog_5_method_10_code
def yX3_fillFactor : MethodName := ⟨RX3, "fillFactor", "(I)V"⟩
abbrev cX3_tonesUnder : ByteArray := prog_5_method_11_code
def yX3_tonesUnder : MethodName := ⟨RX3, "tonesUnder", "(II)I"⟩
abbrev cX3_tonesAt : ByteArray := prog_5_method_12_code
def yX3_tonesAt : MethodName := ⟨RX3, "tonesAt", "(II)I"⟩
abbrev cX3_tone : ByteArray := prog_5_method_13_code
def yX3_tone : MethodName := ⟨RX3, "tone", "(II)I"⟩
abbrev cX3_soundsLike : ByteArray := prog_5_method_14_code
def yX3_soundsLike : MethodName := ⟨RX3, "soundsLike", "(LPlatesSing$Net;)Z"⟩
abbrev cX3_divisor : ByteArray := prog_5_method_15_code
def yX3_divisor : MethodName := ⟨RX3, "divisor", "()J"⟩
def RX4 : String := "PlatesSing$Parts"
def TX4 : u_T := fun k => match k with
  | 0 => ("PlatesSing$Parts", "count", "I", false)
  | 1 => ("PlatesSing$Parts", "kind", "[I", true)
  | 2 => ("PlatesSing$Parts", "home", "[LPlatesSing$Shape;", true)
  | 3 => ("PlatesSing$Parts", "ran", "I", false)
  | _ => ("PlatesSing$Parts", "traced", "[I", true)
def tyX4 : Nat → FieldType := fun k => match k with
  | 0 => .int
  | 1 => .array .int
  | 2 => .array (.object "PlatesSing$Shape")
  | 3 => .int
  | _ => .array .int
abbrev wsX40 : List Cond := u_ws RX4 TX4 5
theorem nmX4 : ∀ a, a < 5 → ∀ b, b < 5 → a ≠ b → (TX4 a).2.1 ≠ (TX4 b).2.1 := by decide +kernel
theorem tyX4_ok : ∀ k, k < 5 → parseFieldDescriptor (TX4 k).2.2.1 = some (tyX4 k) := by decide +kernel
abbrev cX4_init : ByteArray := prog_6_method_1_code
def yX4_init : MethodName := ⟨RX4, "<init>", "()V"⟩
abbrev cX4_add : ByteArray := prog_6_method_2_code
def yX4_add : MethodName := ⟨RX4, "add", "(ILPlatesSing$Shape;)I"⟩
abbrev cX4_isUnder : ByteArray := prog_6_method_3_code
def yX4_isUnder : MethodName := ⟨RX4, "isUnder", "(II)Z"⟩
abbrev cX4_stiffOf : ByteArray := prog_6_method_4_code
def yX4_stiffOf : MethodName := ⟨RX4, "stiffOf", "(I)I"⟩
abbrev cX4_run : ByteArray := prog_6_method_5_code
def yX4_run : MethodName := ⟨RX4, "run", "(IIIII)I"⟩
abbrev cX4_begin : ByteArray := prog_6_method_6_code
def yX4_begin : MethodName := ⟨RX4, "begin", "(I)V"⟩
def RX5 : String := "PlatesSing$Plan"
def TX5 : u_T := fun k => match k with
  | 0 => ("PlatesSing$Plan", "shape", "I", false)
  | 1 => ("PlatesSing$Plan", "strokes", "I", false)
  | 2 => ("PlatesSing$Plan", "field", "[I", true)
  | 3 => ("PlatesSing$Plan", "at", "[I", true)
  | 4 => ("PlatesSing$Plan", "often", "[I", true)
  | 5 => ("PlatesSing$Plan", "wishes", "I", false)
  | 6 => ("PlatesSing$Plan", "tone", "[I", true)
  | 7 => ("PlatesSing$Plan", "by", "[I", true)
  | 8 => ("PlatesSing$Plan", "value", "[I", true)
  | 9 => ("PlatesSing$Plan", "used", "[I", true)
  | 10 => ("PlatesSing$Plan", "bestSum", "I", false)
  | 11 => ("PlatesSing$Plan", "bestSize", "I", false)
  | _ => ("PlatesSing$Plan", "bestDigits", "I", false)
def tyX5 : Nat → FieldType := fun k => match k with
  | 0 => .int
  | 1 => .int
  | 2 => .array .int
  | 3 => .array .int
  | 4 => .array .int
  | 5 => .int
  | 6 => .array .int
  | 7 => .array .int
  | 8 => .array .int
  | 9 => .array .int
  | 10 => .int
  | 11 => .int
  | _ => .int
abbrev wsX50 : List Cond := u_ws RX5 TX5 13
theorem nmX5 : ∀ a, a < 13 → ∀ b, b < 13 → a ≠ b → (TX5 a).2.1 ≠ (TX5 b).2.1 := by decide +kernel
theorem tyX5_ok : ∀ k, k < 13 → parseFieldDescriptor (TX5 k).2.2.1 = some (tyX5 k) := by decide +kernel
abbrev cX5_init : ByteArray := prog_7_method_1_code
def yX5_init : MethodName := ⟨RX5, "<init>", "()V"⟩
abbrev cX5_hasStroke : ByteArray := prog_7_method_2_code
def yX5_hasStroke : MethodName := ⟨RX5, "hasStroke", "(II)Z"⟩
abbrev cX5_addStroke : ByteArray := prog_7_method_3_code
def yX5_addStroke : MethodName := ⟨RX5, "addStroke", "(III)V"⟩
abbrev cX5_hasWish : ByteArray := prog_7_method_4_code
def yX5_hasWish : MethodName := ⟨RX5, "hasWish", "(II)Z"⟩
abbrev cX5_addWish : ByteArray := prog_7_method_5_code
def yX5_addWish : MethodName := ⟨RX5, "addWish", "(III)V"⟩
abbrev cX5_highestWish : ByteArray := prog_7_method_6_code
def yX5_highestWish : MethodName := ⟨RX5, "highestWish", "()I"⟩
abbrev cX5_applies : ByteArray := prog_7_method_7_code
def yX5_applies : MethodName := ⟨RX5, "applies", "(LPlatesSing$Shape;LPlatesSing$Net;II)Z"⟩
abbrev cX5_search : ByteArray := prog_7_method_8_code
def yX5_search : MethodName := ⟨RX5, "search", "(LPlatesSing$Shape;LPlatesSing$Net;)V"⟩
abbrev cX5_extend : ByteArray := prog_7_method_9_code
def yX5_extend : MethodName := ⟨RX5, "extend", "(LPlatesSing$Shape;LPlatesSing$Net;IIII)V"⟩
abbrev cX5_compare : ByteArray := prog_7_method_10_code
def yX5_compare : MethodName := ⟨RX5, "compare", "(LPlatesSing$Shape;LPlatesSing$Net;II)V"⟩
def RX6 : String := "PlatesSing$Ratios"
def TX6 : u_T := fun k => match k with
  | 0 => ("PlatesSing$Ratios", "told", "I", false)
  | 1 => ("PlatesSing$Ratios", "a", "[I", true)
  | 2 => ("PlatesSing$Ratios", "b", "[I", true)
  | _ => ("PlatesSing$Ratios", "lowest", "[I", true)
def tyX6 : Nat → FieldType := fun k => match k with
  | 0 => .int
  | 1 => .array .int
  | 2 => .array .int
  | _ => .array .int
abbrev wsX60 : List Cond := u_ws RX6 TX6 4
theorem nmX6 : ∀ a, a < 4 → ∀ b, b < 4 → a ≠ b → (TX6 a).2.1 ≠ (TX6 b).2.1 := by decide +kernel
theorem tyX6_ok : ∀ k, k < 4 → parseFieldDescriptor (TX6 k).2.2.1 = some (tyX6 k) := by decide +kernel
abbrev cX6_init : ByteArray := prog_8_method_1_code
def yX6_init : MethodName := ⟨RX6, "<init>", "()V"⟩
abbrev cX6_add : ByteArray := prog_8_method_2_code
def yX6_add : MethodName := ⟨RX6, "add", "(II)V"⟩
abbrev cX6_fit : ByteArray := prog_8_method_3_code
def yX6_fit : MethodName := ⟨RX6, "fit", "(IIII)Z"⟩
abbrev cX6_agreeing : ByteArray := prog_8_method_4_code
def yX6_agreeing : MethodName := ⟨RX6, "agreeing", "(II)I"⟩
abbrev cX6_fewestOut : ByteArray := prog_8_method_5_code
def yX6_fewestOut : MethodName := ⟨RX6, "fewestOut", "(II)I"⟩
abbrev cX6_allFit : ByteArray := prog_8_method_6_code
def yX6_allFit : MethodName := ⟨RX6, "allFit", "(III)Z"⟩
def RX7 : String := "PlatesSing$Shape"
def TX7 : u_T := fun k => match k with
  | 0 => ("PlatesSing$Shape", "corners", "I", false)
  | 1 => ("PlatesSing$Shape", "heavy", "[I", true)
  | 2 => ("PlatesSing$Shape", "pad", "[I", true)
  | 3 => ("PlatesSing$Shape", "weight", "[I", true)
  | 4 => ("PlatesSing$Shape", "held", "[I", true)
  | 5 => ("PlatesSing$Shape", "first", "I", false)
  | 6 => ("PlatesSing$Shape", "pieces", "I", false)
  | 7 => ("PlatesSing$Shape", "low", "[I", true)
  | 8 => ("PlatesSing$Shape", "high", "[I", true)
  | 9 => ("PlatesSing$Shape", "stiff", "[I", true)
  | 10 => ("PlatesSing$Shape", "crack", "[I", true)
  | 11 => ("PlatesSing$Shape", "one", "I", false)
  | _ => ("PlatesSing$Shape", "other", "I", false)
def tyX7 : Nat → FieldType := fun k => match k with
  | 0 => .int
  | 1 => .array .int
  | 2 => .array .int
  | 3 => .array .int
  | 4 => .array .int
  | 5 => .int
  | 6 => .int
  | 7 => .array .int
  | 8 => .array .int
  | 9 => .array .int
  | 10 => .array .int
  | 11 => .int
  | _ => .int
abbrev wsX70 : List Cond := u_ws RX7 TX7 13
theorem nmX7 : ∀ a, a < 13 → ∀ b, b < 13 → a ≠ b → (TX7 a).2.1 ≠ (TX7 b).2.1 := by decide +kernel
theorem tyX7_ok : ∀ k, k < 13 → parseFieldDescriptor (TX7 k).2.2.1 = some (tyX7 k) := by decide +kernel
abbrev cX7_init : ByteArray := prog_9_method_1_code
def yX7_init : MethodName := ⟨RX7, "<init>", "()V"⟩
abbrev cX7_clear : ByteArray := prog_9_method_2_code
def yX7_clear : MethodName := ⟨RX7, "clear", "()V"⟩
abbrev cX7_toneCount : ByteArray := prog_9_method_3_code
def yX7_toneCount : MethodName := ⟨RX7, "toneCount", "()I"⟩
abbrev cX7_pieceBetween : ByteArray := prog_9_method_4_code
def yX7_pieceBetween : MethodName := ⟨RX7, "pieceBetween", "(II)I"⟩
abbrev cX7_counting : ByteArray := prog_9_method_5_code
def yX7_counting : MethodName := ⟨RX7, "counting", "(I)I"⟩
abbrev cX7_addPiece : ByteArray := prog_9_method_6_code
def yX7_addPiece : MethodName := ⟨RX7, "addPiece", "(III)V"⟩
abbrev cX7_addAllOf : ByteArray := prog_9_method_7_code
def yX7_addAllOf : MethodName := ⟨RX7, "addAllOf", "(LPlatesSing$Shape;)V"⟩
abbrev cX7_packed : ByteArray := prog_9_method_8_code
def yX7_packed : MethodName := ⟨RX7, "packed", "(II)I"⟩
abbrev cX7_get : ByteArray := prog_9_method_9_code
def yX7_get : MethodName := ⟨RX7, "get", "(II)I"⟩
abbrev cX7_set : ByteArray := prog_9_method_10_code
def yX7_set : MethodName := ⟨RX7, "set", "(III)V"⟩
abbrev cX7_addedTo : ByteArray := prog_9_method_11_code
def yX7_addedTo : MethodName := ⟨RX7, "addedTo", "(I)I"⟩
def RX8 : String := "PlatesSing$Shelves"
def TX8 : u_T := fun k => match k with
  | 0 => ("PlatesSing$Shelves", "sort", "[I", true)
  | 1 => ("PlatesSing$Shelves", "size", "[I", true)
  | 2 => ("PlatesSing$Shelves", "body", "[I", true)
  | _ => ("PlatesSing$Shelves", "elements", "[[J", true)
def tyX8 : Nat → FieldType := fun k => match k with
  | 0 => .array .int
  | 1 => .array .int
  | 2 => .array .int
  | _ => .array (.array .long)
abbrev wsX80 : List Cond := u_ws RX8 TX8 4
theorem nmX8 : ∀ a, a < 4 → ∀ b, b < 4 → a ≠ b → (TX8 a).2.1 ≠ (TX8 b).2.1 := by decide +kernel
theorem tyX8_ok : ∀ k, k < 4 → parseFieldDescriptor (TX8 k).2.2.1 = some (tyX8 k) := by decide +kernel
abbrev cX8_init : ByteArray := prog_10_method_1_code
def yX8_init : MethodName := ⟨RX8, "<init>", "()V"⟩
abbrev cX8_hold : ByteArray := prog_10_method_2_code
def yX8_hold : MethodName := ⟨RX8, "hold", "(II)V"⟩
abbrev cX8_holdRow : ByteArray := prog_10_method_3_code
def yX8_holdRow : MethodName := ⟨RX8, "holdRow", "(III)V"⟩
abbrev cX8_refusesRow : ByteArray := prog_10_method_4_code
def yX8_refusesRow : MethodName := ⟨RX8, "refusesRow", "(I)I"⟩
abbrev cX8_refusesNumbers : ByteArray := prog_10_method_5_code
def yX8_refusesNumbers : MethodName := ⟨RX8, "refusesNumbers", "(I)I"⟩
abbrev cX8_hasPlace : ByteArray := prog_10_method_6_code
def yX8_hasPlace : MethodName := ⟨RX8, "hasPlace", "(II)Z"⟩
abbrev cX8_hasSpan : ByteArray := prog_10_method_7_code
def yX8_hasSpan : MethodName := ⟨RX8, "hasSpan", "(III)Z"⟩
abbrev cX8_set : ByteArray := prog_10_method_8_code
def yX8_set : MethodName := ⟨RX8, "set", "(IIJ)V"⟩
abbrev cX8_cut : ByteArray := prog_10_method_9_code
def yX8_cut : MethodName := ⟨RX8, "cut", "(IJ)J"⟩
abbrev cX8_greatest : ByteArray := prog_10_method_10_code
def yX8_greatest : MethodName := ⟨RX8, "greatest", "(I)J"⟩
abbrev cX8_setHeard : ByteArray := prog_10_method_11_code
def yX8_setHeard : MethodName := ⟨RX8, "setHeard", "(III)V"⟩
abbrev cX8_present : ByteArray := prog_10_method_12_code
def yX8_present : MethodName := ⟨RX8, "present", "(II)J"⟩
abbrev cX8_loudnessOf : ByteArray := prog_10_method_13_code
def yX8_loudnessOf : MethodName := ⟨RX8, "loudnessOf", "(II)J"⟩
abbrev cX8_wave : ByteArray := prog_10_method_14_code
def yX8_wave : MethodName := ⟨RX8, "wave", "(II)I"⟩
abbrev cX8_strongestPeriod : ByteArray := prog_10_method_15_code
def yX8_strongestPeriod : MethodName := ⟨RX8, "strongestPeriod", "(I)I"⟩
def RX9 : String := "PlatesSing$Tape"
def TX9 : u_T := fun k => match k with
  | 0 => ("PlatesSing$Tape", "bytes", "[I", true)
  | 1 => ("PlatesSing$Tape", "length", "I", false)
  | _ => ("PlatesSing$Tape", "at", "I", false)
def tyX9 : Nat → FieldType := fun k => match k with
  | 0 => .array .int
  | 1 => .int
  | _ => .int
abbrev wsX90 : List Cond := u_ws RX9 TX9 3
theorem nmX9 : ∀ a, a < 3 → ∀ b, b < 3 → a ≠ b → (TX9 a).2.1 ≠ (TX9 b).2.1 := by decide +kernel
theorem tyX9_ok : ∀ k, k < 3 → parseFieldDescriptor (TX9 k).2.2.1 = some (tyX9 k) := by decide +kernel
abbrev cX9_init : ByteArray := prog_11_method_1_code
def yX9_init : MethodName := ⟨RX9, "<init>", "()V"⟩
abbrev cX9_add : ByteArray := prog_11_method_2_code
def yX9_add : MethodName := ⟨RX9, "add", "(II)V"⟩
abbrev cX9_read : ByteArray := prog_11_method_3_code
def yX9_read : MethodName := ⟨RX9, "read", "(LPlatesSing$Shape;)I"⟩
abbrev cX9_readCorners : ByteArray := prog_11_method_4_code
def yX9_readCorners : MethodName := ⟨RX9, "readCorners", "(LPlatesSing$Shape;)Z"⟩
abbrev cX9_readPart : ByteArray := prog_11_method_5_code
def yX9_readPart : MethodName := ⟨RX9, "readPart", "(LPlatesSing$Shape;)Z"⟩
abbrev cX9_readPiece : ByteArray := prog_11_method_6_code
def yX9_readPiece : MethodName := ⟨RX9, "readPiece", "(LPlatesSing$Shape;)Z"⟩
abbrev cX9_readHold : ByteArray := prog_11_method_7_code
def yX9_readHold : MethodName := ⟨RX9, "readHold", "(LPlatesSing$Shape;)Z"⟩
abbrev cX9_readNumber : ByteArray := prog_11_method_8_code
def yX9_readNumber : MethodName := ⟨RX9, "readNumber", "(LPlatesSing$Shape;[I)Z"⟩
abbrev cX9_peek : ByteArray := prog_11_method_9_code
def yX9_peek : MethodName := ⟨RX9, "peek", "()I"⟩
abbrev cX9_digit : ByteArray := prog_11_method_10_code
def yX9_digit : MethodName := ⟨RX9, "digit", "()I"⟩
abbrev cX9_corner : ByteArray := prog_11_method_11_code
def yX9_corner : MethodName := ⟨RX9, "corner", "(LPlatesSing$Shape;)I"⟩
def RX10 : String := "PlatesSing$Turns"
def TX10 : u_T := fun k => match k with
  | 0 => ("PlatesSing$Turns", "found", "I", false)
  | 1 => ("PlatesSing$Turns", "firstFound", "I", false)
  | 2 => ("PlatesSing$Turns", "orbits", "[I", true)
  | 3 => ("PlatesSing$Turns", "order", "[I", true)
  | 4 => ("PlatesSing$Turns", "from", "LPlatesSing$Net;", true)
  | _ => ("PlatesSing$Turns", "to", "LPlatesSing$Net;", true)
def tyX10 : Nat → FieldType := fun k => match k with
  | 0 => .int
  | 1 => .int
  | 2 => .array .int
  | 3 => .array .int
  | 4 => .object "PlatesSing$Net"
  | _ => .object "PlatesSing$Net"
abbrev wsX100 : List Cond := u_ws RX10 TX10 6
theorem nmX10 : ∀ a, a < 6 → ∀ b, b < 6 → a ≠ b → (TX10 a).2.1 ≠ (TX10 b).2.1 := by decide +kernel
theorem tyX10_ok : ∀ k, k < 6 → parseFieldDescriptor (TX10 k).2.2.1 = some (tyX10 k) := by decide +kernel
abbrev cX10_init : ByteArray := prog_12_method_1_code
def yX10_init : MethodName := ⟨RX10, "<init>", "()V"⟩
abbrev cX10_seek : ByteArray := prog_12_method_2_code
def yX10_seek : MethodName := ⟨RX10, "seek", "(LPlatesSing$Shape;LPlatesSing$Shape;)V"⟩
abbrev cX10_extend : ByteArray := prog_12_method_3_code
def yX10_extend : MethodName := ⟨RX10, "extend", "(LPlatesSing$Shape;LPlatesSing$Shape;I)V"⟩
abbrev cX10_isLike : ByteArray := prog_12_method_4_code
def yX10_isLike : MethodName := ⟨RX10, "isLike", "(LPlatesSing$Shape;ILPlatesSing$Shape;I)Z"⟩
abbrev cX10_keepsPieces : ByteArray := prog_12_method_5_code
def yX10_keepsPieces : MethodName := ⟨RX10, "keepsPieces", "(II)Z"⟩
abbrev cX10_noteFound : ByteArray := prog_12_method_6_code
def yX10_noteFound : MethodName := ⟨RX10, "noteFound", "(I)V"⟩
def RX11 : String := "PlatesSing"
def TX11 : u_T := fun k => match k with
  | 0 => ("PlatesSing", "tape", "LPlatesSing$Tape;", true)
  | 1 => ("PlatesSing", "shapes", "[LPlatesSing$Shape;", true)
  | 2 => ("PlatesSing", "shapeCount", "I", false)
  | 3 => ("PlatesSing", "draft", "LPlatesSing$Shape;", false)
  | 4 => ("PlatesSing", "net", "LPlatesSing$Net;", true)
  | 5 => ("PlatesSing", "otherNet", "LPlatesSing$Net;", true)
  | 6 => ("PlatesSing", "turns", "LPlatesSing$Turns;", true)
  | 7 => ("PlatesSing", "plan", "LPlatesSing$Plan;", true)
  | 8 => ("PlatesSing", "hearing", "LPlatesSing$Hearing;", true)
  | 9 => ("PlatesSing", "blows", "LPlatesSing$Blows;", true)
  | 10 => ("PlatesSing", "ratios", "LPlatesSing$Ratios;", true)
  | 11 => ("PlatesSing", "history", "LPlatesSing$History;", true)
  | 12 => ("PlatesSing", "parts", "LPlatesSing$Parts;", true)
  | _ => ("PlatesSing", "shelves", "LPlatesSing$Shelves;", true)
def tyX11 : Nat → FieldType := fun k => match k with
  | 0 => .object "PlatesSing$Tape"
  | 1 => .array (.object "PlatesSing$Shape")
  | 2 => .int
  | 3 => .object "PlatesSing$Shape"
  | 4 => .object "PlatesSing$Net"
  | 5 => .object "PlatesSing$Net"
  | 6 => .object "PlatesSing$Turns"
  | 7 => .object "PlatesSing$Plan"
  | 8 => .object "PlatesSing$Hearing"
  | 9 => .object "PlatesSing$Blows"
  | 10 => .object "PlatesSing$Ratios"
  | 11 => .object "PlatesSing$History"
  | 12 => .object "PlatesSing$Parts"
  | _ => .object "PlatesSing$Shelves"
abbrev wsX110 : List Cond := u_ws RX11 TX11 14
theorem nmX11 : ∀ a, a < 14 → ∀ b, b < 14 → a ≠ b → (TX11 a).2.1 ≠ (TX11 b).2.1 := by decide +kernel
theorem tyX11_ok : ∀ k, k < 14 → parseFieldDescriptor (TX11 k).2.2.1 = some (tyX11 k) := by decide +kernel
abbrev cX11_init : ByteArray := prog_1_method_1_code
def yX11_init : MethodName := ⟨RX11, "<init>", "()V"⟩
abbrev cX11_feed : ByteArray := prog_1_method_2_code
def yX11_feed : MethodName := ⟨RX11, "feed", "(II)I"⟩
abbrev cX11_shape : ByteArray := prog_1_method_3_code
def yX11_shape : MethodName := ⟨RX11, "shape", "()I"⟩
abbrev cX11_of : ByteArray := prog_1_method_4_code
def yX11_of : MethodName := ⟨RX11, "of", "(II)I"⟩
abbrev cX11_piece : ByteArray := prog_1_method_5_code
def yX11_piece : MethodName := ⟨RX11, "piece", "(IIII)I"⟩
abbrev cX11_put : ByteArray := prog_1_method_6_code
def yX11_put : MethodName := ⟨RX11, "put", "(IIII)I"⟩
abbrev cX11_crack : ByteArray := prog_1_method_7_code
def yX11_crack : MethodName := ⟨RX11, "crack", "(IIII)I"⟩
abbrev cX11_stroke : ByteArray := prog_1_method_8_code
def yX11_stroke : MethodName := ⟨RX11, "stroke", "(III)I"⟩
abbrev cX11_below : ByteArray := prog_1_method_9_code
def yX11_below : MethodName := ⟨RX11, "below", "(III)I"⟩
abbrev cX11_sums : ByteArray := prog_1_method_10_code
def yX11_sums : MethodName := ⟨RX11, "sums", "(III)J"⟩
abbrev cX11_shut : ByteArray := prog_1_method_11_code
def yX11_shut : MethodName := ⟨RX11, "shut", "(III)I"⟩
abbrev cX11_still : ByteArray := prog_1_method_12_code
def yX11_still : MethodName := ⟨RX11, "still", "(III)I"⟩
abbrev cX11_split : ByteArray := prog_1_method_13_code
def yX11_split : MethodName := ⟨RX11, "split", "(IIII)I"⟩
abbrev cX11_bounds : ByteArray := prog_1_method_14_code
def yX11_bounds : MethodName := ⟨RX11, "bounds", "(IIIII)I"⟩
abbrev cX11_led : ByteArray := prog_1_method_15_code
def yX11_led : MethodName := ⟨RX11, "led", "(IIII)I"⟩
abbrev cX11_turnsOf : ByteArray := prog_1_method_16_code
def yX11_turnsOf : MethodName := ⟨RX11, "turnsOf", "(I)I"⟩
abbrev cX11_orbit : ByteArray := prog_1_method_17_code
def yX11_orbit : MethodName := ⟨RX11, "orbit", "(II)I"⟩
abbrev cX11_table : ByteArray := prog_1_method_18_code
def yX11_table : MethodName := ⟨RX11, "table", "(II)I"⟩
abbrev cX11_alike : ByteArray := prog_1_method_19_code
def yX11_alike : MethodName := ⟨RX11, "alike", "(III)I"⟩
abbrev cX11_plan : ByteArray := prog_1_method_20_code
def yX11_plan : MethodName := ⟨RX11, "plan", "(IIII)I"⟩
abbrev cX11_wish : ByteArray := prog_1_method_21_code
def yX11_wish : MethodName := ⟨RX11, "wish", "(III)I"⟩
abbrev cX11_moved : ByteArray := prog_1_method_22_code
def yX11_moved : MethodName := ⟨RX11, "moved", "(III)I"⟩
abbrev cX11_tune : ByteArray := prog_1_method_23_code
def yX11_tune : MethodName := ⟨RX11, "tune", "(I)I"⟩
abbrev cX11_forget : ByteArray := prog_1_method_24_code
def yX11_forget : MethodName := ⟨RX11, "forget", "()I"⟩
abbrev cX11_hear : ByteArray := prog_1_method_25_code
def yX11_hear : MethodName := ⟨RX11, "hear", "(I)I"⟩
abbrev cX11_fits : ByteArray := prog_1_method_26_code
def yX11_fits : MethodName := ⟨RX11, "fits", "(III)I"⟩
abbrev cX11_next : ByteArray := prog_1_method_27_code
def yX11_next : MethodName := ⟨RX11, "next", "(II)I"⟩
abbrev cX11_unhear : ByteArray := prog_1_method_28_code
def yX11_unhear : MethodName := ⟨RX11, "unhear", "()I"⟩
abbrev cX11_damp : ByteArray := prog_1_method_29_code
def yX11_damp : MethodName := ⟨RX11, "damp", "(I)I"⟩
abbrev cX11_ear : ByteArray := prog_1_method_30_code
def yX11_ear : MethodName := ⟨RX11, "ear", "(II)I"⟩
abbrev cX11_blow : ByteArray := prog_1_method_31_code
def yX11_blow : MethodName := ⟨RX11, "blow", "(IIII)I"⟩
abbrev cX11_roll : ByteArray := prog_1_method_32_code
def yX11_roll : MethodName := ⟨RX11, "roll", "(III)I"⟩
abbrev cX11_rolled : ByteArray := prog_1_method_33_code
def yX11_rolled : MethodName := ⟨RX11, "rolled", "(II)I"⟩
abbrev cX11_heard : ByteArray := prog_1_method_34_code
def yX11_heard : MethodName := ⟨RX11, "heard", "(II)I"⟩
abbrev cX11_loud : ByteArray := prog_1_method_35_code
def yX11_loud : MethodName := ⟨RX11, "loud", "(II)I"⟩
abbrev cX11_write : ByteArray := prog_1_method_36_code
def yX11_write : MethodName := ⟨RX11, "write", "(IIII)I"⟩
abbrev cX11_loudness : ByteArray := prog_1_method_37_code
def yX11_loudness : MethodName := ⟨RX11, "loudness", "(II)I"⟩
abbrev cX11_strongest : ByteArray := prog_1_method_38_code
def yX11_strongest : MethodName := ⟨RX11, "strongest", "(I)I"⟩
abbrev cX11_ratio : ByteArray := prog_1_method_39_code
def yX11_ratio : MethodName := ⟨RX11, "ratio", "(II)I"⟩
abbrev cX11_agree : ByteArray := prog_1_method_40_code
def yX11_agree : MethodName := ⟨RX11, "agree", "(IIII)I"⟩
abbrev cX11_unratio : ByteArray := prog_1_method_41_code
def yX11_unratio : MethodName := ⟨RX11, "unratio", "()I"⟩
abbrev cX11_join : ByteArray := prog_1_method_42_code
def yX11_join : MethodName := ⟨RX11, "join", "(IIII)I"⟩
abbrev cX11_law : ByteArray := prog_1_method_43_code
def yX11_law : MethodName := ⟨RX11, "law", "(II)I"⟩
abbrev cX11_undo : ByteArray := prog_1_method_44_code
def yX11_undo : MethodName := ⟨RX11, "undo", "()I"⟩
abbrev cX11_redo : ByteArray := prog_1_method_45_code
def yX11_redo : MethodName := ⟨RX11, "redo", "()I"⟩
abbrev cX11_digest : ByteArray := prog_1_method_46_code
def yX11_digest : MethodName := ⟨RX11, "digest", "()I"⟩
abbrev cX11_body : ByteArray := prog_1_method_47_code
def yX11_body : MethodName := ⟨RX11, "body", "(I)I"⟩
abbrev cX11_act : ByteArray := prog_1_method_48_code
def yX11_act : MethodName := ⟨RX11, "act", "(III)I"⟩
abbrev cX11_trace : ByteArray := prog_1_method_49_code
def yX11_trace : MethodName := ⟨RX11, "trace", "(I)I"⟩
abbrev cX11_keep : ByteArray := prog_1_method_50_code
def yX11_keep : MethodName := ⟨RX11, "keep", "(II)I"⟩
abbrev cX11_row : ByteArray := prog_1_method_51_code
def yX11_row : MethodName := ⟨RX11, "row", "(III)I"⟩
abbrev cX11_place : ByteArray := prog_1_method_52_code
def yX11_place : MethodName := ⟨RX11, "place", "(IIJ)I"⟩
abbrev cX11_element : ByteArray := prog_1_method_53_code
def yX11_element : MethodName := ⟨RX11, "element", "(II)J"⟩
abbrev cX11_shift : ByteArray := prog_1_method_54_code
def yX11_shift : MethodName := ⟨RX11, "shift", "(IIIII)I"⟩
abbrev cX11_taken : ByteArray := prog_1_method_55_code
def yX11_taken : MethodName := ⟨RX11, "taken", "(II)I"⟩
abbrev cX11_count : ByteArray := prog_1_method_56_code
def yX11_count : MethodName := ⟨RX11, "count", "(I)I"⟩
abbrev cX11_within : ByteArray := prog_1_method_57_code
def yX11_within : MethodName := ⟨RX11, "within", "(III)Z"⟩
abbrev cX11_isMark : ByteArray := prog_1_method_58_code
def yX11_isMark : MethodName := ⟨RX11, "isMark", "(I)Z"⟩
abbrev cX11_isForce : ByteArray := prog_1_method_59_code
def yX11_isForce : MethodName := ⟨RX11, "isForce", "(I)Z"⟩
abbrev cX11_isEar : ByteArray := prog_1_method_60_code
def yX11_isEar : MethodName := ⟨RX11, "isEar", "(I)Z"⟩
abbrev cX11_isShelf : ByteArray := prog_1_method_61_code
def yX11_isShelf : MethodName := ⟨RX11, "isShelf", "(I)Z"⟩
abbrev cX11_isKind : ByteArray := prog_1_method_62_code
def yX11_isKind : MethodName := ⟨RX11, "isKind", "(I)Z"⟩
abbrev cX11_isBody : ByteArray := prog_1_method_63_code
def yX11_isBody : MethodName := ⟨RX11, "isBody", "(I)Z"⟩
abbrev cX11_isCorner : ByteArray := prog_1_method_64_code
def yX11_isCorner : MethodName := ⟨RX11, "isCorner", "(LPlatesSing$Shape;I)Z"⟩
abbrev cX11_isTone : ByteArray := prog_1_method_65_code
def yX11_isTone : MethodName := ⟨RX11, "isTone", "(LPlatesSing$Shape;II)Z"⟩
abbrev cX11_shapeAt : ByteArray := prog_1_method_66_code
def yX11_shapeAt : MethodName := ⟨RX11, "shapeAt", "(I)LPlatesSing$Shape;"⟩
abbrev cX11_planned : ByteArray := prog_1_method_67_code
def yX11_planned : MethodName := ⟨RX11, "planned", "()LPlatesSing$Shape;"⟩
abbrev cX11_isFullFor : ByteArray := prog_1_method_68_code
def yX11_isFullFor : MethodName := ⟨RX11, "isFullFor", "(I)Z"⟩
abbrev cX11_addDraft : ByteArray := prog_1_method_69_code
def yX11_addDraft : MethodName := ⟨RX11, "addDraft", "()I"⟩
abbrev cX11_change : ByteArray := prog_1_method_70_code
def yX11_change : MethodName := ⟨RX11, "change", "(LPlatesSing$Shape;III)I"⟩
abbrev cX11_under : ByteArray := prog_1_method_71_code
def yX11_under : MethodName := ⟨RX11, "under", "(LPlatesSing$Shape;I)I"⟩
def RX12 : String := "PlatesSingModel"
def TX12 : u_T := fun k => match k with
  | 0 => ("PlatesSingModel", "code", "I", false)
  | 1 => ("PlatesSingModel", "shapes", "I", false)
  | 2 => ("PlatesSingModel", "corners", "[I", true)
  | 3 => ("PlatesSingModel", "heavy", "[I", true)
  | 4 => ("PlatesSingModel", "pads", "[I", true)
  | 5 => ("PlatesSingModel", "weights", "[I", true)
  | 6 => ("PlatesSingModel", "isHeld", "[Z", true)
  | 7 => ("PlatesSingModel", "stiff", "[I", true)
  | 8 => ("PlatesSingModel", "cracks", "[I", true)
  | 9 => ("PlatesSingModel", "bodyOf", "[I", true)
  | 10 => ("PlatesSingModel", "joinedOf", "[I", true)
  | 11 => ("PlatesSingModel", "joinedTo", "[I", true)
  | 12 => ("PlatesSingModel", "bodies", "I", false)
  | 13 => ("PlatesSingModel", "kind", "[I", true)
  | 14 => ("PlatesSingModel", "lies", "[I", true)
  | 15 => ("PlatesSingModel", "tape", "[B", true)
  | 16 => ("PlatesSingModel", "taped", "I", false)
  | 17 => ("PlatesSingModel", "here", "I", false)
  | 18 => ("PlatesSingModel", "fault", "I", false)
  | 19 => ("PlatesSingModel", "newPieces", "I", false)
  | 20 => ("PlatesSingModel", "newA", "[I", true)
  | 21 => ("PlatesSingModel", "newB", "[I", true)
  | 22 => ("PlatesSingModel", "isPadded", "[Z", true)
  | 23 => ("PlatesSingModel", "isWeighted", "[Z", true)
  | 24 => ("PlatesSingModel", "doneMany", "I", false)
  | 25 => ("PlatesSingModel", "undoneMany", "I", false)
  | 26 => ("PlatesSingModel", "actOf", "[I", true)
  | 27 => ("PlatesSingModel", "actAt", "[I", true)
  | 28 => ("PlatesSingModel", "before", "[I", true)
  | 29 => ("PlatesSingModel", "behind", "[I", true)
  | 30 => ("PlatesSingModel", "crackBefore", "[I", true)
  | 31 => ("PlatesSingModel", "mass", "[I", true)
  | 32 => ("PlatesSingModel", "pad", "[I", true)
  | 33 => ("PlatesSingModel", "held", "[Z", true)
  | 34 => ("PlatesSingModel", "counts", "[I", true)
  | 35 => ("PlatesSingModel", "many", "I", false)
  | 36 => ("PlatesSingModel", "matrix", "[J", true)
  | 37 => ("PlatesSingModel", "rows", "I", false)
  | 38 => ("PlatesSingModel", "sums", "[J", true)
  | 39 => ("PlatesSingModel", "rowOf", "[I", true)
  | 40 => ("PlatesSingModel", "minorOf", "[J", true)
  | 41 => ("PlatesSingModel", "minorAt", "[I", true)
  | 42 => ("PlatesSingModel", "stamp", "I", false)
  | 43 => ("PlatesSingModel", "changesBy", "[I", true)
  | 44 => ("PlatesSingModel", "shuts", "[I", true)
  | 45 => ("PlatesSingModel", "row", "[I", true)
  | 46 => ("PlatesSingModel", "turnMany", "I", false)
  | 47 => ("PlatesSingModel", "orbitBits", "I", false)
  | 48 => ("PlatesSingModel", "orbitOf", "I", false)
  | 49 => ("PlatesSingModel", "isLooked", "Z", false)
  | 50 => ("PlatesSingModel", "lookedRow", "I", false)
  | 51 => ("PlatesSingModel", "planMany", "I", false)
  | 52 => ("PlatesSingModel", "planShape", "I", false)
  | 53 => ("PlatesSingModel", "planA", "[I", true)
  | 54 => ("PlatesSingModel", "planB", "[I", true)
  | 55 => ("PlatesSingModel", "planOften", "[I", true)
  | 56 => ("PlatesSingModel", "wishMany", "I", false)
  | 57 => ("PlatesSingModel", "wishTone", "[I", true)
  | 58 => ("PlatesSingModel", "wishBy", "[I", true)
  | 59 => ("PlatesSingModel", "wishIs", "[I", true)
  | 60 => ("PlatesSingModel", "trial", "[I", true)
  | 61 => ("PlatesSingModel", "fewest", "I", false)
  | 62 => ("PlatesSingModel", "digits", "I", false)
  | 63 => ("PlatesSingModel", "closest", "I", false)
  | 64 => ("PlatesSingModel", "closestMany", "I", false)
  | 65 => ("PlatesSingModel", "heardMany", "I", false)
  | 66 => ("PlatesSingModel", "heardIs", "[I", true)
  | 67 => ("PlatesSingModel", "fitMany", "I", false)
  | 68 => ("PlatesSingModel", "fitBody", "I", false)
  | 69 => ("PlatesSingModel", "fitCrack", "I", false)
  | 70 => ("PlatesSingModel", "alikeBy", "[I", true)
  | 71 => ("PlatesSingModel", "dampIs", "I", false)
  | 72 => ("PlatesSingModel", "earAt", "[I", true)
  | 73 => ("PlatesSingModel", "earWas", "[I", true)
  | 74 => ("PlatesSingModel", "steps", "I", false)
  | 75 => ("PlatesSingModel", "x", "[I", true)
  | 76 => ("PlatesSingModel", "u", "[I", true)
  | 77 => ("PlatesSingModel", "pull", "[I", true)
  | 78 => ("PlatesSingModel", "heardAt", "[I", true)
  | 79 => ("PlatesSingModel", "rollMany", "I", false)
  | 80 => ("PlatesSingModel", "rollCorner", "[I", true)
  | 81 => ("PlatesSingModel", "rollV", "[I", true)
  | 82 => ("PlatesSingModel", "rollWhen", "[I", true)
  | 83 => ("PlatesSingModel", "ratios", "I", false)
  | 84 => ("PlatesSingModel", "ratioA", "[I", true)
  | 85 => ("PlatesSingModel", "ratioB", "[I", true)
  | 86 => ("PlatesSingModel", "inOrder", "[I", true)
  | 87 => ("PlatesSingModel", "lowest", "[I", true)
  | 88 => ("PlatesSingModel", "traces", "I", false)
  | 89 => ("PlatesSingModel", "traced", "[I", true)
  | 90 => ("PlatesSingModel", "holds", "[I", true)
  | 91 => ("PlatesSingModel", "size", "[I", true)
  | 92 => ("PlatesSingModel", "elements", "[J", true)
  | _ => ("PlatesSingModel", "shifted", "[J", true)
def tyX12 : Nat → FieldType := fun k => match k with
  | 0 => .int
  | 1 => .int
  | 2 => .array .int
  | 3 => .array .int
  | 4 => .array .int
  | 5 => .array .int
  | 6 => .array .boolean
  | 7 => .array .int
  | 8 => .array .int
  | 9 => .array .int
  | 10 => .array .int
  | 11 => .array .int
  | 12 => .int
  | 13 => .array .int
  | 14 => .array .int
  | 15 => .array .byte
  | 16 => .int
  | 17 => .int
  | 18 => .int
  | 19 => .int
  | 20 => .array .int
  | 21 => .array .int
  | 22 => .array .boolean
  | 23 => .array .boolean
  | 24 => .int
  | 25 => .int
  | 26 => .array .int
  | 27 => .array .int
  | 28 => .array .int
  | 29 => .array .int
  | 30 => .array .int
  | 31 => .array .int
  | 32 => .array .int
  | 33 => .array .boolean
  | 34 => .array .int
  | 35 => .int
  | 36 => .array .long
  | 37 => .int
  | 38 => .array .long
  | 39 => .array .int
  | 40 => .array .long
  | 41 => .array .int
  | 42 => .int
  | 43 => .array .int
  | 44 => .array .int
  | 45 => .array .int
  | 46 => .int
  | 47 => .int
  | 48 => .int
  | 49 => .boolean
  | 50 => .int
  | 51 => .int
  | 52 => .int
  | 53 => .array .int
  | 54 => .array .int
  | 55 => .array .int
  | 56 => .int
  | 57 => .array .int
  | 58 => .array .int
  | 59 => .array .int
  | 60 => .array .int
  | 61 => .int
  | 62 => .int
  | 63 => .int
  | 64 => .int
  | 65 => .int
  | 66 => .array .int
  | 67 => .int
  | 68 => .int
  | 69 => .int
  | 70 => .array .int
  | 71 => .int
  | 72 => .array .int
  | 73 => .array .int
  | 74 => .int
  | 75 => .array .int
  | 76 => .array .int
  | 77 => .array .int
  | 78 => .array .int
  | 79 => .int
  | 80 => .array .int
  | 81 => .array .int
  | 82 => .array .int
  | 83 => .int
  | 84 => .array .int
  | 85 => .array .int
  | 86 => .array .int
  | 87 => .array .int
  | 88 => .int
  | 89 => .array .int
  | 90 => .array .int
  | 91 => .array .int
  | 92 => .array .long
  | _ => .array .long
abbrev wsX120 : List Cond := u_ws RX12 TX12 94
theorem nmX12 : ∀ a, a < 94 → ∀ b, b < 94 → a ≠ b → (TX12 a).2.1 ≠ (TX12 b).2.1 := by decide +kernel
theorem tyX12_ok : ∀ k, k < 94 → parseFieldDescriptor (TX12 k).2.2.1 = some (tyX12 k) := by decide +kernel
abbrev cX12_init : ByteArray := prog_14_method_1_code
def yX12_init : MethodName := ⟨RX12, "<init>", "()V"⟩
abbrev cX12_in : ByteArray := prog_14_method_3_code
def yX12_in : MethodName := ⟨RX12, "in", "(III)Z"⟩
abbrev cX12_lesser : ByteArray := prog_14_method_4_code
def yX12_lesser : MethodName := ⟨RX12, "lesser", "(II)I"⟩
abbrev cX12_greater : ByteArray := prog_14_method_5_code
def yX12_greater : MethodName := ⟨RX12, "greater", "(II)I"⟩
abbrev cX12_sizeOf : ByteArray := prog_14_method_6_code
def yX12_sizeOf : MethodName := ⟨RX12, "sizeOf", "(I)I"⟩
abbrev cX12_isShape : ByteArray := prog_14_method_7_code
def yX12_isShape : MethodName := ⟨RX12, "isShape", "(I)Z"⟩
abbrev cX12_isCorner : ByteArray := prog_14_method_8_code
def yX12_isCorner : MethodName := ⟨RX12, "isCorner", "(II)Z"⟩
abbrev cX12_at : ByteArray := prog_14_method_9_code
def yX12_at : MethodName := ⟨RX12, "at", "(III)I"⟩
abbrev cX12_hasPiece : ByteArray := prog_14_method_10_code
def yX12_hasPiece : MethodName := ⟨RX12, "hasPiece", "(III)Z"⟩
abbrev cX12_setPiece : ByteArray := prog_14_method_11_code
def yX12_setPiece : MethodName := ⟨RX12, "setPiece", "(IIIIII)V"⟩
abbrev cX12_clear : ByteArray := prog_14_method_12_code
def yX12_clear : MethodName := ⟨RX12, "clear", "(I)V"⟩
abbrev cX12_piecesOf : ByteArray := prog_14_method_13_code
def yX12_piecesOf : MethodName := ⟨RX12, "piecesOf", "(I)I"⟩
abbrev cX12_feed : ByteArray := prog_14_method_14_code
def yX12_feed : MethodName := ⟨RX12, "feed", "(II)I"⟩
abbrev cX12_look : ByteArray := prog_14_method_15_code
def yX12_look : MethodName := ⟨RX12, "look", "()I"⟩
abbrev cX12_wrong : ByteArray := prog_14_method_16_code
def yX12_wrong : MethodName := ⟨RX12, "wrong", "()V"⟩
abbrev cX12_isDigit : ByteArray := prog_14_method_17_code
def yX12_isDigit : MethodName := ⟨RX12, "isDigit", "()Z"⟩
abbrev cX12_digit : ByteArray := prog_14_method_18_code
def yX12_digit : MethodName := ⟨RX12, "digit", "()I"⟩
abbrev cX12_letter : ByteArray := prog_14_method_19_code
def yX12_letter : MethodName := ⟨RX12, "letter", "()I"⟩
abbrev cX12_readPiece : ByteArray := prog_14_method_20_code
def yX12_readPiece : MethodName := ⟨RX12, "readPiece", "()V"⟩
abbrev cX12_readPart : ByteArray := prog_14_method_21_code
def yX12_readPart : MethodName := ⟨RX12, "readPart", "()V"⟩
abbrev cX12_readShape : ByteArray := prog_14_method_22_code
def yX12_readShape : MethodName := ⟨RX12, "readShape", "()V"⟩
abbrev cX12_bear : ByteArray := prog_14_method_23_code
def yX12_bear : MethodName := ⟨RX12, "bear", "(III)V"⟩
abbrev cX12_shape : ByteArray := prog_14_method_24_code
def yX12_shape : MethodName := ⟨RX12, "shape", "()I"⟩
abbrev cX12_tonesOf : ByteArray := prog_14_method_25_code
def yX12_tonesOf : MethodName := ⟨RX12, "tonesOf", "(I)I"⟩
abbrev cX12_of : ByteArray := prog_14_method_26_code
def yX12_of : MethodName := ⟨RX12, "of", "(II)I"⟩
abbrev cX12_piece : ByteArray := prog_14_method_27_code
def yX12_piece : MethodName := ⟨RX12, "piece", "(IIII)I"⟩
abbrev cX12_kept : ByteArray := prog_14_method_28_code
def yX12_kept : MethodName := ⟨RX12, "kept", "(IIIII)V"⟩
abbrev cX12_setStiff : ByteArray := prog_14_method_29_code
def yX12_setStiff : MethodName := ⟨RX12, "setStiff", "(III)V"⟩
abbrev cX12_set : ByteArray := prog_14_method_30_code
def yX12_set : MethodName := ⟨RX12, "set", "(IIII)V"⟩
abbrev cX12_put : ByteArray := prog_14_method_31_code
def yX12_put : MethodName := ⟨RX12, "put", "(IIII)I"⟩
abbrev cX12_crack : ByteArray := prog_14_method_32_code
def yX12_crack : MethodName := ⟨RX12, "crack", "(IIII)I"⟩
abbrev cX12_stroke : ByteArray := prog_14_method_33_code
def yX12_stroke : MethodName := ⟨RX12, "stroke", "(III)I"⟩
abbrev cX12_undo : ByteArray := prog_14_method_34_code
def yX12_undo : MethodName := ⟨RX12, "undo", "()I"⟩
abbrev cX12_redo : ByteArray := prog_14_method_35_code
def yX12_redo : MethodName := ⟨RX12, "redo", "()I"⟩
abbrev cX12_digest : ByteArray := prog_14_method_36_code
def yX12_digest : MethodName := ⟨RX12, "digest", "()I"⟩
abbrev cX12_massOf : ByteArray := prog_14_method_37_code
def yX12_massOf : MethodName := ⟨RX12, "massOf", "(II)I"⟩
abbrev cX12_take : ByteArray := prog_14_method_38_code
def yX12_take : MethodName := ⟨RX12, "take", "(I)V"⟩
abbrev cX12_layMatrix : ByteArray := prog_14_method_39_code
def yX12_layMatrix : MethodName := ⟨RX12, "layMatrix", "(II)V"⟩
abbrev cX12_minor : ByteArray := prog_14_method_40_code
def yX12_minor : MethodName := ⟨RX12, "minor", "(II)J"⟩
abbrev cX12_bitsOf : ByteArray := prog_14_method_41_code
def yX12_bitsOf : MethodName := ⟨RX12, "bitsOf", "(I)I"⟩
abbrev cX12_findSums : ByteArray := prog_14_method_42_code
def yX12_findSums : MethodName := ⟨RX12, "findSums", "(II)V"⟩
abbrev cX12_changes : ByteArray := prog_14_method_43_code
def yX12_changes : MethodName := ⟨RX12, "changes", "(II)I"⟩
abbrev cX12_atMark : ByteArray := prog_14_method_44_code
def yX12_atMark : MethodName := ⟨RX12, "atMark", "(II)I"⟩
abbrev cX12_isMark : ByteArray := prog_14_method_45_code
def yX12_isMark : MethodName := ⟨RX12, "isMark", "(I)Z"⟩
abbrev cX12_below : ByteArray := prog_14_method_46_code
def yX12_below : MethodName := ⟨RX12, "below", "(III)I"⟩
abbrev cX12_sums : ByteArray := prog_14_method_47_code
def yX12_sums : MethodName := ⟨RX12, "sums", "(III)J"⟩
abbrev cX12_forgetChanges : ByteArray := prog_14_method_48_code
def yX12_forgetChanges : MethodName := ⟨RX12, "forgetChanges", "()V"⟩
abbrev cX12_shutOf : ByteArray := prog_14_method_49_code
def yX12_shutOf : MethodName := ⟨RX12, "shutOf", "(II)I"⟩
abbrev cX12_shutNow : ByteArray := prog_14_method_50_code
def yX12_shutNow : MethodName := ⟨RX12, "shutNow", "(II)I"⟩
abbrev cX12_shut : ByteArray := prog_14_method_51_code
def yX12_shut : MethodName := ⟨RX12, "shut", "(III)I"⟩
abbrev cX12_still : ByteArray := prog_14_method_52_code
def yX12_still : MethodName := ⟨RX12, "still", "(III)I"⟩
abbrev cX12_split : ByteArray := prog_14_method_53_code
def yX12_split : MethodName := ⟨RX12, "split", "(IIII)I"⟩
abbrev cX12_bounds : ByteArray := prog_14_method_54_code
def yX12_bounds : MethodName := ⟨RX12, "bounds", "(IIIII)I"⟩
abbrev cX12_setCount : ByteArray := prog_14_method_55_code
def yX12_setCount : MethodName := ⟨RX12, "setCount", "(III)V"⟩
abbrev cX12_led : ByteArray := prog_14_method_56_code
def yX12_led : MethodName := ⟨RX12, "led", "(IIII)I"⟩
abbrev cX12_areLike : ByteArray := prog_14_method_57_code
def yX12_areLike : MethodName := ⟨RX12, "areLike", "(IIII)Z"⟩
abbrev cX12_countBetween : ByteArray := prog_14_method_58_code
def yX12_countBetween : MethodName := ⟨RX12, "countBetween", "(III)I"⟩
abbrev cX12_turnOn : ByteArray := prog_14_method_59_code
def yX12_turnOn : MethodName := ⟨RX12, "turnOn", "(IIII)V"⟩
abbrev cX12_findTurns : ByteArray := prog_14_method_60_code
def yX12_findTurns : MethodName := ⟨RX12, "findTurns", "(III)V"⟩
abbrev cX12_turnsOf : ByteArray := prog_14_method_61_code
def yX12_turnsOf : MethodName := ⟨RX12, "turnsOf", "(I)I"⟩
abbrev cX12_orbit : ByteArray := prog_14_method_62_code
def yX12_orbit : MethodName := ⟨RX12, "orbit", "(II)I"⟩
abbrev cX12_tableOf : ByteArray := prog_14_method_63_code
def yX12_tableOf : MethodName := ⟨RX12, "tableOf", "(II)I"⟩
abbrev cX12_table : ByteArray := prog_14_method_64_code
def yX12_table : MethodName := ⟨RX12, "table", "(II)I"⟩
abbrev cX12_divisor : ByteArray := prog_14_method_65_code
def yX12_divisor : MethodName := ⟨RX12, "divisor", "(I)J"⟩
abbrev cX12_lastSum : ByteArray := prog_14_method_66_code
def yX12_lastSum : MethodName := ⟨RX12, "lastSum", "(II)J"⟩
abbrev cX12_soundAlike : ByteArray := prog_14_method_67_code
def yX12_soundAlike : MethodName := ⟨RX12, "soundAlike", "(II)Z"⟩
abbrev cX12_alike : ByteArray := prog_14_method_68_code
def yX12_alike : MethodName := ⟨RX12, "alike", "(III)I"⟩
abbrev cX12_plan : ByteArray := prog_14_method_69_code
def yX12_plan : MethodName := ⟨RX12, "plan", "(IIII)I"⟩
abbrev cX12_wish : ByteArray := prog_14_method_70_code
def yX12_wish : MethodName := ⟨RX12, "wish", "(III)I"⟩
abbrev cX12_struck : ByteArray := prog_14_method_71_code
def yX12_struck : MethodName := ⟨RX12, "struck", "(II)Z"⟩
abbrev cX12_moved : ByteArray := prog_14_method_72_code
def yX12_moved : MethodName := ⟨RX12, "moved", "(III)I"⟩
abbrev cX12_lacks : ByteArray := prog_14_method_73_code
def yX12_lacks : MethodName := ⟨RX12, "lacks", "()I"⟩
abbrev cX12_digitsOf : ByteArray := prog_14_method_74_code
def yX12_digitsOf : MethodName := ⟨RX12, "digitsOf", "()I"⟩
abbrev cX12_tuneOn : ByteArray := prog_14_method_75_code
def yX12_tuneOn : MethodName := ⟨RX12, "tuneOn", "(II)V"⟩
abbrev cX12_tune : ByteArray := prog_14_method_76_code
def yX12_tune : MethodName := ⟨RX12, "tune", "(I)I"⟩
abbrev cX12_forget : ByteArray := prog_14_method_77_code
def yX12_forget : MethodName := ⟨RX12, "forget", "()I"⟩
abbrev cX12_hear : ByteArray := prog_14_method_78_code
def yX12_hear : MethodName := ⟨RX12, "hear", "(I)I"⟩
abbrev cX12_unhear : ByteArray := prog_14_method_79_code
def yX12_unhear : MethodName := ⟨RX12, "unhear", "()I"⟩
abbrev cX12_tryFit : ByteArray := prog_14_method_80_code
def yX12_tryFit : MethodName := ⟨RX12, "tryFit", "(IIII)V"⟩
abbrev cX12_findFits : ByteArray := prog_14_method_81_code
def yX12_findFits : MethodName := ⟨RX12, "findFits", "(II)V"⟩
abbrev cX12_fits : ByteArray := prog_14_method_82_code
def yX12_fits : MethodName := ⟨RX12, "fits", "(III)I"⟩
abbrev cX12_next : ByteArray := prog_14_method_83_code
def yX12_next : MethodName := ⟨RX12, "next", "(II)I"⟩
abbrev cX12_damp : ByteArray := prog_14_method_84_code
def yX12_damp : MethodName := ⟨RX12, "damp", "(I)I"⟩
abbrev cX12_isEar : ByteArray := prog_14_method_85_code
def yX12_isEar : MethodName := ⟨RX12, "isEar", "(I)Z"⟩
abbrev cX12_ear : ByteArray := prog_14_method_86_code
def yX12_ear : MethodName := ⟨RX12, "ear", "(II)I"⟩
abbrev cX12_begin : ByteArray := prog_14_method_87_code
def yX12_begin : MethodName := ⟨RX12, "begin", "(I)V"⟩
abbrev cX12_step : ByteArray := prog_14_method_88_code
def yX12_step : MethodName := ⟨RX12, "step", "()I"⟩
abbrev cX12_blow : ByteArray := prog_14_method_89_code
def yX12_blow : MethodName := ⟨RX12, "blow", "(IIII)I"⟩
abbrev cX12_roll : ByteArray := prog_14_method_90_code
def yX12_roll : MethodName := ⟨RX12, "roll", "(III)I"⟩
abbrev cX12_rolled : ByteArray := prog_14_method_91_code
def yX12_rolled : MethodName := ⟨RX12, "rolled", "(II)I"⟩
abbrev cX12_heard : ByteArray := prog_14_method_92_code
def yX12_heard : MethodName := ⟨RX12, "heard", "(II)I"⟩
abbrev cX12_loud : ByteArray := prog_14_method_93_code
def yX12_loud : MethodName := ⟨RX12, "loud", "(II)I"⟩
abbrev cX12_isWhole : ByteArray := prog_14_method_94_code
def yX12_isWhole : MethodName := ⟨RX12, "isWhole", "(I)Z"⟩
abbrev cX12_mostOf : ByteArray := prog_14_method_95_code
def yX12_mostOf : MethodName := ⟨RX12, "mostOf", "(I)I"⟩
abbrev cX12_write : ByteArray := prog_14_method_96_code
def yX12_write : MethodName := ⟨RX12, "write", "(IIII)I"⟩
abbrev cX12_heardIn : ByteArray := prog_14_method_97_code
def yX12_heardIn : MethodName := ⟨RX12, "heardIn", "(II)J"⟩
abbrev cX12_signOf : ByteArray := prog_14_method_98_code
def yX12_signOf : MethodName := ⟨RX12, "signOf", "(II)I"⟩
abbrev cX12_loudnessOf : ByteArray := prog_14_method_99_code
def yX12_loudnessOf : MethodName := ⟨RX12, "loudnessOf", "(II)J"⟩
abbrev cX12_whyNoRow : ByteArray := prog_14_method_100_code
def yX12_whyNoRow : MethodName := ⟨RX12, "whyNoRow", "(I)I"⟩
abbrev cX12_loudness : ByteArray := prog_14_method_101_code
def yX12_loudness : MethodName := ⟨RX12, "loudness", "(II)I"⟩
abbrev cX12_strongest : ByteArray := prog_14_method_102_code
def yX12_strongest : MethodName := ⟨RX12, "strongest", "(I)I"⟩
abbrev cX12_ratio : ByteArray := prog_14_method_103_code
def yX12_ratio : MethodName := ⟨RX12, "ratio", "(II)I"⟩
abbrev cX12_unratio : ByteArray := prog_14_method_104_code
def yX12_unratio : MethodName := ⟨RX12, "unratio", "()I"⟩
abbrev cX12_doAgree : ByteArray := prog_14_method_105_code
def yX12_doAgree : MethodName := ⟨RX12, "doAgree", "(IIII)Z"⟩
abbrev cX12_allAgree : ByteArray := prog_14_method_106_code
def yX12_allAgree : MethodName := ⟨RX12, "allAgree", "(III)Z"⟩
abbrev cX12_agree : ByteArray := prog_14_method_107_code
def yX12_agree : MethodName := ⟨RX12, "agree", "(IIII)I"⟩
abbrev cX12_copyPieces : ByteArray := prog_14_method_108_code
def yX12_copyPieces : MethodName := ⟨RX12, "copyPieces", "(III)V"⟩
abbrev cX12_copyCorners : ByteArray := prog_14_method_109_code
def yX12_copyCorners : MethodName := ⟨RX12, "copyCorners", "(III)V"⟩
abbrev cX12_join : ByteArray := prog_14_method_110_code
def yX12_join : MethodName := ⟨RX12, "join", "(IIII)I"⟩
abbrev cX12_changesOf : ByteArray := prog_14_method_111_code
def yX12_changesOf : MethodName := ⟨RX12, "changesOf", "(II)I"⟩
abbrev cX12_law : ByteArray := prog_14_method_112_code
def yX12_law : MethodName := ⟨RX12, "law", "(II)I"⟩
abbrev cX12_isBody : ByteArray := prog_14_method_113_code
def yX12_isBody : MethodName := ⟨RX12, "isBody", "(I)Z"⟩
abbrev cX12_isUnder : ByteArray := prog_14_method_114_code
def yX12_isUnder : MethodName := ⟨RX12, "isUnder", "(II)Z"⟩
abbrev cX12_body : ByteArray := prog_14_method_115_code
def yX12_body : MethodName := ⟨RX12, "body", "(I)I"⟩
abbrev cX12_ran : ByteArray := prog_14_method_116_code
def yX12_ran : MethodName := ⟨RX12, "ran", "(I)V"⟩
abbrev cX12_plainStiffens : ByteArray := prog_14_method_117_code
def yX12_plainStiffens : MethodName := ⟨RX12, "plainStiffens", "(II)I"⟩
abbrev cX12_pieceStiffens : ByteArray := prog_14_method_118_code
def yX12_pieceStiffens : MethodName := ⟨RX12, "pieceStiffens", "(II)I"⟩
abbrev cX12_stiffens : ByteArray := prog_14_method_119_code
def yX12_stiffens : MethodName := ⟨RX12, "stiffens", "(II)I"⟩
abbrev cX12_plainWeighs : ByteArray := prog_14_method_120_code
def yX12_plainWeighs : MethodName := ⟨RX12, "plainWeighs", "(II)I"⟩
abbrev cX12_weighs : ByteArray := prog_14_method_121_code
def yX12_weighs : MethodName := ⟨RX12, "weighs", "(II)I"⟩
abbrev cX12_plainSounds : ByteArray := prog_14_method_122_code
def yX12_plainSounds : MethodName := ⟨RX12, "plainSounds", "(II)I"⟩
abbrev cX12_sounds : ByteArray := prog_14_method_123_code
def yX12_sounds : MethodName := ⟨RX12, "sounds", "(II)I"⟩
abbrev cX12_plainTells : ByteArray := prog_14_method_124_code
def yX12_plainTells : MethodName := ⟨RX12, "plainTells", "(II)I"⟩
abbrev cX12_crackedTells : ByteArray := prog_14_method_125_code
def yX12_crackedTells : MethodName := ⟨RX12, "crackedTells", "(II)I"⟩
abbrev cX12_tells : ByteArray := prog_14_method_126_code
def yX12_tells : MethodName := ⟨RX12, "tells", "(II)I"⟩
abbrev cX12_act : ByteArray := prog_14_method_127_code
def yX12_act : MethodName := ⟨RX12, "act", "(III)I"⟩
abbrev cX12_trace : ByteArray := prog_14_method_128_code
def yX12_trace : MethodName := ⟨RX12, "trace", "(I)I"⟩
abbrev cX12_count : ByteArray := prog_14_method_129_code
def yX12_count : MethodName := ⟨RX12, "count", "(I)I"⟩
abbrev cX12_isShelf : ByteArray := prog_14_method_130_code
def yX12_isShelf : MethodName := ⟨RX12, "isShelf", "(I)Z"⟩
abbrev cX12_keep : ByteArray := prog_14_method_131_code
def yX12_keep : MethodName := ⟨RX12, "keep", "(II)I"⟩
abbrev cX12_row : ByteArray := prog_14_method_132_code
def yX12_row : MethodName := ⟨RX12, "row", "(III)I"⟩
abbrev cX12_whyNoPlace : ByteArray := prog_14_method_133_code
def yX12_whyNoPlace : MethodName := ⟨RX12, "whyNoPlace", "(II)I"⟩
abbrev cX12_place : ByteArray := prog_14_method_134_code
def yX12_place : MethodName := ⟨RX12, "place", "(IIJ)I"⟩
abbrev cX12_element : ByteArray := prog_14_method_135_code
def yX12_element : MethodName := ⟨RX12, "element", "(II)J"⟩
abbrev cX12_shift : ByteArray := prog_14_method_136_code
def yX12_shift : MethodName := ⟨RX12, "shift", "(IIIII)I"⟩
abbrev cX12_taken : ByteArray := prog_14_method_137_code
def yX12_taken : MethodName := ⟨RX12, "taken", "(II)I"⟩
def RJ6 : String := "java/lang/Integer"
def TJ6 : u_T := fun k => match k with
  | _ => ("", "", "", false)
def tyJ6 : Nat → FieldType := fun k => match k with
  | _ => .int
abbrev wsJ60 : List Cond := u_ws RJ6 TJ6 0
abbrev cJ6_compare_7cf53 : ByteArray := prog_15_method_40_code
def yJ6_compare_7cf53 : MethodName := ⟨RJ6, "compare", "(II)I"⟩
abbrev cJ6_bitCount_0f7a4 : ByteArray := prog_15_method_49_code
def yJ6_bitCount_0f7a4 : MethodName := ⟨RJ6, "bitCount", "(I)I"⟩
def RJ9 : String := "java/lang/Math"
def TJ9 : u_T := fun k => match k with
  | _ => ("", "", "", false)
def tyJ9 : Nat → FieldType := fun k => match k with
  | _ => .int
abbrev wsJ90 : List Cond := u_ws RJ9 TJ9 0
abbrev cJ9_abs_0f7a4 : ByteArray := prog_16_method_59_code
def yJ9_abs_0f7a4 : MethodName := ⟨RJ9, "abs", "(I)I"⟩
abbrev cJ9_abs_067f4 : ByteArray := prog_16_method_61_code
def yJ9_abs_067f4 : MethodName := ⟨RJ9, "abs", "(J)J"⟩
abbrev cJ9_max_7cf53 : ByteArray := prog_16_method_65_code
def yJ9_max_7cf53 : MethodName := ⟨RJ9, "max", "(II)I"⟩
abbrev cJ9_max_f86c9 : ByteArray := prog_16_method_66_code
def yJ9_max_f86c9 : MethodName := ⟨RJ9, "max", "(JJ)J"⟩
abbrev cJ9_min_7cf53 : ByteArray := prog_16_method_69_code
def yJ9_min_7cf53 : MethodName := ⟨RJ9, "min", "(II)I"⟩
abbrev cJ9_min_f86c9 : ByteArray := prog_16_method_70_code
def yJ9_min_f86c9 : MethodName := ⟨RJ9, "min", "(JJ)J"⟩
def RJ10 : String := "java/lang/System"
def TJ10 : u_T := fun k => match k with
  | _ => ("", "", "", false)
def tyJ10 : Nat → FieldType := fun k => match k with
  | _ => .int
abbrev wsJ100 : List Cond := u_ws RJ10 TJ10 0
def RJ7 : String := "java/util/Arrays"
def TJ7 : u_T := fun k => match k with
  | _ => ("", "", "", false)
def tyJ7 : Nat → FieldType := fun k => match k with
  | _ => .int
abbrev wsJ70 : List Cond := u_ws RJ7 TJ7 0
abbrev cJ7_fill_d0a16 : ByteArray := prog_18_method_101_code
def yJ7_fill_d0a16 : MethodName := ⟨RJ7, "fill", "([JJ)V"⟩
abbrev cJ7_fill_53178 : ByteArray := prog_18_method_103_code
def yJ7_fill_53178 : MethodName := ⟨RJ7, "fill", "([II)V"⟩
def RL : String := "PlatesSingLaw"
abbrev cL_law : ByteArray := code
def yL_law : MethodName := ⟨RL, "law", "([I)Z"⟩
abbrev vwCl : List vw_C := [(RX0, TX0, 11), (RX1, TX1, 6), (RX2, TX2, 7), (RX3, TX3, 12), (RX4, TX4, 5), (RX5, TX5, 13), (RX6, TX6, 4), (RX7, TX7, 13), (RX8, TX8, 4), (RX9, TX9, 3), (RX10, TX10, 6), (RX11, TX11, 14), (RX12, TX12, 94)]
theorem inX0 : ∀ w ∈ wsX00, w ∈ lw_tbl := by decide +kernel
theorem inX1 : ∀ w ∈ wsX10, w ∈ lw_tbl := by decide +kernel
theorem inX2 : ∀ w ∈ wsX20, w ∈ lw_tbl := by decide +kernel
theorem inX3 : ∀ w ∈ wsX30, w ∈ lw_tbl := by decide +kernel
theorem inX4 : ∀ w ∈ wsX40, w ∈ lw_tbl := by decide +kernel
theorem inX5 : ∀ w ∈ wsX50, w ∈ lw_tbl := by decide +kernel
theorem inX6 : ∀ w ∈ wsX60, w ∈ lw_tbl := by decide +kernel
theorem inX7 : ∀ w ∈ wsX70, w ∈ lw_tbl := by decide +kernel
theorem inX8 : ∀ w ∈ wsX80, w ∈ lw_tbl := by decide +kernel
theorem inX9 : ∀ w ∈ wsX90, w ∈ lw_tbl := by decide +kernel
theorem inX10 : ∀ w ∈ wsX100, w ∈ lw_tbl := by decide +kernel
theorem inX11 : ∀ w ∈ wsX110, w ∈ lw_tbl := by decide +kernel
theorem inX12 : ∀ w ∈ wsX120, w ∈ lw_tbl := by decide +kernel
end
section
/-! the mini machine's data: cells in the order in which they are made, methods by number -/
abbrev mx_A : Type := Nat ⊕ (Nat × Nat)
abbrev mx_V : Type := Value ⊕ mx_A
abbrev mx_H : Type := Nat × (mx_A → Nat → Int32) × (mx_A → Nat → Int64) × (mx_A → Nat → Option mx_A)
abbrev mx_Lv : Type := List (Nat × mx_V)
abbrev mx_En : Type := Nat × Instr × Nat × Nat × Nat × Nat × Int32 × Int64
def mx_loT : List (List (Nat × Nat)) := [[(11, 14), (9, 3), (100, 120), (104, 12), (7, 13), (100, 6), (100, 6), (100, 6), (100, 6), (100, 15), (100, 15), (100, 15), (100, 15), (3, 12), (100, 6), (100, 6)], [(100, 6), (100, 36), (101, 7), (100, 6), (101, 36), (101, 7), (101, 6), (101, 6), (3, 12), (100, 6), (100, 6), (100, 6), (100, 36), (101, 7), (100, 6), (101, 36)], [(101, 7), (101, 6), (101, 6), (10, 6), (100, 6), (100, 6), (3, 12), (100, 6), (100, 6), (100, 6), (100, 36), (101, 7), (100, 6), (101, 36), (101, 7), (101, 6)], [(101, 6), (3, 12), (100, 6), (100, 6), (100, 6), (100, 36), (101, 7), (100, 6), (101, 36), (101, 7), (101, 6), (101, 6), (5, 13), (100, 6), (100, 6), (100, 6)], [(100, 6), (100, 6), (100, 6), (100, 6), (1, 6), (100, 6), (100, 600), (0, 11), (100, 4), (100, 4), (100, 800), (100, 6), (100, 6), (100, 6), (100, 6), (100, 6)], [(6, 4), (100, 6), (100, 6), (100, 7), (2, 7), (104, 40), (100, 40), (100, 40), (100, 40), (100, 40), (4, 5), (100, 200), (104, 200), (100, 24), (8, 4), (100, 6)], [(100, 6), (100, 6), (105, 6), (101, 60), (101, 60), (101, 60), (101, 60), (101, 60), (101, 60), (12, 94), (100, 13), (100, 78), (100, 78), (100, 78), (103, 78), (100, 468)], [(100, 468), (100, 468), (100, 12), (100, 12), (100, 200), (100, 200), (102, 120), (100, 15), (100, 15), (103, 6), (103, 6), (100, 40), (100, 40), (100, 40), (100, 40), (100, 40)], [(100, 6), (100, 6), (103, 6), (100, 36), (101, 36), (101, 7), (100, 6), (101, 4096), (100, 4096), (100, 100), (100, 6), (100, 6), (100, 8), (100, 8), (100, 8), (100, 6)], [(100, 6), (100, 6), (100, 8), (100, 6), (100, 600), (100, 4), (100, 4), (100, 6), (100, 6), (100, 6), (100, 800), (100, 6), (100, 6), (100, 6), (100, 6), (100, 6)], [(100, 7), (100, 7), (100, 24), (100, 6), (100, 6), (101, 360), (101, 60)]]
def mx_loS : List (Nat × Nat) := [(7, 13), (100, 6), (100, 6), (100, 6), (100, 6), (100, 15), (100, 15), (100, 15), (100, 15)]
def mx_loN : List (Nat × Nat) := [(3, 12), (100, 6), (100, 6), (100, 6), (100, 36), (101, 7), (100, 6), (101, 36), (101, 7), (101, 6), (101, 6)]
def mx_lo : mx_A → Nat × Nat
  | .inl k => (mx_loT.getD (k / 16) []).getD (k % 16) (999, 0)
  | .inr (_, o) => bif Nat.blt o 9 then mx_loS.getD o (999, 0) else bif Nat.beq o 20 then (101, 60) else mx_loN.getD (o - 30) (999, 0)
def mx_ffT : List (List Nat) := [[0, 2, 0, 2, 2, 2, 2, 0, 2, 2, 2], [0, 2, 0, 0, 0, 2], [0, 0, 2, 2, 2, 2, 2], [0, 2, 2, 2, 2, 2, 2, 0, 2, 2, 2, 2], [0, 2, 2, 0, 2], [0, 0, 2, 2, 2, 0, 2, 2, 2, 2, 0, 0, 0], [0, 2, 2, 2], [0, 2, 2, 2, 2, 0, 0, 2, 2, 2, 2, 0, 0], [2, 2, 2, 2], [2, 0, 0], [0, 0, 2, 2, 2, 2], [2, 2, 0, 2, 2, 2, 2, 2, 2, 2, 2, 2, 2, 2], [0, 0, 2, 2, 2, 2, 2, 2, 2, 2, 2, 2, 0, 2, 2, 2, 0, 0, 0, 0, 2, 2, 2, 2, 0, 0, 2, 2, 2, 2, 2, 2, 2, 2, 2, 0, 2, 0, 2, 2, 2, 2, 0, 2, 2, 2, 0, 0, 0, 1, 0, 0, 0, 2, 2, 2, 0, 2, 2, 2, 2, 0, 0, 0, 0, 0, 2, 0, 0, 0, 2, 0, 2, 2, 0, 2, 2, 2, 2, 0, 2, 2, 2, 0, 2, 2, 2, 2, 0, 2, 2, 2, 2, 2]]
def mx_ff (ci k : Nat) : Nat := (mx_ffT.getD ci []).getD k 0
def mx_fr0 : List (Option mx_A) := [some (.inl 1), some (.inl 3), none, none, some (.inr (0, 30)), some (.inr (1, 30)), some (.inl 35), some (.inl 60), some (.inl 68), some (.inl 71), some (.inl 80), some (.inl 84), some (.inl 90), some (.inl 94)]
def mx_fr1 : List (Option mx_A) := [some (.inl 2), none, none]
def mx_fr35 : List (Option mx_A) := [none, none, some (.inl 36), some (.inl 37), some (.inr (2, 30)), some (.inr (3, 30))]
def mx_fr60 : List (Option mx_A) := [none, none, some (.inl 61), some (.inl 62), some (.inl 63), none, some (.inl 64), some (.inl 65), some (.inl 66), some (.inl 67), none, none, none]
def mx_fr68 : List (Option mx_A) := [none, some (.inl 69), none, none, none, some (.inl 70)]
def mx_fr71 : List (Option mx_A) := [none, some (.inl 72), none, some (.inl 73), some (.inl 74), some (.inl 75), some (.inl 76), none, some (.inl 77), some (.inl 78), some (.inl 79)]
def mx_fr80 : List (Option mx_A) := [none, some (.inl 81), some (.inl 82), some (.inl 83)]
def mx_fr84 : List (Option mx_A) := [none, none, some (.inl 85), some (.inl 86), some (.inl 87), some (.inl 88), some (.inl 89)]
def mx_fr90 : List (Option mx_A) := [none, some (.inl 91), some (.inl 92), none, some (.inl 93)]
def mx_fr94 : List (Option mx_A) := [some (.inl 95), some (.inl 96), some (.inl 97), some (.inl 98)]
def mx_fr105 : List (Option mx_A) := [none, none, some (.inl 106), some (.inl 107), some (.inl 108), some (.inl 109), some (.inl 110), some (.inl 111), some (.inl 112), some (.inl 113), some (.inl 114), some (.inl 115), none, some (.inl 116), some (.inl 117), some (.inl 118), none, none, none, none, some (.inl 119), some (.inl 120), some (.inl 121), some (.inl 122), none, none, some (.inl 123), some (.inl 124), some (.inl 125), some (.inl 126), some (.inl 127), some (.inl 128), some (.inl 129), some (.inl 130), some (.inl 131), none, some (.inl 132), none, some (.inl 133), some (.inl 134), some (.inl 135), some (.inl 136), none, some (.inl 137), some (.inl 138), some (.inl 139), none, none, none, none, none, none, none, some (.inl 140), some (.inl 141), some (.inl 142), none, some (.inl 143), some (.inl 144), some (.inl 145), some (.inl 146), none, none, none, none, none, some (.inl 147), none, none, none, some (.inl 148), none, some (.inl 149), some (.inl 150), none, some (.inl 151), some (.inl 152), some (.inl 153), some (.inl 154), none, some (.inl 155), some (.inl 156), some (.inl 157), none, some (.inl 158), some (.inl 159), some (.inl 160), some (.inl 161), none, some (.inl 162), some (.inl 163), some (.inl 164), some (.inl 165), some (.inl 166)]
def mx_frS : List (Option Nat) := [none, some 1, some 2, some 3, some 4, none, none, some 5, some 6, some 7, some 8, none, none]
def mx_frN : List (Option Nat) := [none, some 31, some 32, some 33, some 34, some 35, some 36, none, some 37, some 38, some 39, some 40]
def mx_frT (k : Nat) : List (Option mx_A) := (bif Nat.blt k 71 then (bif Nat.blt k 35 then (bif Nat.blt k 1 then (bif Nat.beq k 0 then mx_fr0 else []) else (bif Nat.beq k 1 then mx_fr1 else [])) else (bif Nat.blt k 60 then (bif Nat.beq k 35 then mx_fr35 else []) else (bif Nat.blt k 68 then (bif Nat.beq k 60 then mx_fr60 else []) else (bif Nat.beq k 68 then mx_fr68 else [])))) else (bif Nat.blt k 90 then (bif Nat.blt k 80 then (bif Nat.beq k 71 then mx_fr71 else []) else (bif Nat.blt k 84 then (bif Nat.beq k 80 then mx_fr80 else []) else (bif Nat.beq k 84 then mx_fr84 else []))) else (bif Nat.blt k 94 then (bif Nat.beq k 90 then mx_fr90 else []) else (bif Nat.blt k 105 then (bif Nat.beq k 94 then mx_fr94 else []) else (bif Nat.beq k 105 then mx_fr105 else [])))))
def mx_fr : mx_A → Nat → Option mx_A
  | .inl k, f => (mx_frT k).getD f none
  | .inr (j, o), f => bif Nat.beq o 0 then (mx_frS.getD f none).map (fun x => .inr (j, x)) else bif Nat.beq o 30 then (mx_frN.getD f none).map (fun x => .inr (j, x)) else none
abbrev mx_Me : Type := Nat × MethodName × ByteArray × Nat × Option FieldType
def mx_m0 : mx_Me := (17, yL_law, cL_law, 4, (some .boolean))
def mx_m1 : mx_Me := (0, yX0_init, cX0_init, 1, none)
def mx_m2 : mx_Me := (0, yX0_add, cX0_add, 4, none)
def mx_m3 : mx_Me := (0, yX0_begin, cX0_begin, 3, none)
def mx_m4 : mx_Me := (0, yX0_push, cX0_push, 4, none)
def mx_m5 : mx_Me := (0, yX0_run, cX0_run, 7, (some .int))
def mx_m6 : mx_Me := (0, yX0_pull, cX0_pull, 5, none)
def mx_m7 : mx_Me := (0, yX0_wasAnywhere, cX0_wasAnywhere, 2, (some .boolean))
def mx_m8 : mx_Me := (0, yX0_kept, cX0_kept, 3, (some .int))
def mx_m9 : mx_Me := (0, yX0_loudest, cX0_loudest, 4, (some .int))
def mx_m10 : mx_Me := (0, yX0_diesAt, cX0_diesAt, 5, (some .int))
def mx_m11 : mx_Me := (1, yX1_init, cX1_init, 1, none)
def mx_m12 : mx_Me := (1, yX1_add, cX1_add, 2, none)
def mx_m13 : mx_Me := (1, yX1_search, cX1_search, 7, none)
def mx_m14 : mx_Me := (1, yX1_tryNet, cX1_tryNet, 7, none)
def mx_m15 : mx_Me := (1, yX1_bestParting, cX1_bestParting, 7, (some .int))
def mx_m16 : mx_Me := (2, yX2_init, cX2_init, 1, none)
def mx_m17 : mx_Me := (2, yX2_add, cX2_add, 6, none)
def mx_m18 : mx_Me := (2, yX2_dropOldest, cX2_dropOldest, 2, none)
def mx_m19 : mx_Me := (2, yX2_takeBack, cX2_takeBack, 1, none)
def mx_m20 : mx_Me := (2, yX2_bringBack, cX2_bringBack, 1, none)
def mx_m21 : mx_Me := (3, yX3_init, cX3_init, 1, none)
def mx_m22 : mx_Me := (3, yX3_load, cX3_load, 2, none)
def mx_m23 : mx_Me := (3, yX3_loadStiffer, cX3_loadStiffer, 5, none)
def mx_m24 : mx_Me := (3, yX3_oneToNine, cX3_oneToNine, 1, (some .int))
def mx_m25 : mx_Me := (3, yX3_weigh, cX3_weigh, 4, none)
def mx_m26 : mx_Me := (3, yX3_link, cX3_link, 4, none)
def mx_m27 : mx_Me := (3, yX3_linkOf, cX3_linkOf, 3, (some .int))
def mx_m28 : mx_Me := (3, yX3_fillMatrix, cX3_fillMatrix, 8, none)
def mx_m29 : mx_Me := (3, yX3_sumMinors, cX3_sumMinors, 8, none)
def mx_m30 : mx_Me := (3, yX3_fillFactor, cX3_fillFactor, 8, none)
def mx_m31 : mx_Me := (3, yX3_tonesUnder, cX3_tonesUnder, 6, (some .int))
def mx_m32 : mx_Me := (3, yX3_tonesAt, cX3_tonesAt, 5, (some .int))
def mx_m33 : mx_Me := (3, yX3_tone, cX3_tone, 5, (some .int))
def mx_m34 : mx_Me := (3, yX3_soundsLike, cX3_soundsLike, 3, (some .boolean))
def mx_m35 : mx_Me := (3, yX3_divisor, cX3_divisor, 4, (some .long))
def mx_m36 : mx_Me := (4, yX4_init, cX4_init, 1, none)
def mx_m37 : mx_Me := (4, yX4_add, cX4_add, 3, (some .int))
def mx_m38 : mx_Me := (4, yX4_isUnder, cX4_isUnder, 4, (some .boolean))
def mx_m39 : mx_Me := (4, yX4_stiffOf, cX4_stiffOf, 3, (some .int))
def mx_m40 : mx_Me := (4, yX4_run, cX4_run, 11, (some .int))
def mx_m41 : mx_Me := (4, yX4_begin, cX4_begin, 2, none)
def mx_m42 : mx_Me := (5, yX5_init, cX5_init, 1, none)
def mx_m43 : mx_Me := (5, yX5_hasStroke, cX5_hasStroke, 4, (some .boolean))
def mx_m44 : mx_Me := (5, yX5_addStroke, cX5_addStroke, 4, none)
def mx_m45 : mx_Me := (5, yX5_hasWish, cX5_hasWish, 4, (some .boolean))
def mx_m46 : mx_Me := (5, yX5_addWish, cX5_addWish, 4, none)
def mx_m47 : mx_Me := (5, yX5_highestWish, cX5_highestWish, 3, (some .int))
def mx_m48 : mx_Me := (5, yX5_applies, cX5_applies, 7, (some .boolean))
def mx_m49 : mx_Me := (5, yX5_search, cX5_search, 4, none)
def mx_m50 : mx_Me := (5, yX5_extend, cX5_extend, 8, none)
def mx_m51 : mx_Me := (5, yX5_compare, cX5_compare, 7, none)
def mx_m52 : mx_Me := (6, yX6_init, cX6_init, 1, none)
def mx_m53 : mx_Me := (6, yX6_add, cX6_add, 3, none)
def mx_m54 : mx_Me := (6, yX6_fit, cX6_fit, 5, (some .boolean))
def mx_m55 : mx_Me := (6, yX6_agreeing, cX6_agreeing, 5, (some .int))
def mx_m56 : mx_Me := (6, yX6_fewestOut, cX6_fewestOut, 5, (some .int))
def mx_m57 : mx_Me := (6, yX6_allFit, cX6_allFit, 7, (some .boolean))
def mx_m58 : mx_Me := (7, yX7_init, cX7_init, 1, none)
def mx_m59 : mx_Me := (7, yX7_clear, cX7_clear, 1, none)
def mx_m60 : mx_Me := (7, yX7_toneCount, cX7_toneCount, 3, (some .int))
def mx_m61 : mx_Me := (7, yX7_pieceBetween, cX7_pieceBetween, 4, (some .int))
def mx_m62 : mx_Me := (7, yX7_counting, cX7_counting, 2, (some .int))
def mx_m63 : mx_Me := (7, yX7_addPiece, cX7_addPiece, 4, none)
def mx_m64 : mx_Me := (7, yX7_addAllOf, cX7_addAllOf, 4, none)
def mx_m65 : mx_Me := (7, yX7_packed, cX7_packed, 2, (some .int))
def mx_m66 : mx_Me := (7, yX7_get, cX7_get, 3, (some .int))
def mx_m67 : mx_Me := (7, yX7_set, cX7_set, 4, none)
def mx_m68 : mx_Me := (7, yX7_addedTo, cX7_addedTo, 4, (some .int))
def mx_m69 : mx_Me := (8, yX8_init, cX8_init, 1, none)
def mx_m70 : mx_Me := (8, yX8_hold, cX8_hold, 3, none)
def mx_m71 : mx_Me := (8, yX8_holdRow, cX8_holdRow, 4, none)
def mx_m72 : mx_Me := (8, yX8_refusesRow, cX8_refusesRow, 2, (some .int))
def mx_m73 : mx_Me := (8, yX8_refusesNumbers, cX8_refusesNumbers, 2, (some .int))
def mx_m74 : mx_Me := (8, yX8_hasPlace, cX8_hasPlace, 3, (some .boolean))
def mx_m75 : mx_Me := (8, yX8_hasSpan, cX8_hasSpan, 4, (some .boolean))
def mx_m76 : mx_Me := (8, yX8_set, cX8_set, 5, none)
def mx_m77 : mx_Me := (8, yX8_cut, cX8_cut, 3, (some .long))
def mx_m78 : mx_Me := (8, yX8_greatest, cX8_greatest, 1, (some .long))
def mx_m79 : mx_Me := (8, yX8_setHeard, cX8_setHeard, 6, none)
def mx_m80 : mx_Me := (8, yX8_present, cX8_present, 5, (some .long))
def mx_m81 : mx_Me := (8, yX8_loudnessOf, cX8_loudnessOf, 8, (some .long))
def mx_m82 : mx_Me := (8, yX8_wave, cX8_wave, 2, (some .int))
def mx_m83 : mx_Me := (8, yX8_strongestPeriod, cX8_strongestPeriod, 8, (some .int))
def mx_m84 : mx_Me := (9, yX9_init, cX9_init, 1, none)
def mx_m85 : mx_Me := (9, yX9_add, cX9_add, 4, none)
def mx_m86 : mx_Me := (9, yX9_read, cX9_read, 4, (some .int))
def mx_m87 : mx_Me := (9, yX9_readCorners, cX9_readCorners, 3, (some .boolean))
def mx_m88 : mx_Me := (9, yX9_readPart, cX9_readPart, 3, (some .boolean))
def mx_m89 : mx_Me := (9, yX9_readPiece, cX9_readPiece, 4, (some .boolean))
def mx_m90 : mx_Me := (9, yX9_readHold, cX9_readHold, 3, (some .boolean))
def mx_m91 : mx_Me := (9, yX9_readNumber, cX9_readNumber, 4, (some .boolean))
def mx_m92 : mx_Me := (9, yX9_peek, cX9_peek, 1, (some .int))
def mx_m93 : mx_Me := (9, yX9_digit, cX9_digit, 2, (some .int))
def mx_m94 : mx_Me := (9, yX9_corner, cX9_corner, 3, (some .int))
def mx_m95 : mx_Me := (10, yX10_init, cX10_init, 1, none)
def mx_m96 : mx_Me := (10, yX10_seek, cX10_seek, 3, none)
def mx_m97 : mx_Me := (10, yX10_extend, cX10_extend, 5, none)
def mx_m98 : mx_Me := (10, yX10_isLike, cX10_isLike, 4, (some .boolean))
def mx_m99 : mx_Me := (10, yX10_keepsPieces, cX10_keepsPieces, 4, (some .boolean))
def mx_m100 : mx_Me := (10, yX10_noteFound, cX10_noteFound, 4, none)
def mx_m101 : mx_Me := (11, yX11_init, cX11_init, 1, none)
def mx_m102 : mx_Me := (11, yX11_feed, cX11_feed, 3, (some .int))
def mx_m103 : mx_Me := (11, yX11_shape, cX11_shape, 2, (some .int))
def mx_m104 : mx_Me := (11, yX11_of, cX11_of, 4, (some .int))
def mx_m105 : mx_Me := (11, yX11_piece, cX11_piece, 7, (some .int))
def mx_m106 : mx_Me := (11, yX11_put, cX11_put, 6, (some .int))
def mx_m107 : mx_Me := (11, yX11_crack, cX11_crack, 7, (some .int))
def mx_m108 : mx_Me := (11, yX11_stroke, cX11_stroke, 7, (some .int))
def mx_m109 : mx_Me := (11, yX11_below, cX11_below, 5, (some .int))
def mx_m110 : mx_Me := (11, yX11_sums, cX11_sums, 5, (some .long))
def mx_m111 : mx_Me := (11, yX11_shut, cX11_shut, 5, (some .int))
def mx_m112 : mx_Me := (11, yX11_still, cX11_still, 6, (some .int))
def mx_m113 : mx_Me := (11, yX11_split, cX11_split, 10, (some .int))
def mx_m114 : mx_Me := (11, yX11_bounds, cX11_bounds, 7, (some .int))
def mx_m115 : mx_Me := (11, yX11_led, cX11_led, 11, (some .int))
def mx_m116 : mx_Me := (11, yX11_turnsOf, cX11_turnsOf, 3, (some .int))
def mx_m117 : mx_Me := (11, yX11_orbit, cX11_orbit, 4, (some .int))
def mx_m118 : mx_Me := (11, yX11_table, cX11_table, 5, (some .int))
def mx_m119 : mx_Me := (11, yX11_alike, cX11_alike, 6, (some .int))
def mx_m120 : mx_Me := (11, yX11_plan, cX11_plan, 8, (some .int))
def mx_m121 : mx_Me := (11, yX11_wish, cX11_wish, 5, (some .int))
def mx_m122 : mx_Me := (11, yX11_moved, cX11_moved, 5, (some .int))
def mx_m123 : mx_Me := (11, yX11_tune, cX11_tune, 3, (some .int))
def mx_m124 : mx_Me := (11, yX11_forget, cX11_forget, 2, (some .int))
def mx_m125 : mx_Me := (11, yX11_hear, cX11_hear, 2, (some .int))
def mx_m126 : mx_Me := (11, yX11_fits, cX11_fits, 5, (some .int))
def mx_m127 : mx_Me := (11, yX11_next, cX11_next, 4, (some .int))
def mx_m128 : mx_Me := (11, yX11_unhear, cX11_unhear, 2, (some .int))
def mx_m129 : mx_Me := (11, yX11_damp, cX11_damp, 3, (some .int))
def mx_m130 : mx_Me := (11, yX11_ear, cX11_ear, 4, (some .int))
def mx_m131 : mx_Me := (11, yX11_blow, cX11_blow, 6, (some .int))
def mx_m132 : mx_Me := (11, yX11_roll, cX11_roll, 4, (some .int))
def mx_m133 : mx_Me := (11, yX11_rolled, cX11_rolled, 5, (some .int))
def mx_m134 : mx_Me := (11, yX11_heard, cX11_heard, 3, (some .int))
def mx_m135 : mx_Me := (11, yX11_loud, cX11_loud, 3, (some .int))
def mx_m136 : mx_Me := (11, yX11_write, cX11_write, 8, (some .int))
def mx_m137 : mx_Me := (11, yX11_loudness, cX11_loudness, 4, (some .int))
def mx_m138 : mx_Me := (11, yX11_strongest, cX11_strongest, 3, (some .int))
def mx_m139 : mx_Me := (11, yX11_ratio, cX11_ratio, 3, (some .int))
def mx_m140 : mx_Me := (11, yX11_agree, cX11_agree, 7, (some .int))
def mx_m141 : mx_Me := (11, yX11_unratio, cX11_unratio, 2, (some .int))
def mx_m142 : mx_Me := (11, yX11_join, cX11_join, 7, (some .int))
def mx_m143 : mx_Me := (11, yX11_law, cX11_law, 7, (some .int))
def mx_m144 : mx_Me := (11, yX11_undo, cX11_undo, 1, (some .int))
def mx_m145 : mx_Me := (11, yX11_redo, cX11_redo, 1, (some .int))
def mx_m146 : mx_Me := (11, yX11_digest, cX11_digest, 4, (some .int))
def mx_m147 : mx_Me := (11, yX11_body, cX11_body, 2, (some .int))
def mx_m148 : mx_Me := (11, yX11_act, cX11_act, 4, (some .int))
def mx_m149 : mx_Me := (11, yX11_trace, cX11_trace, 2, (some .int))
def mx_m150 : mx_Me := (11, yX11_keep, cX11_keep, 3, (some .int))
def mx_m151 : mx_Me := (11, yX11_row, cX11_row, 4, (some .int))
def mx_m152 : mx_Me := (11, yX11_place, cX11_place, 6, (some .int))
def mx_m153 : mx_Me := (11, yX11_element, cX11_element, 3, (some .long))
def mx_m154 : mx_Me := (11, yX11_shift, cX11_shift, 7, (some .int))
def mx_m155 : mx_Me := (11, yX11_taken, cX11_taken, 5, (some .int))
def mx_m156 : mx_Me := (11, yX11_count, cX11_count, 2, (some .int))
def mx_m157 : mx_Me := (11, yX11_within, cX11_within, 3, (some .boolean))
def mx_m158 : mx_Me := (11, yX11_isMark, cX11_isMark, 1, (some .boolean))
def mx_m159 : mx_Me := (11, yX11_isForce, cX11_isForce, 1, (some .boolean))
def mx_m160 : mx_Me := (11, yX11_isEar, cX11_isEar, 1, (some .boolean))
def mx_m161 : mx_Me := (11, yX11_isShelf, cX11_isShelf, 1, (some .boolean))
def mx_m162 : mx_Me := (11, yX11_isKind, cX11_isKind, 1, (some .boolean))
def mx_m163 : mx_Me := (11, yX11_isBody, cX11_isBody, 2, (some .boolean))
def mx_m164 : mx_Me := (11, yX11_isCorner, cX11_isCorner, 2, (some .boolean))
def mx_m165 : mx_Me := (11, yX11_isTone, cX11_isTone, 3, (some .boolean))
def mx_m166 : mx_Me := (11, yX11_shapeAt, cX11_shapeAt, 2, (some (.object "PlatesSing$Shape")))
def mx_m167 : mx_Me := (11, yX11_planned, cX11_planned, 1, (some (.object "PlatesSing$Shape")))
def mx_m168 : mx_Me := (11, yX11_isFullFor, cX11_isFullFor, 2, (some .boolean))
def mx_m169 : mx_Me := (11, yX11_addDraft, cX11_addDraft, 2, (some .int))
def mx_m170 : mx_Me := (11, yX11_change, cX11_change, 6, (some .int))
def mx_m171 : mx_Me := (11, yX11_under, cX11_under, 3, (some .int))
def mx_m172 : mx_Me := (12, yX12_init, cX12_init, 1, none)
def mx_m173 : mx_Me := (12, yX12_in, cX12_in, 3, (some .boolean))
def mx_m174 : mx_Me := (12, yX12_lesser, cX12_lesser, 2, (some .int))
def mx_m175 : mx_Me := (12, yX12_greater, cX12_greater, 2, (some .int))
def mx_m176 : mx_Me := (12, yX12_sizeOf, cX12_sizeOf, 1, (some .int))
def mx_m177 : mx_Me := (12, yX12_isShape, cX12_isShape, 2, (some .boolean))
def mx_m178 : mx_Me := (12, yX12_isCorner, cX12_isCorner, 3, (some .boolean))
def mx_m179 : mx_Me := (12, yX12_at, cX12_at, 3, (some .int))
def mx_m180 : mx_Me := (12, yX12_hasPiece, cX12_hasPiece, 4, (some .boolean))
def mx_m181 : mx_Me := (12, yX12_setPiece, cX12_setPiece, 9, none)
def mx_m182 : mx_Me := (12, yX12_clear, cX12_clear, 3, none)
def mx_m183 : mx_Me := (12, yX12_piecesOf, cX12_piecesOf, 5, (some .int))
def mx_m184 : mx_Me := (12, yX12_feed, cX12_feed, 4, (some .int))
def mx_m185 : mx_Me := (12, yX12_look, cX12_look, 1, (some .int))
def mx_m186 : mx_Me := (12, yX12_wrong, cX12_wrong, 1, none)
def mx_m187 : mx_Me := (12, yX12_isDigit, cX12_isDigit, 1, (some .boolean))
def mx_m188 : mx_Me := (12, yX12_digit, cX12_digit, 2, (some .int))
def mx_m189 : mx_Me := (12, yX12_letter, cX12_letter, 2, (some .int))
def mx_m190 : mx_Me := (12, yX12_readPiece, cX12_readPiece, 4, none)
def mx_m191 : mx_Me := (12, yX12_readPart, cX12_readPart, 6, none)
def mx_m192 : mx_Me := (12, yX12_readShape, cX12_readShape, 2, none)
def mx_m193 : mx_Me := (12, yX12_bear, cX12_bear, 4, none)
def mx_m194 : mx_Me := (12, yX12_shape, cX12_shape, 2, (some .int))
def mx_m195 : mx_Me := (12, yX12_tonesOf, cX12_tonesOf, 4, (some .int))
def mx_m196 : mx_Me := (12, yX12_of, cX12_of, 4, (some .int))
def mx_m197 : mx_Me := (12, yX12_piece, cX12_piece, 6, (some .int))
def mx_m198 : mx_Me := (12, yX12_kept, cX12_kept, 7, none)
def mx_m199 : mx_Me := (12, yX12_setStiff, cX12_setStiff, 7, none)
def mx_m200 : mx_Me := (12, yX12_set, cX12_set, 5, none)
def mx_m201 : mx_Me := (12, yX12_put, cX12_put, 7, (some .int))
def mx_m202 : mx_Me := (12, yX12_crack, cX12_crack, 7, (some .int))
def mx_m203 : mx_Me := (12, yX12_stroke, cX12_stroke, 5, (some .int))
def mx_m204 : mx_Me := (12, yX12_undo, cX12_undo, 1, (some .int))
def mx_m205 : mx_Me := (12, yX12_redo, cX12_redo, 1, (some .int))
def mx_m206 : mx_Me := (12, yX12_digest, cX12_digest, 5, (some .int))
def mx_m207 : mx_Me := (12, yX12_massOf, cX12_massOf, 2, (some .int))
def mx_m208 : mx_Me := (12, yX12_take, cX12_take, 4, none)
def mx_m209 : mx_Me := (12, yX12_layMatrix, cX12_layMatrix, 7, none)
def mx_m210 : mx_Me := (12, yX12_minor, cX12_minor, 11, (some .long))
def mx_m211 : mx_Me := (12, yX12_bitsOf, cX12_bitsOf, 3, (some .int))
def mx_m212 : mx_Me := (12, yX12_findSums, cX12_findSums, 4, none)
def mx_m213 : mx_Me := (12, yX12_changes, cX12_changes, 6, (some .int))
def mx_m214 : mx_Me := (12, yX12_atMark, cX12_atMark, 5, (some .int))
def mx_m215 : mx_Me := (12, yX12_isMark, cX12_isMark, 1, (some .boolean))
def mx_m216 : mx_Me := (12, yX12_below, cX12_below, 4, (some .int))
def mx_m217 : mx_Me := (12, yX12_sums, cX12_sums, 4, (some .long))
def mx_m218 : mx_Me := (12, yX12_forgetChanges, cX12_forgetChanges, 2, none)
def mx_m219 : mx_Me := (12, yX12_shutOf, cX12_shutOf, 6, (some .int))
def mx_m220 : mx_Me := (12, yX12_shutNow, cX12_shutNow, 3, (some .int))
def mx_m221 : mx_Me := (12, yX12_shut, cX12_shut, 4, (some .int))
def mx_m222 : mx_Me := (12, yX12_still, cX12_still, 5, (some .int))
def mx_m223 : mx_Me := (12, yX12_split, cX12_split, 9, (some .int))
def mx_m224 : mx_Me := (12, yX12_bounds, cX12_bounds, 10, (some .int))
def mx_m225 : mx_Me := (12, yX12_setCount, cX12_setCount, 4, none)
def mx_m226 : mx_Me := (12, yX12_led, cX12_led, 14, (some .int))
def mx_m227 : mx_Me := (12, yX12_areLike, cX12_areLike, 7, (some .boolean))
def mx_m228 : mx_Me := (12, yX12_countBetween, cX12_countBetween, 4, (some .int))
def mx_m229 : mx_Me := (12, yX12_turnOn, cX12_turnOn, 8, none)
def mx_m230 : mx_Me := (12, yX12_findTurns, cX12_findTurns, 4, none)
def mx_m231 : mx_Me := (12, yX12_turnsOf, cX12_turnsOf, 2, (some .int))
def mx_m232 : mx_Me := (12, yX12_orbit, cX12_orbit, 3, (some .int))
def mx_m233 : mx_Me := (12, yX12_tableOf, cX12_tableOf, 3, (some .int))
def mx_m234 : mx_Me := (12, yX12_table, cX12_table, 3, (some .int))
def mx_m235 : mx_Me := (12, yX12_divisor, cX12_divisor, 5, (some .long))
def mx_m236 : mx_Me := (12, yX12_lastSum, cX12_lastSum, 3, (some .long))
def mx_m237 : mx_Me := (12, yX12_soundAlike, cX12_soundAlike, 4, (some .boolean))
def mx_m238 : mx_Me := (12, yX12_alike, cX12_alike, 4, (some .int))
def mx_m239 : mx_Me := (12, yX12_plan, cX12_plan, 6, (some .int))
def mx_m240 : mx_Me := (12, yX12_wish, cX12_wish, 5, (some .int))
def mx_m241 : mx_Me := (12, yX12_struck, cX12_struck, 7, (some .boolean))
def mx_m242 : mx_Me := (12, yX12_moved, cX12_moved, 4, (some .int))
def mx_m243 : mx_Me := (12, yX12_lacks, cX12_lacks, 4, (some .int))
def mx_m244 : mx_Me := (12, yX12_digitsOf, cX12_digitsOf, 4, (some .int))
def mx_m245 : mx_Me := (12, yX12_tuneOn, cX12_tuneOn, 4, none)
def mx_m246 : mx_Me := (12, yX12_tune, cX12_tune, 3, (some .int))
def mx_m247 : mx_Me := (12, yX12_forget, cX12_forget, 2, (some .int))
def mx_m248 : mx_Me := (12, yX12_hear, cX12_hear, 2, (some .int))
def mx_m249 : mx_Me := (12, yX12_unhear, cX12_unhear, 2, (some .int))
def mx_m250 : mx_Me := (12, yX12_tryFit, cX12_tryFit, 6, none)
def mx_m251 : mx_Me := (12, yX12_findFits, cX12_findFits, 6, none)
def mx_m252 : mx_Me := (12, yX12_fits, cX12_fits, 4, (some .int))
def mx_m253 : mx_Me := (12, yX12_next, cX12_next, 8, (some .int))
def mx_m254 : mx_Me := (12, yX12_damp, cX12_damp, 3, (some .int))
def mx_m255 : mx_Me := (12, yX12_isEar, cX12_isEar, 1, (some .boolean))
def mx_m256 : mx_Me := (12, yX12_ear, cX12_ear, 4, (some .int))
def mx_m257 : mx_Me := (12, yX12_begin, cX12_begin, 3, none)
def mx_m258 : mx_Me := (12, yX12_step, cX12_step, 4, (some .int))
def mx_m259 : mx_Me := (12, yX12_blow, cX12_blow, 7, (some .int))
def mx_m260 : mx_Me := (12, yX12_roll, cX12_roll, 4, (some .int))
def mx_m261 : mx_Me := (12, yX12_rolled, cX12_rolled, 6, (some .int))
def mx_m262 : mx_Me := (12, yX12_heard, cX12_heard, 3, (some .int))
def mx_m263 : mx_Me := (12, yX12_loud, cX12_loud, 5, (some .int))
def mx_m264 : mx_Me := (12, yX12_isWhole, cX12_isWhole, 2, (some .boolean))
def mx_m265 : mx_Me := (12, yX12_mostOf, cX12_mostOf, 1, (some .int))
def mx_m266 : mx_Me := (12, yX12_write, cX12_write, 8, (some .int))
def mx_m267 : mx_Me := (12, yX12_heardIn, cX12_heardIn, 5, (some .long))
def mx_m268 : mx_Me := (12, yX12_signOf, cX12_signOf, 3, (some .int))
def mx_m269 : mx_Me := (12, yX12_loudnessOf, cX12_loudnessOf, 8, (some .long))
def mx_m270 : mx_Me := (12, yX12_whyNoRow, cX12_whyNoRow, 2, (some .int))
def mx_m271 : mx_Me := (12, yX12_loudness, cX12_loudness, 5, (some .int))
def mx_m272 : mx_Me := (12, yX12_strongest, cX12_strongest, 8, (some .int))
def mx_m273 : mx_Me := (12, yX12_ratio, cX12_ratio, 3, (some .int))
def mx_m274 : mx_Me := (12, yX12_unratio, cX12_unratio, 2, (some .int))
def mx_m275 : mx_Me := (12, yX12_doAgree, cX12_doAgree, 5, (some .boolean))
def mx_m276 : mx_Me := (12, yX12_allAgree, cX12_allAgree, 7, (some .boolean))
def mx_m277 : mx_Me := (12, yX12_agree, cX12_agree, 8, (some .int))
def mx_m278 : mx_Me := (12, yX12_copyPieces, cX12_copyPieces, 9, none)
def mx_m279 : mx_Me := (12, yX12_copyCorners, cX12_copyCorners, 7, none)
def mx_m280 : mx_Me := (12, yX12_join, cX12_join, 6, (some .int))
def mx_m281 : mx_Me := (12, yX12_changesOf, cX12_changesOf, 3, (some .int))
def mx_m282 : mx_Me := (12, yX12_law, cX12_law, 5, (some .int))
def mx_m283 : mx_Me := (12, yX12_isBody, cX12_isBody, 2, (some .boolean))
def mx_m284 : mx_Me := (12, yX12_isUnder, cX12_isUnder, 2, (some .boolean))
def mx_m285 : mx_Me := (12, yX12_body, cX12_body, 2, (some .int))
def mx_m286 : mx_Me := (12, yX12_ran, cX12_ran, 2, none)
def mx_m287 : mx_Me := (12, yX12_plainStiffens, cX12_plainStiffens, 3, (some .int))
def mx_m288 : mx_Me := (12, yX12_pieceStiffens, cX12_pieceStiffens, 3, (some .int))
def mx_m289 : mx_Me := (12, yX12_stiffens, cX12_stiffens, 3, (some .int))
def mx_m290 : mx_Me := (12, yX12_plainWeighs, cX12_plainWeighs, 3, (some .int))
def mx_m291 : mx_Me := (12, yX12_weighs, cX12_weighs, 4, (some .int))
def mx_m292 : mx_Me := (12, yX12_plainSounds, cX12_plainSounds, 3, (some .int))
def mx_m293 : mx_Me := (12, yX12_sounds, cX12_sounds, 4, (some .int))
def mx_m294 : mx_Me := (12, yX12_plainTells, cX12_plainTells, 4, (some .int))
def mx_m295 : mx_Me := (12, yX12_crackedTells, cX12_crackedTells, 3, (some .int))
def mx_m296 : mx_Me := (12, yX12_tells, cX12_tells, 3, (some .int))
def mx_m297 : mx_Me := (12, yX12_act, cX12_act, 4, (some .int))
def mx_m298 : mx_Me := (12, yX12_trace, cX12_trace, 2, (some .int))
def mx_m299 : mx_Me := (12, yX12_count, cX12_count, 2, (some .int))
def mx_m300 : mx_Me := (12, yX12_isShelf, cX12_isShelf, 1, (some .boolean))
def mx_m301 : mx_Me := (12, yX12_keep, cX12_keep, 3, (some .int))
def mx_m302 : mx_Me := (12, yX12_row, cX12_row, 5, (some .int))
def mx_m303 : mx_Me := (12, yX12_whyNoPlace, cX12_whyNoPlace, 3, (some .int))
def mx_m304 : mx_Me := (12, yX12_place, cX12_place, 7, (some .int))
def mx_m305 : mx_Me := (12, yX12_element, cX12_element, 3, (some .long))
def mx_m306 : mx_Me := (12, yX12_shift, cX12_shift, 7, (some .int))
def mx_m307 : mx_Me := (12, yX12_taken, cX12_taken, 3, (some .int))
def mx_m308 : mx_Me := (13, yJ6_compare_7cf53, cJ6_compare_7cf53, 2, (some .int))
def mx_m309 : mx_Me := (13, yJ6_bitCount_0f7a4, cJ6_bitCount_0f7a4, 1, (some .int))
def mx_m310 : mx_Me := (14, yJ9_abs_0f7a4, cJ9_abs_0f7a4, 1, (some .int))
def mx_m311 : mx_Me := (14, yJ9_abs_067f4, cJ9_abs_067f4, 2, (some .long))
def mx_m312 : mx_Me := (14, yJ9_max_7cf53, cJ9_max_7cf53, 2, (some .int))
def mx_m313 : mx_Me := (14, yJ9_max_f86c9, cJ9_max_f86c9, 4, (some .long))
def mx_m314 : mx_Me := (14, yJ9_min_7cf53, cJ9_min_7cf53, 2, (some .int))
def mx_m315 : mx_Me := (14, yJ9_min_f86c9, cJ9_min_f86c9, 4, (some .long))
def mx_m316 : mx_Me := (16, yJ7_fill_d0a16, cJ7_fill_d0a16, 5, none)
def mx_m317 : mx_Me := (16, yJ7_fill_53178, cJ7_fill_53178, 4, none)
def mx_meT : List (List mx_Me) := [[mx_m0, mx_m1, mx_m2, mx_m3, mx_m4, mx_m5, mx_m6, mx_m7, mx_m8, mx_m9, mx_m10, mx_m11, mx_m12, mx_m13, mx_m14, mx_m15], [mx_m16, mx_m17, mx_m18, mx_m19, mx_m20, mx_m21, mx_m22, mx_m23, mx_m24, mx_m25, mx_m26, mx_m27, mx_m28, mx_m29, mx_m30, mx_m31], [mx_m32, mx_m33, mx_m34, mx_m35, mx_m36, mx_m37, mx_m38, mx_m39, mx_m40, mx_m41, mx_m42, mx_m43, mx_m44, mx_m45, mx_m46, mx_m47], [mx_m48, mx_m49, mx_m50, mx_m51, mx_m52, mx_m53, mx_m54, mx_m55, mx_m56, mx_m57, mx_m58, mx_m59, mx_m60, mx_m61, mx_m62, mx_m63], [mx_m64, mx_m65, mx_m66, mx_m67, mx_m68, mx_m69, mx_m70, mx_m71, mx_m72, mx_m73, mx_m74, mx_m75, mx_m76, mx_m77, mx_m78, mx_m79], [mx_m80, mx_m81, mx_m82, mx_m83, mx_m84, mx_m85, mx_m86, mx_m87, mx_m88, mx_m89, mx_m90, mx_m91, mx_m92, mx_m93, mx_m94, mx_m95], [mx_m96, mx_m97, mx_m98, mx_m99, mx_m100, mx_m101, mx_m102, mx_m103, mx_m104, mx_m105, mx_m106, mx_m107, mx_m108, mx_m109, mx_m110, mx_m111], [mx_m112, mx_m113, mx_m114, mx_m115, mx_m116, mx_m117, mx_m118, mx_m119, mx_m120, mx_m121, mx_m122, mx_m123, mx_m124, mx_m125, mx_m126, mx_m127], [mx_m128, mx_m129, mx_m130, mx_m131, mx_m132, mx_m133, mx_m134, mx_m135, mx_m136, mx_m137, mx_m138, mx_m139, mx_m140, mx_m141, mx_m142, mx_m143], [mx_m144, mx_m145, mx_m146, mx_m147, mx_m148, mx_m149, mx_m150, mx_m151, mx_m152, mx_m153, mx_m154, mx_m155, mx_m156, mx_m157, mx_m158, mx_m159], [mx_m160, mx_m161, mx_m162, mx_m163, mx_m164, mx_m165, mx_m166, mx_m167, mx_m168, mx_m169, mx_m170, mx_m171, mx_m172, mx_m173, mx_m174, mx_m175], [mx_m176, mx_m177, mx_m178, mx_m179, mx_m180, mx_m181, mx_m182, mx_m183, mx_m184, mx_m185, mx_m186, mx_m187, mx_m188, mx_m189, mx_m190, mx_m191], [mx_m192, mx_m193, mx_m194, mx_m195, mx_m196, mx_m197, mx_m198, mx_m199, mx_m200, mx_m201, mx_m202, mx_m203, mx_m204, mx_m205, mx_m206, mx_m207], [mx_m208, mx_m209, mx_m210, mx_m211, mx_m212, mx_m213, mx_m214, mx_m215, mx_m216, mx_m217, mx_m218, mx_m219, mx_m220, mx_m221, mx_m222, mx_m223], [mx_m224, mx_m225, mx_m226, mx_m227, mx_m228, mx_m229, mx_m230, mx_m231, mx_m232, mx_m233, mx_m234, mx_m235, mx_m236, mx_m237, mx_m238, mx_m239], [mx_m240, mx_m241, mx_m242, mx_m243, mx_m244, mx_m245, mx_m246, mx_m247, mx_m248, mx_m249, mx_m250, mx_m251, mx_m252, mx_m253, mx_m254, mx_m255], [mx_m256, mx_m257, mx_m258, mx_m259, mx_m260, mx_m261, mx_m262, mx_m263, mx_m264, mx_m265, mx_m266, mx_m267, mx_m268, mx_m269, mx_m270, mx_m271], [mx_m272, mx_m273, mx_m274, mx_m275, mx_m276, mx_m277, mx_m278, mx_m279, mx_m280, mx_m281, mx_m282, mx_m283, mx_m284, mx_m285, mx_m286, mx_m287], [mx_m288, mx_m289, mx_m290, mx_m291, mx_m292, mx_m293, mx_m294, mx_m295, mx_m296, mx_m297, mx_m298, mx_m299, mx_m300, mx_m301, mx_m302, mx_m303], [mx_m304, mx_m305, mx_m306, mx_m307, mx_m308, mx_m309, mx_m310, mx_m311, mx_m312, mx_m313, mx_m314, mx_m315, mx_m316, mx_m317]]
def mx_me (i : Nat) : mx_Me := (mx_meT.getD (i / 16) []).getD (i % 16) mx_m0
def mx_cnT : List String := [RX0, RX1, RX2, RX3, RX4, RX5, RX6, RX7, RX8, RX9, RX10, RX11, RX12, RJ6, RJ9, RJ10, RJ7, RL]
def mx_cn (i : Nat) : String := mx_cnT.getD i RL
/-- cells and slots that a call of the method makes at most: only the constructors, shape, join and addDraft make any -/
def mx_buT : List (Nat × Nat × Nat) := [(1, 8, 838), (11, 2, 606), (16, 5, 200), (21, 10, 122), (36, 3, 424), (42, 7, 42), (52, 3, 19), (58, 8, 84), (69, 10, 384), (84, 1, 120), (95, 24, 280), (101, 104, 3349), (103, 9, 97), (142, 9, 97), (169, 9, 97), (172, 61, 12904)]
def mx_bu (i : Nat) : Nat × Nat := ((mx_buT.find? (fun q => Nat.beq q.1 i)).map (fun q => q.2)).getD (0, 0)
end
section
/-! ===== words, and the check of code tables ===== -/
def mx_ws : List Cond := lw_tbl.filter goodWord
def mx_nest : List Cond := tables_1.filter (fun w => match w with | .methodLinkNest _ _ _ _ => true | _ => false)
abbrev mx_ow (i : Nat) : String := mx_cn (mx_me i).1
abbrev mx_y (i : Nat) : MethodName := (mx_me i).2.1
abbrev mx_by (i : Nat) : ByteArray := (mx_me i).2.2.1
abbrev mx_nL (i : Nat) : Nat := (mx_me i).2.2.2.1
abbrev mx_rt (i : Nat) : Option FieldType := (mx_me i).2.2.2.2
def mx_cr (ci : Nat) : vw_C := vwCl.getD ci (RX0, TX0, 11)
def mx_ty (ci : Nat) : Nat → FieldType := [tyX0, tyX1, tyX2, tyX3, tyX4, tyX5, tyX6, tyX7, tyX8, tyX9, tyX10, tyX11, tyX12].getD ci tyX0
abbrev mx_fT (ci k : Nat) : String × String × String × Bool := (mx_cr ci).2.1 k
/-- the field's kind, by its type -/
def mx_fok (ci k : Nat) : Prop := (mx_ff ci k = 0 ∧ mx_ty ci k = .int) ∨ (mx_ff ci k = 1 ∧ mx_ty ci k = .boolean) ∨ (mx_ff ci k = 2 ∧ (∃ n, mx_ty ci k = .object n) ∨ (mx_ff ci k = 2 ∧ ∃ t, mx_ty ci k = .array t))
def mx_MK (mid : Nat) : Prop := plainName (mx_y mid).cls = true ∧ (mx_y mid).cls = mx_ow mid ∧ Cond.code (mx_y mid) (mx_by mid) (mx_nL mid) (mx_rt mid) ∈ mx_ws ∧ Cond.initialized (mx_y mid).cls ∈ mx_ws ∧
  ((mx_y mid).cls ≠ "java/lang/invoke/MethodHandle" ∧ (mx_y mid).cls ≠ "java/lang/invoke/VarHandle") ∧ mx_nL mid ≤ 21
/-- a call's own words: by opcode (0 static, 1 virtual, 2 special), and as a nest mate's or not -/
def mx_LK (mid idx callee n kd : Nat) (nest : Bool) : Prop :=
  (parseMethodDescriptor (mx_y callee).desc).map (fun d => d.parameters.length) = some n ∧
  (if nest then ∃ host, Cond.methodLinkNest (mx_ow mid) idx (mx_y callee) host ∈ mx_nest else Cond.methodLink (mx_ow mid) idx (mx_y callee) ∈ mx_ws) ∧
  (if kd = 0 then Cond.static (mx_y callee) ∈ mx_ws else if kd = 1 then Cond.instanceMethod (mx_y callee) ∈ mx_ws ∧ Cond.selects (mx_y callee).cls (mx_y callee) (mx_y callee) ∈ mx_ws else Cond.instanceMethod (mx_y callee) ∈ mx_ws ∧ (mx_y callee).name = "<init>" ∧ mx_rt callee = none)
/-- the array kinds that newarray makes -/
def mx_ak : ArrayType → Nat
  | .int => 0
  | .long => 1
  | .byte => 2
  | .boolean => 3
  | _ => 9
/-- the words of a Math method -/
def mx_MW (o i : Nat) (x : MethodName) (c : ByteArray) (n : Nat) (r : Option FieldType) : Prop := Cond.methodLink (mx_cn o) i x ∈ mx_ws ∧ Cond.static x ∈ mx_ws ∧ Cond.initialized "java/lang/Math" ∈ mx_ws ∧ Cond.code x c n r ∈ mx_ws
def mx_mw (o i a : Nat) : Prop := match a with
  | 0 => mx_MW o i Lib.Math.abs.name Lib.Math.abs.code 1 (some .int)
  | 1 => mx_MW o i Lib.MathLoose.abs_long.x Lib.MathLoose.abs_long.code 2 (some .long)
  | 2 => mx_MW o i Lib.Math.max.name Lib.Math.max.code 2 (some .int)
  | 3 => mx_MW o i Lib.MathLoose.max_long.x Lib.MathLoose.max_long.code 4 (some .long)
  | 4 => mx_MW o i Lib.Math.min.name Lib.Math.min.code 2 (some .int)
  | 5 => mx_MW o i Lib.MathLoose.min_long.x Lib.MathLoose.min_long.code 4 (some .long)
  | _ => False
def mx_fl (mid idx ci k : Nat) : Prop := ci < 13 ∧ k < (mx_cr ci).2.2 ∧ Cond.fieldLink (mx_ow mid) idx (mx_fT ci k).1 (mx_fT ci k).2.1 (mx_fT ci k).2.2.1 ∈ mx_ws ∧ mx_fok ci k
def mx_ax (mid pc : Nat) (ins : Instr) (len a b z : Nat) (c : Int32) (l : Int64) : Prop := match ins with
  | .iconst n => len = 1 ∧ (Int32.ofInt n = c)
  | .bipush n => len = 2 ∧ ((Int8.ofInt n).toInt32 = c)
  | .sipush n => len = 3 ∧ ((Int16.ofInt n).toInt32 = c)
  | .lconst n => len = 1 ∧ (Int64.ofNat (n : Nat) = l)
  | .ldc n => len = 2 ∧ (Cond.constant (mx_ow mid) n c ∈ mx_ws)
  | .ldc_w n => len = 3 ∧ (Cond.constant (mx_ow mid) n c ∈ mx_ws)
  | .ldc2_w n => len = 3 ∧ (Cond.constantLong (mx_ow mid) n l ∈ mx_ws)
  | .aconst_null => len = 1 ∧ (True)
  | .iload_n n => len = 1 ∧ (True)
  | .iload n => len = 2 ∧ (True)
  | .lload_n n => len = 1 ∧ (True)
  | .lload n => len = 2 ∧ (True)
  | .aload_n n => len = 1 ∧ (True)
  | .aload n => len = 2 ∧ (True)
  | .istore_n n => len = 1 ∧ (n.val < mx_nL mid)
  | .istore n => len = 2 ∧ (n < mx_nL mid)
  | .lstore_n n => len = 1 ∧ (n.val + 1 < mx_nL mid)
  | .lstore n => len = 2 ∧ (n + 1 < mx_nL mid)
  | .astore_n n => len = 1 ∧ (n.val < mx_nL mid)
  | .astore n => len = 2 ∧ (n < mx_nL mid)
  | .iinc n k => len = 3 ∧ (Int32.ofInt k = c ∧ n < mx_nL mid)
  | .iadd => len = 1 ∧ (True)
  | .isub => len = 1 ∧ (True)
  | .imul => len = 1 ∧ (True)
  | .iand => len = 1 ∧ (True)
  | .ior => len = 1 ∧ (True)
  | .ixor => len = 1 ∧ (True)
  | .ishl => len = 1 ∧ (True)
  | .ishr => len = 1 ∧ (True)
  | .iushr => len = 1 ∧ (True)
  | .idiv => len = 1 ∧ (True)
  | .irem => len = 1 ∧ (True)
  | .ladd => len = 1 ∧ (True)
  | .lsub => len = 1 ∧ (True)
  | .lmul => len = 1 ∧ (True)
  | .land => len = 1 ∧ (True)
  | .lor => len = 1 ∧ (True)
  | .ldiv => len = 1 ∧ (True)
  | .lshl => len = 1 ∧ (True)
  | .lcmp => len = 1 ∧ (True)
  | .ineg => len = 1 ∧ (True)
  | .lneg => len = 1 ∧ (True)
  | .i2l => len = 1 ∧ (True)
  | .l2i => len = 1 ∧ (True)
  | .i2b => len = 1 ∧ (True)
  | .i2s => len = 1 ∧ (True)
  | .goto k => len = 3 ∧ ((pc : Int) + k = a)
  | .pop => len = 1 ∧ (True)
  | .dup => len = 1 ∧ (True)
  | .dup2 => len = 1 ∧ (True)
  | .ifCond cd k => len = 3 ∧ ((pc : Int) + k = a)
  | .if_icmp cd k => len = 3 ∧ ((pc : Int) + k = a)
  | .ifnull k => len = 3 ∧ ((pc : Int) + k = a)
  | .ifnonnull k => len = 3 ∧ ((pc : Int) + k = a)
  | .tableswitch df lo hi offs => (0 ≤ (pc : Int) + df ∧ (∀ o ∈ offs, 0 ≤ (pc : Int) + o) ∧ (hi - lo + 1).toNat ≤ offs.size)
  | .lookupswitch df ps => ((ps.toList.zip (ps.toList.drop 1)).all (fun (a, next) => a.1 < next.1) = true)
  | .ireturn => len = 1 ∧ (mx_rt mid = some .int ∨ mx_rt mid = some .boolean)
  | .lreturn => len = 1 ∧ (mx_rt mid = some .long)
  | .areturn => len = 1 ∧ (mx_rt mid = some (.object RX7))
  | .return_ => len = 1 ∧ (mx_rt mid = none)
  | .iaload => len = 1 ∧ (True)
  | .baload => len = 1 ∧ (True)
  | .laload => len = 1 ∧ (True)
  | .aaload => len = 1 ∧ (True)
  | .arraylength => len = 1 ∧ (True)
  | .iastore => len = 1 ∧ (True)
  | .lastore => len = 1 ∧ (True)
  | .bastore => len = 1 ∧ (True)
  | .aastore => len = 1 ∧ (True)
  | .getfield n => len = 3 ∧ (mx_fl mid n a b)
  | .putfield n => len = 3 ∧ (mx_fl mid n a b ∧ ((mx_fT a b).2.2.2 = false ∨ ((mx_fT a b).2.2.2 = true ∧ (mx_y mid).name = "<init>" ∧ (mx_fT a b).1 = mx_ow mid)))
  | .getstatic n => len = 3 ∧ ((a = 0 ∧ Cond.fieldLink (mx_ow mid) n RX4 "KIND_ABOVE" "[I" ∈ mx_ws) ∨ (a = 1 ∧ Cond.fieldLink (mx_ow mid) n RX4 "ACTS" "[I" ∈ mx_ws))
  | .new n => len = 3 ∧ (a < 13 ∧ (∀ j, j < (mx_cr a).2.2 → mx_fok a j) ∧ Cond.classLink (mx_ow mid) n (mx_cr a).1 ∈ mx_ws ∧ Cond.instantiable (mx_cr a).1 (mx_cr a).2.2 ∈ mx_ws ∧ Cond.initialized (mx_cr a).1 ∈ mx_ws)
  | .newarray t => len = 2 ∧ (mx_ak t ≤ 3 ∧ Cond.arrayClass (newarray.typeOf t) ∈ mx_ws)
  | .anewarray n => len = 3 ∧ (Cond.classLink (mx_ow mid) n RX7 ∈ mx_ws)
  | .invokestatic n => len = 3 ∧ ((Nat.beq z 2 = false ∧ mx_MK a ∧ mx_LK mid n a b 0 (Nat.beq z 1)) ∨ (Nat.beq z 2 = true ∧ mx_mw (mx_me mid).1 n a))
  | .invokevirtual n => len = 3 ∧ (mx_MK a ∧ mx_LK mid n a b 1 false ∧ (mx_me a).1 < 13 ∧ (mx_y a).cls = (mx_cr (mx_me a).1).1)
  | .invokespecial n => len = 3 ∧ ((a = 1000 ∧ Cond.methodLink (mx_ow mid) n Lib.objectInit ∈ mx_ws ∧ Cond.instanceMethod Lib.objectInit ∈ mx_ws ∧ Cond.code Lib.objectInit ⟨#[0xb1]⟩ 1 none ∈ mx_ws) ∨ (a ≠ 1000 ∧ mx_MK a ∧ mx_LK mid n a b 2 (Nat.beq z 1)))
  | _ => False
def mx_gd (mid : Nat) (en : mx_En) : Prop := decode (mx_by mid) en.1 = .ok (en.2.1, en.2.2.1) ∧ mx_ax mid en.1 en.2.1 en.2.2.1 en.2.2.2.1 en.2.2.2.2.1 en.2.2.2.2.2.1 en.2.2.2.2.2.2.1 en.2.2.2.2.2.2.2
def mx_ft : List (Nat × List mx_En) → Nat → Option mx_En
  | [], _ => none
  | (b, l) :: r, pc => bif Nat.blt pc b then l.find? (fun e => Nat.beq e.1 pc) else mx_ft r pc
theorem mx_ft_mem : ∀ {tb : List (Nat × List mx_En)} {pc : Nat} {en : mx_En}, mx_ft tb pc = some en → en.1 = pc ∧ ∃ q ∈ tb, en ∈ q.2
  | [], _, _, h => by cases h
  | (b, l) :: r, pc, en, h => by
    unfold mx_ft at h
    cases hb : Nat.blt pc b with
    | true =>
      rw [hb, cond_true] at h
      exact ⟨Nat.eq_of_beq_eq_true (List.find?_some (p := fun e : mx_En => Nat.beq e.1 pc) h), (b, l), List.mem_cons_self, List.mem_of_find?_eq_some h⟩
    | false =>
      rw [hb, cond_false] at h
      obtain ⟨h1, q, h2, h3⟩ := mx_ft_mem h
      exact ⟨h1, q, List.mem_cons_of_mem _ h2, h3⟩
def mx_LKo (o idx callee n kd : Nat) (nest : Bool) : Prop :=
  (parseMethodDescriptor (mx_y callee).desc).map (fun d => d.parameters.length) = some n ∧
  (if nest then ∃ host, Cond.methodLinkNest (mx_cn o) idx (mx_y callee) host ∈ mx_nest else Cond.methodLink (mx_cn o) idx (mx_y callee) ∈ mx_ws) ∧
  (if kd = 0 then Cond.static (mx_y callee) ∈ mx_ws else if kd = 1 then Cond.instanceMethod (mx_y callee) ∈ mx_ws ∧ Cond.selects (mx_y callee).cls (mx_y callee) (mx_y callee) ∈ mx_ws else Cond.instanceMethod (mx_y callee) ∈ mx_ws ∧ (mx_y callee).name = "<init>" ∧ mx_rt callee = none)
def mx_fokb (ci k : Nat) : Bool := match mx_ff ci k, mx_ty ci k with
  | 0, .int => true
  | 1, .boolean => true
  | 2, .object _ => true
  | 2, .array _ => true
  | _, _ => false
theorem mx_fokb_s {ci k : Nat} (h : mx_fokb ci k = true) : mx_fok ci k := by
  unfold mx_fokb at h
  unfold mx_fok
  split at h
  · next h1 h2 => exact Or.inl ⟨h1, h2⟩
  · next h1 h2 => exact Or.inr (Or.inl ⟨h1, h2⟩)
  · next h1 h2 => exact Or.inr (Or.inr (Or.inl ⟨h1, _, h2⟩))
  · next h1 h2 => exact Or.inr (Or.inr (Or.inr ⟨h1, _, h2⟩))
  · cases h
abbrev mx_L5 : Type := Nat × Nat × Nat × Nat × Nat
/-- the links of class o: by kind (0 field, 1 static, 2 virtual, 3 special, 4 new, 5 getstatic, 6 anewarray, 7 Object's constructor) -/
def mx_PL (o : Nat) : mx_L5 → Prop
  | (0, i, a, b, _) => a < 13 ∧ b < (mx_cr a).2.2 ∧ Cond.fieldLink (mx_cn o) i (mx_fT a b).1 (mx_fT a b).2.1 (mx_fT a b).2.2.1 ∈ mx_ws ∧ mx_fok a b
  | (8, i, a, _, _) => mx_mw o i a
  | (1, i, a, b, z) => mx_MK a ∧ mx_LKo o i a b 0 (Nat.beq z 1)
  | (2, i, a, b, _) => mx_MK a ∧ mx_LKo o i a b 1 false ∧ (mx_me a).1 < 13 ∧ (mx_y a).cls = (mx_cr (mx_me a).1).1
  | (3, i, a, b, z) => a ≠ 1000 ∧ mx_MK a ∧ mx_LKo o i a b 2 (Nat.beq z 1)
  | (4, i, a, _, _) => a < 13 ∧ (∀ j, j < (mx_cr a).2.2 → mx_fok a j) ∧ Cond.classLink (mx_cn o) i (mx_cr a).1 ∈ mx_ws ∧ Cond.instantiable (mx_cr a).1 (mx_cr a).2.2 ∈ mx_ws ∧ Cond.initialized (mx_cr a).1 ∈ mx_ws
  | (5, i, a, _, _) => (a = 0 ∧ Cond.fieldLink (mx_cn o) i RX4 "KIND_ABOVE" "[I" ∈ mx_ws) ∨ (a = 1 ∧ Cond.fieldLink (mx_cn o) i RX4 "ACTS" "[I" ∈ mx_ws)
  | (6, i, _, _, _) => Cond.classLink (mx_cn o) i RX7 ∈ mx_ws
  | (7, i, a, _, _) => a = 1000 ∧ Cond.methodLink (mx_cn o) i Lib.objectInit ∈ mx_ws ∧ Cond.instanceMethod Lib.objectInit ∈ mx_ws ∧ Cond.code Lib.objectInit ⟨#[0xb1]⟩ 1 none ∈ mx_ws
  | _ => False
theorem mx_mm0 (i : Nat) {w : Cond} (h : (k2_sels lw_privs)[i]? = some w) (hg : goodWord w = true) : w ∈ mx_ws := List.mem_filter.mpr ⟨List.mem_append_left _ (List.mem_of_getElem? h), hg⟩
theorem mx_mm1 (i : Nat) {w : Cond} (h : tables_1_1[i]? = some w) (hg : goodWord w = true) : w ∈ mx_ws := List.mem_filter.mpr ⟨List.mem_append_right _ (List.mem_append_left _ (List.mem_of_getElem? h)), hg⟩
theorem mx_mm2 (i : Nat) {w : Cond} (h : tables_1_2[i]? = some w) (hg : goodWord w = true) : w ∈ mx_ws := List.mem_filter.mpr ⟨List.mem_append_right _ (List.mem_append_right _ (List.mem_append_left _ (List.mem_of_getElem? h))), hg⟩
theorem mx_mm3 (i : Nat) {w : Cond} (h : tables_1_3[i]? = some w) (hg : goodWord w = true) : w ∈ mx_ws := List.mem_filter.mpr ⟨List.mem_append_right _ (List.mem_append_right _ (List.mem_append_right _ (List.mem_append_left _ (List.mem_of_getElem? h)))), hg⟩
theorem mx_mm4 (i : Nat) {w : Cond} (h : tables_1_4[i]? = some w) (hg : goodWord w = true) : w ∈ mx_ws := List.mem_filter.mpr ⟨List.mem_append_right _ (List.mem_append_right _ (List.mem_append_right _ (List.mem_append_right _ (List.mem_append_left _ (List.mem_of_getElem? h))))), hg⟩
theorem mx_mm5 (i : Nat) {w : Cond} (h : tables_1_5[i]? = some w) (hg : goodWord w = true) : w ∈ mx_ws := List.mem_filter.mpr ⟨List.mem_append_right _ (List.mem_append_right _ (List.mem_append_right _ (List.mem_append_right _ (List.mem_append_right _ (List.mem_append_left _ (List.mem_of_getElem? h)))))), hg⟩
theorem mx_mm6 (i : Nat) {w : Cond} (h : tables_1_6[i]? = some w) (hg : goodWord w = true) : w ∈ mx_ws := List.mem_filter.mpr ⟨List.mem_append_right _ (List.mem_append_right _ (List.mem_append_right _ (List.mem_append_right _ (List.mem_append_right _ (List.mem_append_right _ (List.mem_append_left _ (List.mem_of_getElem? h))))))), hg⟩
theorem mx_mm7 (i : Nat) {w : Cond} (h : tables_1_7[i]? = some w) (hg : goodWord w = true) : w ∈ mx_ws := List.mem_filter.mpr ⟨List.mem_append_right _ (List.mem_append_right _ (List.mem_append_right _ (List.mem_append_right _ (List.mem_append_right _ (List.mem_append_right _ (List.mem_append_right _ (List.mem_append_left _ (List.mem_of_getElem? h)))))))), hg⟩
theorem mx_mm8 (i : Nat) {w : Cond} (h : tables_1_8[i]? = some w) (hg : goodWord w = true) : w ∈ mx_ws := List.mem_filter.mpr ⟨List.mem_append_right _ (List.mem_append_right _ (List.mem_append_right _ (List.mem_append_right _ (List.mem_append_right _ (List.mem_append_right _ (List.mem_append_right _ (List.mem_append_right _ (List.mem_append_left _ (List.mem_of_getElem? h))))))))), hg⟩
theorem mx_mm9 (i : Nat) {w : Cond} (h : tables_1_9[i]? = some w) (hg : goodWord w = true) : w ∈ mx_ws := List.mem_filter.mpr ⟨List.mem_append_right _ (List.mem_append_right _ (List.mem_append_right _ (List.mem_append_right _ (List.mem_append_right _ (List.mem_append_right _ (List.mem_append_right _ (List.mem_append_right _ (List.mem_append_right _ (List.mem_of_getElem? h))))))))), hg⟩
theorem mx_mem (i : Nat) {w : Cond} (h : lw_tbl[i]? = some w) (hg : goodWord w = true) : w ∈ mx_ws := List.mem_filter.mpr ⟨List.mem_of_getElem? h, hg⟩
theorem mx_memN (i : Nat) {a : String} {k : Nat} {x : MethodName} {o : String} (h : tables_1[i]? = some (.methodLinkNest a k x o)) : Cond.methodLinkNest a k x o ∈ mx_nest := List.mem_filter.mpr ⟨List.mem_of_getElem? h, rfl⟩
def mx_gb (mid : Nat) (LL : List mx_L5) (KL : List (Nat × Int32)) (JL : List (Nat × Int64)) (pc : Nat) (ins : Instr) (len a b z : Nat) (c : Int32) (l : Int64) : Bool := match ins with
  | .iconst n => Nat.beq len 1 && decide (Int32.ofInt n = c)
  | .bipush n => Nat.beq len 2 && decide ((Int8.ofInt n).toInt32 = c)
  | .sipush n => Nat.beq len 3 && decide ((Int16.ofInt n).toInt32 = c)
  | .lconst n => Nat.beq len 1 && decide (Int64.ofNat (n : Nat) = l)
  | .ldc n => Nat.beq len 2 && KL.elem (n, c)
  | .ldc_w n => Nat.beq len 3 && KL.elem (n, c)
  | .ldc2_w n => Nat.beq len 3 && JL.elem (n, l)
  | .aconst_null => Nat.beq len 1
  | .iload_n n => Nat.beq len 1
  | .iload n => Nat.beq len 2
  | .lload_n n => Nat.beq len 1
  | .lload n => Nat.beq len 2
  | .aload_n n => Nat.beq len 1
  | .aload n => Nat.beq len 2
  | .istore_n n => Nat.beq len 1 && decide (n.val < mx_nL mid)
  | .istore n => Nat.beq len 2 && decide (n < mx_nL mid)
  | .lstore_n n => Nat.beq len 1 && decide (n.val + 1 < mx_nL mid)
  | .lstore n => Nat.beq len 2 && decide (n + 1 < mx_nL mid)
  | .astore_n n => Nat.beq len 1 && decide (n.val < mx_nL mid)
  | .astore n => Nat.beq len 2 && decide (n < mx_nL mid)
  | .iinc n k => Nat.beq len 3 && decide (Int32.ofInt k = c ∧ n < mx_nL mid)
  | .iadd => Nat.beq len 1
  | .isub => Nat.beq len 1
  | .imul => Nat.beq len 1
  | .iand => Nat.beq len 1
  | .ior => Nat.beq len 1
  | .ixor => Nat.beq len 1
  | .ishl => Nat.beq len 1
  | .ishr => Nat.beq len 1
  | .iushr => Nat.beq len 1
  | .idiv => Nat.beq len 1
  | .irem => Nat.beq len 1
  | .ladd => Nat.beq len 1
  | .lsub => Nat.beq len 1
  | .lmul => Nat.beq len 1
  | .land => Nat.beq len 1
  | .lor => Nat.beq len 1
  | .ldiv => Nat.beq len 1
  | .lshl => Nat.beq len 1
  | .lcmp => Nat.beq len 1
  | .ineg => Nat.beq len 1
  | .lneg => Nat.beq len 1
  | .i2l => Nat.beq len 1
  | .l2i => Nat.beq len 1
  | .i2b => Nat.beq len 1
  | .i2s => Nat.beq len 1
  | .goto k => Nat.beq len 3 && decide ((pc : Int) + k = a)
  | .pop => Nat.beq len 1
  | .dup => Nat.beq len 1
  | .dup2 => Nat.beq len 1
  | .ifCond cd k => Nat.beq len 3 && decide ((pc : Int) + k = a)
  | .if_icmp cd k => Nat.beq len 3 && decide ((pc : Int) + k = a)
  | .ifnull k => Nat.beq len 3 && decide ((pc : Int) + k = a)
  | .ifnonnull k => Nat.beq len 3 && decide ((pc : Int) + k = a)
  | .tableswitch df lo hi offs => true && decide (0 ≤ (pc : Int) + df ∧ (∀ o ∈ offs, 0 ≤ (pc : Int) + o) ∧ (hi - lo + 1).toNat ≤ offs.size)
  | .lookupswitch df ps => true && decide ((ps.toList.zip (ps.toList.drop 1)).all (fun (a, next) => a.1 < next.1) = true)
  | .ireturn => Nat.beq len 1 && decide (mx_rt mid = some .int ∨ mx_rt mid = some .boolean)
  | .lreturn => Nat.beq len 1 && decide (mx_rt mid = some .long)
  | .areturn => Nat.beq len 1 && decide (mx_rt mid = some (.object RX7))
  | .return_ => Nat.beq len 1 && decide (mx_rt mid = none)
  | .iaload => Nat.beq len 1
  | .baload => Nat.beq len 1
  | .laload => Nat.beq len 1
  | .aaload => Nat.beq len 1
  | .arraylength => Nat.beq len 1
  | .iastore => Nat.beq len 1
  | .lastore => Nat.beq len 1
  | .bastore => Nat.beq len 1
  | .aastore => Nat.beq len 1
  | .getfield n => Nat.beq len 3 && LL.elem (0, n, a, b, 0)
  | .putfield n => Nat.beq len 3 && (LL.elem (0, n, a, b, 0) && (!(mx_fT a b).2.2.2 || (decide ((mx_y mid).name = "<init>") && decide ((mx_fT a b).1 = mx_ow mid))))
  | .getstatic n => Nat.beq len 3 && LL.elem (5, n, a, 0, 0)
  | .new n => Nat.beq len 3 && LL.elem (4, n, a, 0, 0)
  | .newarray t => Nat.beq len 2 && (Nat.ble (mx_ak t) 3)
  | .anewarray n => Nat.beq len 3 && LL.elem (6, n, 0, 0, 0)
  | .invokestatic n => Nat.beq len 3 && ((!(Nat.beq z 2) && LL.elem (1, n, a, b, z)) || (Nat.beq z 2 && LL.elem (8, n, a, 0, 2)))
  | .invokevirtual n => Nat.beq len 3 && LL.elem (2, n, a, b, 0)
  | .invokespecial n => Nat.beq len 3 && (LL.elem (3, n, a, b, z) || LL.elem (7, n, a, 0, 0))
  | _ => false
set_option maxHeartbeats 4000000 in
theorem mx_gb_s {mid : Nat} {LL : List mx_L5} {KL : List (Nat × Int32)} {JL : List (Nat × Int64)} {pc : Nat} {ins : Instr} {len a b z : Nat} {c : Int32} {l : Int64} (hL : ∀ q ∈ LL, mx_PL (mx_me mid).1 q) (hK : ∀ q ∈ KL, Cond.constant (mx_ow mid) q.1 q.2 ∈ mx_ws) (hJ : ∀ q ∈ JL, Cond.constantLong (mx_ow mid) q.1 q.2 ∈ mx_ws) (hA : ∀ t, mx_ak t ≤ 3 → Cond.arrayClass (newarray.typeOf t) ∈ mx_ws)
    (h : mx_gb mid LL KL JL pc ins len a b z c l = true) : mx_ax mid pc ins len a b z c l := by
  cases ins with
  | iconst n =>
    have h : (Nat.beq len 1 && decide (Int32.ofInt n = c)) = true := h
    rw [Bool.and_eq_true] at h
    obtain ⟨h1, h2⟩ := h
    exact ⟨Nat.eq_of_beq_eq_true h1, of_decide_eq_true h2⟩
  | bipush n =>
    have h : (Nat.beq len 2 && decide ((Int8.ofInt n).toInt32 = c)) = true := h
    rw [Bool.and_eq_true] at h
    obtain ⟨h1, h2⟩ := h
    exact ⟨Nat.eq_of_beq_eq_true h1, of_decide_eq_true h2⟩
  | sipush n =>
    have h : (Nat.beq len 3 && decide ((Int16.ofInt n).toInt32 = c)) = true := h
    rw [Bool.and_eq_true] at h
    obtain ⟨h1, h2⟩ := h
    exact ⟨Nat.eq_of_beq_eq_true h1, of_decide_eq_true h2⟩
  | lconst n =>
    have h : (Nat.beq len 1 && decide (Int64.ofNat (n : Nat) = l)) = true := h
    rw [Bool.and_eq_true] at h
    obtain ⟨h1, h2⟩ := h
    exact ⟨Nat.eq_of_beq_eq_true h1, of_decide_eq_true h2⟩
  | ldc n =>
    have h : (Nat.beq len 2 && KL.elem (n, c)) = true := h
    rw [Bool.and_eq_true] at h
    obtain ⟨h1, h2⟩ := h
    exact ⟨Nat.eq_of_beq_eq_true h1, hK (n, c) (List.mem_of_elem_eq_true h2)⟩
  | ldc_w n =>
    have h : (Nat.beq len 3 && KL.elem (n, c)) = true := h
    rw [Bool.and_eq_true] at h
    obtain ⟨h1, h2⟩ := h
    exact ⟨Nat.eq_of_beq_eq_true h1, hK (n, c) (List.mem_of_elem_eq_true h2)⟩
  | ldc2_w n =>
    have h : (Nat.beq len 3 && JL.elem (n, l)) = true := h
    rw [Bool.and_eq_true] at h
    obtain ⟨h1, h2⟩ := h
    exact ⟨Nat.eq_of_beq_eq_true h1, hJ (n, l) (List.mem_of_elem_eq_true h2)⟩
  | aconst_null =>
    have h : (Nat.beq len 1) = true := h
    have h1 := h
    exact ⟨Nat.eq_of_beq_eq_true h1, trivial⟩
  | iload_n n =>
    have h : (Nat.beq len 1) = true := h
    have h1 := h
    exact ⟨Nat.eq_of_beq_eq_true h1, trivial⟩
  | iload n =>
    have h : (Nat.beq len 2) = true := h
    have h1 := h
    exact ⟨Nat.eq_of_beq_eq_true h1, trivial⟩
  | lload_n n =>
    have h : (Nat.beq len 1) = true := h
    have h1 := h
    exact ⟨Nat.eq_of_beq_eq_true h1, trivial⟩
  | lload n =>
    have h : (Nat.beq len 2) = true := h
    have h1 := h
    exact ⟨Nat.eq_of_beq_eq_true h1, trivial⟩
  | aload_n n =>
    have h : (Nat.beq len 1) = true := h
    have h1 := h
    exact ⟨Nat.eq_of_beq_eq_true h1, trivial⟩
  | aload n =>
    have h : (Nat.beq len 2) = true := h
    have h1 := h
    exact ⟨Nat.eq_of_beq_eq_true h1, trivial⟩
  | istore_n n =>
    have h : (Nat.beq len 1 && decide (n.val < mx_nL mid)) = true := h
    rw [Bool.and_eq_true] at h
    obtain ⟨h1, h2⟩ := h
    exact ⟨Nat.eq_of_beq_eq_true h1, of_decide_eq_true h2⟩
  | istore n =>
    have h : (Nat.beq len 2 && decide (n < mx_nL mid)) = true := h
    rw [Bool.and_eq_true] at h
    obtain ⟨h1, h2⟩ := h
    exact ⟨Nat.eq_of_beq_eq_true h1, of_decide_eq_true h2⟩
  | lstore_n n =>
    have h : (Nat.beq len 1 && decide (n.val + 1 < mx_nL mid)) = true := h
    rw [Bool.and_eq_true] at h
    obtain ⟨h1, h2⟩ := h
    exact ⟨Nat.eq_of_beq_eq_true h1, of_decide_eq_true h2⟩
  | lstore n =>
    have h : (Nat.beq len 2 && decide (n + 1 < mx_nL mid)) = true := h
    rw [Bool.and_eq_true] at h
    obtain ⟨h1, h2⟩ := h
    exact ⟨Nat.eq_of_beq_eq_true h1, of_decide_eq_true h2⟩
  | astore_n n =>
    have h : (Nat.beq len 1 && decide (n.val < mx_nL mid)) = true := h
    rw [Bool.and_eq_true] at h
    obtain ⟨h1, h2⟩ := h
    exact ⟨Nat.eq_of_beq_eq_true h1, of_decide_eq_true h2⟩
  | astore n =>
    have h : (Nat.beq len 2 && decide (n < mx_nL mid)) = true := h
    rw [Bool.and_eq_true] at h
    obtain ⟨h1, h2⟩ := h
    exact ⟨Nat.eq_of_beq_eq_true h1, of_decide_eq_true h2⟩
  | iinc n k =>
    have h : (Nat.beq len 3 && decide (Int32.ofInt k = c ∧ n < mx_nL mid)) = true := h
    rw [Bool.and_eq_true] at h
    obtain ⟨h1, h2⟩ := h
    exact ⟨Nat.eq_of_beq_eq_true h1, of_decide_eq_true h2⟩
  | iadd =>
    have h : (Nat.beq len 1) = true := h
    have h1 := h
    exact ⟨Nat.eq_of_beq_eq_true h1, trivial⟩
  | isub =>
    have h : (Nat.beq len 1) = true := h
    have h1 := h
    exact ⟨Nat.eq_of_beq_eq_true h1, trivial⟩
  | imul =>
    have h : (Nat.beq len 1) = true := h
    have h1 := h
    exact ⟨Nat.eq_of_beq_eq_true h1, trivial⟩
  | iand =>
    have h : (Nat.beq len 1) = true := h
    have h1 := h
    exact ⟨Nat.eq_of_beq_eq_true h1, trivial⟩
  | ior =>
    have h : (Nat.beq len 1) = true := h
    have h1 := h
    exact ⟨Nat.eq_of_beq_eq_true h1, trivial⟩
  | ixor =>
    have h : (Nat.beq len 1) = true := h
    have h1 := h
    exact ⟨Nat.eq_of_beq_eq_true h1, trivial⟩
  | ishl =>
    have h : (Nat.beq len 1) = true := h
    have h1 := h
    exact ⟨Nat.eq_of_beq_eq_true h1, trivial⟩
  | ishr =>
    have h : (Nat.beq len 1) = true := h
    have h1 := h
    exact ⟨Nat.eq_of_beq_eq_true h1, trivial⟩
  | iushr =>
    have h : (Nat.beq len 1) = true := h
    have h1 := h
    exact ⟨Nat.eq_of_beq_eq_true h1, trivial⟩
  | idiv =>
    have h : (Nat.beq len 1) = true := h
    have h1 := h
    exact ⟨Nat.eq_of_beq_eq_true h1, trivial⟩
  | irem =>
    have h : (Nat.beq len 1) = true := h
    have h1 := h
    exact ⟨Nat.eq_of_beq_eq_true h1, trivial⟩
  | ladd =>
    have h : (Nat.beq len 1) = true := h
    have h1 := h
    exact ⟨Nat.eq_of_beq_eq_true h1, trivial⟩
  | lsub =>
    have h : (Nat.beq len 1) = true := h
    have h1 := h
    exact ⟨Nat.eq_of_beq_eq_true h1, trivial⟩
  | lmul =>
    have h : (Nat.beq len 1) = true := h
    have h1 := h
    exact ⟨Nat.eq_of_beq_eq_true h1, trivial⟩
  | land =>
    have h : (Nat.beq len 1) = true := h
    have h1 := h
    exact ⟨Nat.eq_of_beq_eq_true h1, trivial⟩
  | lor =>
    have h : (Nat.beq len 1) = true := h
    have h1 := h
    exact ⟨Nat.eq_of_beq_eq_true h1, trivial⟩
  | ldiv =>
    have h : (Nat.beq len 1) = true := h
    have h1 := h
    exact ⟨Nat.eq_of_beq_eq_true h1, trivial⟩
  | lshl =>
    have h : (Nat.beq len 1) = true := h
    have h1 := h
    exact ⟨Nat.eq_of_beq_eq_true h1, trivial⟩
  | lcmp =>
    have h : (Nat.beq len 1) = true := h
    have h1 := h
    exact ⟨Nat.eq_of_beq_eq_true h1, trivial⟩
  | ineg =>
    have h : (Nat.beq len 1) = true := h
    have h1 := h
    exact ⟨Nat.eq_of_beq_eq_true h1, trivial⟩
  | lneg =>
    have h : (Nat.beq len 1) = true := h
    have h1 := h
    exact ⟨Nat.eq_of_beq_eq_true h1, trivial⟩
  | i2l =>
    have h : (Nat.beq len 1) = true := h
    have h1 := h
    exact ⟨Nat.eq_of_beq_eq_true h1, trivial⟩
  | l2i =>
    have h : (Nat.beq len 1) = true := h
    have h1 := h
    exact ⟨Nat.eq_of_beq_eq_true h1, trivial⟩
  | i2b =>
    have h : (Nat.beq len 1) = true := h
    have h1 := h
    exact ⟨Nat.eq_of_beq_eq_true h1, trivial⟩
  | i2s =>
    have h : (Nat.beq len 1) = true := h
    have h1 := h
    exact ⟨Nat.eq_of_beq_eq_true h1, trivial⟩
  | goto k =>
    have h : (Nat.beq len 3 && decide ((pc : Int) + k = a)) = true := h
    rw [Bool.and_eq_true] at h
    obtain ⟨h1, h2⟩ := h
    exact ⟨Nat.eq_of_beq_eq_true h1, of_decide_eq_true h2⟩
  | pop =>
    have h : (Nat.beq len 1) = true := h
    have h1 := h
    exact ⟨Nat.eq_of_beq_eq_true h1, trivial⟩
  | dup =>
    have h : (Nat.beq len 1) = true := h
    have h1 := h
    exact ⟨Nat.eq_of_beq_eq_true h1, trivial⟩
  | dup2 =>
    have h : (Nat.beq len 1) = true := h
    have h1 := h
    exact ⟨Nat.eq_of_beq_eq_true h1, trivial⟩
  | ifCond cd k =>
    have h : (Nat.beq len 3 && decide ((pc : Int) + k = a)) = true := h
    rw [Bool.and_eq_true] at h
    obtain ⟨h1, h2⟩ := h
    exact ⟨Nat.eq_of_beq_eq_true h1, of_decide_eq_true h2⟩
  | if_icmp cd k =>
    have h : (Nat.beq len 3 && decide ((pc : Int) + k = a)) = true := h
    rw [Bool.and_eq_true] at h
    obtain ⟨h1, h2⟩ := h
    exact ⟨Nat.eq_of_beq_eq_true h1, of_decide_eq_true h2⟩
  | ifnull k =>
    have h : (Nat.beq len 3 && decide ((pc : Int) + k = a)) = true := h
    rw [Bool.and_eq_true] at h
    obtain ⟨h1, h2⟩ := h
    exact ⟨Nat.eq_of_beq_eq_true h1, of_decide_eq_true h2⟩
  | ifnonnull k =>
    have h : (Nat.beq len 3 && decide ((pc : Int) + k = a)) = true := h
    rw [Bool.and_eq_true] at h
    obtain ⟨h1, h2⟩ := h
    exact ⟨Nat.eq_of_beq_eq_true h1, of_decide_eq_true h2⟩
  | tableswitch df lo hi offs =>
    have h : (true && decide (0 ≤ (pc : Int) + df ∧ (∀ o ∈ offs, 0 ≤ (pc : Int) + o) ∧ (hi - lo + 1).toNat ≤ offs.size)) = true := h
    rw [Bool.and_eq_true] at h
    obtain ⟨h1, h2⟩ := h
    have h3 := of_decide_eq_true h2
    exact h3
  | lookupswitch df ps =>
    have h : (true && decide ((ps.toList.zip (ps.toList.drop 1)).all (fun (a, next) => a.1 < next.1) = true)) = true := h
    rw [Bool.and_eq_true] at h
    obtain ⟨h1, h2⟩ := h
    have h3 := of_decide_eq_true h2
    exact h3
  | ireturn =>
    have h : (Nat.beq len 1 && decide (mx_rt mid = some .int ∨ mx_rt mid = some .boolean)) = true := h
    rw [Bool.and_eq_true] at h
    obtain ⟨h1, h2⟩ := h
    exact ⟨Nat.eq_of_beq_eq_true h1, of_decide_eq_true h2⟩
  | lreturn =>
    have h : (Nat.beq len 1 && decide (mx_rt mid = some .long)) = true := h
    rw [Bool.and_eq_true] at h
    obtain ⟨h1, h2⟩ := h
    exact ⟨Nat.eq_of_beq_eq_true h1, of_decide_eq_true h2⟩
  | areturn =>
    have h : (Nat.beq len 1 && decide (mx_rt mid = some (.object RX7))) = true := h
    rw [Bool.and_eq_true] at h
    obtain ⟨h1, h2⟩ := h
    exact ⟨Nat.eq_of_beq_eq_true h1, of_decide_eq_true h2⟩
  | return_ =>
    have h : (Nat.beq len 1 && decide (mx_rt mid = none)) = true := h
    rw [Bool.and_eq_true] at h
    obtain ⟨h1, h2⟩ := h
    exact ⟨Nat.eq_of_beq_eq_true h1, of_decide_eq_true h2⟩
  | iaload =>
    have h : (Nat.beq len 1) = true := h
    have h1 := h
    exact ⟨Nat.eq_of_beq_eq_true h1, trivial⟩
  | baload =>
    have h : (Nat.beq len 1) = true := h
    have h1 := h
    exact ⟨Nat.eq_of_beq_eq_true h1, trivial⟩
  | laload =>
    have h : (Nat.beq len 1) = true := h
    have h1 := h
    exact ⟨Nat.eq_of_beq_eq_true h1, trivial⟩
  | aaload =>
    have h : (Nat.beq len 1) = true := h
    have h1 := h
    exact ⟨Nat.eq_of_beq_eq_true h1, trivial⟩
  | arraylength =>
    have h : (Nat.beq len 1) = true := h
    have h1 := h
    exact ⟨Nat.eq_of_beq_eq_true h1, trivial⟩
  | iastore =>
    have h : (Nat.beq len 1) = true := h
    have h1 := h
    exact ⟨Nat.eq_of_beq_eq_true h1, trivial⟩
  | lastore =>
    have h : (Nat.beq len 1) = true := h
    have h1 := h
    exact ⟨Nat.eq_of_beq_eq_true h1, trivial⟩
  | bastore =>
    have h : (Nat.beq len 1) = true := h
    have h1 := h
    exact ⟨Nat.eq_of_beq_eq_true h1, trivial⟩
  | aastore =>
    have h : (Nat.beq len 1) = true := h
    have h1 := h
    exact ⟨Nat.eq_of_beq_eq_true h1, trivial⟩
  | getfield n =>
    have h : (Nat.beq len 3 && LL.elem (0, n, a, b, 0)) = true := h
    rw [Bool.and_eq_true] at h
    obtain ⟨h1, h2⟩ := h
    exact ⟨Nat.eq_of_beq_eq_true h1, hL _ (List.mem_of_elem_eq_true h2)⟩
  | putfield n =>
    have h : (Nat.beq len 3 && (LL.elem (0, n, a, b, 0) && (!(mx_fT a b).2.2.2 || (decide ((mx_y mid).name = "<init>") && decide ((mx_fT a b).1 = mx_ow mid))))) = true := h
    rw [Bool.and_eq_true] at h
    obtain ⟨h1, h2⟩ := h
    rw [Bool.and_eq_true] at h2
    refine ⟨Nat.eq_of_beq_eq_true h1, hL _ (List.mem_of_elem_eq_true h2.1), ?_⟩
    cases hq : (mx_fT a b).2.2.2 with
    | false => exact Or.inl rfl
    | true =>
      have h3 := h2.2
      rw [hq, Bool.not_true, Bool.false_or, Bool.and_eq_true] at h3
      exact Or.inr ⟨rfl, of_decide_eq_true h3.1, of_decide_eq_true h3.2⟩
  | getstatic n =>
    have h : (Nat.beq len 3 && LL.elem (5, n, a, 0, 0)) = true := h
    rw [Bool.and_eq_true] at h
    obtain ⟨h1, h2⟩ := h
    exact ⟨Nat.eq_of_beq_eq_true h1, hL _ (List.mem_of_elem_eq_true h2)⟩
  | new n =>
    have h : (Nat.beq len 3 && LL.elem (4, n, a, 0, 0)) = true := h
    rw [Bool.and_eq_true] at h
    obtain ⟨h1, h2⟩ := h
    exact ⟨Nat.eq_of_beq_eq_true h1, hL _ (List.mem_of_elem_eq_true h2)⟩
  | newarray t =>
    have h : (Nat.beq len 2 && (Nat.ble (mx_ak t) 3)) = true := h
    rw [Bool.and_eq_true] at h
    obtain ⟨h1, h2⟩ := h
    exact ⟨Nat.eq_of_beq_eq_true h1, Nat.le_of_ble_eq_true h2, hA t (Nat.le_of_ble_eq_true h2)⟩
  | anewarray n =>
    have h : (Nat.beq len 3 && LL.elem (6, n, 0, 0, 0)) = true := h
    rw [Bool.and_eq_true] at h
    obtain ⟨h1, h2⟩ := h
    exact ⟨Nat.eq_of_beq_eq_true h1, hL _ (List.mem_of_elem_eq_true h2)⟩
  | invokestatic n =>
    have h : (Nat.beq len 3 && ((!(Nat.beq z 2) && LL.elem (1, n, a, b, z)) || (Nat.beq z 2 && LL.elem (8, n, a, 0, 2)))) = true := h
    rw [Bool.and_eq_true] at h
    obtain ⟨h1, h2⟩ := h
    rcases (Bool.or_eq_true _ _).mp h2 with h2 | h2
    · rw [Bool.and_eq_true] at h2
      exact ⟨Nat.eq_of_beq_eq_true h1, Or.inl ⟨by simpa using h2.1, hL _ (List.mem_of_elem_eq_true h2.2)⟩⟩
    · rw [Bool.and_eq_true] at h2
      exact ⟨Nat.eq_of_beq_eq_true h1, Or.inr ⟨h2.1, hL _ (List.mem_of_elem_eq_true h2.2)⟩⟩
  | invokevirtual n =>
    have h : (Nat.beq len 3 && LL.elem (2, n, a, b, 0)) = true := h
    rw [Bool.and_eq_true] at h
    obtain ⟨h1, h2⟩ := h
    exact ⟨Nat.eq_of_beq_eq_true h1, hL _ (List.mem_of_elem_eq_true h2)⟩
  | invokespecial n =>
    have h : (Nat.beq len 3 && (LL.elem (3, n, a, b, z) || LL.elem (7, n, a, 0, 0))) = true := h
    rw [Bool.and_eq_true] at h
    obtain ⟨h1, h2⟩ := h
    rcases (Bool.or_eq_true _ _).mp h2 with h2 | h2
    · exact ⟨Nat.eq_of_beq_eq_true h1, Or.inr (hL _ (List.mem_of_elem_eq_true h2))⟩
    · exact ⟨Nat.eq_of_beq_eq_true h1, Or.inl (hL _ (List.mem_of_elem_eq_true h2))⟩
  | _ => cases h
def mx_gt (mid : Nat) (LL : List mx_L5) (KL : List (Nat × Int32)) (JL : List (Nat × Int64)) (tb : List (Nat × List mx_En)) : Bool :=
  tb.all (fun q => q.2.all (fun en => decide (decode (mx_by mid) en.1 = .ok (en.2.1, en.2.2.1)) && mx_gb mid LL KL JL en.1 en.2.1 en.2.2.1 en.2.2.2.1 en.2.2.2.2.1 en.2.2.2.2.2.1 en.2.2.2.2.2.2.1 en.2.2.2.2.2.2.2))
theorem mx_gt_s {mid : Nat} {LL : List mx_L5} {KL : List (Nat × Int32)} {JL : List (Nat × Int64)} {tb : List (Nat × List mx_En)} (hL : ∀ q ∈ LL, mx_PL (mx_me mid).1 q) (hK : ∀ q ∈ KL, Cond.constant (mx_ow mid) q.1 q.2 ∈ mx_ws) (hJ : ∀ q ∈ JL, Cond.constantLong (mx_ow mid) q.1 q.2 ∈ mx_ws) (hA : ∀ t, mx_ak t ≤ 3 → Cond.arrayClass (newarray.typeOf t) ∈ mx_ws)
    (h : mx_gt mid LL KL JL tb = true) : ∀ q ∈ tb, ∀ en ∈ q.2, mx_gd mid en := by
  intro q hq en he
  have h1 := List.all_eq_true.mp (List.all_eq_true.mp h q hq) en he
  rw [Bool.and_eq_true] at h1
  exact ⟨of_decide_eq_true h1.1, mx_gb_s hL hK hJ hA h1.2⟩
/-! ===== the check of links ===== -/
def mx_sub (k : Nat) : List Cond := match k with
  | 1 => tables_1_1
  | 2 => tables_1_2
  | 3 => tables_1_3
  | 4 => tables_1_4
  | 5 => tables_1_5
  | 6 => tables_1_6
  | 7 => tables_1_7
  | 8 => tables_1_8
  | 9 => tables_1_9
  | _ => []
theorem mx_sub_t {w : Cond} : ∀ k, w ∈ mx_sub k → w ∈ tables_1
  | 1, h => (List.mem_append_left _ h)
  | 2, h => (List.mem_append_right _ (List.mem_append_left _ h))
  | 3, h => (List.mem_append_right _ (List.mem_append_right _ (List.mem_append_left _ h)))
  | 4, h => (List.mem_append_right _ (List.mem_append_right _ (List.mem_append_right _ (List.mem_append_left _ h))))
  | 5, h => (List.mem_append_right _ (List.mem_append_right _ (List.mem_append_right _ (List.mem_append_right _ (List.mem_append_left _ h)))))
  | 6, h => (List.mem_append_right _ (List.mem_append_right _ (List.mem_append_right _ (List.mem_append_right _ (List.mem_append_right _ (List.mem_append_left _ h))))))
  | 7, h => (List.mem_append_right _ (List.mem_append_right _ (List.mem_append_right _ (List.mem_append_right _ (List.mem_append_right _ (List.mem_append_right _ (List.mem_append_left _ h)))))))
  | 8, h => (List.mem_append_right _ (List.mem_append_right _ (List.mem_append_right _ (List.mem_append_right _ (List.mem_append_right _ (List.mem_append_right _ (List.mem_append_right _ (List.mem_append_left _ h))))))))
  | 9, h => (List.mem_append_right _ (List.mem_append_right _ (List.mem_append_right _ (List.mem_append_right _ (List.mem_append_right _ (List.mem_append_right _ (List.mem_append_right _ (List.mem_append_right _ h))))))))
  | 0, h => absurd h List.not_mem_nil
  | k + 10, h => absurd h List.not_mem_nil
/-- the word stands at this place of the tables, and is one that a callee may be given -/
def mx_hw (p : Nat) (w : Cond) : Bool := (bif Nat.blt p 1000 then decide ((k2_sels lw_privs)[p]? = some w) else decide ((mx_sub (p / 1000))[p % 1000]? = some w)) && goodWord w
theorem mx_hw_s {p : Nat} {w : Cond} (h : mx_hw p w = true) : w ∈ mx_ws := by
  unfold mx_hw at h
  rw [Bool.and_eq_true] at h
  refine List.mem_filter.mpr ⟨?_, h.2⟩
  have h1 := h.1
  cases hb : Nat.blt p 1000 with
  | true =>
    rw [hb, cond_true] at h1
    exact List.mem_append_left _ (List.mem_of_getElem? (of_decide_eq_true h1))
  | false =>
    rw [hb, cond_false] at h1
    exact List.mem_append_right _ (mx_sub_t _ (List.mem_of_getElem? (of_decide_eq_true h1)))
def mx_hn (p : Nat) (a : String) (k : Nat) (x : MethodName) (o : String) : Bool := decide ((mx_sub (p / 1000))[p % 1000]? = some (.methodLinkNest a k x o))
theorem mx_hn_s {p : Nat} {a : String} {k : Nat} {x : MethodName} {o : String} (h : mx_hn p a k x o = true) : Cond.methodLinkNest a k x o ∈ mx_nest :=
  List.mem_filter.mpr ⟨mx_sub_t _ (List.mem_of_getElem? (of_decide_eq_true h)), rfl⟩
def mx_MKc (mid p2 : Nat) : Bool := plainName (mx_y mid).cls && (decide ((mx_y mid).cls = mx_ow mid) && (mx_hw p2 (Cond.initialized (mx_y mid).cls) && (decide ((mx_y mid).cls ≠ "java/lang/invoke/MethodHandle" ∧ (mx_y mid).cls ≠ "java/lang/invoke/VarHandle") && Nat.ble (mx_nL mid) 21)))
abbrev mx_CD (mid : Nat) : Prop := Cond.code (mx_y mid) (mx_by mid) (mx_nL mid) (mx_rt mid) ∈ mx_ws
theorem mx_CDi {mid : Nat} (k i : Nat) (h : (mx_sub k)[i]? = some (Cond.code (mx_y mid) (mx_by mid) (mx_nL mid) (mx_rt mid))) : mx_CD mid := List.mem_filter.mpr ⟨List.mem_append_right _ (mx_sub_t _ (List.mem_of_getElem? h)), rfl⟩
theorem mx_MKc_s {mid p2 : Nat} (hc : mx_CD mid) (h : mx_MKc mid p2 = true) : mx_MK mid := by
  unfold mx_MKc at h
  simp only [Bool.and_eq_true] at h
  obtain ⟨h1, h2, h4, h5, h6⟩ := h
  exact ⟨h1, of_decide_eq_true h2, hc, mx_hw_s h4, of_decide_eq_true h5, Nat.le_of_ble_eq_true h6⟩
def mx_LKb (o idx callee n kd : Nat) (nest : Bool) (p1 p2 p3 : Nat) : Bool :=
  decide ((parseMethodDescriptor (mx_y callee).desc).map (fun d => d.parameters.length) = some n) &&
  ((bif nest then mx_hn p1 (mx_cn o) idx (mx_y callee) "PlatesSing" else mx_hw p1 (Cond.methodLink (mx_cn o) idx (mx_y callee))) &&
  (bif Nat.beq kd 0 then mx_hw p2 (Cond.static (mx_y callee)) else bif Nat.beq kd 1 then mx_hw p2 (Cond.instanceMethod (mx_y callee)) && mx_hw p3 (Cond.selects (mx_y callee).cls (mx_y callee) (mx_y callee)) else mx_hw p2 (Cond.instanceMethod (mx_y callee)) && (decide ((mx_y callee).name = "<init>") && decide (mx_rt callee = none))))
theorem mx_LKb_s {o idx callee n kd : Nat} {nest : Bool} {p1 p2 p3 : Nat} (h : mx_LKb o idx callee n kd nest p1 p2 p3 = true) : mx_LKo o idx callee n kd nest := by
  unfold mx_LKb at h
  rw [Bool.and_eq_true, Bool.and_eq_true] at h
  obtain ⟨h1, h2, h3⟩ := h
  refine ⟨of_decide_eq_true h1, ?_, ?_⟩
  · cases nest
    · exact mx_hw_s h2
    · exact ⟨_, mx_hn_s h2⟩
  · cases hb : Nat.beq kd 0 with
    | true =>
      rw [hb, cond_true] at h3
      rw [if_pos (Nat.eq_of_beq_eq_true hb)]
      exact mx_hw_s h3
    | false =>
      rw [hb, cond_false] at h3
      rw [if_neg (Nat.ne_of_beq_eq_false hb)]
      cases hb2 : Nat.beq kd 1 with
      | true =>
        rw [hb2, cond_true, Bool.and_eq_true] at h3
        rw [if_pos (Nat.eq_of_beq_eq_true hb2)]
        exact ⟨mx_hw_s h3.1, mx_hw_s h3.2⟩
      | false =>
        rw [hb2, cond_false, Bool.and_eq_true, Bool.and_eq_true] at h3
        rw [if_neg (Nat.ne_of_beq_eq_false hb2)]
        exact ⟨mx_hw_s h3.1, of_decide_eq_true h3.2.1, of_decide_eq_true h3.2.2⟩
def mx_MWb (o i : Nat) (x : MethodName) (c : ByteArray) (n : Nat) (r : Option FieldType) (p1 p2 p3 p4 : Nat) : Bool := mx_hw p1 (Cond.methodLink (mx_cn o) i x) && (mx_hw p2 (Cond.static x) && (mx_hw p3 (Cond.initialized "java/lang/Math") && mx_hw p4 (Cond.code x c n r)))
theorem mx_MWb_s {o i : Nat} {x : MethodName} {c : ByteArray} {n : Nat} {r : Option FieldType} {p1 p2 p3 p4 : Nat} (h : mx_MWb o i x c n r p1 p2 p3 p4 = true) : mx_MW o i x c n r := by
  unfold mx_MWb at h
  simp only [Bool.and_eq_true] at h
  exact ⟨mx_hw_s h.1, mx_hw_s h.2.1, mx_hw_s h.2.2.1, mx_hw_s h.2.2.2⟩
end
section
/-! ===== links and methods, held against the tables by program ===== -/
def mx_pMT : List (List (Nat × Nat)) := [[(0, 0), (2062, 1008), (4209, 1008), (4184, 1008), (4189, 1008), (4193, 1008), (4198, 1008), (4221, 1008), (4225, 1008), (4233, 1008), (4238, 1008), (2033, 1007), (4131, 1007), (4139, 1007), (4147, 1007), (4156, 1007)], [(2127, 1010), (3137, 1010), (3141, 1010), (5131, 1010), (5140, 1010), (1141, 1004), (3162, 1004), (3166, 1004), (3170, 1004), (3176, 1004), (3180, 1004), (4031, 1004), (3192, 1004), (3188, 1004), (3196, 1004), (3184, 1004)], [(3200, 1004), (3217, 1004), (4047, 1004), (4051, 1004), (2158, 1011), (3093, 1011), (6001, 1011), (5179, 1011), (5167, 1011), (5175, 1011), (1221, 1006), (4059, 1006), (4063, 1006), (4075, 1006), (4079, 1006), (4098, 1006)], [(4087, 1006), (4103, 1006), (4109, 1006), (4113, 1006), (2106, 1009), (5073, 1009), (5085, 1009), (5081, 1009), (5090, 1009), (5100, 1009), (1049, 1003), (3031, 1003), (3106, 1003), (3063, 1003), (4001, 1003), (3073, 1003)], [(5113, 1003), (3129, 1003), (3126, 1003), (3133, 1003), (5148, 1003), (2185, 1012), (5193, 1012), (5201, 1012), (5212, 1012), (5009, 1012), (5014, 1012), (5231, 1012), (5216, 1012), (5219, 1012), (5021, 1012), (5018, 1012)], [(5042, 1012), (5038, 1012), (5045, 1012), (5062, 1012), (1030, 1002), (3019, 1002), (3027, 1002), (3038, 1002), (3051, 1002), (3055, 1002), (3077, 1002), (3081, 1002), (3042, 1002), (3046, 1002), (3059, 1002), (1191, 1005)], [(4010, 1005), (4016, 1005), (4023, 1005), (4027, 1005), (4020, 1005), (1022, 1001), (3012, 1001), (3023, 1001), (3097, 1001), (3110, 1001), (3118, 1001), (3145, 1001), (3150, 1001), (3155, 1001), (3204, 1001), (3210, 1001)], [(3222, 1001), (3226, 1001), (3231, 1001), (3236, 1001), (4006, 1001), (4035, 1001), (4039, 1001), (4043, 1001), (4055, 1001), (4067, 1001), (4083, 1001), (4094, 1001), (4123, 1001), (4127, 1001), (4135, 1001), (4152, 1001)], [(4162, 1001), (4166, 1001), (4170, 1001), (4177, 1001), (4205, 1001), (4213, 1001), (4217, 1001), (4229, 1001), (5002, 1001), (5034, 1001), (5058, 1001), (5069, 1001), (5077, 1001), (5104, 1001), (5108, 1001), (5119, 1001)], [(5127, 1001), (5136, 1001), (5144, 1001), (5152, 1001), (5159, 1001), (5185, 1001), (5189, 1001), (5197, 1001), (5208, 1001), (5223, 1001), (5227, 1001), (5238, 1001), (6005, 1001), (3015, 1001), (3158, 1001), (4180, 1001)], [(4173, 1001), (5005, 1001), (5155, 1001), (5163, 1001), (3113, 1001), (3213, 1001), (3101, 1001), (4071, 1001), (3085, 1001), (3089, 1001), (3122, 1001), (5123, 1001), (6010, 1013), (7062, 1013), (7169, 1013), (7184, 1013)], [(8101, 1013), (7129, 1013), (7106, 1013), (7113, 1013), (7110, 1013), (7117, 1013), (7074, 1013), (7134, 1013), (7059, 1013), (7078, 1013), (7082, 1013), (7086, 1013), (7090, 1013), (7102, 1013), (7098, 1013), (7094, 1013)], [(7070, 1013), (7121, 1013), (7066, 1013), (7138, 1013), (7125, 1013), (7142, 1013), (7150, 1013), (7158, 1013), (7154, 1013), (7146, 1013), (7162, 1013), (7166, 1013), (7173, 1013), (7177, 1013), (7181, 1013), (7198, 1013)], [(7195, 1013), (7210, 1013), (7217, 1013), (7213, 1013), (7206, 1013), (7202, 1013), (7221, 1013), (7191, 1013), (7188, 1013), (7225, 1013), (7238, 1013), (8002, 1013), (7234, 1013), (7230, 1013), (8006, 1013), (8010, 1013)], [(8014, 1013), (8022, 1013), (8018, 1013), (8038, 1013), (8042, 1013), (8034, 1013), (8030, 1013), (8026, 1013), (8046, 1013), (8054, 1013), (8050, 1013), (8070, 1013), (8066, 1013), (8062, 1013), (8058, 1013), (8074, 1013)], [(8078, 1013), (8086, 1013), (8082, 1013), (8098, 1013), (8105, 1013), (8094, 1013), (8090, 1013), (8109, 1013), (8113, 1013), (8117, 1013), (8129, 1013), (8125, 1013), (8121, 1013), (8133, 1013), (8137, 1013), (8144, 1013)], [(8141, 1013), (8152, 1013), (8156, 1013), (8148, 1013), (8160, 1013), (8164, 1013), (8168, 1013), (8172, 1013), (8183, 1013), (8186, 1013), (8176, 1013), (8203, 1013), (8207, 1013), (8199, 1013), (8195, 1013), (8191, 1013)], [(8214, 1013), (8218, 1013), (8222, 1013), (8230, 1013), (8234, 1013), (8226, 1013), (9006, 1013), (9002, 1013), (8238, 1013), (9014, 1013), (9010, 1013), (9026, 1013), (9033, 1013), (9018, 1013), (9037, 1013), (9045, 1013)], [(9041, 1013), (9030, 1013), (9053, 1013), (9049, 1013), (9061, 1013), (9057, 1013), (9073, 1013), (9069, 1013), (9065, 1013), (9022, 1013), (9077, 1013), (9081, 1013), (8179, 1013), (9085, 1013), (9089, 1013), (9097, 1013)], [(9093, 1013), (9101, 1013), (9105, 1013), (9109, 1013), (5048, 1016), (5093, 1016), (0, 0), (0, 0), (0, 0), (0, 0), (0, 0), (0, 0), (5204, 1014), (3034, 1014)]]
def mx_pM (i : Nat) : Nat × Nat := (mx_pMT.getD (i / 16) []).getD (i % 16) (0, 0)
/-- the methods whose own words stand in the tables -/
def mx_iM (i : Nat) : Bool := Nat.blt 0 i && (Nat.blt i 310 || (Nat.blt 315 i && Nat.blt i 318))
theorem mx_cd1 : mx_CD 1 := mx_CDi 2 62 rfl
theorem mx_cd2 : mx_CD 2 := mx_CDi 4 209 rfl
theorem mx_cd3 : mx_CD 3 := mx_CDi 4 184 rfl
theorem mx_cd4 : mx_CD 4 := mx_CDi 4 189 rfl
theorem mx_cd5 : mx_CD 5 := mx_CDi 4 193 rfl
theorem mx_cd6 : mx_CD 6 := mx_CDi 4 198 rfl
theorem mx_cd7 : mx_CD 7 := mx_CDi 4 221 rfl
theorem mx_cd8 : mx_CD 8 := mx_CDi 4 225 rfl
theorem mx_cd9 : mx_CD 9 := mx_CDi 4 233 rfl
theorem mx_cd10 : mx_CD 10 := mx_CDi 4 238 rfl
theorem mx_cd11 : mx_CD 11 := mx_CDi 2 33 rfl
theorem mx_cd12 : mx_CD 12 := mx_CDi 4 131 rfl
theorem mx_cd13 : mx_CD 13 := mx_CDi 4 139 rfl
theorem mx_cd14 : mx_CD 14 := mx_CDi 4 147 rfl
theorem mx_cd15 : mx_CD 15 := mx_CDi 4 156 rfl
theorem mx_cd16 : mx_CD 16 := mx_CDi 2 127 rfl
theorem mx_cd17 : mx_CD 17 := mx_CDi 3 137 rfl
theorem mx_cd18 : mx_CD 18 := mx_CDi 3 141 rfl
theorem mx_cd19 : mx_CD 19 := mx_CDi 5 131 rfl
theorem mx_cd20 : mx_CD 20 := mx_CDi 5 140 rfl
theorem mx_cd21 : mx_CD 21 := mx_CDi 1 141 rfl
theorem mx_cd22 : mx_CD 22 := mx_CDi 3 162 rfl
theorem mx_cd23 : mx_CD 23 := mx_CDi 3 166 rfl
theorem mx_cd24 : mx_CD 24 := mx_CDi 3 170 rfl
theorem mx_cd25 : mx_CD 25 := mx_CDi 3 176 rfl
theorem mx_cd26 : mx_CD 26 := mx_CDi 3 180 rfl
theorem mx_cd27 : mx_CD 27 := mx_CDi 4 31 rfl
theorem mx_cd28 : mx_CD 28 := mx_CDi 3 192 rfl
theorem mx_cd29 : mx_CD 29 := mx_CDi 3 188 rfl
theorem mx_cd30 : mx_CD 30 := mx_CDi 3 196 rfl
theorem mx_cd31 : mx_CD 31 := mx_CDi 3 184 rfl
theorem mx_cd32 : mx_CD 32 := mx_CDi 3 200 rfl
theorem mx_cd33 : mx_CD 33 := mx_CDi 3 217 rfl
theorem mx_cd34 : mx_CD 34 := mx_CDi 4 47 rfl
theorem mx_cd35 : mx_CD 35 := mx_CDi 4 51 rfl
theorem mx_cd36 : mx_CD 36 := mx_CDi 2 158 rfl
theorem mx_cd37 : mx_CD 37 := mx_CDi 3 93 rfl
theorem mx_cd38 : mx_CD 38 := mx_CDi 6 1 rfl
theorem mx_cd39 : mx_CD 39 := mx_CDi 5 179 rfl
theorem mx_cd40 : mx_CD 40 := mx_CDi 5 167 rfl
theorem mx_cd41 : mx_CD 41 := mx_CDi 5 175 rfl
theorem mx_cd42 : mx_CD 42 := mx_CDi 1 221 rfl
theorem mx_cd43 : mx_CD 43 := mx_CDi 4 59 rfl
theorem mx_cd44 : mx_CD 44 := mx_CDi 4 63 rfl
theorem mx_cd45 : mx_CD 45 := mx_CDi 4 75 rfl
theorem mx_cd46 : mx_CD 46 := mx_CDi 4 79 rfl
theorem mx_cd47 : mx_CD 47 := mx_CDi 4 98 rfl
theorem mx_cd48 : mx_CD 48 := mx_CDi 4 87 rfl
theorem mx_cd49 : mx_CD 49 := mx_CDi 4 103 rfl
theorem mx_cd50 : mx_CD 50 := mx_CDi 4 109 rfl
theorem mx_cd51 : mx_CD 51 := mx_CDi 4 113 rfl
theorem mx_cd52 : mx_CD 52 := mx_CDi 2 106 rfl
theorem mx_cd53 : mx_CD 53 := mx_CDi 5 73 rfl
theorem mx_cd54 : mx_CD 54 := mx_CDi 5 85 rfl
theorem mx_cd55 : mx_CD 55 := mx_CDi 5 81 rfl
theorem mx_cd56 : mx_CD 56 := mx_CDi 5 90 rfl
theorem mx_cd57 : mx_CD 57 := mx_CDi 5 100 rfl
theorem mx_cd58 : mx_CD 58 := mx_CDi 1 49 rfl
theorem mx_cd59 : mx_CD 59 := mx_CDi 3 31 rfl
theorem mx_cd60 : mx_CD 60 := mx_CDi 3 106 rfl
theorem mx_cd61 : mx_CD 61 := mx_CDi 3 63 rfl
theorem mx_cd62 : mx_CD 62 := mx_CDi 4 1 rfl
theorem mx_cd63 : mx_CD 63 := mx_CDi 3 73 rfl
theorem mx_cd64 : mx_CD 64 := mx_CDi 5 113 rfl
theorem mx_cd65 : mx_CD 65 := mx_CDi 3 129 rfl
theorem mx_cd66 : mx_CD 66 := mx_CDi 3 126 rfl
theorem mx_cd67 : mx_CD 67 := mx_CDi 3 133 rfl
theorem mx_cd68 : mx_CD 68 := mx_CDi 5 148 rfl
theorem mx_cd69 : mx_CD 69 := mx_CDi 2 185 rfl
theorem mx_cd70 : mx_CD 70 := mx_CDi 5 193 rfl
theorem mx_cd71 : mx_CD 71 := mx_CDi 5 201 rfl
theorem mx_cd72 : mx_CD 72 := mx_CDi 5 212 rfl
theorem mx_cd73 : mx_CD 73 := mx_CDi 5 9 rfl
theorem mx_cd74 : mx_CD 74 := mx_CDi 5 14 rfl
theorem mx_cd75 : mx_CD 75 := mx_CDi 5 231 rfl
theorem mx_cd76 : mx_CD 76 := mx_CDi 5 216 rfl
theorem mx_cd77 : mx_CD 77 := mx_CDi 5 219 rfl
theorem mx_cd78 : mx_CD 78 := mx_CDi 5 21 rfl
theorem mx_cd79 : mx_CD 79 := mx_CDi 5 18 rfl
theorem mx_cd80 : mx_CD 80 := mx_CDi 5 42 rfl
theorem mx_cd81 : mx_CD 81 := mx_CDi 5 38 rfl
theorem mx_cd82 : mx_CD 82 := mx_CDi 5 45 rfl
theorem mx_cd83 : mx_CD 83 := mx_CDi 5 62 rfl
theorem mx_cd84 : mx_CD 84 := mx_CDi 1 30 rfl
theorem mx_cd85 : mx_CD 85 := mx_CDi 3 19 rfl
theorem mx_cd86 : mx_CD 86 := mx_CDi 3 27 rfl
theorem mx_cd87 : mx_CD 87 := mx_CDi 3 38 rfl
theorem mx_cd88 : mx_CD 88 := mx_CDi 3 51 rfl
theorem mx_cd89 : mx_CD 89 := mx_CDi 3 55 rfl
theorem mx_cd90 : mx_CD 90 := mx_CDi 3 77 rfl
theorem mx_cd91 : mx_CD 91 := mx_CDi 3 81 rfl
theorem mx_cd92 : mx_CD 92 := mx_CDi 3 42 rfl
theorem mx_cd93 : mx_CD 93 := mx_CDi 3 46 rfl
theorem mx_cd94 : mx_CD 94 := mx_CDi 3 59 rfl
theorem mx_cd95 : mx_CD 95 := mx_CDi 1 191 rfl
theorem mx_cd96 : mx_CD 96 := mx_CDi 4 10 rfl
theorem mx_cd97 : mx_CD 97 := mx_CDi 4 16 rfl
theorem mx_cd98 : mx_CD 98 := mx_CDi 4 23 rfl
theorem mx_cd99 : mx_CD 99 := mx_CDi 4 27 rfl
theorem mx_cd100 : mx_CD 100 := mx_CDi 4 20 rfl
theorem mx_cd101 : mx_CD 101 := mx_CDi 1 22 rfl
theorem mx_cd102 : mx_CD 102 := mx_CDi 3 12 rfl
theorem mx_cd103 : mx_CD 103 := mx_CDi 3 23 rfl
theorem mx_cd104 : mx_CD 104 := mx_CDi 3 97 rfl
theorem mx_cd105 : mx_CD 105 := mx_CDi 3 110 rfl
theorem mx_cd106 : mx_CD 106 := mx_CDi 3 118 rfl
theorem mx_cd107 : mx_CD 107 := mx_CDi 3 145 rfl
theorem mx_cd108 : mx_CD 108 := mx_CDi 3 150 rfl
theorem mx_cd109 : mx_CD 109 := mx_CDi 3 155 rfl
theorem mx_cd110 : mx_CD 110 := mx_CDi 3 204 rfl
theorem mx_cd111 : mx_CD 111 := mx_CDi 3 210 rfl
theorem mx_cd112 : mx_CD 112 := mx_CDi 3 222 rfl
theorem mx_cd113 : mx_CD 113 := mx_CDi 3 226 rfl
theorem mx_cd114 : mx_CD 114 := mx_CDi 3 231 rfl
theorem mx_cd115 : mx_CD 115 := mx_CDi 3 236 rfl
theorem mx_cd116 : mx_CD 116 := mx_CDi 4 6 rfl
theorem mx_cd117 : mx_CD 117 := mx_CDi 4 35 rfl
theorem mx_cd118 : mx_CD 118 := mx_CDi 4 39 rfl
theorem mx_cd119 : mx_CD 119 := mx_CDi 4 43 rfl
theorem mx_cd120 : mx_CD 120 := mx_CDi 4 55 rfl
theorem mx_cd121 : mx_CD 121 := mx_CDi 4 67 rfl
theorem mx_cd122 : mx_CD 122 := mx_CDi 4 83 rfl
theorem mx_cd123 : mx_CD 123 := mx_CDi 4 94 rfl
theorem mx_cd124 : mx_CD 124 := mx_CDi 4 123 rfl
theorem mx_cd125 : mx_CD 125 := mx_CDi 4 127 rfl
theorem mx_cd126 : mx_CD 126 := mx_CDi 4 135 rfl
theorem mx_cd127 : mx_CD 127 := mx_CDi 4 152 rfl
theorem mx_cd128 : mx_CD 128 := mx_CDi 4 162 rfl
theorem mx_cd129 : mx_CD 129 := mx_CDi 4 166 rfl
theorem mx_cd130 : mx_CD 130 := mx_CDi 4 170 rfl
theorem mx_cd131 : mx_CD 131 := mx_CDi 4 177 rfl
theorem mx_cd132 : mx_CD 132 := mx_CDi 4 205 rfl
theorem mx_cd133 : mx_CD 133 := mx_CDi 4 213 rfl
theorem mx_cd134 : mx_CD 134 := mx_CDi 4 217 rfl
theorem mx_cd135 : mx_CD 135 := mx_CDi 4 229 rfl
theorem mx_cd136 : mx_CD 136 := mx_CDi 5 2 rfl
theorem mx_cd137 : mx_CD 137 := mx_CDi 5 34 rfl
theorem mx_cd138 : mx_CD 138 := mx_CDi 5 58 rfl
theorem mx_cd139 : mx_CD 139 := mx_CDi 5 69 rfl
theorem mx_cd140 : mx_CD 140 := mx_CDi 5 77 rfl
theorem mx_cd141 : mx_CD 141 := mx_CDi 5 104 rfl
theorem mx_cd142 : mx_CD 142 := mx_CDi 5 108 rfl
theorem mx_cd143 : mx_CD 143 := mx_CDi 5 119 rfl
theorem mx_cd144 : mx_CD 144 := mx_CDi 5 127 rfl
theorem mx_cd145 : mx_CD 145 := mx_CDi 5 136 rfl
theorem mx_cd146 : mx_CD 146 := mx_CDi 5 144 rfl
theorem mx_cd147 : mx_CD 147 := mx_CDi 5 152 rfl
theorem mx_cd148 : mx_CD 148 := mx_CDi 5 159 rfl
theorem mx_cd149 : mx_CD 149 := mx_CDi 5 185 rfl
theorem mx_cd150 : mx_CD 150 := mx_CDi 5 189 rfl
theorem mx_cd151 : mx_CD 151 := mx_CDi 5 197 rfl
theorem mx_cd152 : mx_CD 152 := mx_CDi 5 208 rfl
theorem mx_cd153 : mx_CD 153 := mx_CDi 5 223 rfl
theorem mx_cd154 : mx_CD 154 := mx_CDi 5 227 rfl
theorem mx_cd155 : mx_CD 155 := mx_CDi 5 238 rfl
theorem mx_cd156 : mx_CD 156 := mx_CDi 6 5 rfl
theorem mx_cd157 : mx_CD 157 := mx_CDi 3 15 rfl
theorem mx_cd158 : mx_CD 158 := mx_CDi 3 158 rfl
theorem mx_cd159 : mx_CD 159 := mx_CDi 4 180 rfl
theorem mx_cd160 : mx_CD 160 := mx_CDi 4 173 rfl
theorem mx_cd161 : mx_CD 161 := mx_CDi 5 5 rfl
theorem mx_cd162 : mx_CD 162 := mx_CDi 5 155 rfl
theorem mx_cd163 : mx_CD 163 := mx_CDi 5 163 rfl
theorem mx_cd164 : mx_CD 164 := mx_CDi 3 113 rfl
theorem mx_cd165 : mx_CD 165 := mx_CDi 3 213 rfl
theorem mx_cd166 : mx_CD 166 := mx_CDi 3 101 rfl
theorem mx_cd167 : mx_CD 167 := mx_CDi 4 71 rfl
theorem mx_cd168 : mx_CD 168 := mx_CDi 3 85 rfl
theorem mx_cd169 : mx_CD 169 := mx_CDi 3 89 rfl
theorem mx_cd170 : mx_CD 170 := mx_CDi 3 122 rfl
theorem mx_cd171 : mx_CD 171 := mx_CDi 5 123 rfl
theorem mx_cd172 : mx_CD 172 := mx_CDi 6 10 rfl
theorem mx_cd173 : mx_CD 173 := mx_CDi 7 62 rfl
theorem mx_cd174 : mx_CD 174 := mx_CDi 7 169 rfl
theorem mx_cd175 : mx_CD 175 := mx_CDi 7 184 rfl
theorem mx_cd176 : mx_CD 176 := mx_CDi 8 101 rfl
theorem mx_cd177 : mx_CD 177 := mx_CDi 7 129 rfl
theorem mx_cd178 : mx_CD 178 := mx_CDi 7 106 rfl
theorem mx_cd179 : mx_CD 179 := mx_CDi 7 113 rfl
theorem mx_cd180 : mx_CD 180 := mx_CDi 7 110 rfl
theorem mx_cd181 : mx_CD 181 := mx_CDi 7 117 rfl
theorem mx_cd182 : mx_CD 182 := mx_CDi 7 74 rfl
theorem mx_cd183 : mx_CD 183 := mx_CDi 7 134 rfl
theorem mx_cd184 : mx_CD 184 := mx_CDi 7 59 rfl
theorem mx_cd185 : mx_CD 185 := mx_CDi 7 78 rfl
theorem mx_cd186 : mx_CD 186 := mx_CDi 7 82 rfl
theorem mx_cd187 : mx_CD 187 := mx_CDi 7 86 rfl
theorem mx_cd188 : mx_CD 188 := mx_CDi 7 90 rfl
theorem mx_cd189 : mx_CD 189 := mx_CDi 7 102 rfl
theorem mx_cd190 : mx_CD 190 := mx_CDi 7 98 rfl
theorem mx_cd191 : mx_CD 191 := mx_CDi 7 94 rfl
theorem mx_cd192 : mx_CD 192 := mx_CDi 7 70 rfl
theorem mx_cd193 : mx_CD 193 := mx_CDi 7 121 rfl
theorem mx_cd194 : mx_CD 194 := mx_CDi 7 66 rfl
theorem mx_cd195 : mx_CD 195 := mx_CDi 7 138 rfl
theorem mx_cd196 : mx_CD 196 := mx_CDi 7 125 rfl
theorem mx_cd197 : mx_CD 197 := mx_CDi 7 142 rfl
theorem mx_cd198 : mx_CD 198 := mx_CDi 7 150 rfl
theorem mx_cd199 : mx_CD 199 := mx_CDi 7 158 rfl
theorem mx_cd200 : mx_CD 200 := mx_CDi 7 154 rfl
theorem mx_cd201 : mx_CD 201 := mx_CDi 7 146 rfl
theorem mx_cd202 : mx_CD 202 := mx_CDi 7 162 rfl
theorem mx_cd203 : mx_CD 203 := mx_CDi 7 166 rfl
theorem mx_cd204 : mx_CD 204 := mx_CDi 7 173 rfl
theorem mx_cd205 : mx_CD 205 := mx_CDi 7 177 rfl
theorem mx_cd206 : mx_CD 206 := mx_CDi 7 181 rfl
theorem mx_cd207 : mx_CD 207 := mx_CDi 7 198 rfl
theorem mx_cd208 : mx_CD 208 := mx_CDi 7 195 rfl
theorem mx_cd209 : mx_CD 209 := mx_CDi 7 210 rfl
theorem mx_cd210 : mx_CD 210 := mx_CDi 7 217 rfl
theorem mx_cd211 : mx_CD 211 := mx_CDi 7 213 rfl
theorem mx_cd212 : mx_CD 212 := mx_CDi 7 206 rfl
theorem mx_cd213 : mx_CD 213 := mx_CDi 7 202 rfl
theorem mx_cd214 : mx_CD 214 := mx_CDi 7 221 rfl
theorem mx_cd215 : mx_CD 215 := mx_CDi 7 191 rfl
theorem mx_cd216 : mx_CD 216 := mx_CDi 7 188 rfl
theorem mx_cd217 : mx_CD 217 := mx_CDi 7 225 rfl
theorem mx_cd218 : mx_CD 218 := mx_CDi 7 238 rfl
theorem mx_cd219 : mx_CD 219 := mx_CDi 8 2 rfl
theorem mx_cd220 : mx_CD 220 := mx_CDi 7 234 rfl
theorem mx_cd221 : mx_CD 221 := mx_CDi 7 230 rfl
theorem mx_cd222 : mx_CD 222 := mx_CDi 8 6 rfl
theorem mx_cd223 : mx_CD 223 := mx_CDi 8 10 rfl
theorem mx_cd224 : mx_CD 224 := mx_CDi 8 14 rfl
theorem mx_cd225 : mx_CD 225 := mx_CDi 8 22 rfl
theorem mx_cd226 : mx_CD 226 := mx_CDi 8 18 rfl
theorem mx_cd227 : mx_CD 227 := mx_CDi 8 38 rfl
theorem mx_cd228 : mx_CD 228 := mx_CDi 8 42 rfl
theorem mx_cd229 : mx_CD 229 := mx_CDi 8 34 rfl
theorem mx_cd230 : mx_CD 230 := mx_CDi 8 30 rfl
theorem mx_cd231 : mx_CD 231 := mx_CDi 8 26 rfl
theorem mx_cd232 : mx_CD 232 := mx_CDi 8 46 rfl
theorem mx_cd233 : mx_CD 233 := mx_CDi 8 54 rfl
theorem mx_cd234 : mx_CD 234 := mx_CDi 8 50 rfl
theorem mx_cd235 : mx_CD 235 := mx_CDi 8 70 rfl
theorem mx_cd236 : mx_CD 236 := mx_CDi 8 66 rfl
theorem mx_cd237 : mx_CD 237 := mx_CDi 8 62 rfl
theorem mx_cd238 : mx_CD 238 := mx_CDi 8 58 rfl
theorem mx_cd239 : mx_CD 239 := mx_CDi 8 74 rfl
theorem mx_cd240 : mx_CD 240 := mx_CDi 8 78 rfl
theorem mx_cd241 : mx_CD 241 := mx_CDi 8 86 rfl
theorem mx_cd242 : mx_CD 242 := mx_CDi 8 82 rfl
theorem mx_cd243 : mx_CD 243 := mx_CDi 8 98 rfl
theorem mx_cd244 : mx_CD 244 := mx_CDi 8 105 rfl
theorem mx_cd245 : mx_CD 245 := mx_CDi 8 94 rfl
theorem mx_cd246 : mx_CD 246 := mx_CDi 8 90 rfl
theorem mx_cd247 : mx_CD 247 := mx_CDi 8 109 rfl
theorem mx_cd248 : mx_CD 248 := mx_CDi 8 113 rfl
theorem mx_cd249 : mx_CD 249 := mx_CDi 8 117 rfl
theorem mx_cd250 : mx_CD 250 := mx_CDi 8 129 rfl
theorem mx_cd251 : mx_CD 251 := mx_CDi 8 125 rfl
theorem mx_cd252 : mx_CD 252 := mx_CDi 8 121 rfl
theorem mx_cd253 : mx_CD 253 := mx_CDi 8 133 rfl
theorem mx_cd254 : mx_CD 254 := mx_CDi 8 137 rfl
theorem mx_cd255 : mx_CD 255 := mx_CDi 8 144 rfl
theorem mx_cd256 : mx_CD 256 := mx_CDi 8 141 rfl
theorem mx_cd257 : mx_CD 257 := mx_CDi 8 152 rfl
theorem mx_cd258 : mx_CD 258 := mx_CDi 8 156 rfl
theorem mx_cd259 : mx_CD 259 := mx_CDi 8 148 rfl
theorem mx_cd260 : mx_CD 260 := mx_CDi 8 160 rfl
theorem mx_cd261 : mx_CD 261 := mx_CDi 8 164 rfl
theorem mx_cd262 : mx_CD 262 := mx_CDi 8 168 rfl
theorem mx_cd263 : mx_CD 263 := mx_CDi 8 172 rfl
theorem mx_cd264 : mx_CD 264 := mx_CDi 8 183 rfl
theorem mx_cd265 : mx_CD 265 := mx_CDi 8 186 rfl
theorem mx_cd266 : mx_CD 266 := mx_CDi 8 176 rfl
theorem mx_cd267 : mx_CD 267 := mx_CDi 8 203 rfl
theorem mx_cd268 : mx_CD 268 := mx_CDi 8 207 rfl
theorem mx_cd269 : mx_CD 269 := mx_CDi 8 199 rfl
theorem mx_cd270 : mx_CD 270 := mx_CDi 8 195 rfl
theorem mx_cd271 : mx_CD 271 := mx_CDi 8 191 rfl
theorem mx_cd272 : mx_CD 272 := mx_CDi 8 214 rfl
theorem mx_cd273 : mx_CD 273 := mx_CDi 8 218 rfl
theorem mx_cd274 : mx_CD 274 := mx_CDi 8 222 rfl
theorem mx_cd275 : mx_CD 275 := mx_CDi 8 230 rfl
theorem mx_cd276 : mx_CD 276 := mx_CDi 8 234 rfl
theorem mx_cd277 : mx_CD 277 := mx_CDi 8 226 rfl
theorem mx_cd278 : mx_CD 278 := mx_CDi 9 6 rfl
theorem mx_cd279 : mx_CD 279 := mx_CDi 9 2 rfl
theorem mx_cd280 : mx_CD 280 := mx_CDi 8 238 rfl
theorem mx_cd281 : mx_CD 281 := mx_CDi 9 14 rfl
theorem mx_cd282 : mx_CD 282 := mx_CDi 9 10 rfl
theorem mx_cd283 : mx_CD 283 := mx_CDi 9 26 rfl
theorem mx_cd284 : mx_CD 284 := mx_CDi 9 33 rfl
theorem mx_cd285 : mx_CD 285 := mx_CDi 9 18 rfl
theorem mx_cd286 : mx_CD 286 := mx_CDi 9 37 rfl
theorem mx_cd287 : mx_CD 287 := mx_CDi 9 45 rfl
theorem mx_cd288 : mx_CD 288 := mx_CDi 9 41 rfl
theorem mx_cd289 : mx_CD 289 := mx_CDi 9 30 rfl
theorem mx_cd290 : mx_CD 290 := mx_CDi 9 53 rfl
theorem mx_cd291 : mx_CD 291 := mx_CDi 9 49 rfl
theorem mx_cd292 : mx_CD 292 := mx_CDi 9 61 rfl
theorem mx_cd293 : mx_CD 293 := mx_CDi 9 57 rfl
theorem mx_cd294 : mx_CD 294 := mx_CDi 9 73 rfl
theorem mx_cd295 : mx_CD 295 := mx_CDi 9 69 rfl
theorem mx_cd296 : mx_CD 296 := mx_CDi 9 65 rfl
theorem mx_cd297 : mx_CD 297 := mx_CDi 9 22 rfl
theorem mx_cd298 : mx_CD 298 := mx_CDi 9 77 rfl
theorem mx_cd299 : mx_CD 299 := mx_CDi 9 81 rfl
theorem mx_cd300 : mx_CD 300 := mx_CDi 8 179 rfl
theorem mx_cd301 : mx_CD 301 := mx_CDi 9 85 rfl
theorem mx_cd302 : mx_CD 302 := mx_CDi 9 89 rfl
theorem mx_cd303 : mx_CD 303 := mx_CDi 9 97 rfl
theorem mx_cd304 : mx_CD 304 := mx_CDi 9 93 rfl
theorem mx_cd305 : mx_CD 305 := mx_CDi 9 101 rfl
theorem mx_cd306 : mx_CD 306 := mx_CDi 9 105 rfl
theorem mx_cd307 : mx_CD 307 := mx_CDi 9 109 rfl
theorem mx_cd308 : mx_CD 308 := mx_CDi 5 48 rfl
theorem mx_cd309 : mx_CD 309 := mx_CDi 5 93 rfl
theorem mx_cd316 : mx_CD 316 := mx_CDi 5 204 rfl
theorem mx_cd317 : mx_CD 317 := mx_CDi 3 34 rfl
theorem mx_cds0 : ∀ i ∈ ([1, 2, 3, 4, 5, 6, 7, 8, 9, 10, 11, 12, 13, 14, 15, 16, 17, 18, 19, 20, 21, 22, 23, 24, 25, 26, 27, 28, 29, 30, 31, 32, 33, 34, 35, 36, 37, 38, 39] : List Nat), mx_CD i := (List.forall_mem_cons.mpr ⟨mx_cd1, (List.forall_mem_cons.mpr ⟨mx_cd2, (List.forall_mem_cons.mpr ⟨mx_cd3, (List.forall_mem_cons.mpr ⟨mx_cd4, (List.forall_mem_cons.mpr ⟨mx_cd5, (List.forall_mem_cons.mpr ⟨mx_cd6, (List.forall_mem_cons.mpr ⟨mx_cd7, (List.forall_mem_cons.mpr ⟨mx_cd8, (List.forall_mem_cons.mpr ⟨mx_cd9, (List.forall_mem_cons.mpr ⟨mx_cd10, (List.forall_mem_cons.mpr ⟨mx_cd11, (List.forall_mem_cons.mpr ⟨mx_cd12, (List.forall_mem_cons.mpr ⟨mx_cd13, (List.forall_mem_cons.mpr ⟨mx_cd14, (List.forall_mem_cons.mpr ⟨mx_cd15, (List.forall_mem_cons.mpr ⟨mx_cd16, (List.forall_mem_cons.mpr ⟨mx_cd17, (List.forall_mem_cons.mpr ⟨mx_cd18, (List.forall_mem_cons.mpr ⟨mx_cd19, (List.forall_mem_cons.mpr ⟨mx_cd20, (List.forall_mem_cons.mpr ⟨mx_cd21, (List.forall_mem_cons.mpr ⟨mx_cd22, (List.forall_mem_cons.mpr ⟨mx_cd23, (List.forall_mem_cons.mpr ⟨mx_cd24, (List.forall_mem_cons.mpr ⟨mx_cd25, (List.forall_mem_cons.mpr ⟨mx_cd26, (List.forall_mem_cons.mpr ⟨mx_cd27, (List.forall_mem_cons.mpr ⟨mx_cd28, (List.forall_mem_cons.mpr ⟨mx_cd29, (List.forall_mem_cons.mpr ⟨mx_cd30, (List.forall_mem_cons.mpr ⟨mx_cd31, (List.forall_mem_cons.mpr ⟨mx_cd32, (List.forall_mem_cons.mpr ⟨mx_cd33, (List.forall_mem_cons.mpr ⟨mx_cd34, (List.forall_mem_cons.mpr ⟨mx_cd35, (List.forall_mem_cons.mpr ⟨mx_cd36, (List.forall_mem_cons.mpr ⟨mx_cd37, (List.forall_mem_cons.mpr ⟨mx_cd38, (List.forall_mem_cons.mpr ⟨mx_cd39, (fun _ h => absurd h List.not_mem_nil)⟩)⟩)⟩)⟩)⟩)⟩)⟩)⟩)⟩)⟩)⟩)⟩)⟩)⟩)⟩)⟩)⟩)⟩)⟩)⟩)⟩)⟩)⟩)⟩)⟩)⟩)⟩)⟩)⟩)⟩)⟩)⟩)⟩)⟩)⟩)⟩)⟩)⟩)⟩)
theorem mx_MKa0 : ∀ i, i < 40 → mx_iM (0 + i) = true → mx_MKc (0 + i) (mx_pM (0 + i)).2 = true ∧ (0 + i) ∈ ([1, 2, 3, 4, 5, 6, 7, 8, 9, 10, 11, 12, 13, 14, 15, 16, 17, 18, 19, 20, 21, 22, 23, 24, 25, 26, 27, 28, 29, 30, 31, 32, 33, 34, 35, 36, 37, 38, 39] : List Nat) := by decide +kernel
theorem mx_cds40 : ∀ i ∈ ([40, 41, 42, 43, 44, 45, 46, 47, 48, 49, 50, 51, 52, 53, 54, 55, 56, 57, 58, 59, 60, 61, 62, 63, 64, 65, 66, 67, 68, 69, 70, 71, 72, 73, 74, 75, 76, 77, 78, 79] : List Nat), mx_CD i := (List.forall_mem_cons.mpr ⟨mx_cd40, (List.forall_mem_cons.mpr ⟨mx_cd41, (List.forall_mem_cons.mpr ⟨mx_cd42, (List.forall_mem_cons.mpr ⟨mx_cd43, (List.forall_mem_cons.mpr ⟨mx_cd44, (List.forall_mem_cons.mpr ⟨mx_cd45, (List.forall_mem_cons.mpr ⟨mx_cd46, (List.forall_mem_cons.mpr ⟨mx_cd47, (List.forall_mem_cons.mpr ⟨mx_cd48, (List.forall_mem_cons.mpr ⟨mx_cd49, (List.forall_mem_cons.mpr ⟨mx_cd50, (List.forall_mem_cons.mpr ⟨mx_cd51, (List.forall_mem_cons.mpr ⟨mx_cd52, (List.forall_mem_cons.mpr ⟨mx_cd53, (List.forall_mem_cons.mpr ⟨mx_cd54, (List.forall_mem_cons.mpr ⟨mx_cd55, (List.forall_mem_cons.mpr ⟨mx_cd56, (List.forall_mem_cons.mpr ⟨mx_cd57, (List.forall_mem_cons.mpr ⟨mx_cd58, (List.forall_mem_cons.mpr ⟨mx_cd59, (List.forall_mem_cons.mpr ⟨mx_cd60, (List.forall_mem_cons.mpr ⟨mx_cd61, (List.forall_mem_cons.mpr ⟨mx_cd62, (List.forall_mem_cons.mpr ⟨mx_cd63, (List.forall_mem_cons.mpr ⟨mx_cd64, (List.forall_mem_cons.mpr ⟨mx_cd65, (List.forall_mem_cons.mpr ⟨mx_cd66, (List.forall_mem_cons.mpr ⟨mx_cd67, (List.forall_mem_cons.mpr ⟨mx_cd68, (List.forall_mem_cons.mpr ⟨mx_cd69, (List.forall_mem_cons.mpr ⟨mx_cd70, (List.forall_mem_cons.mpr ⟨mx_cd71, (List.forall_mem_cons.mpr ⟨mx_cd72, (List.forall_mem_cons.mpr ⟨mx_cd73, (List.forall_mem_cons.mpr ⟨mx_cd74, (List.forall_mem_cons.mpr ⟨mx_cd75, (List.forall_mem_cons.mpr ⟨mx_cd76, (List.forall_mem_cons.mpr ⟨mx_cd77, (List.forall_mem_cons.mpr ⟨mx_cd78, (List.forall_mem_cons.mpr ⟨mx_cd79, (fun _ h => absurd h List.not_mem_nil)⟩)⟩)⟩)⟩)⟩)⟩)⟩)⟩)⟩)⟩)⟩)⟩)⟩)⟩)⟩)⟩)⟩)⟩)⟩)⟩)⟩)⟩)⟩)⟩)⟩)⟩)⟩)⟩)⟩)⟩)⟩)⟩)⟩)⟩)⟩)⟩)⟩)⟩)⟩)⟩)
theorem mx_MKa40 : ∀ i, i < 40 → mx_iM (40 + i) = true → mx_MKc (40 + i) (mx_pM (40 + i)).2 = true ∧ (40 + i) ∈ ([40, 41, 42, 43, 44, 45, 46, 47, 48, 49, 50, 51, 52, 53, 54, 55, 56, 57, 58, 59, 60, 61, 62, 63, 64, 65, 66, 67, 68, 69, 70, 71, 72, 73, 74, 75, 76, 77, 78, 79] : List Nat) := by decide +kernel
theorem mx_cds80 : ∀ i ∈ ([80, 81, 82, 83, 84, 85, 86, 87, 88, 89, 90, 91, 92, 93, 94, 95, 96, 97, 98, 99, 100, 101, 102, 103, 104, 105, 106, 107, 108, 109, 110, 111, 112, 113, 114, 115, 116, 117, 118, 119] : List Nat), mx_CD i := (List.forall_mem_cons.mpr ⟨mx_cd80, (List.forall_mem_cons.mpr ⟨mx_cd81, (List.forall_mem_cons.mpr ⟨mx_cd82, (List.forall_mem_cons.mpr ⟨mx_cd83, (List.forall_mem_cons.mpr ⟨mx_cd84, (List.forall_mem_cons.mpr ⟨mx_cd85, (List.forall_mem_cons.mpr ⟨mx_cd86, (List.forall_mem_cons.mpr ⟨mx_cd87, (List.forall_mem_cons.mpr ⟨mx_cd88, (List.forall_mem_cons.mpr ⟨mx_cd89, (List.forall_mem_cons.mpr ⟨mx_cd90, (List.forall_mem_cons.mpr ⟨mx_cd91, (List.forall_mem_cons.mpr ⟨mx_cd92, (List.forall_mem_cons.mpr ⟨mx_cd93, (List.forall_mem_cons.mpr ⟨mx_cd94, (List.forall_mem_cons.mpr ⟨mx_cd95, (List.forall_mem_cons.mpr ⟨mx_cd96, (List.forall_mem_cons.mpr ⟨mx_cd97, (List.forall_mem_cons.mpr ⟨mx_cd98, (List.forall_mem_cons.mpr ⟨mx_cd99, (List.forall_mem_cons.mpr ⟨mx_cd100, (List.forall_mem_cons.mpr ⟨mx_cd101, (List.forall_mem_cons.mpr ⟨mx_cd102, (List.forall_mem_cons.mpr ⟨mx_cd103, (List.forall_mem_cons.mpr ⟨mx_cd104, (List.forall_mem_cons.mpr ⟨mx_cd105, (List.forall_mem_cons.mpr ⟨mx_cd106, (List.forall_mem_cons.mpr ⟨mx_cd107, (List.forall_mem_cons.mpr ⟨mx_cd108, (List.forall_mem_cons.mpr ⟨mx_cd109, (List.forall_mem_cons.mpr ⟨mx_cd110, (List.forall_mem_cons.mpr ⟨mx_cd111, (List.forall_mem_cons.mpr ⟨mx_cd112, (List.forall_mem_cons.mpr ⟨mx_cd113, (List.forall_mem_cons.mpr ⟨mx_cd114, (List.forall_mem_cons.mpr ⟨mx_cd115, (List.forall_mem_cons.mpr ⟨mx_cd116, (List.forall_mem_cons.mpr ⟨mx_cd117, (List.forall_mem_cons.mpr ⟨mx_cd118, (List.forall_mem_cons.mpr ⟨mx_cd119, (fun _ h => absurd h List.not_mem_nil)⟩)⟩)⟩)⟩)⟩)⟩)⟩)⟩)⟩)⟩)⟩)⟩)⟩)⟩)⟩)⟩)⟩)⟩)⟩)⟩)⟩)⟩)⟩)⟩)⟩)⟩)⟩)⟩)⟩)⟩)⟩)⟩)⟩)⟩)⟩)⟩)⟩)⟩)⟩)⟩)
theorem mx_MKa80 : ∀ i, i < 40 → mx_iM (80 + i) = true → mx_MKc (80 + i) (mx_pM (80 + i)).2 = true ∧ (80 + i) ∈ ([80, 81, 82, 83, 84, 85, 86, 87, 88, 89, 90, 91, 92, 93, 94, 95, 96, 97, 98, 99, 100, 101, 102, 103, 104, 105, 106, 107, 108, 109, 110, 111, 112, 113, 114, 115, 116, 117, 118, 119] : List Nat) := by decide +kernel
theorem mx_cds120 : ∀ i ∈ ([120, 121, 122, 123, 124, 125, 126, 127, 128, 129, 130, 131, 132, 133, 134, 135, 136, 137, 138, 139, 140, 141, 142, 143, 144, 145, 146, 147, 148, 149, 150, 151, 152, 153, 154, 155, 156, 157, 158, 159] : List Nat), mx_CD i := (List.forall_mem_cons.mpr ⟨mx_cd120, (List.forall_mem_cons.mpr ⟨mx_cd121, (List.forall_mem_cons.mpr ⟨mx_cd122, (List.forall_mem_cons.mpr ⟨mx_cd123, (List.forall_mem_cons.mpr ⟨mx_cd124, (List.forall_mem_cons.mpr ⟨mx_cd125, (List.forall_mem_cons.mpr ⟨mx_cd126, (List.forall_mem_cons.mpr ⟨mx_cd127, (List.forall_mem_cons.mpr ⟨mx_cd128, (List.forall_mem_cons.mpr ⟨mx_cd129, (List.forall_mem_cons.mpr ⟨mx_cd130, (List.forall_mem_cons.mpr ⟨mx_cd131, (List.forall_mem_cons.mpr ⟨mx_cd132, (List.forall_mem_cons.mpr ⟨mx_cd133, (List.forall_mem_cons.mpr ⟨mx_cd134, (List.forall_mem_cons.mpr ⟨mx_cd135, (List.forall_mem_cons.mpr ⟨mx_cd136, (List.forall_mem_cons.mpr ⟨mx_cd137, (List.forall_mem_cons.mpr ⟨mx_cd138, (List.forall_mem_cons.mpr ⟨mx_cd139, (List.forall_mem_cons.mpr ⟨mx_cd140, (List.forall_mem_cons.mpr ⟨mx_cd141, (List.forall_mem_cons.mpr ⟨mx_cd142, (List.forall_mem_cons.mpr ⟨mx_cd143, (List.forall_mem_cons.mpr ⟨mx_cd144, (List.forall_mem_cons.mpr ⟨mx_cd145, (List.forall_mem_cons.mpr ⟨mx_cd146, (List.forall_mem_cons.mpr ⟨mx_cd147, (List.forall_mem_cons.mpr ⟨mx_cd148, (List.forall_mem_cons.mpr ⟨mx_cd149, (List.forall_mem_cons.mpr ⟨mx_cd150, (List.forall_mem_cons.mpr ⟨mx_cd151, (List.forall_mem_cons.mpr ⟨mx_cd152, (List.forall_mem_cons.mpr ⟨mx_cd153, (List.forall_mem_cons.mpr ⟨mx_cd154, (List.forall_mem_cons.mpr ⟨mx_cd155, (List.forall_mem_cons.mpr ⟨mx_cd156, (List.forall_mem_cons.mpr ⟨mx_cd157, (List.forall_mem_cons.mpr ⟨mx_cd158, (List.forall_mem_cons.mpr ⟨mx_cd159, (fun _ h => absurd h List.not_mem_nil)⟩)⟩)⟩)⟩)⟩)⟩)⟩)⟩)⟩)⟩)⟩)⟩)⟩)⟩)⟩)⟩)⟩)⟩)⟩)⟩)⟩)⟩)⟩)⟩)⟩)⟩)⟩)⟩)⟩)⟩)⟩)⟩)⟩)⟩)⟩)⟩)⟩)⟩)⟩)⟩)
theorem mx_MKa120 : ∀ i, i < 40 → mx_iM (120 + i) = true → mx_MKc (120 + i) (mx_pM (120 + i)).2 = true ∧ (120 + i) ∈ ([120, 121, 122, 123, 124, 125, 126, 127, 128, 129, 130, 131, 132, 133, 134, 135, 136, 137, 138, 139, 140, 141, 142, 143, 144, 145, 146, 147, 148, 149, 150, 151, 152, 153, 154, 155, 156, 157, 158, 159] : List Nat) := by decide +kernel
theorem mx_cds160 : ∀ i ∈ ([160, 161, 162, 163, 164, 165, 166, 167, 168, 169, 170, 171, 172, 173, 174, 175, 176, 177, 178, 179, 180, 181, 182, 183, 184, 185, 186, 187, 188, 189, 190, 191, 192, 193, 194, 195, 196, 197, 198, 199] : List Nat), mx_CD i := (List.forall_mem_cons.mpr ⟨mx_cd160, (List.forall_mem_cons.mpr ⟨mx_cd161, (List.forall_mem_cons.mpr ⟨mx_cd162, (List.forall_mem_cons.mpr ⟨mx_cd163, (List.forall_mem_cons.mpr ⟨mx_cd164, (List.forall_mem_cons.mpr ⟨mx_cd165, (List.forall_mem_cons.mpr ⟨mx_cd166, (List.forall_mem_cons.mpr ⟨mx_cd167, (List.forall_mem_cons.mpr ⟨mx_cd168, (List.forall_mem_cons.mpr ⟨mx_cd169, (List.forall_mem_cons.mpr ⟨mx_cd170, (List.forall_mem_cons.mpr ⟨mx_cd171, (List.forall_mem_cons.mpr ⟨mx_cd172, (List.forall_mem_cons.mpr ⟨mx_cd173, (List.forall_mem_cons.mpr ⟨mx_cd174, (List.forall_mem_cons.mpr ⟨mx_cd175, (List.forall_mem_cons.mpr ⟨mx_cd176, (List.forall_mem_cons.mpr ⟨mx_cd177, (List.forall_mem_cons.mpr ⟨mx_cd178, (List.forall_mem_cons.mpr ⟨mx_cd179, (List.forall_mem_cons.mpr ⟨mx_cd180, (List.forall_mem_cons.mpr ⟨mx_cd181, (List.forall_mem_cons.mpr ⟨mx_cd182, (List.forall_mem_cons.mpr ⟨mx_cd183, (List.forall_mem_cons.mpr ⟨mx_cd184, (List.forall_mem_cons.mpr ⟨mx_cd185, (List.forall_mem_cons.mpr ⟨mx_cd186, (List.forall_mem_cons.mpr ⟨mx_cd187, (List.forall_mem_cons.mpr ⟨mx_cd188, (List.forall_mem_cons.mpr ⟨mx_cd189, (List.forall_mem_cons.mpr ⟨mx_cd190, (List.forall_mem_cons.mpr ⟨mx_cd191, (List.forall_mem_cons.mpr ⟨mx_cd192, (List.forall_mem_cons.mpr ⟨mx_cd193, (List.forall_mem_cons.mpr ⟨mx_cd194, (List.forall_mem_cons.mpr ⟨mx_cd195, (List.forall_mem_cons.mpr ⟨mx_cd196, (List.forall_mem_cons.mpr ⟨mx_cd197, (List.forall_mem_cons.mpr ⟨mx_cd198, (List.forall_mem_cons.mpr ⟨mx_cd199, (fun _ h => absurd h List.not_mem_nil)⟩)⟩)⟩)⟩)⟩)⟩)⟩)⟩)⟩)⟩)⟩)⟩)⟩)⟩)⟩)⟩)⟩)⟩)⟩)⟩)⟩)⟩)⟩)⟩)⟩)⟩)⟩)⟩)⟩)⟩)⟩)⟩)⟩)⟩)⟩)⟩)⟩)⟩)⟩)⟩)
theorem mx_MKa160 : ∀ i, i < 40 → mx_iM (160 + i) = true → mx_MKc (160 + i) (mx_pM (160 + i)).2 = true ∧ (160 + i) ∈ ([160, 161, 162, 163, 164, 165, 166, 167, 168, 169, 170, 171, 172, 173, 174, 175, 176, 177, 178, 179, 180, 181, 182, 183, 184, 185, 186, 187, 188, 189, 190, 191, 192, 193, 194, 195, 196, 197, 198, 199] : List Nat) := by decide +kernel
theorem mx_cds200 : ∀ i ∈ ([200, 201, 202, 203, 204, 205, 206, 207, 208, 209, 210, 211, 212, 213, 214, 215, 216, 217, 218, 219, 220, 221, 222, 223, 224, 225, 226, 227, 228, 229, 230, 231, 232, 233, 234, 235, 236, 237, 238, 239] : List Nat), mx_CD i := (List.forall_mem_cons.mpr ⟨mx_cd200, (List.forall_mem_cons.mpr ⟨mx_cd201, (List.forall_mem_cons.mpr ⟨mx_cd202, (List.forall_mem_cons.mpr ⟨mx_cd203, (List.forall_mem_cons.mpr ⟨mx_cd204, (List.forall_mem_cons.mpr ⟨mx_cd205, (List.forall_mem_cons.mpr ⟨mx_cd206, (List.forall_mem_cons.mpr ⟨mx_cd207, (List.forall_mem_cons.mpr ⟨mx_cd208, (List.forall_mem_cons.mpr ⟨mx_cd209, (List.forall_mem_cons.mpr ⟨mx_cd210, (List.forall_mem_cons.mpr ⟨mx_cd211, (List.forall_mem_cons.mpr ⟨mx_cd212, (List.forall_mem_cons.mpr ⟨mx_cd213, (List.forall_mem_cons.mpr ⟨mx_cd214, (List.forall_mem_cons.mpr ⟨mx_cd215, (List.forall_mem_cons.mpr ⟨mx_cd216, (List.forall_mem_cons.mpr ⟨mx_cd217, (List.forall_mem_cons.mpr ⟨mx_cd218, (List.forall_mem_cons.mpr ⟨mx_cd219, (List.forall_mem_cons.mpr ⟨mx_cd220, (List.forall_mem_cons.mpr ⟨mx_cd221, (List.forall_mem_cons.mpr ⟨mx_cd222, (List.forall_mem_cons.mpr ⟨mx_cd223, (List.forall_mem_cons.mpr ⟨mx_cd224, (List.forall_mem_cons.mpr ⟨mx_cd225, (List.forall_mem_cons.mpr ⟨mx_cd226, (List.forall_mem_cons.mpr ⟨mx_cd227, (List.forall_mem_cons.mpr ⟨mx_cd228, (List.forall_mem_cons.mpr ⟨mx_cd229, (List.forall_mem_cons.mpr ⟨mx_cd230, (List.forall_mem_cons.mpr ⟨mx_cd231, (List.forall_mem_cons.mpr ⟨mx_cd232, (List.forall_mem_cons.mpr ⟨mx_cd233, (List.forall_mem_cons.mpr ⟨mx_cd234, (List.forall_mem_cons.mpr ⟨mx_cd235, (List.forall_mem_cons.mpr ⟨mx_cd236, (List.forall_mem_cons.mpr ⟨mx_cd237, (List.forall_mem_cons.mpr ⟨mx_cd238, (List.forall_mem_cons.mpr ⟨mx_cd239, (fun _ h => absurd h List.not_mem_nil)⟩)⟩)⟩)⟩)⟩)⟩)⟩)⟩)⟩)⟩)⟩)⟩)⟩)⟩)⟩)⟩)⟩)⟩)⟩)⟩)⟩)⟩)⟩)⟩)⟩)⟩)⟩)⟩)⟩)⟩)⟩)⟩)⟩)⟩)⟩)⟩)⟩)⟩)⟩)⟩)
theorem mx_MKa200 : ∀ i, i < 40 → mx_iM (200 + i) = true → mx_MKc (200 + i) (mx_pM (200 + i)).2 = true ∧ (200 + i) ∈ ([200, 201, 202, 203, 204, 205, 206, 207, 208, 209, 210, 211, 212, 213, 214, 215, 216, 217, 218, 219, 220, 221, 222, 223, 224, 225, 226, 227, 228, 229, 230, 231, 232, 233, 234, 235, 236, 237, 238, 239] : List Nat) := by decide +kernel
theorem mx_cds240 : ∀ i ∈ ([240, 241, 242, 243, 244, 245, 246, 247, 248, 249, 250, 251, 252, 253, 254, 255, 256, 257, 258, 259, 260, 261, 262, 263, 264, 265, 266, 267, 268, 269, 270, 271, 272, 273, 274, 275, 276, 277, 278, 279] : List Nat), mx_CD i := (List.forall_mem_cons.mpr ⟨mx_cd240, (List.forall_mem_cons.mpr ⟨mx_cd241, (List.forall_mem_cons.mpr ⟨mx_cd242, (List.forall_mem_cons.mpr ⟨mx_cd243, (List.forall_mem_cons.mpr ⟨mx_cd244, (List.forall_mem_cons.mpr ⟨mx_cd245, (List.forall_mem_cons.mpr ⟨mx_cd246, (List.forall_mem_cons.mpr ⟨mx_cd247, (List.forall_mem_cons.mpr ⟨mx_cd248, (List.forall_mem_cons.mpr ⟨mx_cd249, (List.forall_mem_cons.mpr ⟨mx_cd250, (List.forall_mem_cons.mpr ⟨mx_cd251, (List.forall_mem_cons.mpr ⟨mx_cd252, (List.forall_mem_cons.mpr ⟨mx_cd253, (List.forall_mem_cons.mpr ⟨mx_cd254, (List.forall_mem_cons.mpr ⟨mx_cd255, (List.forall_mem_cons.mpr ⟨mx_cd256, (List.forall_mem_cons.mpr ⟨mx_cd257, (List.forall_mem_cons.mpr ⟨mx_cd258, (List.forall_mem_cons.mpr ⟨mx_cd259, (List.forall_mem_cons.mpr ⟨mx_cd260, (List.forall_mem_cons.mpr ⟨mx_cd261, (List.forall_mem_cons.mpr ⟨mx_cd262, (List.forall_mem_cons.mpr ⟨mx_cd263, (List.forall_mem_cons.mpr ⟨mx_cd264, (List.forall_mem_cons.mpr ⟨mx_cd265, (List.forall_mem_cons.mpr ⟨mx_cd266, (List.forall_mem_cons.mpr ⟨mx_cd267, (List.forall_mem_cons.mpr ⟨mx_cd268, (List.forall_mem_cons.mpr ⟨mx_cd269, (List.forall_mem_cons.mpr ⟨mx_cd270, (List.forall_mem_cons.mpr ⟨mx_cd271, (List.forall_mem_cons.mpr ⟨mx_cd272, (List.forall_mem_cons.mpr ⟨mx_cd273, (List.forall_mem_cons.mpr ⟨mx_cd274, (List.forall_mem_cons.mpr ⟨mx_cd275, (List.forall_mem_cons.mpr ⟨mx_cd276, (List.forall_mem_cons.mpr ⟨mx_cd277, (List.forall_mem_cons.mpr ⟨mx_cd278, (List.forall_mem_cons.mpr ⟨mx_cd279, (fun _ h => absurd h List.not_mem_nil)⟩)⟩)⟩)⟩)⟩)⟩)⟩)⟩)⟩)⟩)⟩)⟩)⟩)⟩)⟩)⟩)⟩)⟩)⟩)⟩)⟩)⟩)⟩)⟩)⟩)⟩)⟩)⟩)⟩)⟩)⟩)⟩)⟩)⟩)⟩)⟩)⟩)⟩)⟩)⟩)
theorem mx_MKa240 : ∀ i, i < 40 → mx_iM (240 + i) = true → mx_MKc (240 + i) (mx_pM (240 + i)).2 = true ∧ (240 + i) ∈ ([240, 241, 242, 243, 244, 245, 246, 247, 248, 249, 250, 251, 252, 253, 254, 255, 256, 257, 258, 259, 260, 261, 262, 263, 264, 265, 266, 267, 268, 269, 270, 271, 272, 273, 274, 275, 276, 277, 278, 279] : List Nat) := by decide +kernel
theorem mx_cds280 : ∀ i ∈ ([280, 281, 282, 283, 284, 285, 286, 287, 288, 289, 290, 291, 292, 293, 294, 295, 296, 297, 298, 299, 300, 301, 302, 303, 304, 305, 306, 307, 308, 309, 316, 317] : List Nat), mx_CD i := (List.forall_mem_cons.mpr ⟨mx_cd280, (List.forall_mem_cons.mpr ⟨mx_cd281, (List.forall_mem_cons.mpr ⟨mx_cd282, (List.forall_mem_cons.mpr ⟨mx_cd283, (List.forall_mem_cons.mpr ⟨mx_cd284, (List.forall_mem_cons.mpr ⟨mx_cd285, (List.forall_mem_cons.mpr ⟨mx_cd286, (List.forall_mem_cons.mpr ⟨mx_cd287, (List.forall_mem_cons.mpr ⟨mx_cd288, (List.forall_mem_cons.mpr ⟨mx_cd289, (List.forall_mem_cons.mpr ⟨mx_cd290, (List.forall_mem_cons.mpr ⟨mx_cd291, (List.forall_mem_cons.mpr ⟨mx_cd292, (List.forall_mem_cons.mpr ⟨mx_cd293, (List.forall_mem_cons.mpr ⟨mx_cd294, (List.forall_mem_cons.mpr ⟨mx_cd295, (List.forall_mem_cons.mpr ⟨mx_cd296, (List.forall_mem_cons.mpr ⟨mx_cd297, (List.forall_mem_cons.mpr ⟨mx_cd298, (List.forall_mem_cons.mpr ⟨mx_cd299, (List.forall_mem_cons.mpr ⟨mx_cd300, (List.forall_mem_cons.mpr ⟨mx_cd301, (List.forall_mem_cons.mpr ⟨mx_cd302, (List.forall_mem_cons.mpr ⟨mx_cd303, (List.forall_mem_cons.mpr ⟨mx_cd304, (List.forall_mem_cons.mpr ⟨mx_cd305, (List.forall_mem_cons.mpr ⟨mx_cd306, (List.forall_mem_cons.mpr ⟨mx_cd307, (List.forall_mem_cons.mpr ⟨mx_cd308, (List.forall_mem_cons.mpr ⟨mx_cd309, (List.forall_mem_cons.mpr ⟨mx_cd316, (List.forall_mem_cons.mpr ⟨mx_cd317, (fun _ h => absurd h List.not_mem_nil)⟩)⟩)⟩)⟩)⟩)⟩)⟩)⟩)⟩)⟩)⟩)⟩)⟩)⟩)⟩)⟩)⟩)⟩)⟩)⟩)⟩)⟩)⟩)⟩)⟩)⟩)⟩)⟩)⟩)⟩)⟩)⟩)
theorem mx_MKa280 : ∀ i, i < 40 → mx_iM (280 + i) = true → mx_MKc (280 + i) (mx_pM (280 + i)).2 = true ∧ (280 + i) ∈ ([280, 281, 282, 283, 284, 285, 286, 287, 288, 289, 290, 291, 292, 293, 294, 295, 296, 297, 298, 299, 300, 301, 302, 303, 304, 305, 306, 307, 308, 309, 316, 317] : List Nat) := by decide +kernel
theorem mx_MKall {a : Nat} (h : mx_iM a = true) : mx_MK a := by
  have ha : a < 320 := by
    simp only [mx_iM, Bool.and_eq_true, Bool.or_eq_true, Nat.blt_eq] at h
    omega
  have h9 : a < 40 ∨ (40 ≤ a ∧ a < 80) ∨ (80 ≤ a ∧ a < 120) ∨ (120 ≤ a ∧ a < 160) ∨ (160 ≤ a ∧ a < 200) ∨ (200 ≤ a ∧ a < 240) ∨ (240 ≤ a ∧ a < 280) ∨ 280 ≤ a := by omega
  rcases h9 with q | q | q | q | q | q | q | q
  · have e : 0 + (a - 0) = a := by omega
    have h7 := mx_MKa0 (a - 0) (by omega) (by rw [e]; exact h)
    rw [e] at h7
    exact mx_MKc_s (mx_cds0 a h7.2) h7.1
  · have e : 40 + (a - 40) = a := by omega
    have h7 := mx_MKa40 (a - 40) (by omega) (by rw [e]; exact h)
    rw [e] at h7
    exact mx_MKc_s (mx_cds40 a h7.2) h7.1
  · have e : 80 + (a - 80) = a := by omega
    have h7 := mx_MKa80 (a - 80) (by omega) (by rw [e]; exact h)
    rw [e] at h7
    exact mx_MKc_s (mx_cds80 a h7.2) h7.1
  · have e : 120 + (a - 120) = a := by omega
    have h7 := mx_MKa120 (a - 120) (by omega) (by rw [e]; exact h)
    rw [e] at h7
    exact mx_MKc_s (mx_cds120 a h7.2) h7.1
  · have e : 160 + (a - 160) = a := by omega
    have h7 := mx_MKa160 (a - 160) (by omega) (by rw [e]; exact h)
    rw [e] at h7
    exact mx_MKc_s (mx_cds160 a h7.2) h7.1
  · have e : 200 + (a - 200) = a := by omega
    have h7 := mx_MKa200 (a - 200) (by omega) (by rw [e]; exact h)
    rw [e] at h7
    exact mx_MKc_s (mx_cds200 a h7.2) h7.1
  · have e : 240 + (a - 240) = a := by omega
    have h7 := mx_MKa240 (a - 240) (by omega) (by rw [e]; exact h)
    rw [e] at h7
    exact mx_MKc_s (mx_cds240 a h7.2) h7.1
  · have e : 280 + (a - 280) = a := by omega
    have h7 := mx_MKa280 (a - 280) (by omega) (by rw [e]; exact h)
    rw [e] at h7
    exact mx_MKc_s (mx_cds280 a h7.2) h7.1
theorem mx_fo0 : ∀ j, j < (mx_cr 0).2.2 → mx_fok 0 j := fun j hj => mx_fokb_s ((by decide +kernel : ∀ j, j < (mx_cr 0).2.2 → mx_fokb 0 j = true) j hj)
theorem mx_fo1 : ∀ j, j < (mx_cr 1).2.2 → mx_fok 1 j := fun j hj => mx_fokb_s ((by decide +kernel : ∀ j, j < (mx_cr 1).2.2 → mx_fokb 1 j = true) j hj)
theorem mx_fo2 : ∀ j, j < (mx_cr 2).2.2 → mx_fok 2 j := fun j hj => mx_fokb_s ((by decide +kernel : ∀ j, j < (mx_cr 2).2.2 → mx_fokb 2 j = true) j hj)
theorem mx_fo3 : ∀ j, j < (mx_cr 3).2.2 → mx_fok 3 j := fun j hj => mx_fokb_s ((by decide +kernel : ∀ j, j < (mx_cr 3).2.2 → mx_fokb 3 j = true) j hj)
theorem mx_fo4 : ∀ j, j < (mx_cr 4).2.2 → mx_fok 4 j := fun j hj => mx_fokb_s ((by decide +kernel : ∀ j, j < (mx_cr 4).2.2 → mx_fokb 4 j = true) j hj)
theorem mx_fo5 : ∀ j, j < (mx_cr 5).2.2 → mx_fok 5 j := fun j hj => mx_fokb_s ((by decide +kernel : ∀ j, j < (mx_cr 5).2.2 → mx_fokb 5 j = true) j hj)
theorem mx_fo6 : ∀ j, j < (mx_cr 6).2.2 → mx_fok 6 j := fun j hj => mx_fokb_s ((by decide +kernel : ∀ j, j < (mx_cr 6).2.2 → mx_fokb 6 j = true) j hj)
theorem mx_fo7 : ∀ j, j < (mx_cr 7).2.2 → mx_fok 7 j := fun j hj => mx_fokb_s ((by decide +kernel : ∀ j, j < (mx_cr 7).2.2 → mx_fokb 7 j = true) j hj)
theorem mx_fo8 : ∀ j, j < (mx_cr 8).2.2 → mx_fok 8 j := fun j hj => mx_fokb_s ((by decide +kernel : ∀ j, j < (mx_cr 8).2.2 → mx_fokb 8 j = true) j hj)
theorem mx_fo9 : ∀ j, j < (mx_cr 9).2.2 → mx_fok 9 j := fun j hj => mx_fokb_s ((by decide +kernel : ∀ j, j < (mx_cr 9).2.2 → mx_fokb 9 j = true) j hj)
theorem mx_fo10 : ∀ j, j < (mx_cr 10).2.2 → mx_fok 10 j := fun j hj => mx_fokb_s ((by decide +kernel : ∀ j, j < (mx_cr 10).2.2 → mx_fokb 10 j = true) j hj)
theorem mx_fo11 : ∀ j, j < (mx_cr 11).2.2 → mx_fok 11 j := fun j hj => mx_fokb_s ((by decide +kernel : ∀ j, j < (mx_cr 11).2.2 → mx_fokb 11 j = true) j hj)
theorem mx_fo12 : ∀ j, j < (mx_cr 12).2.2 → mx_fok 12 j := fun j hj => mx_fokb_s ((by decide +kernel : ∀ j, j < (mx_cr 12).2.2 → mx_fokb 12 j = true) j hj)
theorem mx_fob {ci : Nat} (h : ci < 13) : ∀ j, j < (mx_cr ci).2.2 → mx_fok ci j := by
  rcases (show ci = 0 ∨ ci = 1 ∨ ci = 2 ∨ ci = 3 ∨ ci = 4 ∨ ci = 5 ∨ ci = 6 ∨ ci = 7 ∨ ci = 8 ∨ ci = 9 ∨ ci = 10 ∨ ci = 11 ∨ ci = 12 by omega) with rfl | rfl | rfl | rfl | rfl | rfl | rfl | rfl | rfl | rfl | rfl | rfl | rfl
  · exact mx_fo0
  · exact mx_fo1
  · exact mx_fo2
  · exact mx_fo3
  · exact mx_fo4
  · exact mx_fo5
  · exact mx_fo6
  · exact mx_fo7
  · exact mx_fo8
  · exact mx_fo9
  · exact mx_fo10
  · exact mx_fo11
  · exact mx_fo12
def mx_mwb (o i a p1 p2 p3 p4 : Nat) : Bool := match a with
  | 0 => mx_MWb o i Lib.Math.abs.name Lib.Math.abs.code 1 (some .int) p1 p2 p3 p4
  | 1 => mx_MWb o i Lib.MathLoose.abs_long.x Lib.MathLoose.abs_long.code 2 (some .long) p1 p2 p3 p4
  | 2 => mx_MWb o i Lib.Math.max.name Lib.Math.max.code 2 (some .int) p1 p2 p3 p4
  | 3 => mx_MWb o i Lib.MathLoose.max_long.x Lib.MathLoose.max_long.code 4 (some .long) p1 p2 p3 p4
  | 4 => mx_MWb o i Lib.Math.min.name Lib.Math.min.code 2 (some .int) p1 p2 p3 p4
  | 5 => mx_MWb o i Lib.MathLoose.min_long.x Lib.MathLoose.min_long.code 4 (some .long) p1 p2 p3 p4
  | _ => false
theorem mx_mwb_s {o i a p1 p2 p3 p4 : Nat} (h : mx_mwb o i a p1 p2 p3 p4 = true) : mx_mw o i a := by
  unfold mx_mwb at h
  unfold mx_mw
  split at h
  · exact mx_MWb_s h
  · exact mx_MWb_s h
  · exact mx_MWb_s h
  · exact mx_MWb_s h
  · exact mx_MWb_s h
  · exact mx_MWb_s h
  · cases h
def mx_PLb (o : Nat) (q : mx_L5) (p1 p2 p3 p4 : Nat) : Bool := match q with
  | (0, i, a, b, _) => Nat.blt a 13 && (Nat.blt b (mx_cr a).2.2 && mx_hw p1 (Cond.fieldLink (mx_cn o) i (mx_fT a b).1 (mx_fT a b).2.1 (mx_fT a b).2.2.1))
  | (8, i, a, _, _) => mx_mwb o i a p1 p2 p3 p4
  | (1, i, a, b, z) => mx_iM a && mx_LKb o i a b 0 (Nat.beq z 1) p1 p2 p3
  | (2, i, a, b, _) => mx_iM a && (mx_LKb o i a b 1 false p1 p2 p3 && (Nat.blt (mx_me a).1 13 && decide ((mx_y a).cls = (mx_cr (mx_me a).1).1)))
  | (3, i, a, b, z) => mx_iM a && mx_LKb o i a b 2 (Nat.beq z 1) p1 p2 p3
  | (4, i, a, _, _) => Nat.blt a 13 && (mx_hw p1 (Cond.classLink (mx_cn o) i (mx_cr a).1) && (mx_hw p2 (Cond.instantiable (mx_cr a).1 (mx_cr a).2.2) && mx_hw p3 (Cond.initialized (mx_cr a).1)))
  | (5, i, a, _, _) => (Nat.beq a 0 && mx_hw p1 (Cond.fieldLink (mx_cn o) i RX4 "KIND_ABOVE" "[I")) || (Nat.beq a 1 && mx_hw p1 (Cond.fieldLink (mx_cn o) i RX4 "ACTS" "[I"))
  | (6, i, _, _, _) => mx_hw p1 (Cond.classLink (mx_cn o) i RX7)
  | (7, i, a, _, _) => Nat.beq a 1000 && (mx_hw p1 (Cond.methodLink (mx_cn o) i Lib.objectInit) && (mx_hw p2 (Cond.instanceMethod Lib.objectInit) && mx_hw p3 (Cond.code Lib.objectInit ⟨#[0xb1]⟩ 1 none)))
  | _ => false
theorem mx_iM_ne {a : Nat} (h : mx_iM a = true) : a ≠ 1000 := by
  simp only [mx_iM, Bool.and_eq_true, Bool.or_eq_true, Nat.blt_eq] at h
  omega
theorem mx_PLb_s {o : Nat} {q : mx_L5} {p1 p2 p3 p4 : Nat} (h : mx_PLb o q p1 p2 p3 p4 = true) : mx_PL o q := by
  unfold mx_PLb at h
  split at h
  · simp only [Bool.and_eq_true, Nat.blt_eq] at h
    exact ⟨h.1, h.2.1, mx_hw_s h.2.2, mx_fob h.1 _ h.2.1⟩
  · exact mx_mwb_s h
  · rw [Bool.and_eq_true] at h
    exact ⟨mx_MKall h.1, mx_LKb_s h.2⟩
  · simp only [Bool.and_eq_true, Nat.blt_eq] at h
    exact ⟨mx_MKall h.1, mx_LKb_s h.2.1, h.2.2.1, of_decide_eq_true h.2.2.2⟩
  · rw [Bool.and_eq_true] at h
    exact ⟨mx_iM_ne h.1, mx_MKall h.1, mx_LKb_s h.2⟩
  · simp only [Bool.and_eq_true, Nat.blt_eq] at h
    exact ⟨h.1, mx_fob h.1, mx_hw_s h.2.1, mx_hw_s h.2.2.1, mx_hw_s h.2.2.2⟩
  · simp only [Bool.or_eq_true, Bool.and_eq_true] at h
    exact h.elim (fun h => Or.inl ⟨Nat.eq_of_beq_eq_true h.1, mx_hw_s h.2⟩) (fun h => Or.inr ⟨Nat.eq_of_beq_eq_true h.1, mx_hw_s h.2⟩)
  · exact mx_hw_s h
  · simp only [Bool.and_eq_true] at h
    exact ⟨Nat.eq_of_beq_eq_true h.1, mx_hw_s h.2.1, mx_hw_s h.2.2.1, mx_hw_s h.2.2.2⟩
  · cases h
theorem mx_LP_s {o : Nat} {LP : List (mx_L5 × Nat × Nat × Nat × Nat)} (h : LP.all (fun q => mx_PLb o q.1 q.2.1 q.2.2.1 q.2.2.2.1 q.2.2.2.2) = true) : ∀ q ∈ LP.map (fun q => q.1), mx_PL o q := by
  intro q hq
  obtain ⟨x, hx, rfl⟩ := List.mem_map.mp hq
  exact mx_PLb_s (List.all_eq_true.mp h x hx)
def mx_LP0 : List (mx_L5 × Nat × Nat × Nat × Nat) := [((7, 3, 1000, 0, 0), 2063, 1024, 1025, 0), ((0, 9, 0, 0, 0), 2064, 0, 0, 0), ((0, 15, 0, 1, 0), 2066, 0, 0, 0), ((0, 19, 0, 2, 0), 2068, 0, 0, 0), ((0, 22, 0, 3, 0), 2070, 0, 0, 0), ((0, 25, 0, 4, 0), 2071, 0, 0, 0), ((0, 28, 0, 5, 0), 2072, 0, 0, 0), ((0, 31, 0, 6, 0), 2073, 0, 0, 0), ((0, 34, 0, 7, 0), 2074, 0, 0, 0), ((0, 37, 0, 8, 0), 2076, 0, 0, 0), ((0, 40, 0, 9, 0), 2077, 0, 0, 0), ((0, 43, 0, 10, 0), 2078, 0, 0, 0), ((1, 46, 317, 2, 0), 4185, 3033, 0, 0), ((0, 52, 3, 0, 0), 1144, 0, 0, 0), ((0, 57, 3, 3, 0), 1150, 0, 0, 0), ((2, 60, 4, 3, 0), 4194, 4187, 4188, 0), ((2, 64, 6, 2, 0), 4195, 4197, 23, 0), ((8, 68, 0, 0, 2), 4201, 4118, 1015, 4119), ((8, 74, 2, 0, 2), 4200, 3068, 1015, 3069), ((0, 78, 3, 2, 0), 1148, 0, 0, 0), ((2, 81, 27, 2, 0), 4199, 4029, 4030, 0), ((0, 84, 3, 1, 0), 1146, 0, 0, 0), ((2, 87, 8, 2, 0), 4234, 4223, 4224, 0)]
def mx_LL0 : List mx_L5 := mx_LP0.map (fun q => q.1)
set_option maxRecDepth 100000 in
theorem mx_LLok0 : ∀ q ∈ mx_LL0, mx_PL 0 q := mx_LP_s (by decide +kernel)
def mx_KL0 : List (Nat × Int32) := []
def mx_JL0 : List (Nat × Int64) := []
theorem mx_KLok0 : ∀ q ∈ mx_KL0, Cond.constant (mx_cn 0) q.1 q.2 ∈ mx_ws := (fun _ h => absurd h List.not_mem_nil)
theorem mx_JLok0 : ∀ q ∈ mx_JL0, Cond.constantLong (mx_cn 0) q.1 q.2 ∈ mx_ws := (fun _ h => absurd h List.not_mem_nil)
def mx_LP1 : List (mx_L5 × Nat × Nat × Nat × Nat) := [((7, 3, 1000, 0, 0), 2034, 1024, 1025, 0), ((0, 9, 1, 0, 0), 2035, 0, 0, 0), ((0, 15, 1, 1, 0), 2037, 0, 0, 0), ((0, 19, 1, 2, 0), 2038, 0, 0, 0), ((0, 22, 1, 3, 0), 2040, 0, 0, 0), ((0, 25, 1, 4, 0), 2042, 0, 0, 0), ((0, 28, 1, 5, 0), 2044, 0, 0, 0), ((1, 31, 317, 2, 0), 4140, 3033, 0, 0), ((2, 37, 22, 1, 0), 4141, 3160, 3161, 0), ((0, 43, 7, 6, 0), 1083, 0, 0, 0), ((0, 48, 7, 7, 0), 1087, 0, 0, 0), ((0, 51, 7, 8, 0), 1092, 0, 0, 0), ((0, 54, 7, 9, 0), 1097, 0, 0, 0), ((2, 57, 26, 3, 0), 4142, 3178, 3179, 0), ((2, 61, 60, 0, 0), 4143, 3104, 3105, 0), ((2, 65, 14, 5, 0), 4144, 4146, 22, 0), ((2, 69, 33, 2, 0), 4148, 3215, 3216, 0), ((8, 74, 2, 0, 2), 4158, 3068, 1015, 3069)]
def mx_LL1 : List mx_L5 := mx_LP1.map (fun q => q.1)
set_option maxRecDepth 100000 in
theorem mx_LLok1 : ∀ q ∈ mx_LL1, mx_PL 1 q := mx_LP_s (by decide +kernel)
def mx_KL1 : List (Nat × Int32) := [(73, 2147483647)]
def mx_JL1 : List (Nat × Int64) := []
theorem mx_KLok1 : ∀ q ∈ mx_KL1, Cond.constant (mx_cn 1) q.1 q.2 ∈ mx_ws := (List.forall_mem_cons.mpr ⟨mx_hw_s (p := 4157) (by decide +kernel), (fun _ h => absurd h List.not_mem_nil)⟩)
theorem mx_JLok1 : ∀ q ∈ mx_JL1, Cond.constantLong (mx_cn 1) q.1 q.2 ∈ mx_ws := (fun _ h => absurd h List.not_mem_nil)
def mx_LP2 : List (mx_L5 × Nat × Nat × Nat × Nat) := [((7, 1, 1000, 0, 0), 2128, 1024, 1025, 0), ((0, 7, 2, 0, 0), 2130, 0, 0, 0), ((0, 13, 2, 1, 0), 2132, 0, 0, 0), ((6, 16, 0, 0, 0), 2129, 0, 0, 0), ((0, 18, 2, 2, 0), 2134, 0, 0, 0), ((0, 22, 2, 3, 0), 2135, 0, 0, 0), ((0, 26, 2, 4, 0), 2136, 0, 0, 0), ((0, 29, 2, 5, 0), 2137, 0, 0, 0), ((0, 32, 2, 6, 0), 2138, 0, 0, 0), ((2, 35, 18, 0, 0), 3138, 3140, 12, 0), ((2, 38, 67, 3, 0), 5132, 3131, 3132, 0)]
def mx_LL2 : List mx_L5 := mx_LP2.map (fun q => q.1)
set_option maxRecDepth 100000 in
theorem mx_LLok2 : ∀ q ∈ mx_LL2, mx_PL 2 q := mx_LP_s (by decide +kernel)
def mx_KL2 : List (Nat × Int32) := []
def mx_JL2 : List (Nat × Int64) := []
theorem mx_KLok2 : ∀ q ∈ mx_KL2, Cond.constant (mx_cn 2) q.1 q.2 ∈ mx_ws := (fun _ h => absurd h List.not_mem_nil)
theorem mx_JLok2 : ∀ q ∈ mx_JL2, Cond.constantLong (mx_cn 2) q.1 q.2 ∈ mx_ws := (fun _ h => absurd h List.not_mem_nil)
def mx_LP3 : List (mx_L5 × Nat × Nat × Nat × Nat) := [((7, 3, 1000, 0, 0), 1142, 1024, 1025, 0), ((0, 9, 3, 0, 0), 1143, 0, 0, 0), ((0, 15, 3, 1, 0), 1145, 0, 0, 0), ((0, 19, 3, 2, 0), 1147, 0, 0, 0), ((0, 22, 3, 3, 0), 1149, 0, 0, 0), ((0, 25, 3, 4, 0), 1152, 0, 0, 0), ((0, 28, 3, 5, 0), 1153, 0, 0, 0), ((0, 32, 3, 6, 0), 1155, 0, 0, 0), ((0, 35, 3, 7, 0), 1156, 0, 0, 0), ((0, 38, 3, 8, 0), 1157, 0, 0, 0), ((0, 41, 3, 9, 0), 1158, 0, 0, 0), ((0, 44, 3, 10, 0), 1159, 0, 0, 0), ((0, 47, 3, 11, 0), 1160, 0, 0, 0), ((2, 50, 23, 2, 0), 3163, 3164, 3165, 0), ((0, 54, 7, 0, 0), 1053, 0, 0, 0), ((1, 57, 317, 2, 0), 3167, 3033, 0, 0), ((0, 63, 7, 1, 0), 1057, 0, 0, 0), ((1, 66, 24, 1, 0), 3168, 3169, 0, 0), ((0, 70, 7, 3, 0), 1068, 0, 0, 0), ((2, 73, 25, 3, 0), 3173, 3174, 3175, 0), ((0, 77, 7, 2, 0), 1063, 0, 0, 0), ((0, 78, 7, 4, 0), 1074, 0, 0, 0), ((0, 79, 7, 6, 0), 1084, 0, 0, 0), ((0, 82, 7, 9, 0), 1098, 0, 0, 0), ((0, 85, 7, 7, 0), 1088, 0, 0, 0), ((0, 88, 7, 8, 0), 1093, 0, 0, 0), ((0, 91, 7, 10, 0), 1103, 0, 0, 0), ((8, 94, 4, 0, 2), 3171, 3065, 1015, 3066), ((2, 100, 26, 3, 0), 3177, 3178, 3179, 0), ((8, 103, 2, 0, 2), 3172, 3068, 1015, 3069), ((2, 106, 28, 2, 0), 3189, 3191, 13, 0), ((2, 110, 30, 1, 0), 3193, 3195, 14, 0), ((2, 114, 29, 2, 0), 3185, 3186, 3187, 0), ((2, 117, 31, 2, 0), 3218, 3182, 3183, 0), ((2, 120, 35, 0, 0), 4048, 4050, 18, 0)]
def mx_LL3 : List mx_L5 := mx_LP3.map (fun q => q.1)
set_option maxRecDepth 100000 in
theorem mx_LLok3 : ∀ q ∈ mx_LL3, mx_PL 3 q := mx_LP_s (by decide +kernel)
def mx_KL3 : List (Nat × Int32) := []
def mx_JL3 : List (Nat × Int64) := []
theorem mx_KLok3 : ∀ q ∈ mx_KL3, Cond.constant (mx_cn 3) q.1 q.2 ∈ mx_ws := (fun _ h => absurd h List.not_mem_nil)
theorem mx_JLok3 : ∀ q ∈ mx_JL3, Cond.constantLong (mx_cn 3) q.1 q.2 ∈ mx_ws := (fun _ h => absurd h List.not_mem_nil)
def mx_LP4 : List (mx_L5 × Nat × Nat × Nat × Nat) := [((7, 3, 1000, 0, 0), 2159, 1024, 1025, 0), ((0, 9, 4, 0, 0), 2161, 0, 0, 0), ((0, 15, 4, 1, 0), 2163, 0, 0, 0), ((6, 19, 0, 0, 0), 2160, 0, 0, 0), ((0, 21, 4, 2, 0), 2165, 0, 0, 0), ((0, 25, 4, 3, 0), 2166, 0, 0, 0), ((0, 28, 4, 4, 0), 2168, 0, 0, 0), ((5, 31, 0, 0, 0), 5168, 0, 0, 0), ((0, 34, 7, 5, 0), 1079, 0, 0, 0), ((0, 37, 7, 6, 0), 1085, 0, 0, 0), ((1, 40, 157, 3, 1), 5180, 3014, 0, 0), ((0, 44, 7, 9, 0), 1099, 0, 0, 0), ((5, 47, 1, 0, 0), 5170, 0, 0, 0), ((2, 50, 41, 1, 0), 5172, 5174, 29, 0), ((2, 54, 39, 1, 0), 5176, 5178, 30, 0), ((2, 58, 40, 5, 0), 5181, 5165, 5166, 0)]
def mx_LL4 : List mx_L5 := mx_LP4.map (fun q => q.1)
set_option maxRecDepth 100000 in
theorem mx_LLok4 : ∀ q ∈ mx_LL4, mx_PL 4 q := mx_LP_s (by decide +kernel)
def mx_KL4 : List (Nat × Int32) := []
def mx_JL4 : List (Nat × Int64) := []
theorem mx_KLok4 : ∀ q ∈ mx_KL4, Cond.constant (mx_cn 4) q.1 q.2 ∈ mx_ws := (fun _ h => absurd h List.not_mem_nil)
theorem mx_JLok4 : ∀ q ∈ mx_JL4, Cond.constantLong (mx_cn 4) q.1 q.2 ∈ mx_ws := (fun _ h => absurd h List.not_mem_nil)
def mx_LP5 : List (mx_L5 × Nat × Nat × Nat × Nat) := [((7, 3, 1000, 0, 0), 1222, 1024, 1025, 0), ((0, 9, 5, 0, 0), 1223, 0, 0, 0), ((0, 15, 5, 1, 0), 1225, 0, 0, 0), ((0, 18, 5, 2, 0), 1227, 0, 0, 0), ((0, 22, 5, 3, 0), 1228, 0, 0, 0), ((0, 25, 5, 4, 0), 1229, 0, 0, 0), ((0, 28, 5, 5, 0), 1230, 0, 0, 0), ((0, 31, 5, 6, 0), 1232, 0, 0, 0), ((0, 34, 5, 7, 0), 1233, 0, 0, 0), ((0, 37, 5, 8, 0), 1234, 0, 0, 0), ((0, 40, 5, 9, 0), 1235, 0, 0, 0), ((0, 43, 5, 10, 0), 1236, 0, 0, 0), ((0, 46, 5, 11, 0), 1238, 0, 0, 0), ((0, 49, 5, 12, 0), 2000, 0, 0, 0), ((8, 52, 2, 0, 2), 4099, 3068, 1015, 3069), ((0, 60, 7, 1, 0), 1061, 0, 0, 0), ((0, 63, 7, 3, 0), 1072, 0, 0, 0), ((2, 66, 25, 3, 0), 4088, 3174, 3175, 0), ((0, 72, 7, 9, 0), 1101, 0, 0, 0), ((0, 75, 7, 7, 0), 1089, 0, 0, 0), ((0, 78, 7, 8, 0), 1094, 0, 0, 0), ((0, 81, 7, 10, 0), 1105, 0, 0, 0), ((8, 84, 4, 0, 2), 4089, 3065, 1015, 3066), ((2, 87, 26, 3, 0), 4090, 3178, 3179, 0), ((1, 91, 317, 2, 0), 4105, 3033, 0, 0), ((2, 97, 50, 6, 0), 4106, 4108, 20, 0), ((2, 101, 51, 4, 0), 4110, 4112, 21, 0), ((2, 105, 22, 1, 0), 4114, 3160, 3161, 0), ((2, 109, 48, 4, 0), 4115, 4085, 4086, 0), ((2, 113, 33, 2, 0), 4116, 3215, 3216, 0), ((8, 115, 0, 0, 2), 4117, 4118, 1015, 4119)]
def mx_LL5 : List mx_L5 := mx_LP5.map (fun q => q.1)
set_option maxRecDepth 100000 in
theorem mx_LLok5 : ∀ q ∈ mx_LL5, mx_PL 5 q := mx_LP_s (by decide +kernel)
def mx_KL5 : List (Nat × Int32) := [(90, 2147483647)]
def mx_JL5 : List (Nat × Int64) := []
theorem mx_KLok5 : ∀ q ∈ mx_KL5, Cond.constant (mx_cn 5) q.1 q.2 ∈ mx_ws := (List.forall_mem_cons.mpr ⟨mx_hw_s (p := 4104) (by decide +kernel), (fun _ h => absurd h List.not_mem_nil)⟩)
theorem mx_JLok5 : ∀ q ∈ mx_JL5, Cond.constantLong (mx_cn 5) q.1 q.2 ∈ mx_ws := (fun _ h => absurd h List.not_mem_nil)
def mx_LP6 : List (mx_L5 × Nat × Nat × Nat × Nat) := [((7, 3, 1000, 0, 0), 2107, 1024, 1025, 0), ((0, 9, 6, 0, 0), 2108, 0, 0, 0), ((0, 15, 6, 1, 0), 2110, 0, 0, 0), ((0, 19, 6, 2, 0), 2111, 0, 0, 0), ((0, 22, 6, 3, 0), 2112, 0, 0, 0), ((8, 25, 0, 0, 2), 5086, 4118, 1015, 4119), ((2, 31, 54, 4, 0), 5082, 5084, 25, 0), ((1, 35, 309, 1, 0), 5091, 5092, 0, 0), ((2, 40, 57, 3, 0), 5097, 5099, 26, 0)]
def mx_LL6 : List mx_L5 := mx_LP6.map (fun q => q.1)
set_option maxRecDepth 100000 in
theorem mx_LLok6 : ∀ q ∈ mx_LL6, mx_PL 6 q := mx_LP_s (by decide +kernel)
def mx_KL6 : List (Nat × Int32) := []
def mx_JL6 : List (Nat × Int64) := []
theorem mx_KLok6 : ∀ q ∈ mx_KL6, Cond.constant (mx_cn 6) q.1 q.2 ∈ mx_ws := (fun _ h => absurd h List.not_mem_nil)
theorem mx_JLok6 : ∀ q ∈ mx_JL6, Cond.constantLong (mx_cn 6) q.1 q.2 ∈ mx_ws := (fun _ h => absurd h List.not_mem_nil)
def mx_LP7 : List (mx_L5 × Nat × Nat × Nat × Nat) := [((7, 3, 1000, 0, 0), 1050, 1024, 1025, 0), ((0, 9, 7, 0, 0), 1051, 0, 0, 0), ((0, 15, 7, 1, 0), 1056, 0, 0, 0), ((0, 19, 7, 2, 0), 1062, 0, 0, 0), ((0, 22, 7, 3, 0), 1067, 0, 0, 0), ((0, 25, 7, 4, 0), 1073, 0, 0, 0), ((0, 28, 7, 5, 0), 1078, 0, 0, 0), ((0, 31, 7, 6, 0), 1081, 0, 0, 0), ((0, 34, 7, 7, 0), 1086, 0, 0, 0), ((0, 37, 7, 8, 0), 1091, 0, 0, 0), ((0, 40, 7, 9, 0), 1096, 0, 0, 0), ((0, 43, 7, 10, 0), 1102, 0, 0, 0), ((0, 46, 7, 11, 0), 1106, 0, 0, 0), ((0, 49, 7, 12, 0), 1108, 0, 0, 0), ((1, 52, 317, 2, 0), 3032, 3033, 0, 0), ((8, 58, 4, 0, 2), 3064, 3065, 1015, 3066), ((8, 64, 2, 0, 2), 3067, 3068, 1015, 3069), ((2, 67, 63, 3, 0), 5114, 3071, 3072, 0), ((1, 71, 65, 2, 0), 3127, 3128, 0, 0)]
def mx_LL7 : List mx_L5 := mx_LP7.map (fun q => q.1)
set_option maxRecDepth 100000 in
theorem mx_LLok7 : ∀ q ∈ mx_LL7, mx_PL 7 q := mx_LP_s (by decide +kernel)
def mx_KL7 : List (Nat × Int32) := []
def mx_JL7 : List (Nat × Int64) := []
theorem mx_KLok7 : ∀ q ∈ mx_KL7, Cond.constant (mx_cn 7) q.1 q.2 ∈ mx_ws := (fun _ h => absurd h List.not_mem_nil)
theorem mx_JLok7 : ∀ q ∈ mx_JL7, Cond.constantLong (mx_cn 7) q.1 q.2 ∈ mx_ws := (fun _ h => absurd h List.not_mem_nil)
def mx_LP8 : List (mx_L5 × Nat × Nat × Nat × Nat) := [((7, 3, 1000, 0, 0), 2186, 1024, 1025, 0), ((0, 11, 8, 0, 0), 2189, 0, 0, 0), ((0, 15, 8, 1, 0), 2191, 0, 0, 0), ((0, 18, 8, 2, 0), 2193, 0, 0, 0), ((0, 23, 8, 3, 0), 2195, 0, 0, 0), ((8, 26, 2, 0, 2), 5065, 3068, 1015, 3069), ((1, 32, 316, 2, 0), 5202, 5203, 0, 0), ((1, 38, 157, 3, 1), 5010, 3014, 0, 0), ((1, 42, 77, 2, 0), 5217, 5218, 0, 0), ((1, 52, 78, 1, 0), 5019, 5020, 0, 0), ((8, 56, 5, 0, 2), 5025, 5026, 1015, 5027), ((8, 60, 3, 0, 2), 5028, 5029, 1015, 5030), ((2, 62, 80, 2, 0), 5039, 5041, 24, 0), ((1, 66, 82, 2, 0), 5043, 5044, 0, 0), ((8, 69, 1, 0, 2), 5049, 5050, 1015, 5051), ((1, 75, 308, 2, 0), 5046, 5047, 0, 0), ((2, 82, 81, 2, 0), 5064, 5036, 5037, 0)]
def mx_LL8 : List mx_L5 := mx_LP8.map (fun q => q.1)
set_option maxRecDepth 100000 in
theorem mx_LLok8 : ∀ q ∈ mx_LL8, mx_PL 8 q := mx_LP_s (by decide +kernel)
def mx_KL8 : List (Nat × Int32) := []
def mx_JL8 : List (Nat × Int64) := [(46, 127), (48, 32767), (50, 2147483647), (73, 2), (80, (-1))]
theorem mx_KLok8 : ∀ q ∈ mx_KL8, Cond.constant (mx_cn 8) q.1 q.2 ∈ mx_ws := (fun _ h => absurd h List.not_mem_nil)
theorem mx_JLok8 : ∀ q ∈ mx_JL8, Cond.constantLong (mx_cn 8) q.1 q.2 ∈ mx_ws := (List.forall_mem_cons.mpr ⟨mx_hw_s (p := 5022) (by decide +kernel), (List.forall_mem_cons.mpr ⟨mx_hw_s (p := 5023) (by decide +kernel), (List.forall_mem_cons.mpr ⟨mx_hw_s (p := 5024) (by decide +kernel), (List.forall_mem_cons.mpr ⟨mx_hw_s (p := 5052) (by decide +kernel), (List.forall_mem_cons.mpr ⟨mx_hw_s (p := 5063) (by decide +kernel), (fun _ h => absurd h List.not_mem_nil)⟩)⟩)⟩)⟩)⟩)
def mx_LP9 : List (mx_L5 × Nat × Nat × Nat × Nat) := [((7, 3, 1000, 0, 0), 1031, 1024, 1025, 0), ((0, 11, 9, 0, 0), 1032, 0, 0, 0), ((0, 15, 9, 1, 0), 1033, 0, 0, 0), ((0, 19, 9, 2, 0), 1035, 0, 0, 0), ((2, 22, 59, 0, 0), 3028, 3029, 3030, 0), ((2, 27, 87, 1, 0), 3035, 3037, 0, 0), ((2, 31, 88, 1, 0), 3048, 3050, 3, 0), ((2, 34, 92, 0, 0), 3039, 3041, 1, 0), ((2, 38, 93, 0, 0), 3043, 3045, 2, 0), ((0, 41, 7, 1, 0), 1059, 0, 0, 0), ((0, 44, 7, 0, 0), 1055, 0, 0, 0), ((2, 47, 89, 1, 0), 3052, 3054, 4, 0), ((2, 50, 90, 1, 0), 3074, 3076, 6, 0), ((0, 53, 7, 2, 0), 1066, 0, 0, 0), ((0, 56, 7, 3, 0), 1071, 0, 0, 0), ((2, 59, 91, 2, 0), 3078, 3080, 7, 0), ((2, 63, 94, 1, 0), 3056, 3058, 5, 0), ((2, 67, 61, 2, 0), 3060, 3061, 3062, 0), ((2, 71, 63, 3, 0), 3070, 3071, 3072, 0), ((0, 75, 7, 4, 0), 1077, 0, 0, 0), ((1, 78, 157, 3, 1), 3047, 3014, 0, 0)]
def mx_LL9 : List mx_L5 := mx_LP9.map (fun q => q.1)
set_option maxRecDepth 100000 in
theorem mx_LLok9 : ∀ q ∈ mx_LL9, mx_PL 9 q := mx_LP_s (by decide +kernel)
def mx_KL9 : List (Nat × Int32) := []
def mx_JL9 : List (Nat × Int64) := []
theorem mx_KLok9 : ∀ q ∈ mx_KL9, Cond.constant (mx_cn 9) q.1 q.2 ∈ mx_ws := (fun _ h => absurd h List.not_mem_nil)
theorem mx_JLok9 : ∀ q ∈ mx_JL9, Cond.constantLong (mx_cn 9) q.1 q.2 ∈ mx_ws := (fun _ h => absurd h List.not_mem_nil)
def mx_LP10 : List (mx_L5 × Nat × Nat × Nat × Nat) := [((7, 3, 1000, 0, 0), 1192, 1024, 1025, 0), ((0, 9, 10, 0, 0), 1195, 0, 0, 0), ((0, 15, 10, 1, 0), 1197, 0, 0, 0), ((0, 18, 10, 2, 0), 1199, 0, 0, 0), ((0, 22, 10, 3, 0), 1201, 0, 0, 0), ((4, 25, 3, 0, 0), 1193, 1138, 1004, 0), ((3, 27, 21, 0, 1), 1194, 1140, 0, 0), ((0, 28, 10, 4, 0), 1202, 0, 0, 0), ((0, 32, 10, 5, 0), 1203, 0, 0, 0), ((1, 35, 317, 2, 0), 4011, 3033, 0, 0), ((0, 41, 7, 0, 0), 1052, 0, 0, 0), ((2, 46, 22, 1, 0), 4012, 3160, 3161, 0), ((2, 50, 97, 3, 0), 4013, 4015, 15, 0), ((2, 54, 100, 1, 0), 4017, 4019, 16, 0), ((1, 58, 98, 4, 0), 4021, 4022, 0, 0), ((2, 62, 99, 2, 0), 4024, 4026, 17, 0), ((0, 66, 7, 1, 0), 1058, 0, 0, 0), ((0, 69, 7, 2, 0), 1064, 0, 0, 0), ((0, 72, 7, 3, 0), 1069, 0, 0, 0), ((0, 75, 7, 4, 0), 1075, 0, 0, 0), ((2, 78, 27, 2, 0), 4028, 4029, 4030, 0)]
def mx_LL10 : List mx_L5 := mx_LP10.map (fun q => q.1)
set_option maxRecDepth 100000 in
theorem mx_LLok10 : ∀ q ∈ mx_LL10, mx_PL 10 q := mx_LP_s (by decide +kernel)
def mx_KL10 : List (Nat × Int32) := []
def mx_JL10 : List (Nat × Int64) := []
theorem mx_KLok10 : ∀ q ∈ mx_KL10, Cond.constant (mx_cn 10) q.1 q.2 ∈ mx_ws := (fun _ h => absurd h List.not_mem_nil)
theorem mx_JLok10 : ∀ q ∈ mx_JL10, Cond.constantLong (mx_cn 10) q.1 q.2 ∈ mx_ws := (fun _ h => absurd h List.not_mem_nil)
def mx_LP11 : List (mx_L5 × Nat × Nat × Nat × Nat) := [((7, 1, 1000, 0, 0), 1023, 1024, 1025, 0), ((4, 7, 9, 0, 0), 1026, 1027, 1002, 0), ((3, 9, 84, 0, 1), 1028, 1029, 0, 0), ((0, 10, 11, 0, 0), 2206, 0, 0, 0), ((6, 16, 0, 0, 0), 1044, 0, 0, 0), ((0, 18, 11, 1, 0), 2207, 0, 0, 0), ((0, 22, 11, 2, 0), 2208, 0, 0, 0), ((4, 16, 7, 0, 0), 1044, 1046, 1003, 0), ((3, 26, 58, 0, 1), 1047, 1048, 0, 0), ((0, 27, 11, 3, 0), 2209, 0, 0, 0), ((4, 31, 3, 0, 0), 1137, 1138, 1004, 0), ((3, 33, 21, 0, 1), 1139, 1140, 0, 0), ((0, 34, 11, 4, 0), 2210, 0, 0, 0), ((0, 38, 11, 5, 0), 2211, 0, 0, 0), ((4, 41, 10, 0, 0), 1187, 1188, 1005, 0), ((3, 43, 95, 0, 1), 1189, 1190, 0, 0), ((0, 44, 11, 6, 0), 2212, 0, 0, 0), ((4, 48, 5, 0, 0), 1217, 1218, 1006, 0), ((3, 50, 42, 0, 1), 1219, 1220, 0, 0), ((0, 51, 11, 7, 0), 2213, 0, 0, 0), ((4, 55, 1, 0, 0), 2029, 2030, 1007, 0), ((3, 57, 11, 0, 1), 2031, 2032, 0, 0), ((0, 58, 11, 8, 0), 2214, 0, 0, 0), ((4, 62, 0, 0, 0), 2058, 2059, 1008, 0), ((3, 64, 1, 0, 1), 2060, 2061, 0, 0), ((0, 65, 11, 9, 0), 2215, 0, 0, 0), ((4, 69, 6, 0, 0), 2102, 2103, 1009, 0), ((3, 71, 52, 0, 1), 2104, 2105, 0, 0), ((0, 72, 11, 10, 0), 2216, 0, 0, 0), ((4, 76, 2, 0, 0), 2123, 2124, 1010, 0), ((3, 78, 16, 0, 1), 2125, 2126, 0, 0), ((0, 79, 11, 11, 0), 2217, 0, 0, 0), ((4, 83, 4, 0, 0), 2154, 2155, 1011, 0), ((3, 85, 36, 0, 1), 2156, 2157, 0, 0), ((0, 86, 11, 12, 0), 2218, 0, 0, 0), ((4, 90, 8, 0, 0), 2181, 2182, 1012, 0), ((3, 92, 69, 0, 1), 2183, 2184, 0, 0), ((0, 93, 11, 13, 0), 2219, 0, 0, 0), ((1, 97, 157, 3, 0), 3013, 3014, 0, 0), ((0, 101, 9, 1, 0), 1034, 0, 0, 0), ((2, 104, 85, 2, 0), 3016, 3017, 3018, 0), ((2, 108, 86, 1, 0), 3024, 3025, 3026, 0), ((0, 112, 7, 6, 0), 1082, 0, 0, 0), ((2, 115, 168, 1, 0), 3082, 3084, 8, 0), ((2, 119, 169, 0, 0), 3086, 3088, 9, 0), ((2, 123, 166, 1, 0), 3098, 3100, 10, 0), ((0, 128, 7, 0, 0), 1054, 0, 0, 0), ((2, 131, 60, 0, 0), 3103, 3104, 3105, 0), ((0, 134, 7, 1, 0), 1060, 0, 0, 0), ((0, 138, 7, 2, 0), 1065, 0, 0, 0), ((0, 141, 7, 3, 0), 1070, 0, 0, 0), ((0, 144, 7, 4, 0), 1076, 0, 0, 0), ((1, 147, 164, 2, 0), 3111, 3112, 0, 0), ((2, 151, 61, 2, 0), 3114, 3061, 3062, 0), ((0, 155, 7, 5, 0), 1080, 0, 0, 0), ((0, 158, 7, 9, 0), 1100, 0, 0, 0), ((0, 161, 7, 10, 0), 1104, 0, 0, 0), ((2, 164, 170, 4, 0), 3119, 3121, 11, 0), ((1, 168, 65, 2, 0), 3146, 3128, 0, 0), ((8, 171, 4, 0, 2), 3151, 3065, 1015, 3066), ((1, 176, 158, 1, 0), 3156, 3157, 0, 0), ((2, 179, 22, 1, 0), 3159, 3160, 3161, 0), ((2, 183, 31, 2, 0), 3181, 3182, 3183, 0), ((2, 186, 32, 2, 0), 3197, 3198, 3199, 0), ((2, 191, 29, 2, 0), 3206, 3186, 3187, 0), ((0, 194, 3, 5, 0), 1154, 0, 0, 0), ((1, 198, 165, 3, 0), 3211, 3212, 0, 0), ((2, 202, 33, 2, 0), 3214, 3215, 3216, 0), ((0, 205, 3, 3, 0), 1151, 0, 0, 0), ((2, 206, 25, 3, 0), 3227, 3174, 3175, 0), ((2, 210, 23, 2, 0), 3232, 3164, 3165, 0), ((0, 214, 7, 7, 0), 1090, 0, 0, 0), ((0, 217, 7, 8, 0), 1095, 0, 0, 0), ((2, 220, 26, 3, 0), 3237, 3178, 3179, 0), ((2, 223, 62, 1, 0), 3238, 3239, 4000, 0), ((8, 227, 2, 0, 2), 4002, 3068, 1015, 3069), ((2, 230, 96, 2, 0), 4007, 4008, 4009, 0), ((0, 234, 10, 0, 0), 1196, 0, 0, 0), ((0, 237, 10, 2, 0), 1200, 0, 0, 0), ((0, 240, 10, 1, 0), 1198, 0, 0, 0), ((2, 243, 34, 1, 0), 4044, 4045, 4046, 0), ((0, 247, 5, 1, 0), 1226, 0, 0, 0), ((0, 250, 5, 0, 0), 1224, 0, 0, 0), ((2, 253, 43, 2, 0), 4056, 4057, 4058, 0), ((2, 257, 44, 3, 0), 4060, 4061, 4062, 0), ((2, 260, 167, 0, 0), 4068, 4070, 19, 0), ((2, 264, 45, 2, 0), 4072, 4073, 4074, 0), ((0, 267, 5, 5, 0), 1231, 0, 0, 0), ((2, 270, 46, 3, 0), 4076, 4077, 4078, 0), ((2, 273, 48, 4, 0), 4084, 4085, 4086, 0), ((2, 277, 47, 0, 0), 4095, 4096, 4097, 0), ((2, 280, 49, 2, 0), 4100, 4101, 4102, 0), ((0, 284, 5, 10, 0), 1237, 0, 0, 0), ((0, 287, 5, 11, 0), 1239, 0, 0, 0), ((0, 290, 5, 12, 0), 2001, 0, 0, 0), ((0, 293, 1, 0, 0), 2036, 0, 0, 0), ((2, 296, 12, 1, 0), 4128, 4129, 4130, 0), ((2, 299, 13, 3, 0), 4136, 4137, 4138, 0), ((0, 302, 1, 2, 0), 2039, 0, 0, 0), ((0, 305, 1, 4, 0), 2043, 0, 0, 0), ((0, 308, 1, 3, 0), 2041, 0, 0, 0), ((2, 311, 15, 1, 0), 4153, 4154, 4155, 0), ((0, 314, 0, 0, 0), 2065, 0, 0, 0), ((1, 317, 160, 1, 0), 4171, 4172, 0, 0), ((0, 320, 0, 1, 0), 2067, 0, 0, 0), ((1, 323, 159, 1, 0), 4178, 4179, 0, 0), ((2, 326, 3, 1, 0), 4181, 4182, 4183, 0), ((2, 330, 4, 3, 0), 4186, 4187, 4188, 0), ((2, 334, 5, 3, 0), 4190, 4191, 4192, 0), ((0, 338, 0, 7, 0), 2075, 0, 0, 0), ((2, 339, 2, 3, 0), 4206, 4207, 4208, 0), ((0, 341, 0, 2, 0), 2069, 0, 0, 0), ((2, 344, 7, 1, 0), 4218, 4219, 4220, 0), ((2, 347, 8, 2, 0), 4222, 4223, 4224, 0), ((2, 350, 9, 1, 0), 4230, 4231, 4232, 0), ((2, 353, 10, 2, 0), 4235, 4236, 4237, 0), ((1, 356, 161, 1, 0), 5003, 5004, 0, 0), ((2, 359, 73, 1, 0), 5006, 5007, 5008, 0), ((2, 362, 74, 2, 0), 5011, 5012, 5013, 0), ((0, 365, 8, 1, 0), 2192, 0, 0, 0), ((2, 368, 79, 3, 0), 5015, 5016, 5017, 0), ((2, 371, 81, 2, 0), 5035, 5036, 5037, 0), ((8, 377, 5, 0, 2), 5054, 5026, 1015, 5027), ((2, 380, 83, 1, 0), 5059, 5060, 5061, 0), ((0, 383, 6, 0, 0), 2109, 0, 0, 0), ((2, 384, 53, 2, 0), 5070, 5071, 5072, 0), ((0, 385, 6, 3, 0), 2113, 0, 0, 0), ((2, 388, 55, 2, 0), 5078, 5079, 5080, 0), ((2, 391, 56, 2, 0), 5087, 5088, 5089, 0), ((2, 394, 59, 0, 0), 5109, 3029, 3030, 0), ((2, 397, 64, 1, 0), 5110, 5111, 5112, 0), ((2, 400, 63, 3, 0), 5115, 3071, 3072, 0), ((0, 403, 7, 11, 0), 1107, 0, 0, 0), ((0, 406, 7, 12, 0), 1109, 0, 0, 0), ((2, 409, 171, 2, 0), 5120, 5122, 27, 0), ((0, 413, 2, 0, 0), 2131, 0, 0, 0), ((2, 416, 19, 0, 0), 5128, 5129, 5130, 0), ((0, 419, 2, 1, 0), 2133, 0, 0, 0), ((2, 422, 20, 0, 0), 5137, 5138, 5139, 0), ((2, 425, 68, 1, 0), 5145, 5146, 5147, 0), ((1, 428, 162, 1, 0), 5153, 5154, 0, 0), ((0, 431, 4, 0, 0), 2162, 0, 0, 0), ((2, 434, 37, 2, 0), 3090, 3091, 3092, 0), ((0, 437, 4, 3, 0), 2167, 0, 0, 0), ((2, 440, 163, 1, 0), 5160, 5162, 28, 0), ((0, 443, 4, 1, 0), 2164, 0, 0, 0), ((2, 446, 40, 5, 0), 5164, 5165, 5166, 0), ((0, 449, 4, 4, 0), 2169, 0, 0, 0), ((2, 452, 70, 2, 0), 5190, 5191, 5192, 0), ((2, 455, 71, 3, 0), 5198, 5199, 5200, 0), ((2, 458, 72, 1, 0), 5209, 5210, 5211, 0), ((2, 461, 76, 3, 0), 5213, 5214, 5215, 0), ((0, 465, 8, 3, 0), 2196, 0, 0, 0), ((0, 469, 8, 0, 0), 2190, 0, 0, 0), ((2, 472, 75, 3, 0), 5228, 5229, 5230, 0), ((0, 481, 8, 2, 0), 2194, 0, 0, 0), ((1, 484, 38, 2, 0), 5239, 6000, 0, 0), ((2, 487, 66, 2, 0), 3123, 3124, 3125, 0), ((2, 490, 67, 3, 0), 3130, 3131, 3132, 0), ((2, 492, 17, 5, 0), 3134, 3135, 3136, 0)]
def mx_LL11 : List mx_L5 := mx_LP11.map (fun q => q.1)
set_option maxRecDepth 100000 in
theorem mx_LLok11 : ∀ q ∈ mx_LL11, mx_PL 11 q := mx_LP_s (by decide +kernel)
def mx_KL11 : List (Nat × Int32) := [(127, (-2000000000))]
def mx_JL11 : List (Nat × Int64) := [(189, (-9223372036854775808)), (375, 1999999999)]
theorem mx_KLok11 : ∀ q ∈ mx_KL11, Cond.constant (mx_cn 11) q.1 q.2 ∈ mx_ws := (List.forall_mem_cons.mpr ⟨mx_hw_s (p := 3102) (by decide +kernel), (fun _ h => absurd h List.not_mem_nil)⟩)
theorem mx_JLok11 : ∀ q ∈ mx_JL11, Cond.constantLong (mx_cn 11) q.1 q.2 ∈ mx_ws := (List.forall_mem_cons.mpr ⟨mx_hw_s (p := 3205) (by decide +kernel), (List.forall_mem_cons.mpr ⟨mx_hw_s (p := 5053) (by decide +kernel), (fun _ h => absurd h List.not_mem_nil)⟩)⟩)
def mx_LP12 : List (mx_L5 × Nat × Nat × Nat × Nat) := [((7, 1, 1000, 0, 0), 6011, 1024, 1025, 0), ((0, 7, 12, 2, 0), 6013, 0, 0, 0), ((0, 13, 12, 3, 0), 6014, 0, 0, 0), ((0, 16, 12, 4, 0), 6015, 0, 0, 0), ((0, 19, 12, 5, 0), 6016, 0, 0, 0), ((0, 22, 12, 6, 0), 6017, 0, 0, 0), ((0, 26, 12, 7, 0), 6018, 0, 0, 0), ((0, 29, 12, 8, 0), 6019, 0, 0, 0), ((0, 32, 12, 9, 0), 6020, 0, 0, 0), ((0, 35, 12, 10, 0), 6021, 0, 0, 0), ((0, 38, 12, 11, 0), 6022, 0, 0, 0), ((0, 41, 12, 13, 0), 6024, 0, 0, 0), ((0, 44, 12, 14, 0), 6025, 0, 0, 0), ((0, 47, 12, 15, 0), 6026, 0, 0, 0), ((0, 51, 12, 20, 0), 6031, 0, 0, 0), ((0, 54, 12, 21, 0), 6032, 0, 0, 0), ((0, 57, 12, 22, 0), 6033, 0, 0, 0), ((0, 60, 12, 23, 0), 6034, 0, 0, 0), ((0, 63, 12, 26, 0), 6037, 0, 0, 0), ((0, 66, 12, 27, 0), 6038, 0, 0, 0), ((0, 69, 12, 28, 0), 6039, 0, 0, 0), ((0, 72, 12, 29, 0), 6040, 0, 0, 0), ((0, 75, 12, 30, 0), 6041, 0, 0, 0), ((0, 78, 12, 31, 0), 6042, 0, 0, 0), ((0, 81, 12, 32, 0), 6043, 0, 0, 0), ((0, 84, 12, 33, 0), 6044, 0, 0, 0), ((0, 87, 12, 34, 0), 6045, 0, 0, 0), ((0, 90, 12, 36, 0), 6047, 0, 0, 0), ((0, 94, 12, 38, 0), 6049, 0, 0, 0), ((0, 97, 12, 39, 0), 6050, 0, 0, 0), ((0, 100, 12, 40, 0), 6051, 0, 0, 0), ((0, 103, 12, 41, 0), 6052, 0, 0, 0), ((0, 106, 12, 43, 0), 6054, 0, 0, 0), ((0, 109, 12, 44, 0), 6055, 0, 0, 0), ((0, 112, 12, 45, 0), 6056, 0, 0, 0), ((0, 115, 12, 53, 0), 6064, 0, 0, 0), ((0, 118, 12, 54, 0), 6065, 0, 0, 0), ((0, 121, 12, 55, 0), 6066, 0, 0, 0), ((0, 124, 12, 57, 0), 6068, 0, 0, 0), ((0, 127, 12, 58, 0), 6069, 0, 0, 0), ((0, 130, 12, 59, 0), 6070, 0, 0, 0), ((0, 133, 12, 60, 0), 6071, 0, 0, 0), ((0, 136, 12, 66, 0), 6077, 0, 0, 0), ((0, 139, 12, 70, 0), 6081, 0, 0, 0), ((0, 142, 12, 72, 0), 6083, 0, 0, 0), ((0, 145, 12, 73, 0), 6084, 0, 0, 0), ((0, 148, 12, 75, 0), 6086, 0, 0, 0), ((0, 151, 12, 76, 0), 6087, 0, 0, 0), ((0, 154, 12, 77, 0), 6088, 0, 0, 0), ((0, 157, 12, 78, 0), 6089, 0, 0, 0), ((0, 160, 12, 80, 0), 6091, 0, 0, 0), ((0, 163, 12, 81, 0), 6092, 0, 0, 0), ((0, 166, 12, 82, 0), 6093, 0, 0, 0), ((0, 169, 12, 84, 0), 6095, 0, 0, 0), ((0, 172, 12, 85, 0), 6096, 0, 0, 0), ((0, 175, 12, 86, 0), 6097, 0, 0, 0), ((0, 178, 12, 87, 0), 6098, 0, 0, 0), ((0, 181, 12, 89, 0), 6100, 0, 0, 0), ((0, 184, 12, 90, 0), 6101, 0, 0, 0), ((0, 187, 12, 91, 0), 6102, 0, 0, 0), ((0, 190, 12, 92, 0), 6103, 0, 0, 0), ((0, 193, 12, 93, 0), 6104, 0, 0, 0), ((0, 200, 12, 1, 0), 6012, 0, 0, 0), ((1, 203, 173, 3, 0), 7060, 7061, 0, 0), ((1, 207, 179, 3, 0), 7111, 7112, 0, 0), ((2, 211, 180, 3, 0), 7107, 7109, 41, 0), ((0, 214, 12, 16, 0), 6027, 0, 0, 0), ((0, 217, 12, 17, 0), 6028, 0, 0, 0), ((0, 220, 12, 18, 0), 6029, 0, 0, 0), ((2, 223, 185, 0, 0), 7075, 7077, 33, 0), ((2, 227, 187, 0, 0), 7083, 7085, 35, 0), ((2, 231, 186, 0, 0), 7079, 7081, 34, 0), ((2, 234, 178, 2, 0), 7103, 7105, 40, 0), ((2, 238, 189, 0, 0), 7099, 7101, 39, 0), ((2, 241, 188, 0, 0), 7087, 7089, 36, 0), ((2, 244, 181, 6, 0), 7114, 7116, 42, 0), ((0, 248, 12, 19, 0), 6030, 0, 0, 0), ((2, 251, 190, 0, 0), 7095, 7097, 38, 0), ((2, 254, 182, 1, 0), 7071, 7073, 32, 0), ((2, 258, 191, 0, 0), 7091, 7093, 37, 0), ((0, 261, 12, 12, 0), 6023, 0, 0, 0), ((2, 264, 192, 0, 0), 7067, 7069, 31, 0), ((2, 267, 193, 3, 0), 7118, 7120, 43, 0), ((2, 271, 177, 1, 0), 7126, 7128, 44, 0), ((2, 276, 183, 1, 0), 7131, 7133, 45, 0), ((2, 280, 195, 1, 0), 7135, 7137, 46, 0), ((0, 283, 12, 25, 0), 6036, 0, 0, 0), ((0, 286, 12, 24, 0), 6035, 0, 0, 0), ((2, 289, 199, 3, 0), 7155, 7157, 49, 0), ((2, 292, 198, 5, 0), 7147, 7149, 47, 0), ((2, 296, 200, 4, 0), 7151, 7153, 48, 0), ((1, 300, 174, 2, 0), 7167, 7168, 0, 0), ((1, 304, 175, 2, 0), 7182, 7183, 0, 0), ((0, 307, 12, 35, 0), 6046, 0, 0, 0), ((1, 310, 207, 2, 0), 7196, 7197, 0, 0), ((0, 313, 12, 42, 0), 6053, 0, 0, 0), ((0, 316, 12, 37, 0), 6048, 0, 0, 0), ((2, 319, 210, 2, 0), 7214, 7216, 54, 0), ((2, 323, 209, 2, 0), 7207, 7209, 53, 0), ((1, 327, 211, 1, 0), 7211, 7212, 0, 0), ((2, 330, 212, 2, 0), 7203, 7205, 52, 0), ((1, 333, 215, 1, 0), 7189, 7190, 0, 0), ((2, 336, 208, 1, 0), 7192, 7194, 50, 0), ((2, 339, 213, 2, 0), 7199, 7201, 51, 0), ((2, 342, 214, 2, 0), 7218, 7220, 55, 0), ((2, 349, 218, 0, 0), 7235, 7237, 57, 0), ((2, 352, 219, 2, 0), 7239, 8001, 58, 0), ((2, 355, 220, 2, 0), 7231, 7233, 56, 0), ((2, 358, 225, 3, 0), 8019, 8021, 59, 0), ((0, 361, 12, 46, 0), 6057, 0, 0, 0), ((0, 364, 12, 47, 0), 6058, 0, 0, 0), ((0, 367, 12, 48, 0), 6059, 0, 0, 0), ((0, 370, 12, 49, 0), 6060, 0, 0, 0), ((0, 374, 12, 50, 0), 6061, 0, 0, 0), ((2, 377, 227, 4, 0), 8035, 8037, 62, 0), ((2, 381, 228, 3, 0), 8039, 8041, 63, 0), ((2, 384, 229, 4, 0), 8031, 8033, 61, 0), ((2, 387, 230, 3, 0), 8027, 8029, 60, 0), ((2, 390, 233, 2, 0), 8051, 8053, 64, 0), ((2, 393, 236, 2, 0), 8063, 8065, 66, 0), ((2, 396, 235, 1, 0), 8067, 8069, 67, 0), ((2, 400, 237, 2, 0), 8059, 8061, 65, 0), ((0, 403, 12, 51, 0), 6062, 0, 0, 0), ((0, 406, 12, 52, 0), 6063, 0, 0, 0), ((0, 409, 12, 56, 0), 6067, 0, 0, 0), ((2, 412, 241, 2, 0), 8083, 8085, 68, 0), ((1, 415, 176, 1, 0), 8099, 8100, 0, 0), ((2, 418, 243, 0, 0), 8095, 8097, 70, 0), ((0, 421, 12, 63, 0), 6074, 0, 0, 0), ((0, 424, 12, 64, 0), 6075, 0, 0, 0), ((0, 427, 12, 61, 0), 6072, 0, 0, 0), ((2, 430, 244, 0, 0), 8102, 8104, 71, 0), ((0, 433, 12, 62, 0), 6073, 0, 0, 0), ((2, 436, 245, 2, 0), 8091, 8093, 69, 0), ((0, 439, 12, 65, 0), 6076, 0, 0, 0), ((0, 442, 12, 67, 0), 6078, 0, 0, 0), ((0, 445, 12, 68, 0), 6079, 0, 0, 0), ((0, 448, 12, 69, 0), 6080, 0, 0, 0), ((2, 451, 250, 4, 0), 8126, 8128, 73, 0), ((2, 454, 251, 2, 0), 8122, 8124, 72, 0), ((0, 457, 12, 71, 0), 6082, 0, 0, 0), ((1, 460, 255, 1, 0), 8142, 8143, 0, 0), ((0, 463, 12, 74, 0), 6085, 0, 0, 0), ((2, 466, 257, 1, 0), 8149, 8151, 74, 0), ((2, 469, 258, 0, 0), 8153, 8155, 75, 0), ((0, 472, 12, 79, 0), 6090, 0, 0, 0), ((1, 476, 300, 1, 0), 8177, 8178, 0, 0), ((2, 479, 264, 1, 0), 8180, 8182, 76, 0), ((1, 482, 265, 1, 0), 8184, 8185, 0, 0), ((2, 487, 267, 2, 0), 8200, 8202, 79, 0), ((1, 490, 268, 2, 0), 8205, 8206, 0, 0), ((2, 495, 270, 1, 0), 8192, 8194, 77, 0), ((2, 498, 269, 2, 0), 8196, 8198, 78, 0), ((0, 504, 12, 83, 0), 6094, 0, 0, 0), ((2, 507, 275, 4, 0), 8227, 8229, 80, 0), ((2, 510, 276, 3, 0), 8231, 8233, 81, 0), ((2, 513, 279, 3, 0), 8239, 9001, 82, 0), ((2, 516, 278, 3, 0), 9003, 9005, 83, 0), ((2, 519, 281, 2, 0), 9011, 9013, 84, 0), ((0, 522, 12, 88, 0), 6099, 0, 0, 0), ((2, 525, 286, 1, 0), 9034, 9036, 87, 0), ((2, 528, 287, 2, 0), 9042, 9044, 89, 0), ((1, 531, 284, 2, 0), 9031, 9032, 0, 0), ((2, 534, 288, 2, 0), 9038, 9040, 88, 0), ((2, 537, 289, 2, 0), 9027, 9029, 86, 0), ((2, 540, 290, 2, 0), 9050, 9052, 91, 0), ((2, 543, 292, 2, 0), 9058, 9060, 93, 0), ((2, 546, 291, 2, 0), 9046, 9048, 90, 0), ((2, 549, 293, 2, 0), 9054, 9056, 92, 0), ((2, 552, 294, 2, 0), 9070, 9072, 96, 0), ((2, 555, 295, 2, 0), 9066, 9068, 95, 0), ((2, 558, 283, 1, 0), 9023, 9025, 85, 0), ((2, 561, 296, 2, 0), 9062, 9064, 94, 0), ((2, 564, 303, 2, 0), 9094, 9096, 97, 0)]
def mx_LL12 : List mx_L5 := mx_LP12.map (fun q => q.1)
set_option maxRecDepth 100000 in
theorem mx_LLok12 : ∀ q ∈ mx_LL12, mx_PL 12 q := mx_LP_s (by decide +kernel)
def mx_KL12 : List (Nat × Int32) := [(275, (-2000000000)), (475, 2147483647), (503, 1999999999)]
def mx_JL12 : List (Nat × Int64) := [(347, (-9223372036854775808)), (485, (-1)), (493, 2), (501, 1999999999)]
theorem mx_KLok12 : ∀ q ∈ mx_KL12, Cond.constant (mx_cn 12) q.1 q.2 ∈ mx_ws := (List.forall_mem_cons.mpr ⟨mx_hw_s (p := 7130) (by decide +kernel), (List.forall_mem_cons.mpr ⟨mx_hw_s (p := 8187) (by decide +kernel), (List.forall_mem_cons.mpr ⟨mx_hw_s (p := 8210) (by decide +kernel), (fun _ h => absurd h List.not_mem_nil)⟩)⟩)⟩)
theorem mx_JLok12 : ∀ q ∈ mx_JL12, Cond.constantLong (mx_cn 12) q.1 q.2 ∈ mx_ws := (List.forall_mem_cons.mpr ⟨mx_hw_s (p := 7226) (by decide +kernel), (List.forall_mem_cons.mpr ⟨mx_hw_s (p := 8204) (by decide +kernel), (List.forall_mem_cons.mpr ⟨mx_hw_s (p := 8208) (by decide +kernel), (List.forall_mem_cons.mpr ⟨mx_hw_s (p := 8209) (by decide +kernel), (fun _ h => absurd h List.not_mem_nil)⟩)⟩)⟩)⟩)
def mx_LP13 : List (mx_L5 × Nat × Nat × Nat × Nat) := []
def mx_LL13 : List mx_L5 := mx_LP13.map (fun q => q.1)
set_option maxRecDepth 100000 in
theorem mx_LLok13 : ∀ q ∈ mx_LL13, mx_PL 13 q := mx_LP_s (by decide +kernel)
def mx_KL13 : List (Nat × Int32) := [(265, 1431655765), (266, 858993459), (267, 252645135)]
def mx_JL13 : List (Nat × Int64) := []
theorem mx_KLok13 : ∀ q ∈ mx_KL13, Cond.constant (mx_cn 13) q.1 q.2 ∈ mx_ws := (List.forall_mem_cons.mpr ⟨mx_hw_s (p := 5094) (by decide +kernel), (List.forall_mem_cons.mpr ⟨mx_hw_s (p := 5095) (by decide +kernel), (List.forall_mem_cons.mpr ⟨mx_hw_s (p := 5096) (by decide +kernel), (fun _ h => absurd h List.not_mem_nil)⟩)⟩)⟩)
theorem mx_JLok13 : ∀ q ∈ mx_JL13, Cond.constantLong (mx_cn 13) q.1 q.2 ∈ mx_ws := (fun _ h => absurd h List.not_mem_nil)
def mx_LP14 : List (mx_L5 × Nat × Nat × Nat × Nat) := []
def mx_LL14 : List mx_L5 := mx_LP14.map (fun q => q.1)
set_option maxRecDepth 100000 in
theorem mx_LLok14 : ∀ q ∈ mx_LL14, mx_PL 14 q := mx_LP_s (by decide +kernel)
def mx_KL14 : List (Nat × Int32) := []
def mx_JL14 : List (Nat × Int64) := []
theorem mx_KLok14 : ∀ q ∈ mx_KL14, Cond.constant (mx_cn 14) q.1 q.2 ∈ mx_ws := (fun _ h => absurd h List.not_mem_nil)
theorem mx_JLok14 : ∀ q ∈ mx_JL14, Cond.constantLong (mx_cn 14) q.1 q.2 ∈ mx_ws := (fun _ h => absurd h List.not_mem_nil)
def mx_LP15 : List (mx_L5 × Nat × Nat × Nat × Nat) := []
def mx_LL15 : List mx_L5 := mx_LP15.map (fun q => q.1)
set_option maxRecDepth 100000 in
theorem mx_LLok15 : ∀ q ∈ mx_LL15, mx_PL 15 q := mx_LP_s (by decide +kernel)
def mx_KL15 : List (Nat × Int32) := []
def mx_JL15 : List (Nat × Int64) := []
theorem mx_KLok15 : ∀ q ∈ mx_KL15, Cond.constant (mx_cn 15) q.1 q.2 ∈ mx_ws := (fun _ h => absurd h List.not_mem_nil)
theorem mx_JLok15 : ∀ q ∈ mx_JL15, Cond.constantLong (mx_cn 15) q.1 q.2 ∈ mx_ws := (fun _ h => absurd h List.not_mem_nil)
def mx_LP16 : List (mx_L5 × Nat × Nat × Nat × Nat) := []
def mx_LL16 : List mx_L5 := mx_LP16.map (fun q => q.1)
set_option maxRecDepth 100000 in
theorem mx_LLok16 : ∀ q ∈ mx_LL16, mx_PL 16 q := mx_LP_s (by decide +kernel)
def mx_KL16 : List (Nat × Int32) := []
def mx_JL16 : List (Nat × Int64) := []
theorem mx_KLok16 : ∀ q ∈ mx_KL16, Cond.constant (mx_cn 16) q.1 q.2 ∈ mx_ws := (fun _ h => absurd h List.not_mem_nil)
theorem mx_JLok16 : ∀ q ∈ mx_JL16, Cond.constantLong (mx_cn 16) q.1 q.2 ∈ mx_ws := (fun _ h => absurd h List.not_mem_nil)
def mx_LP17 : List (mx_L5 × Nat × Nat × Nat × Nat) := [((4, 7, 11, 0, 0), 1018, 1019, 1001, 0), ((3, 9, 101, 0, 0), 1020, 1021, 0, 0), ((4, 10, 12, 0, 0), 6006, 6007, 1013, 0), ((3, 12, 172, 0, 0), 6008, 6009, 0, 0), ((2, 13, 102, 2, 0), 3009, 3010, 3011, 0), ((2, 17, 184, 2, 0), 7056, 7057, 7058, 0), ((2, 18, 103, 0, 0), 3020, 3021, 3022, 0), ((2, 22, 194, 0, 0), 7063, 7064, 7065, 0), ((2, 23, 104, 2, 0), 3094, 3095, 3096, 0), ((2, 26, 196, 2, 0), 7122, 7123, 7124, 0), ((2, 27, 105, 4, 0), 3107, 3108, 3109, 0), ((2, 31, 197, 4, 0), 7139, 7140, 7141, 0), ((2, 32, 106, 4, 0), 3115, 3116, 3117, 0), ((2, 35, 201, 4, 0), 7143, 7144, 7145, 0), ((2, 36, 107, 4, 0), 3142, 3143, 3144, 0), ((2, 39, 202, 4, 0), 7159, 7160, 7161, 0), ((2, 40, 108, 3, 0), 3147, 3148, 3149, 0), ((2, 44, 203, 3, 0), 7163, 7164, 7165, 0), ((2, 45, 109, 3, 0), 3152, 3153, 3154, 0), ((2, 48, 216, 3, 0), 7185, 7186, 7187, 0), ((2, 49, 110, 3, 0), 3201, 3202, 3203, 0), ((2, 53, 217, 3, 0), 7222, 7223, 7224, 0), ((2, 54, 111, 3, 0), 3207, 3208, 3209, 0), ((2, 57, 221, 3, 0), 7227, 7228, 7229, 0), ((2, 58, 112, 3, 0), 3219, 3220, 3221, 0), ((2, 61, 222, 3, 0), 8003, 8004, 8005, 0), ((2, 62, 113, 4, 0), 3223, 3224, 3225, 0), ((2, 65, 223, 4, 0), 8007, 8008, 8009, 0), ((2, 66, 114, 5, 0), 3228, 3229, 3230, 0), ((2, 70, 224, 5, 0), 8011, 8012, 8013, 0), ((2, 71, 115, 4, 0), 3233, 3234, 3235, 0), ((2, 74, 226, 4, 0), 8015, 8016, 8017, 0), ((2, 75, 116, 1, 0), 4003, 4004, 4005, 0), ((2, 79, 231, 1, 0), 8023, 8024, 8025, 0), ((2, 80, 117, 2, 0), 4032, 4033, 4034, 0), ((2, 83, 232, 2, 0), 8043, 8044, 8045, 0), ((2, 84, 118, 2, 0), 4036, 4037, 4038, 0), ((2, 87, 234, 2, 0), 8047, 8048, 8049, 0), ((2, 88, 119, 3, 0), 4040, 4041, 4042, 0), ((2, 91, 238, 3, 0), 8055, 8056, 8057, 0), ((2, 92, 120, 4, 0), 4052, 4053, 4054, 0), ((2, 95, 239, 4, 0), 8071, 8072, 8073, 0), ((2, 96, 121, 3, 0), 4064, 4065, 4066, 0), ((2, 99, 240, 3, 0), 8075, 8076, 8077, 0), ((2, 100, 122, 3, 0), 4080, 4081, 4082, 0), ((2, 103, 242, 3, 0), 8079, 8080, 8081, 0), ((2, 104, 123, 1, 0), 4091, 4092, 4093, 0), ((2, 107, 246, 1, 0), 8087, 8088, 8089, 0), ((2, 108, 124, 0, 0), 4120, 4121, 4122, 0), ((2, 111, 247, 0, 0), 8106, 8107, 8108, 0), ((2, 112, 125, 1, 0), 4124, 4125, 4126, 0), ((2, 115, 248, 1, 0), 8110, 8111, 8112, 0), ((2, 116, 126, 3, 0), 4132, 4133, 4134, 0), ((2, 119, 252, 3, 0), 8118, 8119, 8120, 0), ((2, 120, 127, 2, 0), 4149, 4150, 4151, 0), ((2, 123, 253, 2, 0), 8130, 8131, 8132, 0), ((2, 124, 128, 0, 0), 4159, 4160, 4161, 0), ((2, 127, 249, 0, 0), 8114, 8115, 8116, 0), ((2, 128, 129, 1, 0), 4163, 4164, 4165, 0), ((2, 131, 254, 1, 0), 8134, 8135, 8136, 0), ((2, 132, 130, 2, 0), 4167, 4168, 4169, 0), ((2, 135, 256, 2, 0), 8138, 8139, 8140, 0), ((2, 136, 131, 4, 0), 4174, 4175, 4176, 0), ((2, 139, 259, 4, 0), 8145, 8146, 8147, 0), ((2, 140, 132, 3, 0), 4202, 4203, 4204, 0), ((2, 143, 260, 3, 0), 8157, 8158, 8159, 0), ((2, 144, 133, 2, 0), 4210, 4211, 4212, 0), ((2, 147, 261, 2, 0), 8161, 8162, 8163, 0), ((2, 148, 134, 2, 0), 4214, 4215, 4216, 0), ((2, 151, 262, 2, 0), 8165, 8166, 8167, 0), ((2, 152, 135, 2, 0), 4226, 4227, 4228, 0), ((2, 155, 263, 2, 0), 8169, 8170, 8171, 0), ((2, 156, 136, 4, 0), 4239, 5000, 5001, 0), ((2, 159, 266, 4, 0), 8173, 8174, 8175, 0), ((2, 160, 137, 2, 0), 5031, 5032, 5033, 0), ((2, 163, 271, 2, 0), 8188, 8189, 8190, 0), ((2, 164, 138, 1, 0), 5055, 5056, 5057, 0), ((2, 167, 272, 1, 0), 8211, 8212, 8213, 0), ((2, 168, 139, 2, 0), 5066, 5067, 5068, 0), ((2, 171, 273, 2, 0), 8215, 8216, 8217, 0), ((2, 172, 140, 4, 0), 5074, 5075, 5076, 0), ((2, 175, 277, 4, 0), 8223, 8224, 8225, 0), ((2, 176, 141, 0, 0), 5101, 5102, 5103, 0), ((2, 179, 274, 0, 0), 8219, 8220, 8221, 0), ((2, 180, 142, 4, 0), 5105, 5106, 5107, 0), ((2, 183, 280, 4, 0), 8235, 8236, 8237, 0), ((2, 184, 143, 2, 0), 5116, 5117, 5118, 0), ((2, 187, 282, 2, 0), 9007, 9008, 9009, 0), ((2, 188, 144, 0, 0), 5124, 5125, 5126, 0), ((2, 191, 204, 0, 0), 7170, 7171, 7172, 0), ((2, 192, 145, 0, 0), 5133, 5134, 5135, 0), ((2, 195, 205, 0, 0), 7174, 7175, 7176, 0), ((2, 196, 146, 0, 0), 5141, 5142, 5143, 0), ((2, 199, 206, 0, 0), 7178, 7179, 7180, 0), ((2, 200, 147, 1, 0), 5149, 5150, 5151, 0), ((2, 203, 285, 1, 0), 9015, 9016, 9017, 0), ((2, 204, 148, 3, 0), 5156, 5157, 5158, 0), ((2, 207, 297, 3, 0), 9019, 9020, 9021, 0), ((2, 208, 149, 1, 0), 5182, 5183, 5184, 0), ((2, 211, 298, 1, 0), 9074, 9075, 9076, 0), ((2, 212, 150, 2, 0), 5186, 5187, 5188, 0), ((2, 215, 301, 2, 0), 9082, 9083, 9084, 0), ((2, 216, 151, 3, 0), 5194, 5195, 5196, 0), ((2, 219, 302, 3, 0), 9086, 9087, 9088, 0), ((2, 222, 152, 3, 0), 5205, 5206, 5207, 0), ((2, 226, 304, 3, 0), 9090, 9091, 9092, 0), ((2, 227, 153, 2, 0), 5220, 5221, 5222, 0), ((2, 231, 305, 2, 0), 9098, 9099, 9100, 0), ((2, 232, 154, 5, 0), 5224, 5225, 5226, 0), ((2, 235, 306, 5, 0), 9102, 9103, 9104, 0), ((2, 236, 155, 2, 0), 5235, 5236, 5237, 0), ((2, 239, 307, 2, 0), 9106, 9107, 9108, 0), ((2, 240, 156, 1, 0), 6002, 6003, 6004, 0), ((2, 243, 299, 1, 0), 9078, 9079, 9080, 0)]
def mx_LL17 : List mx_L5 := mx_LP17.map (fun q => q.1)
set_option maxRecDepth 100000 in
theorem mx_LLok17 : ∀ q ∈ mx_LL17, mx_PL 17 q := mx_LP_s (by decide +kernel)
def mx_KL17 : List (Nat × Int32) := []
def mx_JL17 : List (Nat × Int64) := [(220, 4294967295)]
theorem mx_KLok17 : ∀ q ∈ mx_KL17, Cond.constant (mx_cn 17) q.1 q.2 ∈ mx_ws := (fun _ h => absurd h List.not_mem_nil)
theorem mx_JLok17 : ∀ q ∈ mx_JL17, Cond.constantLong (mx_cn 17) q.1 q.2 ∈ mx_ws := (List.forall_mem_cons.mpr ⟨mx_hw_s (p := 9110) (by decide +kernel), (fun _ h => absurd h List.not_mem_nil)⟩)
theorem mx_ARok : ∀ t, mx_ak t ≤ 3 → Cond.arrayClass (newarray.typeOf t) ∈ mx_ws := fun t h => by
  cases t with
  | int => exact mx_hw_s (p := 1043) (by decide +kernel)
  | long => exact mx_hw_s (p := 1186) (by decide +kernel)
  | byte => exact mx_hw_s (p := 7055) (by decide +kernel)
  | boolean => exact mx_hw_s (p := 7054) (by decide +kernel)
  | _ => exact absurd h (by decide)
end
section
def mx_t1 : List (Nat × List mx_En) := [(15, [(0, .aload_n 0, 1, 0, 0, 0, 0, 0), (1, .invokespecial 3, 3, 1000, 0, 0, 0, 0), (4, .aload_n 0, 1, 0, 0, 0, 0, 0), (5, .iconst 0, 1, 0, 0, 0, 0, 0), (6, .putfield 9, 3, 0, 0, 0, 0, 0), (9, .aload_n 0, 1, 0, 0, 0, 0, 0), (10, .iconst 4, 1, 0, 0, 0, 4, 0), (11, .newarray .int, 2, 0, 0, 0, 0, 0), (13, .dup, 1, 0, 0, 0, 0, 0), (14, .iconst 0, 1, 0, 0, 0, 0, 0)]),
  (25, [(15, .iconst (-1), 1, 0, 0, 0, -1, 0), (16, .iastore, 1, 0, 0, 0, 0, 0), (17, .dup, 1, 0, 0, 0, 0, 0), (18, .iconst 1, 1, 0, 0, 0, 1, 0), (19, .iconst (-1), 1, 0, 0, 0, -1, 0), (20, .iastore, 1, 0, 0, 0, 0, 0), (21, .dup, 1, 0, 0, 0, 0, 0), (22, .iconst 2, 1, 0, 0, 0, 2, 0), (23, .iconst (-1), 1, 0, 0, 0, -1, 0), (24, .iastore, 1, 0, 0, 0, 0, 0)]),
  (39, [(25, .dup, 1, 0, 0, 0, 0, 0), (26, .iconst 3, 1, 0, 0, 0, 3, 0), (27, .iconst (-1), 1, 0, 0, 0, -1, 0), (28, .iastore, 1, 0, 0, 0, 0, 0), (29, .putfield 15, 3, 0, 1, 0, 0, 0), (32, .aload_n 0, 1, 0, 0, 0, 0, 0), (33, .iconst 0, 1, 0, 0, 0, 0, 0), (34, .putfield 19, 3, 0, 2, 0, 0, 0), (37, .aload_n 0, 1, 0, 0, 0, 0, 0), (38, .iconst 4, 1, 0, 0, 0, 4, 0)]),
  (50, [(39, .newarray .int, 2, 0, 0, 0, 0, 0), (41, .dup, 1, 0, 0, 0, 0, 0), (42, .iconst 0, 1, 0, 0, 0, 0, 0), (43, .iconst (-1), 1, 0, 0, 0, -1, 0), (44, .iastore, 1, 0, 0, 0, 0, 0), (45, .dup, 1, 0, 0, 0, 0, 0), (46, .iconst 1, 1, 0, 0, 0, 1, 0), (47, .iconst (-1), 1, 0, 0, 0, -1, 0), (48, .iastore, 1, 0, 0, 0, 0, 0), (49, .dup, 1, 0, 0, 0, 0, 0)]),
  (64, [(50, .iconst 2, 1, 0, 0, 0, 2, 0), (51, .iconst (-1), 1, 0, 0, 0, -1, 0), (52, .iastore, 1, 0, 0, 0, 0, 0), (53, .dup, 1, 0, 0, 0, 0, 0), (54, .iconst 3, 1, 0, 0, 0, 3, 0), (55, .iconst (-1), 1, 0, 0, 0, -1, 0), (56, .iastore, 1, 0, 0, 0, 0, 0), (57, .putfield 22, 3, 0, 3, 0, 0, 0), (60, .aload_n 0, 1, 0, 0, 0, 0, 0), (61, .sipush 800, 3, 0, 0, 0, 800, 0)]),
  (85, [(64, .newarray .int, 2, 0, 0, 0, 0, 0), (66, .putfield 25, 3, 0, 4, 0, 0, 0), (69, .aload_n 0, 1, 0, 0, 0, 0, 0), (70, .bipush 6, 2, 0, 0, 0, 6, 0), (72, .newarray .int, 2, 0, 0, 0, 0, 0), (74, .putfield 28, 3, 0, 5, 0, 0, 0), (77, .aload_n 0, 1, 0, 0, 0, 0, 0), (78, .bipush 6, 2, 0, 0, 0, 6, 0), (80, .newarray .int, 2, 0, 0, 0, 0, 0), (82, .putfield 31, 3, 0, 6, 0, 0, 0)]),
  (103, [(85, .aload_n 0, 1, 0, 0, 0, 0, 0), (86, .iconst 0, 1, 0, 0, 0, 0, 0), (87, .putfield 34, 3, 0, 7, 0, 0, 0), (90, .aload_n 0, 1, 0, 0, 0, 0, 0), (91, .bipush 6, 2, 0, 0, 0, 6, 0), (93, .newarray .int, 2, 0, 0, 0, 0, 0), (95, .putfield 37, 3, 0, 8, 0, 0, 0), (98, .aload_n 0, 1, 0, 0, 0, 0, 0), (99, .bipush 6, 2, 0, 0, 0, 6, 0), (101, .newarray .int, 2, 0, 0, 0, 0, 0)]),
  (115, [(103, .putfield 40, 3, 0, 9, 0, 0, 0), (106, .aload_n 0, 1, 0, 0, 0, 0, 0), (107, .bipush 6, 2, 0, 0, 0, 6, 0), (109, .newarray .int, 2, 0, 0, 0, 0, 0), (111, .putfield 43, 3, 0, 10, 0, 0, 0), (114, .return_, 1, 0, 0, 0, 0, 0)])]
set_option maxRecDepth 100000 in
theorem mx_ok1 : ∀ q ∈ mx_t1, ∀ en ∈ q.2, mx_gd 1 en := mx_gt_s mx_LLok0 mx_KLok0 mx_JLok0 mx_ARok (by decide +kernel)
def mx_t2 : List (Nat × List mx_En) := [(19, [(0, .aload_n 0, 1, 0, 0, 0, 0, 0), (1, .getfield 34, 3, 0, 7, 0, 0, 0), (4, .bipush 6, 2, 0, 0, 0, 6, 0), (6, .if_icmp .lt 4, 3, 10, 0, 0, 0, 0), (9, .return_, 1, 0, 0, 0, 0, 0), (10, .aload_n 0, 1, 0, 0, 0, 0, 0), (11, .getfield 37, 3, 0, 8, 0, 0, 0), (14, .aload_n 0, 1, 0, 0, 0, 0, 0), (15, .getfield 34, 3, 0, 7, 0, 0, 0), (18, .iload_n 1, 1, 0, 0, 0, 0, 0)]),
  (35, [(19, .iastore, 1, 0, 0, 0, 0, 0), (20, .aload_n 0, 1, 0, 0, 0, 0, 0), (21, .getfield 40, 3, 0, 9, 0, 0, 0), (24, .aload_n 0, 1, 0, 0, 0, 0, 0), (25, .getfield 34, 3, 0, 7, 0, 0, 0), (28, .iload_n 2, 1, 0, 0, 0, 0, 0), (29, .iastore, 1, 0, 0, 0, 0, 0), (30, .aload_n 0, 1, 0, 0, 0, 0, 0), (31, .getfield 43, 3, 0, 10, 0, 0, 0), (34, .aload_n 0, 1, 0, 0, 0, 0, 0)]),
  (51, [(35, .getfield 34, 3, 0, 7, 0, 0, 0), (38, .iload_n 3, 1, 0, 0, 0, 0, 0), (39, .iastore, 1, 0, 0, 0, 0, 0), (40, .aload_n 0, 1, 0, 0, 0, 0, 0), (41, .dup, 1, 0, 0, 0, 0, 0), (42, .getfield 34, 3, 0, 7, 0, 0, 0), (45, .iconst 1, 1, 0, 0, 0, 1, 0), (46, .iadd, 1, 0, 0, 0, 0, 0), (47, .putfield 34, 3, 0, 7, 0, 0, 0), (50, .return_, 1, 0, 0, 0, 0, 0)])]
set_option maxRecDepth 100000 in
theorem mx_ok2 : ∀ q ∈ mx_t2, ∀ en ∈ q.2, mx_gd 2 en := mx_gt_s mx_LLok0 mx_KLok0 mx_JLok0 mx_ARok (by decide +kernel)
def mx_t3 : List (Nat × List mx_En) := [(18, [(0, .aload_n 0, 1, 0, 0, 0, 0, 0), (1, .getfield 28, 3, 0, 5, 0, 0, 0), (4, .iconst 0, 1, 0, 0, 0, 0, 0), (5, .invokestatic 46, 3, 317, 2, 0, 0, 0), (8, .aload_n 0, 1, 0, 0, 0, 0, 0), (9, .getfield 31, 3, 0, 6, 0, 0, 0), (12, .iconst 0, 1, 0, 0, 0, 0, 0), (13, .invokestatic 46, 3, 317, 2, 0, 0, 0), (16, .iconst 0, 1, 0, 0, 0, 0, 0), (17, .istore_n 2, 1, 0, 0, 0, 0, 0)]),
  (34, [(18, .iload_n 2, 1, 0, 0, 0, 0, 0), (19, .iconst 4, 1, 0, 0, 0, 4, 0), (20, .if_icmp .ge 38, 3, 58, 0, 0, 0, 0), (23, .aload_n 0, 1, 0, 0, 0, 0, 0), (24, .getfield 22, 3, 0, 3, 0, 0, 0), (27, .iload_n 2, 1, 0, 0, 0, 0, 0), (28, .aload_n 0, 1, 0, 0, 0, 0, 0), (29, .getfield 15, 3, 0, 1, 0, 0, 0), (32, .iload_n 2, 1, 0, 0, 0, 0, 0), (33, .iaload, 1, 0, 0, 0, 0, 0)]),
  (52, [(34, .aload_n 1, 1, 0, 0, 0, 0, 0), (35, .getfield 52, 3, 3, 0, 0, 0, 0), (38, .if_icmp .ge 12, 3, 50, 0, 0, 0, 0), (41, .aload_n 0, 1, 0, 0, 0, 0, 0), (42, .getfield 15, 3, 0, 1, 0, 0, 0), (45, .iload_n 2, 1, 0, 0, 0, 0, 0), (46, .iaload, 1, 0, 0, 0, 0, 0), (47, .goto 4, 3, 51, 0, 0, 0, 0), (50, .iconst (-1), 1, 0, 0, 0, -1, 0), (51, .iastore, 1, 0, 0, 0, 0, 0)]),
  (59, [(52, .iinc 2 1, 3, 0, 0, 0, 1, 0), (55, .goto (-37), 3, 18, 0, 0, 0, 0), (58, .return_, 1, 0, 0, 0, 0, 0)])]
set_option maxRecDepth 100000 in
theorem mx_ok3 : ∀ q ∈ mx_t3, ∀ en ∈ q.2, mx_gd 3 en := mx_gt_s mx_LLok0 mx_KLok0 mx_JLok0 mx_ARok (by decide +kernel)
def mx_t4 : List (Nat × List mx_En) := [(18, [(0, .iload_n 2, 1, 0, 0, 0, 0, 0), (1, .aload_n 1, 1, 0, 0, 0, 0, 0), (2, .getfield 52, 3, 3, 0, 0, 0, 0), (5, .if_icmp .ge 25, 3, 30, 0, 0, 0, 0), (8, .aload_n 1, 1, 0, 0, 0, 0, 0), (9, .getfield 57, 3, 3, 3, 0, 0, 0), (12, .iload_n 2, 1, 0, 0, 0, 0, 0), (13, .iaload, 1, 0, 0, 0, 0, 0), (14, .ifCond .ne 16, 3, 30, 0, 0, 0, 0), (17, .aload_n 0, 1, 0, 0, 0, 0, 0)]),
  (31, [(18, .getfield 31, 3, 0, 6, 0, 0, 0), (21, .iload_n 2, 1, 0, 0, 0, 0, 0), (22, .dup2, 1, 0, 0, 0, 0, 0), (23, .iaload, 1, 0, 0, 0, 0, 0), (24, .bipush 64, 2, 0, 0, 0, 64, 0), (26, .iload_n 3, 1, 0, 0, 0, 0, 0), (27, .imul, 1, 0, 0, 0, 0, 0), (28, .iadd, 1, 0, 0, 0, 0, 0), (29, .iastore, 1, 0, 0, 0, 0, 0), (30, .return_, 1, 0, 0, 0, 0, 0)])]
set_option maxRecDepth 100000 in
theorem mx_ok4 : ∀ q ∈ mx_t4, ∀ en ∈ q.2, mx_gd 4 en := mx_gt_s mx_LLok0 mx_KLok0 mx_JLok0 mx_ARok (by decide +kernel)
def mx_t5 : List (Nat × List mx_En) := [(17, [(0, .iconst 0, 1, 0, 0, 0, 0, 0), (1, .istore 4, 2, 0, 0, 0, 0, 0), (3, .aload_n 0, 1, 0, 0, 0, 0, 0), (4, .iload_n 2, 1, 0, 0, 0, 0, 0), (5, .putfield 19, 3, 0, 2, 0, 0, 0), (8, .iconst 0, 1, 0, 0, 0, 0, 0), (9, .istore 5, 2, 0, 0, 0, 0, 0), (11, .iload 5, 2, 0, 0, 0, 0, 0), (13, .iload_n 2, 1, 0, 0, 0, 0, 0), (14, .if_icmp .ge 204, 3, 218, 0, 0, 0, 0)]),
  (38, [(17, .iload 5, 2, 0, 0, 0, 0, 0), (19, .sipush 200, 3, 0, 0, 0, 200, 0), (22, .if_icmp .ge 196, 3, 218, 0, 0, 0, 0), (25, .iconst 0, 1, 0, 0, 0, 0, 0), (26, .istore 6, 2, 0, 0, 0, 0, 0), (28, .iload 6, 2, 0, 0, 0, 0, 0), (30, .iload_n 3, 1, 0, 0, 0, 0, 0), (31, .if_icmp .ge 40, 3, 71, 0, 0, 0, 0), (34, .aload_n 0, 1, 0, 0, 0, 0, 0), (35, .getfield 43, 3, 0, 10, 0, 0, 0)]),
  (55, [(38, .iload 6, 2, 0, 0, 0, 0, 0), (40, .iaload, 1, 0, 0, 0, 0, 0), (41, .iload 5, 2, 0, 0, 0, 0, 0), (43, .if_icmp .ne 22, 3, 65, 0, 0, 0, 0), (46, .aload_n 0, 1, 0, 0, 0, 0, 0), (47, .aload_n 1, 1, 0, 0, 0, 0, 0), (48, .aload_n 0, 1, 0, 0, 0, 0, 0), (49, .getfield 37, 3, 0, 8, 0, 0, 0), (52, .iload 6, 2, 0, 0, 0, 0, 0), (54, .iaload, 1, 0, 0, 0, 0, 0)]),
  (76, [(55, .aload_n 0, 1, 0, 0, 0, 0, 0), (56, .getfield 40, 3, 0, 9, 0, 0, 0), (59, .iload 6, 2, 0, 0, 0, 0, 0), (61, .iaload, 1, 0, 0, 0, 0, 0), (62, .invokevirtual 60, 3, 4, 3, 0, 0, 0), (65, .iinc 6 1, 3, 0, 0, 0, 1, 0), (68, .goto (-40), 3, 28, 0, 0, 0, 0), (71, .iconst 0, 1, 0, 0, 0, 0, 0), (72, .istore 6, 2, 0, 0, 0, 0, 0), (74, .iload 6, 2, 0, 0, 0, 0, 0)]),
  (95, [(76, .aload_n 1, 1, 0, 0, 0, 0, 0), (77, .getfield 52, 3, 3, 0, 0, 0, 0), (80, .if_icmp .ge 26, 3, 106, 0, 0, 0, 0), (83, .aload_n 1, 1, 0, 0, 0, 0, 0), (84, .getfield 57, 3, 3, 3, 0, 0, 0), (87, .iload 6, 2, 0, 0, 0, 0, 0), (89, .iaload, 1, 0, 0, 0, 0, 0), (90, .ifCond .ne 10, 3, 100, 0, 0, 0, 0), (93, .aload_n 0, 1, 0, 0, 0, 0, 0), (94, .aload_n 1, 1, 0, 0, 0, 0, 0)]),
  (118, [(95, .iload 6, 2, 0, 0, 0, 0, 0), (97, .invokevirtual 64, 3, 6, 2, 0, 0, 0), (100, .iinc 6 1, 3, 0, 0, 0, 1, 0), (103, .goto (-29), 3, 74, 0, 0, 0, 0), (106, .iconst 0, 1, 0, 0, 0, 0, 0), (107, .istore 6, 2, 0, 0, 0, 0, 0), (109, .iload 6, 2, 0, 0, 0, 0, 0), (111, .aload_n 1, 1, 0, 0, 0, 0, 0), (112, .getfield 52, 3, 3, 0, 0, 0, 0), (115, .if_icmp .ge 46, 3, 161, 0, 0, 0, 0)]),
  (135, [(118, .aload_n 0, 1, 0, 0, 0, 0, 0), (119, .getfield 28, 3, 0, 5, 0, 0, 0), (122, .iload 6, 2, 0, 0, 0, 0, 0), (124, .dup2, 1, 0, 0, 0, 0, 0), (125, .iaload, 1, 0, 0, 0, 0, 0), (126, .aload_n 0, 1, 0, 0, 0, 0, 0), (127, .getfield 31, 3, 0, 6, 0, 0, 0), (130, .iload 6, 2, 0, 0, 0, 0, 0), (132, .iaload, 1, 0, 0, 0, 0, 0), (133, .bipush 8, 2, 0, 0, 0, 8, 0)]),
  (153, [(135, .idiv, 1, 0, 0, 0, 0, 0), (136, .iadd, 1, 0, 0, 0, 0, 0), (137, .iastore, 1, 0, 0, 0, 0, 0), (138, .iload 4, 2, 0, 0, 0, 0, 0), (140, .aload_n 0, 1, 0, 0, 0, 0, 0), (141, .getfield 28, 3, 0, 5, 0, 0, 0), (144, .iload 6, 2, 0, 0, 0, 0, 0), (146, .iaload, 1, 0, 0, 0, 0, 0), (147, .invokestatic 68, 3, 0, 0, 2, 0, 0), (150, .invokestatic 74, 3, 2, 0, 2, 0, 0)]),
  (174, [(153, .istore 4, 2, 0, 0, 0, 0, 0), (155, .iinc 6 1, 3, 0, 0, 0, 1, 0), (158, .goto (-49), 3, 109, 0, 0, 0, 0), (161, .iconst 0, 1, 0, 0, 0, 0, 0), (162, .istore 6, 2, 0, 0, 0, 0, 0), (164, .iload 6, 2, 0, 0, 0, 0, 0), (166, .iconst 4, 1, 0, 0, 0, 4, 0), (167, .if_icmp .ge 45, 3, 212, 0, 0, 0, 0), (170, .aload_n 0, 1, 0, 0, 0, 0, 0), (171, .getfield 22, 3, 0, 3, 0, 0, 0)]),
  (193, [(174, .iload 6, 2, 0, 0, 0, 0, 0), (176, .iaload, 1, 0, 0, 0, 0, 0), (177, .ifCond .lt 29, 3, 206, 0, 0, 0, 0), (180, .aload_n 0, 1, 0, 0, 0, 0, 0), (181, .getfield 25, 3, 0, 4, 0, 0, 0), (184, .sipush 200, 3, 0, 0, 0, 200, 0), (187, .iload 6, 2, 0, 0, 0, 0, 0), (189, .imul, 1, 0, 0, 0, 0, 0), (190, .iload 5, 2, 0, 0, 0, 0, 0), (192, .iadd, 1, 0, 0, 0, 0, 0)]),
  (212, [(193, .aload_n 0, 1, 0, 0, 0, 0, 0), (194, .getfield 28, 3, 0, 5, 0, 0, 0), (197, .aload_n 0, 1, 0, 0, 0, 0, 0), (198, .getfield 22, 3, 0, 3, 0, 0, 0), (201, .iload 6, 2, 0, 0, 0, 0, 0), (203, .iaload, 1, 0, 0, 0, 0, 0), (204, .iaload, 1, 0, 0, 0, 0, 0), (205, .iastore, 1, 0, 0, 0, 0, 0), (206, .iinc 6 1, 3, 0, 0, 0, 1, 0), (209, .goto (-45), 3, 164, 0, 0, 0, 0)]),
  (221, [(212, .iinc 5 1, 3, 0, 0, 0, 1, 0), (215, .goto (-204), 3, 11, 0, 0, 0, 0), (218, .iload 4, 2, 0, 0, 0, 0, 0), (220, .ireturn, 1, 0, 0, 0, 0, 0)])]
set_option maxRecDepth 100000 in
theorem mx_ok5 : ∀ q ∈ mx_t5, ∀ en ∈ q.2, mx_gd 5 en := mx_gt_s mx_LLok0 mx_KLok0 mx_JLok0 mx_ARok (by decide +kernel)
def mx_t6 : List (Nat × List mx_En) := [(14, [(0, .aload_n 1, 1, 0, 0, 0, 0, 0), (1, .getfield 78, 3, 3, 2, 0, 0, 0), (4, .iload_n 2, 1, 0, 0, 0, 0, 0), (5, .iaload, 1, 0, 0, 0, 0, 0), (6, .aload_n 0, 1, 0, 0, 0, 0, 0), (7, .getfield 28, 3, 0, 5, 0, 0, 0), (10, .iload_n 2, 1, 0, 0, 0, 0, 0), (11, .iaload, 1, 0, 0, 0, 0, 0), (12, .imul, 1, 0, 0, 0, 0, 0), (13, .istore_n 3, 1, 0, 0, 0, 0, 0)]),
  (31, [(14, .iconst 0, 1, 0, 0, 0, 0, 0), (15, .istore 4, 2, 0, 0, 0, 0, 0), (17, .iload 4, 2, 0, 0, 0, 0, 0), (19, .aload_n 1, 1, 0, 0, 0, 0, 0), (20, .getfield 52, 3, 3, 0, 0, 0, 0), (23, .if_icmp .ge 34, 3, 57, 0, 0, 0, 0), (26, .iload_n 3, 1, 0, 0, 0, 0, 0), (27, .aload_n 1, 1, 0, 0, 0, 0, 0), (28, .iload_n 2, 1, 0, 0, 0, 0, 0), (29, .iload 4, 2, 0, 0, 0, 0, 0)]),
  (48, [(31, .invokevirtual 81, 3, 27, 2, 0, 0, 0), (34, .aload_n 0, 1, 0, 0, 0, 0, 0), (35, .getfield 28, 3, 0, 5, 0, 0, 0), (38, .iload_n 2, 1, 0, 0, 0, 0, 0), (39, .iaload, 1, 0, 0, 0, 0, 0), (40, .aload_n 0, 1, 0, 0, 0, 0, 0), (41, .getfield 28, 3, 0, 5, 0, 0, 0), (44, .iload 4, 2, 0, 0, 0, 0, 0), (46, .iaload, 1, 0, 0, 0, 0, 0), (47, .isub, 1, 0, 0, 0, 0, 0)]),
  (64, [(48, .imul, 1, 0, 0, 0, 0, 0), (49, .iadd, 1, 0, 0, 0, 0, 0), (50, .istore_n 3, 1, 0, 0, 0, 0, 0), (51, .iinc 4 1, 3, 0, 0, 0, 1, 0), (54, .goto (-37), 3, 17, 0, 0, 0, 0), (57, .aload_n 0, 1, 0, 0, 0, 0, 0), (58, .getfield 31, 3, 0, 6, 0, 0, 0), (61, .iload_n 2, 1, 0, 0, 0, 0, 0), (62, .dup2, 1, 0, 0, 0, 0, 0), (63, .iaload, 1, 0, 0, 0, 0, 0)]),
  (79, [(64, .iload_n 3, 1, 0, 0, 0, 0, 0), (65, .iconst 1, 1, 0, 0, 0, 1, 0), (66, .aload_n 1, 1, 0, 0, 0, 0, 0), (67, .getfield 84, 3, 3, 1, 0, 0, 0), (70, .iload_n 2, 1, 0, 0, 0, 0, 0), (71, .iaload, 1, 0, 0, 0, 0, 0), (72, .invokestatic 74, 3, 2, 0, 2, 0, 0), (75, .idiv, 1, 0, 0, 0, 0, 0), (76, .bipush 8, 2, 0, 0, 0, 8, 0), (78, .idiv, 1, 0, 0, 0, 0, 0)]),
  (93, [(79, .isub, 1, 0, 0, 0, 0, 0), (80, .iastore, 1, 0, 0, 0, 0, 0), (81, .aload_n 0, 1, 0, 0, 0, 0, 0), (82, .getfield 31, 3, 0, 6, 0, 0, 0), (85, .iload_n 2, 1, 0, 0, 0, 0, 0), (86, .dup2, 1, 0, 0, 0, 0, 0), (87, .iaload, 1, 0, 0, 0, 0, 0), (88, .aload_n 0, 1, 0, 0, 0, 0, 0), (89, .getfield 31, 3, 0, 6, 0, 0, 0), (92, .iload_n 2, 1, 0, 0, 0, 0, 0)]),
  (106, [(93, .iaload, 1, 0, 0, 0, 0, 0), (94, .aload_n 0, 1, 0, 0, 0, 0, 0), (95, .getfield 9, 3, 0, 0, 0, 0, 0), (98, .imul, 1, 0, 0, 0, 0, 0), (99, .sipush 1000, 3, 0, 0, 0, 1000, 0), (102, .idiv, 1, 0, 0, 0, 0, 0), (103, .isub, 1, 0, 0, 0, 0, 0), (104, .iastore, 1, 0, 0, 0, 0, 0), (105, .return_, 1, 0, 0, 0, 0, 0)])]
set_option maxRecDepth 100000 in
theorem mx_ok6 : ∀ q ∈ mx_t6, ∀ en ∈ q.2, mx_gd 6 en := mx_gt_s mx_LLok0 mx_KLok0 mx_JLok0 mx_ARok (by decide +kernel)
def mx_t7 : List (Nat × List mx_En) := [(20, [(0, .aload_n 0, 1, 0, 0, 0, 0, 0), (1, .getfield 19, 3, 0, 2, 0, 0, 0), (4, .ifCond .le 16, 3, 20, 0, 0, 0, 0), (7, .aload_n 0, 1, 0, 0, 0, 0, 0), (8, .getfield 22, 3, 0, 3, 0, 0, 0), (11, .iload_n 1, 1, 0, 0, 0, 0, 0), (12, .iaload, 1, 0, 0, 0, 0, 0), (13, .ifCond .lt 7, 3, 20, 0, 0, 0, 0), (16, .iconst 1, 1, 0, 0, 0, 1, 0), (17, .goto 4, 3, 21, 0, 0, 0, 0)]),
  (22, [(20, .iconst 0, 1, 0, 0, 0, 0, 0), (21, .ireturn, 1, 0, 0, 0, 0, 0)])]
set_option maxRecDepth 100000 in
theorem mx_ok7 : ∀ q ∈ mx_t7, ∀ en ∈ q.2, mx_gd 7 en := mx_gt_s mx_LLok0 mx_KLok0 mx_JLok0 mx_ARok (by decide +kernel)
def mx_t8 : List (Nat × List mx_En) := [(14, [(0, .aload_n 0, 1, 0, 0, 0, 0, 0), (1, .getfield 25, 3, 0, 4, 0, 0, 0), (4, .sipush 200, 3, 0, 0, 0, 200, 0), (7, .iload_n 1, 1, 0, 0, 0, 0, 0), (8, .imul, 1, 0, 0, 0, 0, 0), (9, .iload_n 2, 1, 0, 0, 0, 0, 0), (10, .iadd, 1, 0, 0, 0, 0, 0), (11, .iconst 1, 1, 0, 0, 0, 1, 0), (12, .isub, 1, 0, 0, 0, 0, 0), (13, .iaload, 1, 0, 0, 0, 0, 0)]),
  (15, [(14, .ireturn, 1, 0, 0, 0, 0, 0)])]
set_option maxRecDepth 100000 in
theorem mx_ok8 : ∀ q ∈ mx_t8, ∀ en ∈ q.2, mx_gd 8 en := mx_gt_s mx_LLok0 mx_KLok0 mx_JLok0 mx_ARok (by decide +kernel)
def mx_t9 : List (Nat × List mx_En) := [(14, [(0, .iconst 0, 1, 0, 0, 0, 0, 0), (1, .istore_n 2, 1, 0, 0, 0, 0, 0), (2, .iconst 1, 1, 0, 0, 0, 1, 0), (3, .istore_n 3, 1, 0, 0, 0, 0, 0), (4, .iload_n 3, 1, 0, 0, 0, 0, 0), (5, .aload_n 0, 1, 0, 0, 0, 0, 0), (6, .getfield 19, 3, 0, 2, 0, 0, 0), (9, .if_icmp .gt 23, 3, 32, 0, 0, 0, 0), (12, .iload_n 2, 1, 0, 0, 0, 0, 0), (13, .aload_n 0, 1, 0, 0, 0, 0, 0)]),
  (34, [(14, .iload_n 1, 1, 0, 0, 0, 0, 0), (15, .iload_n 3, 1, 0, 0, 0, 0, 0), (16, .invokevirtual 87, 3, 8, 2, 0, 0, 0), (19, .invokestatic 68, 3, 0, 0, 2, 0, 0), (22, .invokestatic 74, 3, 2, 0, 2, 0, 0), (25, .istore_n 2, 1, 0, 0, 0, 0, 0), (26, .iinc 3 1, 3, 0, 0, 0, 1, 0), (29, .goto (-25), 3, 4, 0, 0, 0, 0), (32, .iload_n 2, 1, 0, 0, 0, 0, 0), (33, .ireturn, 1, 0, 0, 0, 0, 0)])]
set_option maxRecDepth 100000 in
theorem mx_ok9 : ∀ q ∈ mx_t9, ∀ en ∈ q.2, mx_gd 9 en := mx_gt_s mx_LLok0 mx_KLok0 mx_JLok0 mx_ARok (by decide +kernel)
def mx_t10 : List (Nat × List mx_En) := [(18, [(0, .aload_n 0, 1, 0, 0, 0, 0, 0), (1, .getfield 19, 3, 0, 2, 0, 0, 0), (4, .istore_n 3, 1, 0, 0, 0, 0, 0), (5, .aload_n 0, 1, 0, 0, 0, 0, 0), (6, .getfield 19, 3, 0, 2, 0, 0, 0), (9, .istore 4, 2, 0, 0, 0, 0, 0), (11, .iload 4, 2, 0, 0, 0, 0, 0), (13, .ifCond .le 26, 3, 39, 0, 0, 0, 0), (16, .aload_n 0, 1, 0, 0, 0, 0, 0), (17, .iload_n 1, 1, 0, 0, 0, 0, 0)]),
  (40, [(18, .iload 4, 2, 0, 0, 0, 0, 0), (20, .invokevirtual 87, 3, 8, 2, 0, 0, 0), (23, .invokestatic 68, 3, 0, 0, 2, 0, 0), (26, .iload_n 2, 1, 0, 0, 0, 0, 0), (27, .if_icmp .gt 12, 3, 39, 0, 0, 0, 0), (30, .iload 4, 2, 0, 0, 0, 0, 0), (32, .istore_n 3, 1, 0, 0, 0, 0, 0), (33, .iinc 4 (-1), 3, 0, 0, 0, -1, 0), (36, .goto (-25), 3, 11, 0, 0, 0, 0), (39, .iload_n 3, 1, 0, 0, 0, 0, 0)]),
  (41, [(40, .ireturn, 1, 0, 0, 0, 0, 0)])]
set_option maxRecDepth 100000 in
theorem mx_ok10 : ∀ q ∈ mx_t10, ∀ en ∈ q.2, mx_gd 10 en := mx_gt_s mx_LLok0 mx_KLok0 mx_JLok0 mx_ARok (by decide +kernel)
def mx_t11 : List (Nat × List mx_En) := [(18, [(0, .aload_n 0, 1, 0, 0, 0, 0, 0), (1, .invokespecial 3, 3, 1000, 0, 0, 0, 0), (4, .aload_n 0, 1, 0, 0, 0, 0, 0), (5, .iconst 0, 1, 0, 0, 0, 0, 0), (6, .putfield 9, 3, 1, 0, 0, 0, 0), (9, .aload_n 0, 1, 0, 0, 0, 0, 0), (10, .bipush 6, 2, 0, 0, 0, 6, 0), (12, .newarray .int, 2, 0, 0, 0, 0, 0), (14, .putfield 15, 3, 1, 1, 0, 0, 0), (17, .aload_n 0, 1, 0, 0, 0, 0, 0)]),
  (36, [(18, .iconst 0, 1, 0, 0, 0, 0, 0), (19, .putfield 19, 3, 1, 2, 0, 0, 0), (22, .aload_n 0, 1, 0, 0, 0, 0, 0), (23, .iconst (-1), 1, 0, 0, 0, -1, 0), (24, .putfield 22, 3, 1, 3, 0, 0, 0), (27, .aload_n 0, 1, 0, 0, 0, 0, 0), (28, .iconst 0, 1, 0, 0, 0, 0, 0), (29, .putfield 25, 3, 1, 4, 0, 0, 0), (32, .aload_n 0, 1, 0, 0, 0, 0, 0), (33, .sipush 600, 3, 0, 0, 0, 600, 0)]),
  (42, [(36, .newarray .int, 2, 0, 0, 0, 0, 0), (38, .putfield 28, 3, 1, 5, 0, 0, 0), (41, .return_, 1, 0, 0, 0, 0, 0)])]
set_option maxRecDepth 100000 in
theorem mx_ok11 : ∀ q ∈ mx_t11, ∀ en ∈ q.2, mx_gd 11 en := mx_gt_s mx_LLok1 mx_KLok1 mx_JLok1 mx_ARok (by decide +kernel)
def mx_t12 : List (Nat × List mx_En) := [(19, [(0, .aload_n 0, 1, 0, 0, 0, 0, 0), (1, .getfield 9, 3, 1, 0, 0, 0, 0), (4, .bipush 6, 2, 0, 0, 0, 6, 0), (6, .if_icmp .lt 4, 3, 10, 0, 0, 0, 0), (9, .return_, 1, 0, 0, 0, 0, 0), (10, .aload_n 0, 1, 0, 0, 0, 0, 0), (11, .getfield 15, 3, 1, 1, 0, 0, 0), (14, .aload_n 0, 1, 0, 0, 0, 0, 0), (15, .getfield 9, 3, 1, 0, 0, 0, 0), (18, .iload_n 1, 1, 0, 0, 0, 0, 0)]),
  (31, [(19, .iastore, 1, 0, 0, 0, 0, 0), (20, .aload_n 0, 1, 0, 0, 0, 0, 0), (21, .dup, 1, 0, 0, 0, 0, 0), (22, .getfield 9, 3, 1, 0, 0, 0, 0), (25, .iconst 1, 1, 0, 0, 0, 1, 0), (26, .iadd, 1, 0, 0, 0, 0, 0), (27, .putfield 9, 3, 1, 0, 0, 0, 0), (30, .return_, 1, 0, 0, 0, 0, 0)])]
set_option maxRecDepth 100000 in
theorem mx_ok12 : ∀ q ∈ mx_t12, ∀ en ∈ q.2, mx_gd 12 en := mx_gt_s mx_LLok1 mx_KLok1 mx_JLok1 mx_ARok (by decide +kernel)
def mx_t13 : List (Nat × List mx_En) := [(16, [(0, .aload_n 0, 1, 0, 0, 0, 0, 0), (1, .iconst 0, 1, 0, 0, 0, 0, 0), (2, .putfield 19, 3, 1, 2, 0, 0, 0), (5, .aload_n 0, 1, 0, 0, 0, 0, 0), (6, .iconst (-1), 1, 0, 0, 0, -1, 0), (7, .putfield 22, 3, 1, 3, 0, 0, 0), (10, .aload_n 0, 1, 0, 0, 0, 0, 0), (11, .iconst 0, 1, 0, 0, 0, 0, 0), (12, .putfield 25, 3, 1, 4, 0, 0, 0), (15, .aload_n 0, 1, 0, 0, 0, 0, 0)]),
  (34, [(16, .getfield 28, 3, 1, 5, 0, 0, 0), (19, .iconst 0, 1, 0, 0, 0, 0, 0), (20, .invokestatic 31, 3, 317, 2, 0, 0, 0), (23, .aload_n 2, 1, 0, 0, 0, 0, 0), (24, .aload_n 1, 1, 0, 0, 0, 0, 0), (25, .invokevirtual 37, 3, 22, 1, 0, 0, 0), (28, .iconst 0, 1, 0, 0, 0, 0, 0), (29, .istore 4, 2, 0, 0, 0, 0, 0), (31, .iload 4, 2, 0, 0, 0, 0, 0), (33, .aload_n 1, 1, 0, 0, 0, 0, 0)]),
  (54, [(34, .getfield 43, 3, 7, 6, 0, 0, 0), (37, .if_icmp .ge 34, 3, 71, 0, 0, 0, 0), (40, .aload_n 2, 1, 0, 0, 0, 0, 0), (41, .aload_n 1, 1, 0, 0, 0, 0, 0), (42, .getfield 48, 3, 7, 7, 0, 0, 0), (45, .iload 4, 2, 0, 0, 0, 0, 0), (47, .iaload, 1, 0, 0, 0, 0, 0), (48, .aload_n 1, 1, 0, 0, 0, 0, 0), (49, .getfield 51, 3, 7, 8, 0, 0, 0), (52, .iload 4, 2, 0, 0, 0, 0, 0)]),
  (75, [(54, .iaload, 1, 0, 0, 0, 0, 0), (55, .aload_n 1, 1, 0, 0, 0, 0, 0), (56, .getfield 54, 3, 7, 9, 0, 0, 0), (59, .iload 4, 2, 0, 0, 0, 0, 0), (61, .iaload, 1, 0, 0, 0, 0, 0), (62, .invokevirtual 57, 3, 26, 3, 0, 0, 0), (65, .iinc 4 1, 3, 0, 0, 0, 1, 0), (68, .goto (-37), 3, 31, 0, 0, 0, 0), (71, .aload_n 1, 1, 0, 0, 0, 0, 0), (72, .invokevirtual 61, 3, 60, 0, 0, 0, 0)]),
  (90, [(75, .istore 4, 2, 0, 0, 0, 0, 0), (77, .aload_n 0, 1, 0, 0, 0, 0, 0), (78, .aload_n 2, 1, 0, 0, 0, 0, 0), (79, .iload_n 3, 1, 0, 0, 0, 0, 0), (80, .iload 4, 2, 0, 0, 0, 0, 0), (82, .iconst (-1), 1, 0, 0, 0, -1, 0), (83, .iconst 0, 1, 0, 0, 0, 0, 0), (84, .invokevirtual 65, 3, 14, 5, 0, 0, 0), (87, .iconst 0, 1, 0, 0, 0, 0, 0), (88, .istore 5, 2, 0, 0, 0, 0, 0)]),
  (110, [(90, .iload 5, 2, 0, 0, 0, 0, 0), (92, .aload_n 1, 1, 0, 0, 0, 0, 0), (93, .getfield 43, 3, 7, 6, 0, 0, 0), (96, .if_icmp .ge 95, 3, 191, 0, 0, 0, 0), (99, .iconst 1, 1, 0, 0, 0, 1, 0), (100, .istore 6, 2, 0, 0, 0, 0, 0), (102, .iload 6, 2, 0, 0, 0, 0, 0), (104, .aload_n 1, 1, 0, 0, 0, 0, 0), (105, .getfield 54, 3, 7, 9, 0, 0, 0), (108, .iload 5, 2, 0, 0, 0, 0, 0)]),
  (128, [(110, .iaload, 1, 0, 0, 0, 0, 0), (111, .if_icmp .gt 49, 3, 160, 0, 0, 0, 0), (114, .aload_n 2, 1, 0, 0, 0, 0, 0), (115, .aload_n 1, 1, 0, 0, 0, 0, 0), (116, .getfield 48, 3, 7, 7, 0, 0, 0), (119, .iload 5, 2, 0, 0, 0, 0, 0), (121, .iaload, 1, 0, 0, 0, 0, 0), (122, .aload_n 1, 1, 0, 0, 0, 0, 0), (123, .getfield 51, 3, 7, 8, 0, 0, 0), (126, .iload 5, 2, 0, 0, 0, 0, 0)]),
  (144, [(128, .iaload, 1, 0, 0, 0, 0, 0), (129, .aload_n 1, 1, 0, 0, 0, 0, 0), (130, .getfield 54, 3, 7, 9, 0, 0, 0), (133, .iload 5, 2, 0, 0, 0, 0, 0), (135, .iaload, 1, 0, 0, 0, 0, 0), (136, .iload 6, 2, 0, 0, 0, 0, 0), (138, .isub, 1, 0, 0, 0, 0, 0), (139, .invokevirtual 57, 3, 26, 3, 0, 0, 0), (142, .aload_n 0, 1, 0, 0, 0, 0, 0), (143, .aload_n 2, 1, 0, 0, 0, 0, 0)]),
  (165, [(144, .iload_n 3, 1, 0, 0, 0, 0, 0), (145, .iload 4, 2, 0, 0, 0, 0, 0), (147, .iload 5, 2, 0, 0, 0, 0, 0), (149, .iload 6, 2, 0, 0, 0, 0, 0), (151, .invokevirtual 65, 3, 14, 5, 0, 0, 0), (154, .iinc 6 1, 3, 0, 0, 0, 1, 0), (157, .goto (-55), 3, 102, 0, 0, 0, 0), (160, .aload_n 2, 1, 0, 0, 0, 0, 0), (161, .aload_n 1, 1, 0, 0, 0, 0, 0), (162, .getfield 48, 3, 7, 7, 0, 0, 0)]),
  (182, [(165, .iload 5, 2, 0, 0, 0, 0, 0), (167, .iaload, 1, 0, 0, 0, 0, 0), (168, .aload_n 1, 1, 0, 0, 0, 0, 0), (169, .getfield 51, 3, 7, 8, 0, 0, 0), (172, .iload 5, 2, 0, 0, 0, 0, 0), (174, .iaload, 1, 0, 0, 0, 0, 0), (175, .aload_n 1, 1, 0, 0, 0, 0, 0), (176, .getfield 54, 3, 7, 9, 0, 0, 0), (179, .iload 5, 2, 0, 0, 0, 0, 0), (181, .iaload, 1, 0, 0, 0, 0, 0)]),
  (192, [(182, .invokevirtual 57, 3, 26, 3, 0, 0, 0), (185, .iinc 5 1, 3, 0, 0, 0, 1, 0), (188, .goto (-98), 3, 90, 0, 0, 0, 0), (191, .return_, 1, 0, 0, 0, 0, 0)])]
set_option maxRecDepth 100000 in
theorem mx_ok13 : ∀ q ∈ mx_t13, ∀ en ∈ q.2, mx_gd 13 en := mx_gt_s mx_LLok1 mx_KLok1 mx_JLok1 mx_ARok (by decide +kernel)
def mx_t14 : List (Nat × List mx_En) := [(19, [(0, .iconst 0, 1, 0, 0, 0, 0, 0), (1, .istore 6, 2, 0, 0, 0, 0, 0), (3, .iload 6, 2, 0, 0, 0, 0, 0), (5, .aload_n 0, 1, 0, 0, 0, 0, 0), (6, .getfield 9, 3, 1, 0, 0, 0, 0), (9, .if_icmp .ge 27, 3, 36, 0, 0, 0, 0), (12, .aload_n 1, 1, 0, 0, 0, 0, 0), (13, .iload 6, 2, 0, 0, 0, 0, 0), (15, .iload_n 2, 1, 0, 0, 0, 0, 0), (16, .invokevirtual 69, 3, 33, 2, 0, 0, 0)]),
  (40, [(19, .aload_n 0, 1, 0, 0, 0, 0, 0), (20, .getfield 15, 3, 1, 1, 0, 0, 0), (23, .iload 6, 2, 0, 0, 0, 0, 0), (25, .iaload, 1, 0, 0, 0, 0, 0), (26, .if_icmp .eq 4, 3, 30, 0, 0, 0, 0), (29, .return_, 1, 0, 0, 0, 0, 0), (30, .iinc 6 1, 3, 0, 0, 0, 1, 0), (33, .goto (-30), 3, 3, 0, 0, 0, 0), (36, .aload_n 0, 1, 0, 0, 0, 0, 0), (37, .getfield 19, 3, 1, 2, 0, 0, 0)]),
  (60, [(40, .ifCond .ne 15, 3, 55, 0, 0, 0, 0), (43, .aload_n 0, 1, 0, 0, 0, 0, 0), (44, .iload 4, 2, 0, 0, 0, 0, 0), (46, .putfield 22, 3, 1, 3, 0, 0, 0), (49, .aload_n 0, 1, 0, 0, 0, 0, 0), (50, .iload 5, 2, 0, 0, 0, 0, 0), (52, .putfield 25, 3, 1, 4, 0, 0, 0), (55, .aload_n 0, 1, 0, 0, 0, 0, 0), (56, .dup, 1, 0, 0, 0, 0, 0), (57, .getfield 19, 3, 1, 2, 0, 0, 0)]),
  (78, [(60, .iconst 1, 1, 0, 0, 0, 1, 0), (61, .iadd, 1, 0, 0, 0, 0, 0), (62, .putfield 19, 3, 1, 2, 0, 0, 0), (65, .aload_n 0, 1, 0, 0, 0, 0, 0), (66, .getfield 9, 3, 1, 0, 0, 0, 0), (69, .istore 6, 2, 0, 0, 0, 0, 0), (71, .iload 6, 2, 0, 0, 0, 0, 0), (73, .iload_n 3, 1, 0, 0, 0, 0, 0), (74, .if_icmp .ge 31, 3, 105, 0, 0, 0, 0), (77, .aload_n 0, 1, 0, 0, 0, 0, 0)]),
  (95, [(78, .getfield 28, 3, 1, 5, 0, 0, 0), (81, .bipush 100, 2, 0, 0, 0, 100, 0), (83, .iload 6, 2, 0, 0, 0, 0, 0), (85, .imul, 1, 0, 0, 0, 0, 0), (86, .aload_n 1, 1, 0, 0, 0, 0, 0), (87, .iload 6, 2, 0, 0, 0, 0, 0), (89, .iload_n 2, 1, 0, 0, 0, 0, 0), (90, .invokevirtual 69, 3, 33, 2, 0, 0, 0), (93, .iadd, 1, 0, 0, 0, 0, 0), (94, .dup2, 1, 0, 0, 0, 0, 0)]),
  (106, [(95, .iaload, 1, 0, 0, 0, 0, 0), (96, .iconst 1, 1, 0, 0, 0, 1, 0), (97, .iadd, 1, 0, 0, 0, 0, 0), (98, .iastore, 1, 0, 0, 0, 0, 0), (99, .iinc 6 1, 3, 0, 0, 0, 1, 0), (102, .goto (-31), 3, 71, 0, 0, 0, 0), (105, .return_, 1, 0, 0, 0, 0, 0)])]
set_option maxRecDepth 100000 in
theorem mx_ok14 : ∀ q ∈ mx_t14, ∀ en ∈ q.2, mx_gd 14 en := mx_gt_s mx_LLok1 mx_KLok1 mx_JLok1 mx_ARok (by decide +kernel)
def mx_t15 : List (Nat × List mx_En) := [(17, [(0, .aload_n 0, 1, 0, 0, 0, 0, 0), (1, .getfield 9, 3, 1, 0, 0, 0, 0), (4, .istore_n 2, 1, 0, 0, 0, 0, 0), (5, .ldc 73, 2, 0, 0, 0, 2147483647, 0), (7, .istore_n 3, 1, 0, 0, 0, 0, 0), (8, .aload_n 0, 1, 0, 0, 0, 0, 0), (9, .getfield 9, 3, 1, 0, 0, 0, 0), (12, .istore 4, 2, 0, 0, 0, 0, 0), (14, .iload 4, 2, 0, 0, 0, 0, 0), (16, .iload_n 1, 1, 0, 0, 0, 0, 0)]),
  (36, [(17, .if_icmp .ge 60, 3, 77, 0, 0, 0, 0), (20, .iconst 0, 1, 0, 0, 0, 0, 0), (21, .istore 5, 2, 0, 0, 0, 0, 0), (23, .iconst 0, 1, 0, 0, 0, 0, 0), (24, .istore 6, 2, 0, 0, 0, 0, 0), (26, .iload 6, 2, 0, 0, 0, 0, 0), (28, .bipush 99, 2, 0, 0, 0, 99, 0), (30, .if_icmp .gt 29, 3, 59, 0, 0, 0, 0), (33, .iload 5, 2, 0, 0, 0, 0, 0), (35, .aload_n 0, 1, 0, 0, 0, 0, 0)]),
  (56, [(36, .getfield 28, 3, 1, 5, 0, 0, 0), (39, .bipush 100, 2, 0, 0, 0, 100, 0), (41, .iload 4, 2, 0, 0, 0, 0, 0), (43, .imul, 1, 0, 0, 0, 0, 0), (44, .iload 6, 2, 0, 0, 0, 0, 0), (46, .iadd, 1, 0, 0, 0, 0, 0), (47, .iaload, 1, 0, 0, 0, 0, 0), (48, .invokestatic 74, 3, 2, 0, 2, 0, 0), (51, .istore 5, 2, 0, 0, 0, 0, 0), (53, .iinc 6 1, 3, 0, 0, 0, 1, 0)]),
  (77, [(56, .goto (-30), 3, 26, 0, 0, 0, 0), (59, .iload 5, 2, 0, 0, 0, 0, 0), (61, .iload_n 3, 1, 0, 0, 0, 0, 0), (62, .if_icmp .ge 9, 3, 71, 0, 0, 0, 0), (65, .iload 5, 2, 0, 0, 0, 0, 0), (67, .istore_n 3, 1, 0, 0, 0, 0, 0), (68, .iload 4, 2, 0, 0, 0, 0, 0), (70, .istore_n 2, 1, 0, 0, 0, 0, 0), (71, .iinc 4 1, 3, 0, 0, 0, 1, 0), (74, .goto (-60), 3, 14, 0, 0, 0, 0)]),
  (79, [(77, .iload_n 2, 1, 0, 0, 0, 0, 0), (78, .ireturn, 1, 0, 0, 0, 0, 0)])]
set_option maxRecDepth 100000 in
theorem mx_ok15 : ∀ q ∈ mx_t15, ∀ en ∈ q.2, mx_gd 15 en := mx_gt_s mx_LLok1 mx_KLok1 mx_JLok1 mx_ARok (by decide +kernel)
def mx_t16 : List (Nat × List mx_En) := [(17, [(0, .aload_n 0, 1, 0, 0, 0, 0, 0), (1, .invokespecial 1, 3, 1000, 0, 0, 0, 0), (4, .aload_n 0, 1, 0, 0, 0, 0, 0), (5, .iconst 0, 1, 0, 0, 0, 0, 0), (6, .putfield 7, 3, 2, 0, 0, 0, 0), (9, .aload_n 0, 1, 0, 0, 0, 0, 0), (10, .iconst 0, 1, 0, 0, 0, 0, 0), (11, .putfield 13, 3, 2, 1, 0, 0, 0), (14, .aload_n 0, 1, 0, 0, 0, 0, 0), (15, .bipush 40, 2, 0, 0, 0, 40, 0)]),
  (39, [(17, .anewarray 16, 3, 0, 0, 0, 0, 0), (20, .putfield 18, 3, 2, 2, 0, 0, 0), (23, .aload_n 0, 1, 0, 0, 0, 0, 0), (24, .bipush 40, 2, 0, 0, 0, 40, 0), (26, .newarray .int, 2, 0, 0, 0, 0, 0), (28, .putfield 22, 3, 2, 3, 0, 0, 0), (31, .aload_n 0, 1, 0, 0, 0, 0, 0), (32, .bipush 40, 2, 0, 0, 0, 40, 0), (34, .newarray .int, 2, 0, 0, 0, 0, 0), (36, .putfield 26, 3, 2, 4, 0, 0, 0)]),
  (56, [(39, .aload_n 0, 1, 0, 0, 0, 0, 0), (40, .bipush 40, 2, 0, 0, 0, 40, 0), (42, .newarray .int, 2, 0, 0, 0, 0, 0), (44, .putfield 29, 3, 2, 5, 0, 0, 0), (47, .aload_n 0, 1, 0, 0, 0, 0, 0), (48, .bipush 40, 2, 0, 0, 0, 40, 0), (50, .newarray .int, 2, 0, 0, 0, 0, 0), (52, .putfield 32, 3, 2, 6, 0, 0, 0), (55, .return_, 1, 0, 0, 0, 0, 0)])]
set_option maxRecDepth 100000 in
theorem mx_ok16 : ∀ q ∈ mx_t16, ∀ en ∈ q.2, mx_gd 16 en := mx_gt_s mx_LLok2 mx_KLok2 mx_JLok2 mx_ARok (by decide +kernel)
def mx_t17 : List (Nat × List mx_En) := [(21, [(0, .aload_n 0, 1, 0, 0, 0, 0, 0), (1, .getfield 7, 3, 2, 0, 0, 0, 0), (4, .bipush 40, 2, 0, 0, 0, 40, 0), (6, .if_icmp .lt 7, 3, 13, 0, 0, 0, 0), (9, .aload_n 0, 1, 0, 0, 0, 0, 0), (10, .invokevirtual 35, 3, 18, 0, 0, 0, 0), (13, .aload_n 0, 1, 0, 0, 0, 0, 0), (14, .getfield 18, 3, 2, 2, 0, 0, 0), (17, .aload_n 0, 1, 0, 0, 0, 0, 0), (18, .getfield 7, 3, 2, 0, 0, 0, 0)]),
  (37, [(21, .aload_n 1, 1, 0, 0, 0, 0, 0), (22, .aastore, 1, 0, 0, 0, 0, 0), (23, .aload_n 0, 1, 0, 0, 0, 0, 0), (24, .getfield 22, 3, 2, 3, 0, 0, 0), (27, .aload_n 0, 1, 0, 0, 0, 0, 0), (28, .getfield 7, 3, 2, 0, 0, 0, 0), (31, .iload_n 2, 1, 0, 0, 0, 0, 0), (32, .iastore, 1, 0, 0, 0, 0, 0), (33, .aload_n 0, 1, 0, 0, 0, 0, 0), (34, .getfield 26, 3, 2, 4, 0, 0, 0)]),
  (54, [(37, .aload_n 0, 1, 0, 0, 0, 0, 0), (38, .getfield 7, 3, 2, 0, 0, 0, 0), (41, .iload_n 3, 1, 0, 0, 0, 0, 0), (42, .iastore, 1, 0, 0, 0, 0, 0), (43, .aload_n 0, 1, 0, 0, 0, 0, 0), (44, .getfield 29, 3, 2, 5, 0, 0, 0), (47, .aload_n 0, 1, 0, 0, 0, 0, 0), (48, .getfield 7, 3, 2, 0, 0, 0, 0), (51, .iload 4, 2, 0, 0, 0, 0, 0), (53, .iastore, 1, 0, 0, 0, 0, 0)]),
  (71, [(54, .aload_n 0, 1, 0, 0, 0, 0, 0), (55, .getfield 32, 3, 2, 6, 0, 0, 0), (58, .aload_n 0, 1, 0, 0, 0, 0, 0), (59, .getfield 7, 3, 2, 0, 0, 0, 0), (62, .iload 5, 2, 0, 0, 0, 0, 0), (64, .iastore, 1, 0, 0, 0, 0, 0), (65, .aload_n 0, 1, 0, 0, 0, 0, 0), (66, .dup, 1, 0, 0, 0, 0, 0), (67, .getfield 7, 3, 2, 0, 0, 0, 0), (70, .iconst 1, 1, 0, 0, 0, 1, 0)]),
  (81, [(71, .iadd, 1, 0, 0, 0, 0, 0), (72, .putfield 7, 3, 2, 0, 0, 0, 0), (75, .aload_n 0, 1, 0, 0, 0, 0, 0), (76, .iconst 0, 1, 0, 0, 0, 0, 0), (77, .putfield 13, 3, 2, 1, 0, 0, 0), (80, .return_, 1, 0, 0, 0, 0, 0)])]
set_option maxRecDepth 100000 in
theorem mx_ok17 : ∀ q ∈ mx_t17, ∀ en ∈ q.2, mx_gd 17 en := mx_gt_s mx_LLok2 mx_KLok2 mx_JLok2 mx_ARok (by decide +kernel)
def mx_t18 : List (Nat × List mx_En) := [(15, [(0, .iconst 1, 1, 0, 0, 0, 1, 0), (1, .istore_n 1, 1, 0, 0, 0, 0, 0), (2, .iload_n 1, 1, 0, 0, 0, 0, 0), (3, .bipush 40, 2, 0, 0, 0, 40, 0), (5, .if_icmp .ge 79, 3, 84, 0, 0, 0, 0), (8, .aload_n 0, 1, 0, 0, 0, 0, 0), (9, .getfield 18, 3, 2, 2, 0, 0, 0), (12, .iload_n 1, 1, 0, 0, 0, 0, 0), (13, .iconst 1, 1, 0, 0, 0, 1, 0), (14, .isub, 1, 0, 0, 0, 0, 0)]),
  (29, [(15, .aload_n 0, 1, 0, 0, 0, 0, 0), (16, .getfield 18, 3, 2, 2, 0, 0, 0), (19, .iload_n 1, 1, 0, 0, 0, 0, 0), (20, .aaload, 1, 0, 0, 0, 0, 0), (21, .aastore, 1, 0, 0, 0, 0, 0), (22, .aload_n 0, 1, 0, 0, 0, 0, 0), (23, .getfield 22, 3, 2, 3, 0, 0, 0), (26, .iload_n 1, 1, 0, 0, 0, 0, 0), (27, .iconst 1, 1, 0, 0, 0, 1, 0), (28, .isub, 1, 0, 0, 0, 0, 0)]),
  (43, [(29, .aload_n 0, 1, 0, 0, 0, 0, 0), (30, .getfield 22, 3, 2, 3, 0, 0, 0), (33, .iload_n 1, 1, 0, 0, 0, 0, 0), (34, .iaload, 1, 0, 0, 0, 0, 0), (35, .iastore, 1, 0, 0, 0, 0, 0), (36, .aload_n 0, 1, 0, 0, 0, 0, 0), (37, .getfield 26, 3, 2, 4, 0, 0, 0), (40, .iload_n 1, 1, 0, 0, 0, 0, 0), (41, .iconst 1, 1, 0, 0, 0, 1, 0), (42, .isub, 1, 0, 0, 0, 0, 0)]),
  (57, [(43, .aload_n 0, 1, 0, 0, 0, 0, 0), (44, .getfield 26, 3, 2, 4, 0, 0, 0), (47, .iload_n 1, 1, 0, 0, 0, 0, 0), (48, .iaload, 1, 0, 0, 0, 0, 0), (49, .iastore, 1, 0, 0, 0, 0, 0), (50, .aload_n 0, 1, 0, 0, 0, 0, 0), (51, .getfield 29, 3, 2, 5, 0, 0, 0), (54, .iload_n 1, 1, 0, 0, 0, 0, 0), (55, .iconst 1, 1, 0, 0, 0, 1, 0), (56, .isub, 1, 0, 0, 0, 0, 0)]),
  (71, [(57, .aload_n 0, 1, 0, 0, 0, 0, 0), (58, .getfield 29, 3, 2, 5, 0, 0, 0), (61, .iload_n 1, 1, 0, 0, 0, 0, 0), (62, .iaload, 1, 0, 0, 0, 0, 0), (63, .iastore, 1, 0, 0, 0, 0, 0), (64, .aload_n 0, 1, 0, 0, 0, 0, 0), (65, .getfield 32, 3, 2, 6, 0, 0, 0), (68, .iload_n 1, 1, 0, 0, 0, 0, 0), (69, .iconst 1, 1, 0, 0, 0, 1, 0), (70, .isub, 1, 0, 0, 0, 0, 0)]),
  (90, [(71, .aload_n 0, 1, 0, 0, 0, 0, 0), (72, .getfield 32, 3, 2, 6, 0, 0, 0), (75, .iload_n 1, 1, 0, 0, 0, 0, 0), (76, .iaload, 1, 0, 0, 0, 0, 0), (77, .iastore, 1, 0, 0, 0, 0, 0), (78, .iinc 1 1, 3, 0, 0, 0, 1, 0), (81, .goto (-79), 3, 2, 0, 0, 0, 0), (84, .aload_n 0, 1, 0, 0, 0, 0, 0), (85, .bipush 39, 2, 0, 0, 0, 39, 0), (87, .putfield 7, 3, 2, 0, 0, 0, 0)]),
  (91, [(90, .return_, 1, 0, 0, 0, 0, 0)])]
set_option maxRecDepth 100000 in
theorem mx_ok18 : ∀ q ∈ mx_t18, ∀ en ∈ q.2, mx_gd 18 en := mx_gt_s mx_LLok2 mx_KLok2 mx_JLok2 mx_ARok (by decide +kernel)
def mx_t19 : List (Nat × List mx_En) := [(18, [(0, .aload_n 0, 1, 0, 0, 0, 0, 0), (1, .getfield 7, 3, 2, 0, 0, 0, 0), (4, .ifCond .gt 4, 3, 8, 0, 0, 0, 0), (7, .return_, 1, 0, 0, 0, 0, 0), (8, .aload_n 0, 1, 0, 0, 0, 0, 0), (9, .dup, 1, 0, 0, 0, 0, 0), (10, .getfield 7, 3, 2, 0, 0, 0, 0), (13, .iconst 1, 1, 0, 0, 0, 1, 0), (14, .isub, 1, 0, 0, 0, 0, 0), (15, .putfield 7, 3, 2, 0, 0, 0, 0)]),
  (36, [(18, .aload_n 0, 1, 0, 0, 0, 0, 0), (19, .dup, 1, 0, 0, 0, 0, 0), (20, .getfield 13, 3, 2, 1, 0, 0, 0), (23, .iconst 1, 1, 0, 0, 0, 1, 0), (24, .iadd, 1, 0, 0, 0, 0, 0), (25, .putfield 13, 3, 2, 1, 0, 0, 0), (28, .aload_n 0, 1, 0, 0, 0, 0, 0), (29, .getfield 18, 3, 2, 2, 0, 0, 0), (32, .aload_n 0, 1, 0, 0, 0, 0, 0), (33, .getfield 7, 3, 2, 0, 0, 0, 0)]),
  (54, [(36, .aaload, 1, 0, 0, 0, 0, 0), (37, .ifnull 42, 3, 79, 0, 0, 0, 0), (40, .aload_n 0, 1, 0, 0, 0, 0, 0), (41, .getfield 18, 3, 2, 2, 0, 0, 0), (44, .aload_n 0, 1, 0, 0, 0, 0, 0), (45, .getfield 7, 3, 2, 0, 0, 0, 0), (48, .aaload, 1, 0, 0, 0, 0, 0), (49, .aload_n 0, 1, 0, 0, 0, 0, 0), (50, .getfield 22, 3, 2, 3, 0, 0, 0), (53, .aload_n 0, 1, 0, 0, 0, 0, 0)]),
  (72, [(54, .getfield 7, 3, 2, 0, 0, 0, 0), (57, .iaload, 1, 0, 0, 0, 0, 0), (58, .aload_n 0, 1, 0, 0, 0, 0, 0), (59, .getfield 26, 3, 2, 4, 0, 0, 0), (62, .aload_n 0, 1, 0, 0, 0, 0, 0), (63, .getfield 7, 3, 2, 0, 0, 0, 0), (66, .iaload, 1, 0, 0, 0, 0, 0), (67, .aload_n 0, 1, 0, 0, 0, 0, 0), (68, .getfield 29, 3, 2, 5, 0, 0, 0), (71, .aload_n 0, 1, 0, 0, 0, 0, 0)]),
  (80, [(72, .getfield 7, 3, 2, 0, 0, 0, 0), (75, .iaload, 1, 0, 0, 0, 0, 0), (76, .invokevirtual 38, 3, 67, 3, 0, 0, 0), (79, .return_, 1, 0, 0, 0, 0, 0)])]
set_option maxRecDepth 100000 in
theorem mx_ok19 : ∀ q ∈ mx_t19, ∀ en ∈ q.2, mx_gd 19 en := mx_gt_s mx_LLok2 mx_KLok2 mx_JLok2 mx_ARok (by decide +kernel)
def mx_t20 : List (Nat × List mx_En) := [(21, [(0, .aload_n 0, 1, 0, 0, 0, 0, 0), (1, .getfield 13, 3, 2, 1, 0, 0, 0), (4, .ifCond .le 12, 3, 16, 0, 0, 0, 0), (7, .aload_n 0, 1, 0, 0, 0, 0, 0), (8, .getfield 7, 3, 2, 0, 0, 0, 0), (11, .bipush 40, 2, 0, 0, 0, 40, 0), (13, .if_icmp .lt 4, 3, 17, 0, 0, 0, 0), (16, .return_, 1, 0, 0, 0, 0, 0), (17, .aload_n 0, 1, 0, 0, 0, 0, 0), (18, .getfield 18, 3, 2, 2, 0, 0, 0)]),
  (39, [(21, .aload_n 0, 1, 0, 0, 0, 0, 0), (22, .getfield 7, 3, 2, 0, 0, 0, 0), (25, .aaload, 1, 0, 0, 0, 0, 0), (26, .ifnull 42, 3, 68, 0, 0, 0, 0), (29, .aload_n 0, 1, 0, 0, 0, 0, 0), (30, .getfield 18, 3, 2, 2, 0, 0, 0), (33, .aload_n 0, 1, 0, 0, 0, 0, 0), (34, .getfield 7, 3, 2, 0, 0, 0, 0), (37, .aaload, 1, 0, 0, 0, 0, 0), (38, .aload_n 0, 1, 0, 0, 0, 0, 0)]),
  (57, [(39, .getfield 22, 3, 2, 3, 0, 0, 0), (42, .aload_n 0, 1, 0, 0, 0, 0, 0), (43, .getfield 7, 3, 2, 0, 0, 0, 0), (46, .iaload, 1, 0, 0, 0, 0, 0), (47, .aload_n 0, 1, 0, 0, 0, 0, 0), (48, .getfield 26, 3, 2, 4, 0, 0, 0), (51, .aload_n 0, 1, 0, 0, 0, 0, 0), (52, .getfield 7, 3, 2, 0, 0, 0, 0), (55, .iaload, 1, 0, 0, 0, 0, 0), (56, .aload_n 0, 1, 0, 0, 0, 0, 0)]),
  (75, [(57, .getfield 32, 3, 2, 6, 0, 0, 0), (60, .aload_n 0, 1, 0, 0, 0, 0, 0), (61, .getfield 7, 3, 2, 0, 0, 0, 0), (64, .iaload, 1, 0, 0, 0, 0, 0), (65, .invokevirtual 38, 3, 67, 3, 0, 0, 0), (68, .aload_n 0, 1, 0, 0, 0, 0, 0), (69, .dup, 1, 0, 0, 0, 0, 0), (70, .getfield 7, 3, 2, 0, 0, 0, 0), (73, .iconst 1, 1, 0, 0, 0, 1, 0), (74, .iadd, 1, 0, 0, 0, 0, 0)]),
  (89, [(75, .putfield 7, 3, 2, 0, 0, 0, 0), (78, .aload_n 0, 1, 0, 0, 0, 0, 0), (79, .dup, 1, 0, 0, 0, 0, 0), (80, .getfield 13, 3, 2, 1, 0, 0, 0), (83, .iconst 1, 1, 0, 0, 0, 1, 0), (84, .isub, 1, 0, 0, 0, 0, 0), (85, .putfield 13, 3, 2, 1, 0, 0, 0), (88, .return_, 1, 0, 0, 0, 0, 0)])]
set_option maxRecDepth 100000 in
theorem mx_ok20 : ∀ q ∈ mx_t20, ∀ en ∈ q.2, mx_gd 20 en := mx_gt_s mx_LLok2 mx_KLok2 mx_JLok2 mx_ARok (by decide +kernel)
def mx_t21 : List (Nat × List mx_En) := [(18, [(0, .aload_n 0, 1, 0, 0, 0, 0, 0), (1, .invokespecial 3, 3, 1000, 0, 0, 0, 0), (4, .aload_n 0, 1, 0, 0, 0, 0, 0), (5, .iconst 0, 1, 0, 0, 0, 0, 0), (6, .putfield 9, 3, 3, 0, 0, 0, 0), (9, .aload_n 0, 1, 0, 0, 0, 0, 0), (10, .bipush 6, 2, 0, 0, 0, 6, 0), (12, .newarray .int, 2, 0, 0, 0, 0, 0), (14, .putfield 15, 3, 3, 1, 0, 0, 0), (17, .aload_n 0, 1, 0, 0, 0, 0, 0)]),
  (38, [(18, .bipush 6, 2, 0, 0, 0, 6, 0), (20, .newarray .int, 2, 0, 0, 0, 0, 0), (22, .putfield 19, 3, 3, 2, 0, 0, 0), (25, .aload_n 0, 1, 0, 0, 0, 0, 0), (26, .bipush 6, 2, 0, 0, 0, 6, 0), (28, .newarray .int, 2, 0, 0, 0, 0, 0), (30, .putfield 22, 3, 3, 3, 0, 0, 0), (33, .aload_n 0, 1, 0, 0, 0, 0, 0), (34, .bipush 36, 2, 0, 0, 0, 36, 0), (36, .newarray .int, 2, 0, 0, 0, 0, 0)]),
  (58, [(38, .putfield 25, 3, 3, 4, 0, 0, 0), (41, .aload_n 0, 1, 0, 0, 0, 0, 0), (42, .bipush 7, 2, 0, 0, 0, 7, 0), (44, .newarray .long, 2, 0, 0, 0, 0, 0), (46, .putfield 28, 3, 3, 5, 0, 0, 0), (49, .aload_n 0, 1, 0, 0, 0, 0, 0), (50, .bipush 6, 2, 0, 0, 0, 6, 0), (52, .newarray .int, 2, 0, 0, 0, 0, 0), (54, .putfield 32, 3, 3, 6, 0, 0, 0), (57, .aload_n 0, 1, 0, 0, 0, 0, 0)]),
  (78, [(58, .iconst 0, 1, 0, 0, 0, 0, 0), (59, .putfield 35, 3, 3, 7, 0, 0, 0), (62, .aload_n 0, 1, 0, 0, 0, 0, 0), (63, .bipush 36, 2, 0, 0, 0, 36, 0), (65, .newarray .long, 2, 0, 0, 0, 0, 0), (67, .putfield 38, 3, 3, 8, 0, 0, 0), (70, .aload_n 0, 1, 0, 0, 0, 0, 0), (71, .bipush 7, 2, 0, 0, 0, 7, 0), (73, .newarray .long, 2, 0, 0, 0, 0, 0), (75, .putfield 41, 3, 3, 9, 0, 0, 0)]),
  (95, [(78, .aload_n 0, 1, 0, 0, 0, 0, 0), (79, .bipush 6, 2, 0, 0, 0, 6, 0), (81, .newarray .long, 2, 0, 0, 0, 0, 0), (83, .putfield 44, 3, 3, 10, 0, 0, 0), (86, .aload_n 0, 1, 0, 0, 0, 0, 0), (87, .bipush 6, 2, 0, 0, 0, 6, 0), (89, .newarray .long, 2, 0, 0, 0, 0, 0), (91, .putfield 47, 3, 3, 11, 0, 0, 0), (94, .return_, 1, 0, 0, 0, 0, 0)])]
set_option maxRecDepth 100000 in
theorem mx_ok21 : ∀ q ∈ mx_t21, ∀ en ∈ q.2, mx_gd 21 en := mx_gt_s mx_LLok3 mx_KLok3 mx_JLok3 mx_ARok (by decide +kernel)
def mx_t22 : List (Nat × List mx_En) := [(7, [(0, .aload_n 0, 1, 0, 0, 0, 0, 0), (1, .aload_n 1, 1, 0, 0, 0, 0, 0), (2, .iconst 0, 1, 0, 0, 0, 0, 0), (3, .invokevirtual 50, 3, 23, 2, 0, 0, 0), (6, .return_, 1, 0, 0, 0, 0, 0)])]
set_option maxRecDepth 100000 in
theorem mx_ok22 : ∀ q ∈ mx_t22, ∀ en ∈ q.2, mx_gd 22 en := mx_gt_s mx_LLok3 mx_KLok3 mx_JLok3 mx_ARok (by decide +kernel)
def mx_t23 : List (Nat × List mx_En) := [(18, [(0, .aload_n 0, 1, 0, 0, 0, 0, 0), (1, .aload_n 1, 1, 0, 0, 0, 0, 0), (2, .getfield 54, 3, 7, 0, 0, 0, 0), (5, .putfield 9, 3, 3, 0, 0, 0, 0), (8, .aload_n 0, 1, 0, 0, 0, 0, 0), (9, .getfield 25, 3, 3, 4, 0, 0, 0), (12, .iconst 0, 1, 0, 0, 0, 0, 0), (13, .invokestatic 57, 3, 317, 2, 0, 0, 0), (16, .iconst 0, 1, 0, 0, 0, 0, 0), (17, .istore_n 3, 1, 0, 0, 0, 0, 0)]),
  (34, [(18, .iload_n 3, 1, 0, 0, 0, 0, 0), (19, .aload_n 0, 1, 0, 0, 0, 0, 0), (20, .getfield 9, 3, 3, 0, 0, 0, 0), (23, .if_icmp .ge 55, 3, 78, 0, 0, 0, 0), (26, .aload_n 0, 1, 0, 0, 0, 0, 0), (27, .iload_n 3, 1, 0, 0, 0, 0, 0), (28, .aload_n 1, 1, 0, 0, 0, 0, 0), (29, .getfield 63, 3, 7, 1, 0, 0, 0), (32, .iload_n 3, 1, 0, 0, 0, 0, 0), (33, .iaload, 1, 0, 0, 0, 0, 0)]),
  (52, [(34, .iload_n 2, 1, 0, 0, 0, 0, 0), (35, .isub, 1, 0, 0, 0, 0, 0), (36, .invokestatic 66, 3, 24, 1, 0, 0, 0), (39, .aload_n 1, 1, 0, 0, 0, 0, 0), (40, .getfield 70, 3, 7, 3, 0, 0, 0), (43, .iload_n 3, 1, 0, 0, 0, 0, 0), (44, .iaload, 1, 0, 0, 0, 0, 0), (45, .invokevirtual 73, 3, 25, 3, 0, 0, 0), (48, .aload_n 0, 1, 0, 0, 0, 0, 0), (49, .getfield 19, 3, 3, 2, 0, 0, 0)]),
  (66, [(52, .iload_n 3, 1, 0, 0, 0, 0, 0), (53, .aload_n 1, 1, 0, 0, 0, 0, 0), (54, .getfield 77, 3, 7, 2, 0, 0, 0), (57, .iload_n 3, 1, 0, 0, 0, 0, 0), (58, .iaload, 1, 0, 0, 0, 0, 0), (59, .iastore, 1, 0, 0, 0, 0, 0), (60, .aload_n 0, 1, 0, 0, 0, 0, 0), (61, .getfield 22, 3, 3, 3, 0, 0, 0), (64, .iload_n 3, 1, 0, 0, 0, 0, 0), (65, .aload_n 1, 1, 0, 0, 0, 0, 0)]),
  (82, [(66, .getfield 78, 3, 7, 4, 0, 0, 0), (69, .iload_n 3, 1, 0, 0, 0, 0, 0), (70, .iaload, 1, 0, 0, 0, 0, 0), (71, .iastore, 1, 0, 0, 0, 0, 0), (72, .iinc 3 1, 3, 0, 0, 0, 1, 0), (75, .goto (-57), 3, 18, 0, 0, 0, 0), (78, .iconst 0, 1, 0, 0, 0, 0, 0), (79, .istore_n 3, 1, 0, 0, 0, 0, 0), (80, .iload_n 3, 1, 0, 0, 0, 0, 0), (81, .aload_n 1, 1, 0, 0, 0, 0, 0)]),
  (101, [(82, .getfield 79, 3, 7, 6, 0, 0, 0), (85, .if_icmp .ge 52, 3, 137, 0, 0, 0, 0), (88, .aload_n 1, 1, 0, 0, 0, 0, 0), (89, .getfield 82, 3, 7, 9, 0, 0, 0), (92, .iload_n 3, 1, 0, 0, 0, 0, 0), (93, .iaload, 1, 0, 0, 0, 0, 0), (94, .iload_n 2, 1, 0, 0, 0, 0, 0), (95, .iadd, 1, 0, 0, 0, 0, 0), (96, .invokestatic 66, 3, 24, 1, 0, 0, 0), (99, .istore 4, 2, 0, 0, 0, 0, 0)]),
  (116, [(101, .aload_n 0, 1, 0, 0, 0, 0, 0), (102, .aload_n 1, 1, 0, 0, 0, 0, 0), (103, .getfield 85, 3, 7, 7, 0, 0, 0), (106, .iload_n 3, 1, 0, 0, 0, 0, 0), (107, .iaload, 1, 0, 0, 0, 0, 0), (108, .aload_n 1, 1, 0, 0, 0, 0, 0), (109, .getfield 88, 3, 7, 8, 0, 0, 0), (112, .iload_n 3, 1, 0, 0, 0, 0, 0), (113, .iaload, 1, 0, 0, 0, 0, 0), (114, .iload 4, 2, 0, 0, 0, 0, 0)]),
  (137, [(116, .aload_n 1, 1, 0, 0, 0, 0, 0), (117, .getfield 91, 3, 7, 10, 0, 0, 0), (120, .iload_n 3, 1, 0, 0, 0, 0, 0), (121, .iaload, 1, 0, 0, 0, 0, 0), (122, .iload 4, 2, 0, 0, 0, 0, 0), (124, .invokestatic 94, 3, 4, 0, 2, 0, 0), (127, .isub, 1, 0, 0, 0, 0, 0), (128, .invokevirtual 100, 3, 26, 3, 0, 0, 0), (131, .iinc 3 1, 3, 0, 0, 0, 1, 0), (134, .goto (-54), 3, 80, 0, 0, 0, 0)]),
  (138, [(137, .return_, 1, 0, 0, 0, 0, 0)])]
set_option maxRecDepth 100000 in
theorem mx_ok23 : ∀ q ∈ mx_t23, ∀ en ∈ q.2, mx_gd 23 en := mx_gt_s mx_LLok3 mx_KLok3 mx_JLok3 mx_ARok (by decide +kernel)
def mx_t24 : List (Nat × List mx_En) := [(11, [(0, .iconst 1, 1, 0, 0, 0, 1, 0), (1, .bipush 9, 2, 0, 0, 0, 9, 0), (3, .iload_n 0, 1, 0, 0, 0, 0, 0), (4, .invokestatic 94, 3, 4, 0, 2, 0, 0), (7, .invokestatic 103, 3, 2, 0, 2, 0, 0), (10, .ireturn, 1, 0, 0, 0, 0, 0)])]
set_option maxRecDepth 100000 in
theorem mx_ok24 : ∀ q ∈ mx_t24, ∀ en ∈ q.2, mx_gd 24 en := mx_gt_s mx_LLok3 mx_KLok3 mx_JLok3 mx_ARok (by decide +kernel)
def mx_t25 : List (Nat × List mx_En) := [(15, [(0, .aload_n 0, 1, 0, 0, 0, 0, 0), (1, .getfield 15, 3, 3, 1, 0, 0, 0), (4, .iload_n 1, 1, 0, 0, 0, 0, 0), (5, .bipush 9, 2, 0, 0, 0, 9, 0), (7, .iload_n 2, 1, 0, 0, 0, 0, 0), (8, .iload_n 3, 1, 0, 0, 0, 0, 0), (9, .iadd, 1, 0, 0, 0, 0, 0), (10, .invokestatic 94, 3, 4, 0, 2, 0, 0), (13, .iastore, 1, 0, 0, 0, 0, 0), (14, .return_, 1, 0, 0, 0, 0, 0)])]
set_option maxRecDepth 100000 in
theorem mx_ok25 : ∀ q ∈ mx_t25, ∀ en ∈ q.2, mx_gd 25 en := mx_gt_s mx_LLok3 mx_KLok3 mx_JLok3 mx_ARok (by decide +kernel)
def mx_t26 : List (Nat × List mx_En) := [(13, [(0, .aload_n 0, 1, 0, 0, 0, 0, 0), (1, .getfield 25, 3, 3, 4, 0, 0, 0), (4, .bipush 6, 2, 0, 0, 0, 6, 0), (6, .iload_n 1, 1, 0, 0, 0, 0, 0), (7, .imul, 1, 0, 0, 0, 0, 0), (8, .iload_n 2, 1, 0, 0, 0, 0, 0), (9, .iadd, 1, 0, 0, 0, 0, 0), (10, .iload_n 3, 1, 0, 0, 0, 0, 0), (11, .iastore, 1, 0, 0, 0, 0, 0), (12, .aload_n 0, 1, 0, 0, 0, 0, 0)]),
  (25, [(13, .getfield 25, 3, 3, 4, 0, 0, 0), (16, .bipush 6, 2, 0, 0, 0, 6, 0), (18, .iload_n 2, 1, 0, 0, 0, 0, 0), (19, .imul, 1, 0, 0, 0, 0, 0), (20, .iload_n 1, 1, 0, 0, 0, 0, 0), (21, .iadd, 1, 0, 0, 0, 0, 0), (22, .iload_n 3, 1, 0, 0, 0, 0, 0), (23, .iastore, 1, 0, 0, 0, 0, 0), (24, .return_, 1, 0, 0, 0, 0, 0)])]
set_option maxRecDepth 100000 in
theorem mx_ok26 : ∀ q ∈ mx_t26, ∀ en ∈ q.2, mx_gd 26 en := mx_gt_s mx_LLok3 mx_KLok3 mx_JLok3 mx_ARok (by decide +kernel)
def mx_t27 : List (Nat × List mx_En) := [(12, [(0, .aload_n 0, 1, 0, 0, 0, 0, 0), (1, .getfield 25, 3, 3, 4, 0, 0, 0), (4, .bipush 6, 2, 0, 0, 0, 6, 0), (6, .iload_n 1, 1, 0, 0, 0, 0, 0), (7, .imul, 1, 0, 0, 0, 0, 0), (8, .iload_n 2, 1, 0, 0, 0, 0, 0), (9, .iadd, 1, 0, 0, 0, 0, 0), (10, .iaload, 1, 0, 0, 0, 0, 0), (11, .ireturn, 1, 0, 0, 0, 0, 0)])]
set_option maxRecDepth 100000 in
theorem mx_ok27 : ∀ q ∈ mx_t27, ∀ en ∈ q.2, mx_gd 27 en := mx_gt_s mx_LLok3 mx_KLok3 mx_JLok3 mx_ARok (by decide +kernel)
def mx_t28 : List (Nat × List mx_En) := [(16, [(0, .aload_n 0, 1, 0, 0, 0, 0, 0), (1, .iconst 0, 1, 0, 0, 0, 0, 0), (2, .putfield 35, 3, 3, 7, 0, 0, 0), (5, .iconst 0, 1, 0, 0, 0, 0, 0), (6, .istore_n 3, 1, 0, 0, 0, 0, 0), (7, .iload_n 3, 1, 0, 0, 0, 0, 0), (8, .aload_n 0, 1, 0, 0, 0, 0, 0), (9, .getfield 9, 3, 3, 0, 0, 0, 0), (12, .if_icmp .ge 190, 3, 202, 0, 0, 0, 0), (15, .aload_n 0, 1, 0, 0, 0, 0, 0)]),
  (36, [(16, .getfield 22, 3, 3, 3, 0, 0, 0), (19, .iload_n 3, 1, 0, 0, 0, 0, 0), (20, .iaload, 1, 0, 0, 0, 0, 0), (21, .ifCond .eq 6, 3, 27, 0, 0, 0, 0), (24, .goto 172, 3, 196, 0, 0, 0, 0), (27, .aload_n 0, 1, 0, 0, 0, 0, 0), (28, .getfield 32, 3, 3, 6, 0, 0, 0), (31, .aload_n 0, 1, 0, 0, 0, 0, 0), (32, .getfield 35, 3, 3, 7, 0, 0, 0), (35, .iload_n 3, 1, 0, 0, 0, 0, 0)]),
  (51, [(36, .iastore, 1, 0, 0, 0, 0, 0), (37, .aload_n 0, 1, 0, 0, 0, 0, 0), (38, .getfield 19, 3, 3, 2, 0, 0, 0), (41, .iload_n 3, 1, 0, 0, 0, 0, 0), (42, .iaload, 1, 0, 0, 0, 0, 0), (43, .istore 4, 2, 0, 0, 0, 0, 0), (45, .iconst 0, 1, 0, 0, 0, 0, 0), (46, .istore 5, 2, 0, 0, 0, 0, 0), (48, .iload 5, 2, 0, 0, 0, 0, 0), (50, .aload_n 0, 1, 0, 0, 0, 0, 0)]),
  (70, [(51, .getfield 9, 3, 3, 0, 0, 0, 0), (54, .if_icmp .ge 26, 3, 80, 0, 0, 0, 0), (57, .iload 4, 2, 0, 0, 0, 0, 0), (59, .aload_n 0, 1, 0, 0, 0, 0, 0), (60, .getfield 25, 3, 3, 4, 0, 0, 0), (63, .bipush 6, 2, 0, 0, 0, 6, 0), (65, .iload_n 3, 1, 0, 0, 0, 0, 0), (66, .imul, 1, 0, 0, 0, 0, 0), (67, .iload 5, 2, 0, 0, 0, 0, 0), (69, .iadd, 1, 0, 0, 0, 0, 0)]),
  (89, [(70, .iaload, 1, 0, 0, 0, 0, 0), (71, .iadd, 1, 0, 0, 0, 0, 0), (72, .istore 4, 2, 0, 0, 0, 0, 0), (74, .iinc 5 1, 3, 0, 0, 0, 1, 0), (77, .goto (-29), 3, 48, 0, 0, 0, 0), (80, .iconst 0, 1, 0, 0, 0, 0, 0), (81, .istore 5, 2, 0, 0, 0, 0, 0), (83, .iload 5, 2, 0, 0, 0, 0, 0), (85, .aload_n 0, 1, 0, 0, 0, 0, 0), (86, .getfield 35, 3, 3, 7, 0, 0, 0)]),
  (106, [(89, .if_icmp .ge 66, 3, 155, 0, 0, 0, 0), (92, .iload_n 2, 1, 0, 0, 0, 0, 0), (93, .ineg, 1, 0, 0, 0, 0, 0), (94, .aload_n 0, 1, 0, 0, 0, 0, 0), (95, .getfield 25, 3, 3, 4, 0, 0, 0), (98, .bipush 6, 2, 0, 0, 0, 6, 0), (100, .iload_n 3, 1, 0, 0, 0, 0, 0), (101, .imul, 1, 0, 0, 0, 0, 0), (102, .aload_n 0, 1, 0, 0, 0, 0, 0), (103, .getfield 32, 3, 3, 6, 0, 0, 0)]),
  (121, [(106, .iload 5, 2, 0, 0, 0, 0, 0), (108, .iaload, 1, 0, 0, 0, 0, 0), (109, .iadd, 1, 0, 0, 0, 0, 0), (110, .iaload, 1, 0, 0, 0, 0, 0), (111, .imul, 1, 0, 0, 0, 0, 0), (112, .i2l, 1, 0, 0, 0, 0, 0), (113, .lstore 6, 2, 0, 0, 0, 0, 0), (115, .aload_n 0, 1, 0, 0, 0, 0, 0), (116, .getfield 38, 3, 3, 8, 0, 0, 0), (119, .bipush 6, 2, 0, 0, 0, 6, 0)]),
  (138, [(121, .iload 5, 2, 0, 0, 0, 0, 0), (123, .imul, 1, 0, 0, 0, 0, 0), (124, .aload_n 0, 1, 0, 0, 0, 0, 0), (125, .getfield 35, 3, 3, 7, 0, 0, 0), (128, .iadd, 1, 0, 0, 0, 0, 0), (129, .lload 6, 2, 0, 0, 0, 0, 0), (131, .lastore, 1, 0, 0, 0, 0, 0), (132, .aload_n 0, 1, 0, 0, 0, 0, 0), (133, .getfield 38, 3, 3, 8, 0, 0, 0), (136, .bipush 6, 2, 0, 0, 0, 6, 0)]),
  (156, [(138, .aload_n 0, 1, 0, 0, 0, 0, 0), (139, .getfield 35, 3, 3, 7, 0, 0, 0), (142, .imul, 1, 0, 0, 0, 0, 0), (143, .iload 5, 2, 0, 0, 0, 0, 0), (145, .iadd, 1, 0, 0, 0, 0, 0), (146, .lload 6, 2, 0, 0, 0, 0, 0), (148, .lastore, 1, 0, 0, 0, 0, 0), (149, .iinc 5 1, 3, 0, 0, 0, 1, 0), (152, .goto (-69), 3, 83, 0, 0, 0, 0), (155, .aload_n 0, 1, 0, 0, 0, 0, 0)]),
  (174, [(156, .getfield 38, 3, 3, 8, 0, 0, 0), (159, .bipush 6, 2, 0, 0, 0, 6, 0), (161, .aload_n 0, 1, 0, 0, 0, 0, 0), (162, .getfield 35, 3, 3, 7, 0, 0, 0), (165, .imul, 1, 0, 0, 0, 0, 0), (166, .aload_n 0, 1, 0, 0, 0, 0, 0), (167, .getfield 35, 3, 3, 7, 0, 0, 0), (170, .iadd, 1, 0, 0, 0, 0, 0), (171, .iload_n 2, 1, 0, 0, 0, 0, 0), (172, .iload 4, 2, 0, 0, 0, 0, 0)]),
  (186, [(174, .imul, 1, 0, 0, 0, 0, 0), (175, .iload_n 1, 1, 0, 0, 0, 0, 0), (176, .aload_n 0, 1, 0, 0, 0, 0, 0), (177, .getfield 15, 3, 3, 1, 0, 0, 0), (180, .iload_n 3, 1, 0, 0, 0, 0, 0), (181, .iaload, 1, 0, 0, 0, 0, 0), (182, .imul, 1, 0, 0, 0, 0, 0), (183, .isub, 1, 0, 0, 0, 0, 0), (184, .i2l, 1, 0, 0, 0, 0, 0), (185, .lastore, 1, 0, 0, 0, 0, 0)]),
  (203, [(186, .aload_n 0, 1, 0, 0, 0, 0, 0), (187, .dup, 1, 0, 0, 0, 0, 0), (188, .getfield 35, 3, 3, 7, 0, 0, 0), (191, .iconst 1, 1, 0, 0, 0, 1, 0), (192, .iadd, 1, 0, 0, 0, 0, 0), (193, .putfield 35, 3, 3, 7, 0, 0, 0), (196, .iinc 3 1, 3, 0, 0, 0, 1, 0), (199, .goto (-192), 3, 7, 0, 0, 0, 0), (202, .return_, 1, 0, 0, 0, 0, 0)])]
set_option maxRecDepth 100000 in
theorem mx_ok28 : ∀ q ∈ mx_t28, ∀ en ∈ q.2, mx_gd 28 en := mx_gt_s mx_LLok3 mx_KLok3 mx_JLok3 mx_ARok (by decide +kernel)
def mx_t29 : List (Nat × List mx_En) := [(14, [(0, .aload_n 0, 1, 0, 0, 0, 0, 0), (1, .iload_n 1, 1, 0, 0, 0, 0, 0), (2, .iload_n 2, 1, 0, 0, 0, 0, 0), (3, .invokevirtual 106, 3, 28, 2, 0, 0, 0), (6, .aload_n 0, 1, 0, 0, 0, 0, 0), (7, .getfield 28, 3, 3, 5, 0, 0, 0), (10, .iconst 0, 1, 0, 0, 0, 0, 0), (11, .lconst 1, 1, 0, 0, 0, 0, 1), (12, .lastore, 1, 0, 0, 0, 0, 0), (13, .iconst 0, 1, 0, 0, 0, 0, 0)]),
  (30, [(14, .istore_n 3, 1, 0, 0, 0, 0, 0), (15, .iload_n 3, 1, 0, 0, 0, 0, 0), (16, .aload_n 0, 1, 0, 0, 0, 0, 0), (17, .getfield 35, 3, 3, 7, 0, 0, 0), (20, .if_icmp .ge 87, 3, 107, 0, 0, 0, 0), (23, .aload_n 0, 1, 0, 0, 0, 0, 0), (24, .iload_n 3, 1, 0, 0, 0, 0, 0), (25, .invokevirtual 110, 3, 30, 1, 0, 0, 0), (28, .iload_n 3, 1, 0, 0, 0, 0, 0), (29, .iconst 1, 1, 0, 0, 0, 1, 0)]),
  (48, [(30, .iadd, 1, 0, 0, 0, 0, 0), (31, .istore 4, 2, 0, 0, 0, 0, 0), (33, .iload 4, 2, 0, 0, 0, 0, 0), (35, .ifCond .le 66, 3, 101, 0, 0, 0, 0), (38, .lconst 0, 1, 0, 0, 0, 0, 0), (39, .lstore 5, 2, 0, 0, 0, 0, 0), (41, .iconst 0, 1, 0, 0, 0, 0, 0), (42, .istore 7, 2, 0, 0, 0, 0, 0), (44, .iload 7, 2, 0, 0, 0, 0, 0), (46, .iload 4, 2, 0, 0, 0, 0, 0)]),
  (68, [(48, .if_icmp .gt 38, 3, 86, 0, 0, 0, 0), (51, .iload 7, 2, 0, 0, 0, 0, 0), (53, .iload_n 3, 1, 0, 0, 0, 0, 0), (54, .if_icmp .gt 32, 3, 86, 0, 0, 0, 0), (57, .lload 5, 2, 0, 0, 0, 0, 0), (59, .aload_n 0, 1, 0, 0, 0, 0, 0), (60, .getfield 41, 3, 3, 9, 0, 0, 0), (63, .iload 4, 2, 0, 0, 0, 0, 0), (65, .iload 7, 2, 0, 0, 0, 0, 0), (67, .isub, 1, 0, 0, 0, 0, 0)]),
  (86, [(68, .laload, 1, 0, 0, 0, 0, 0), (69, .aload_n 0, 1, 0, 0, 0, 0, 0), (70, .getfield 28, 3, 3, 5, 0, 0, 0), (73, .iload 7, 2, 0, 0, 0, 0, 0), (75, .laload, 1, 0, 0, 0, 0, 0), (76, .lmul, 1, 0, 0, 0, 0, 0), (77, .ladd, 1, 0, 0, 0, 0, 0), (78, .lstore 5, 2, 0, 0, 0, 0, 0), (80, .iinc 7 1, 3, 0, 0, 0, 1, 0), (83, .goto (-39), 3, 44, 0, 0, 0, 0)]),
  (108, [(86, .aload_n 0, 1, 0, 0, 0, 0, 0), (87, .getfield 28, 3, 3, 5, 0, 0, 0), (90, .iload 4, 2, 0, 0, 0, 0, 0), (92, .lload 5, 2, 0, 0, 0, 0, 0), (94, .lastore, 1, 0, 0, 0, 0, 0), (95, .iinc 4 (-1), 3, 0, 0, 0, -1, 0), (98, .goto (-65), 3, 33, 0, 0, 0, 0), (101, .iinc 3 1, 3, 0, 0, 0, 1, 0), (104, .goto (-89), 3, 15, 0, 0, 0, 0), (107, .return_, 1, 0, 0, 0, 0, 0)])]
set_option maxRecDepth 100000 in
theorem mx_ok29 : ∀ q ∈ mx_t29, ∀ en ∈ q.2, mx_gd 29 en := mx_gt_s mx_LLok3 mx_KLok3 mx_JLok3 mx_ARok (by decide +kernel)
def mx_t30_0 : List (Nat × List mx_En) := [(13, [(0, .bipush 6, 2, 0, 0, 0, 6, 0), (2, .iload_n 1, 1, 0, 0, 0, 0, 0), (3, .imul, 1, 0, 0, 0, 0, 0), (4, .istore_n 2, 1, 0, 0, 0, 0, 0), (5, .aload_n 0, 1, 0, 0, 0, 0, 0), (6, .getfield 41, 3, 3, 9, 0, 0, 0), (9, .iconst 0, 1, 0, 0, 0, 0, 0), (10, .lconst 1, 1, 0, 0, 0, 0, 1), (11, .lastore, 1, 0, 0, 0, 0, 0), (12, .aload_n 0, 1, 0, 0, 0, 0, 0)]),
  (27, [(13, .getfield 41, 3, 3, 9, 0, 0, 0), (16, .iconst 1, 1, 0, 0, 0, 1, 0), (17, .aload_n 0, 1, 0, 0, 0, 0, 0), (18, .getfield 38, 3, 3, 8, 0, 0, 0), (21, .iload_n 2, 1, 0, 0, 0, 0, 0), (22, .iload_n 1, 1, 0, 0, 0, 0, 0), (23, .iadd, 1, 0, 0, 0, 0, 0), (24, .laload, 1, 0, 0, 0, 0, 0), (25, .lastore, 1, 0, 0, 0, 0, 0), (26, .iconst 0, 1, 0, 0, 0, 0, 0)]),
  (43, [(27, .istore_n 3, 1, 0, 0, 0, 0, 0), (28, .iload_n 3, 1, 0, 0, 0, 0, 0), (29, .iload_n 1, 1, 0, 0, 0, 0, 0), (30, .if_icmp .ge 23, 3, 53, 0, 0, 0, 0), (33, .aload_n 0, 1, 0, 0, 0, 0, 0), (34, .getfield 44, 3, 3, 10, 0, 0, 0), (37, .iload_n 3, 1, 0, 0, 0, 0, 0), (38, .aload_n 0, 1, 0, 0, 0, 0, 0), (39, .getfield 38, 3, 3, 8, 0, 0, 0), (42, .iload_n 2, 1, 0, 0, 0, 0, 0)]),
  (57, [(43, .iload_n 3, 1, 0, 0, 0, 0, 0), (44, .iadd, 1, 0, 0, 0, 0, 0), (45, .laload, 1, 0, 0, 0, 0, 0), (46, .lastore, 1, 0, 0, 0, 0, 0), (47, .iinc 3 1, 3, 0, 0, 0, 1, 0), (50, .goto (-22), 3, 28, 0, 0, 0, 0), (53, .iconst 2, 1, 0, 0, 0, 2, 0), (54, .istore_n 3, 1, 0, 0, 0, 0, 0), (55, .iload_n 3, 1, 0, 0, 0, 0, 0), (56, .iload_n 1, 1, 0, 0, 0, 0, 0)]),
  (73, [(57, .iconst 1, 1, 0, 0, 0, 1, 0), (58, .iadd, 1, 0, 0, 0, 0, 0), (59, .if_icmp .gt 202, 3, 261, 0, 0, 0, 0), (62, .iload_n 3, 1, 0, 0, 0, 0, 0), (63, .iconst 2, 1, 0, 0, 0, 2, 0), (64, .irem, 1, 0, 0, 0, 0, 0), (65, .ifCond .eq 7, 3, 72, 0, 0, 0, 0), (68, .iconst 1, 1, 0, 0, 0, 1, 0), (69, .goto 4, 3, 73, 0, 0, 0, 0), (72, .iconst 0, 1, 0, 0, 0, 0, 0)])]
set_option maxRecDepth 100000 in
theorem mx_ok30_0 : ∀ q ∈ mx_t30_0, ∀ en ∈ q.2, mx_gd 30 en := mx_gt_s mx_LLok3 mx_KLok3 mx_JLok3 mx_ARok (by decide +kernel)
def mx_t30_1 : List (Nat × List mx_En) := [(93, [(73, .istore 4, 2, 0, 0, 0, 0, 0), (75, .iconst 0, 1, 0, 0, 0, 0, 0), (76, .istore 5, 2, 0, 0, 0, 0, 0), (78, .iload 5, 2, 0, 0, 0, 0, 0), (80, .iload_n 1, 1, 0, 0, 0, 0, 0), (81, .if_icmp .ge 68, 3, 149, 0, 0, 0, 0), (84, .iload 4, 2, 0, 0, 0, 0, 0), (86, .ifCond .eq 63, 3, 149, 0, 0, 0, 0), (89, .aload_n 0, 1, 0, 0, 0, 0, 0), (90, .getfield 47, 3, 3, 11, 0, 0, 0)]),
  (110, [(93, .iload 5, 2, 0, 0, 0, 0, 0), (95, .lconst 0, 1, 0, 0, 0, 0, 0), (96, .lastore, 1, 0, 0, 0, 0, 0), (97, .iconst 0, 1, 0, 0, 0, 0, 0), (98, .istore 6, 2, 0, 0, 0, 0, 0), (100, .iload 6, 2, 0, 0, 0, 0, 0), (102, .iload_n 1, 1, 0, 0, 0, 0, 0), (103, .if_icmp .ge 40, 3, 143, 0, 0, 0, 0), (106, .aload_n 0, 1, 0, 0, 0, 0, 0), (107, .getfield 47, 3, 3, 11, 0, 0, 0)]),
  (126, [(110, .iload 5, 2, 0, 0, 0, 0, 0), (112, .dup2, 1, 0, 0, 0, 0, 0), (113, .laload, 1, 0, 0, 0, 0, 0), (114, .aload_n 0, 1, 0, 0, 0, 0, 0), (115, .getfield 38, 3, 3, 8, 0, 0, 0), (118, .bipush 6, 2, 0, 0, 0, 6, 0), (120, .iload 5, 2, 0, 0, 0, 0, 0), (122, .imul, 1, 0, 0, 0, 0, 0), (123, .iload 6, 2, 0, 0, 0, 0, 0), (125, .iadd, 1, 0, 0, 0, 0, 0)]),
  (143, [(126, .laload, 1, 0, 0, 0, 0, 0), (127, .aload_n 0, 1, 0, 0, 0, 0, 0), (128, .getfield 44, 3, 3, 10, 0, 0, 0), (131, .iload 6, 2, 0, 0, 0, 0, 0), (133, .laload, 1, 0, 0, 0, 0, 0), (134, .lmul, 1, 0, 0, 0, 0, 0), (135, .ladd, 1, 0, 0, 0, 0, 0), (136, .lastore, 1, 0, 0, 0, 0, 0), (137, .iinc 6 1, 3, 0, 0, 0, 1, 0), (140, .goto (-40), 3, 100, 0, 0, 0, 0)]),
  (163, [(143, .iinc 5 1, 3, 0, 0, 0, 1, 0), (146, .goto (-68), 3, 78, 0, 0, 0, 0), (149, .lconst 0, 1, 0, 0, 0, 0, 0), (150, .lstore 5, 2, 0, 0, 0, 0, 0), (152, .iconst 0, 1, 0, 0, 0, 0, 0), (153, .istore 7, 2, 0, 0, 0, 0, 0), (155, .iload 7, 2, 0, 0, 0, 0, 0), (157, .iload_n 1, 1, 0, 0, 0, 0, 0), (158, .if_icmp .ge 44, 3, 202, 0, 0, 0, 0), (161, .lload 5, 2, 0, 0, 0, 0, 0)])]
set_option maxRecDepth 100000 in
theorem mx_ok30_1 : ∀ q ∈ mx_t30_1, ∀ en ∈ q.2, mx_gd 30 en := mx_gt_s mx_LLok3 mx_KLok3 mx_JLok3 mx_ARok (by decide +kernel)
def mx_t30_2 : List (Nat × List mx_En) := [(182, [(163, .aload_n 0, 1, 0, 0, 0, 0, 0), (164, .getfield 44, 3, 3, 10, 0, 0, 0), (167, .iload 7, 2, 0, 0, 0, 0, 0), (169, .laload, 1, 0, 0, 0, 0, 0), (170, .iload 4, 2, 0, 0, 0, 0, 0), (172, .ifCond .eq 13, 3, 185, 0, 0, 0, 0), (175, .aload_n 0, 1, 0, 0, 0, 0, 0), (176, .getfield 47, 3, 3, 11, 0, 0, 0), (179, .iload 7, 2, 0, 0, 0, 0, 0), (181, .laload, 1, 0, 0, 0, 0, 0)]),
  (202, [(182, .goto 10, 3, 192, 0, 0, 0, 0), (185, .aload_n 0, 1, 0, 0, 0, 0, 0), (186, .getfield 44, 3, 3, 10, 0, 0, 0), (189, .iload 7, 2, 0, 0, 0, 0, 0), (191, .laload, 1, 0, 0, 0, 0, 0), (192, .lmul, 1, 0, 0, 0, 0, 0), (193, .ladd, 1, 0, 0, 0, 0, 0), (194, .lstore 5, 2, 0, 0, 0, 0, 0), (196, .iinc 7 1, 3, 0, 0, 0, 1, 0), (199, .goto (-44), 3, 155, 0, 0, 0, 0)]),
  (221, [(202, .aload_n 0, 1, 0, 0, 0, 0, 0), (203, .getfield 41, 3, 3, 9, 0, 0, 0), (206, .iload_n 3, 1, 0, 0, 0, 0, 0), (207, .iload 4, 2, 0, 0, 0, 0, 0), (209, .ifCond .eq 8, 3, 217, 0, 0, 0, 0), (212, .lload 5, 2, 0, 0, 0, 0, 0), (214, .goto 6, 3, 220, 0, 0, 0, 0), (217, .lload 5, 2, 0, 0, 0, 0, 0), (219, .lneg, 1, 0, 0, 0, 0, 0), (220, .lastore, 1, 0, 0, 0, 0, 0)]),
  (241, [(221, .iconst 0, 1, 0, 0, 0, 0, 0), (222, .istore 7, 2, 0, 0, 0, 0, 0), (224, .iload 7, 2, 0, 0, 0, 0, 0), (226, .iload_n 1, 1, 0, 0, 0, 0, 0), (227, .if_icmp .ge 28, 3, 255, 0, 0, 0, 0), (230, .iload 4, 2, 0, 0, 0, 0, 0), (232, .ifCond .eq 23, 3, 255, 0, 0, 0, 0), (235, .aload_n 0, 1, 0, 0, 0, 0, 0), (236, .getfield 44, 3, 3, 10, 0, 0, 0), (239, .iload 7, 2, 0, 0, 0, 0, 0)]),
  (262, [(241, .aload_n 0, 1, 0, 0, 0, 0, 0), (242, .getfield 47, 3, 3, 11, 0, 0, 0), (245, .iload 7, 2, 0, 0, 0, 0, 0), (247, .laload, 1, 0, 0, 0, 0, 0), (248, .lastore, 1, 0, 0, 0, 0, 0), (249, .iinc 7 1, 3, 0, 0, 0, 1, 0), (252, .goto (-28), 3, 224, 0, 0, 0, 0), (255, .iinc 3 1, 3, 0, 0, 0, 1, 0), (258, .goto (-203), 3, 55, 0, 0, 0, 0), (261, .return_, 1, 0, 0, 0, 0, 0)])]
set_option maxRecDepth 100000 in
theorem mx_ok30_2 : ∀ q ∈ mx_t30_2, ∀ en ∈ q.2, mx_gd 30 en := mx_gt_s mx_LLok3 mx_KLok3 mx_JLok3 mx_ARok (by decide +kernel)
def mx_t30 : List (Nat × List mx_En) := mx_t30_0 ++ (mx_t30_1 ++ (mx_t30_2))
theorem mx_ok30 : ∀ q ∈ mx_t30, ∀ en ∈ q.2, mx_gd 30 en := (fun q h => (List.mem_append.mp h).elim (mx_ok30_0 q) ((fun q h => (List.mem_append.mp h).elim (mx_ok30_1 q) (mx_ok30_2 q)) q))
def mx_t31 : List (Nat × List mx_En) := [(14, [(0, .aload_n 0, 1, 0, 0, 0, 0, 0), (1, .iload_n 1, 1, 0, 0, 0, 0, 0), (2, .iload_n 2, 1, 0, 0, 0, 0, 0), (3, .invokevirtual 114, 3, 29, 2, 0, 0, 0), (6, .iconst 0, 1, 0, 0, 0, 0, 0), (7, .istore_n 3, 1, 0, 0, 0, 0, 0), (8, .iconst 0, 1, 0, 0, 0, 0, 0), (9, .istore 4, 2, 0, 0, 0, 0, 0), (11, .iconst 1, 1, 0, 0, 0, 1, 0), (12, .istore 5, 2, 0, 0, 0, 0, 0)]),
  (32, [(14, .iload 5, 2, 0, 0, 0, 0, 0), (16, .aload_n 0, 1, 0, 0, 0, 0, 0), (17, .getfield 35, 3, 3, 7, 0, 0, 0), (20, .if_icmp .gt 58, 3, 78, 0, 0, 0, 0), (23, .aload_n 0, 1, 0, 0, 0, 0, 0), (24, .getfield 28, 3, 3, 5, 0, 0, 0), (27, .iload 5, 2, 0, 0, 0, 0, 0), (29, .laload, 1, 0, 0, 0, 0, 0), (30, .lconst 0, 1, 0, 0, 0, 0, 0), (31, .lcmp, 1, 0, 0, 0, 0, 0)]),
  (51, [(32, .ifCond .eq 40, 3, 72, 0, 0, 0, 0), (35, .aload_n 0, 1, 0, 0, 0, 0, 0), (36, .getfield 28, 3, 3, 5, 0, 0, 0), (39, .iload 5, 2, 0, 0, 0, 0, 0), (41, .laload, 1, 0, 0, 0, 0, 0), (42, .lconst 0, 1, 0, 0, 0, 0, 0), (43, .lcmp, 1, 0, 0, 0, 0, 0), (44, .ifCond .ge 7, 3, 51, 0, 0, 0, 0), (47, .iconst 1, 1, 0, 0, 0, 1, 0), (48, .goto 4, 3, 52, 0, 0, 0, 0)]),
  (72, [(51, .iconst 0, 1, 0, 0, 0, 0, 0), (52, .iload 4, 2, 0, 0, 0, 0, 0), (54, .if_icmp .eq 18, 3, 72, 0, 0, 0, 0), (57, .iinc 3 1, 3, 0, 0, 0, 1, 0), (60, .iload 4, 2, 0, 0, 0, 0, 0), (62, .ifCond .ne 7, 3, 69, 0, 0, 0, 0), (65, .iconst 1, 1, 0, 0, 0, 1, 0), (66, .goto 4, 3, 70, 0, 0, 0, 0), (69, .iconst 0, 1, 0, 0, 0, 0, 0), (70, .istore 4, 2, 0, 0, 0, 0, 0)]),
  (80, [(72, .iinc 5 1, 3, 0, 0, 0, 1, 0), (75, .goto (-61), 3, 14, 0, 0, 0, 0), (78, .iload_n 3, 1, 0, 0, 0, 0, 0), (79, .ireturn, 1, 0, 0, 0, 0, 0)])]
set_option maxRecDepth 100000 in
theorem mx_ok31 : ∀ q ∈ mx_t31, ∀ en ∈ q.2, mx_gd 31 en := mx_gt_s mx_LLok3 mx_KLok3 mx_JLok3 mx_ARok (by decide +kernel)
def mx_t32 : List (Nat × List mx_En) := [(16, [(0, .aload_n 0, 1, 0, 0, 0, 0, 0), (1, .iload_n 1, 1, 0, 0, 0, 0, 0), (2, .iload_n 2, 1, 0, 0, 0, 0, 0), (3, .invokevirtual 114, 3, 29, 2, 0, 0, 0), (6, .iconst 0, 1, 0, 0, 0, 0, 0), (7, .istore_n 3, 1, 0, 0, 0, 0, 0), (8, .aload_n 0, 1, 0, 0, 0, 0, 0), (9, .getfield 35, 3, 3, 7, 0, 0, 0), (12, .istore 4, 2, 0, 0, 0, 0, 0), (14, .iload 4, 2, 0, 0, 0, 0, 0)]),
  (37, [(16, .ifCond .le 24, 3, 40, 0, 0, 0, 0), (19, .aload_n 0, 1, 0, 0, 0, 0, 0), (20, .getfield 28, 3, 3, 5, 0, 0, 0), (23, .iload 4, 2, 0, 0, 0, 0, 0), (25, .laload, 1, 0, 0, 0, 0, 0), (26, .lconst 0, 1, 0, 0, 0, 0, 0), (27, .lcmp, 1, 0, 0, 0, 0, 0), (28, .ifCond .ne 12, 3, 40, 0, 0, 0, 0), (31, .iinc 3 1, 3, 0, 0, 0, 1, 0), (34, .iinc 4 (-1), 3, 0, 0, 0, -1, 0)]),
  (42, [(37, .goto (-23), 3, 14, 0, 0, 0, 0), (40, .iload_n 3, 1, 0, 0, 0, 0, 0), (41, .ireturn, 1, 0, 0, 0, 0, 0)])]
set_option maxRecDepth 100000 in
theorem mx_ok32 : ∀ q ∈ mx_t32, ∀ en ∈ q.2, mx_gd 32 en := mx_gt_s mx_LLok3 mx_KLok3 mx_JLok3 mx_ARok (by decide +kernel)
def mx_t33 : List (Nat × List mx_En) := [(17, [(0, .iconst 0, 1, 0, 0, 0, 0, 0), (1, .istore_n 3, 1, 0, 0, 0, 0, 0), (2, .bipush 64, 2, 0, 0, 0, 64, 0), (4, .istore 4, 2, 0, 0, 0, 0, 0), (6, .iload 4, 2, 0, 0, 0, 0, 0), (8, .ifCond .le 39, 3, 47, 0, 0, 0, 0), (11, .iload_n 3, 1, 0, 0, 0, 0, 0), (12, .iload 4, 2, 0, 0, 0, 0, 0), (14, .iadd, 1, 0, 0, 0, 0, 0), (15, .bipush 99, 2, 0, 0, 0, 99, 0)]),
  (34, [(17, .if_icmp .gt 21, 3, 38, 0, 0, 0, 0), (20, .aload_n 0, 1, 0, 0, 0, 0, 0), (21, .iload_n 3, 1, 0, 0, 0, 0, 0), (22, .iload 4, 2, 0, 0, 0, 0, 0), (24, .iadd, 1, 0, 0, 0, 0, 0), (25, .iload_n 2, 1, 0, 0, 0, 0, 0), (26, .invokevirtual 117, 3, 31, 2, 0, 0, 0), (29, .iload_n 1, 1, 0, 0, 0, 0, 0), (30, .if_icmp .gt 8, 3, 38, 0, 0, 0, 0), (33, .iload_n 3, 1, 0, 0, 0, 0, 0)]),
  (49, [(34, .iload 4, 2, 0, 0, 0, 0, 0), (36, .iadd, 1, 0, 0, 0, 0, 0), (37, .istore_n 3, 1, 0, 0, 0, 0, 0), (38, .iload 4, 2, 0, 0, 0, 0, 0), (40, .iconst 2, 1, 0, 0, 0, 2, 0), (41, .idiv, 1, 0, 0, 0, 0, 0), (42, .istore 4, 2, 0, 0, 0, 0, 0), (44, .goto (-38), 3, 6, 0, 0, 0, 0), (47, .iload_n 3, 1, 0, 0, 0, 0, 0), (48, .ireturn, 1, 0, 0, 0, 0, 0)])]
set_option maxRecDepth 100000 in
theorem mx_ok33 : ∀ q ∈ mx_t33, ∀ en ∈ q.2, mx_gd 33 en := mx_gt_s mx_LLok3 mx_KLok3 mx_JLok3 mx_ARok (by decide +kernel)
def mx_t34 : List (Nat × List mx_En) := [(15, [(0, .iconst 0, 1, 0, 0, 0, 0, 0), (1, .istore_n 2, 1, 0, 0, 0, 0, 0), (2, .iload_n 2, 1, 0, 0, 0, 0, 0), (3, .bipush 6, 2, 0, 0, 0, 6, 0), (5, .if_icmp .gt 68, 3, 73, 0, 0, 0, 0), (8, .aload_n 0, 1, 0, 0, 0, 0, 0), (9, .iload_n 2, 1, 0, 0, 0, 0, 0), (10, .iconst 1, 1, 0, 0, 0, 1, 0), (11, .invokevirtual 114, 3, 29, 2, 0, 0, 0), (14, .aload_n 1, 1, 0, 0, 0, 0, 0)]),
  (33, [(15, .iload_n 2, 1, 0, 0, 0, 0, 0), (16, .iconst 1, 1, 0, 0, 0, 1, 0), (17, .invokevirtual 114, 3, 29, 2, 0, 0, 0), (20, .aload_n 0, 1, 0, 0, 0, 0, 0), (21, .getfield 35, 3, 3, 7, 0, 0, 0), (24, .aload_n 1, 1, 0, 0, 0, 0, 0), (25, .getfield 35, 3, 3, 7, 0, 0, 0), (28, .if_icmp .eq 5, 3, 33, 0, 0, 0, 0), (31, .iconst 0, 1, 0, 0, 0, 0, 0), (32, .ireturn, 1, 0, 0, 0, 0, 0)]),
  (51, [(33, .aload_n 0, 1, 0, 0, 0, 0, 0), (34, .getfield 28, 3, 3, 5, 0, 0, 0), (37, .aload_n 0, 1, 0, 0, 0, 0, 0), (38, .getfield 35, 3, 3, 7, 0, 0, 0), (41, .laload, 1, 0, 0, 0, 0, 0), (42, .aload_n 1, 1, 0, 0, 0, 0, 0), (43, .invokevirtual 120, 3, 35, 0, 0, 0, 0), (46, .lmul, 1, 0, 0, 0, 0, 0), (47, .aload_n 1, 1, 0, 0, 0, 0, 0), (48, .getfield 28, 3, 3, 5, 0, 0, 0)]),
  (67, [(51, .aload_n 0, 1, 0, 0, 0, 0, 0), (52, .getfield 35, 3, 3, 7, 0, 0, 0), (55, .laload, 1, 0, 0, 0, 0, 0), (56, .aload_n 0, 1, 0, 0, 0, 0, 0), (57, .invokevirtual 120, 3, 35, 0, 0, 0, 0), (60, .lmul, 1, 0, 0, 0, 0, 0), (61, .lcmp, 1, 0, 0, 0, 0, 0), (62, .ifCond .eq 5, 3, 67, 0, 0, 0, 0), (65, .iconst 0, 1, 0, 0, 0, 0, 0), (66, .ireturn, 1, 0, 0, 0, 0, 0)]),
  (75, [(67, .iinc 2 1, 3, 0, 0, 0, 1, 0), (70, .goto (-68), 3, 2, 0, 0, 0, 0), (73, .iconst 1, 1, 0, 0, 0, 1, 0), (74, .ireturn, 1, 0, 0, 0, 0, 0)])]
set_option maxRecDepth 100000 in
theorem mx_ok34 : ∀ q ∈ mx_t34, ∀ en ∈ q.2, mx_gd 34 en := mx_gt_s mx_LLok3 mx_KLok3 mx_JLok3 mx_ARok (by decide +kernel)
def mx_t35 : List (Nat × List mx_En) := [(14, [(0, .lconst 1, 1, 0, 0, 0, 0, 1), (1, .lstore_n 1, 1, 0, 0, 0, 0, 0), (2, .iconst 0, 1, 0, 0, 0, 0, 0), (3, .istore_n 3, 1, 0, 0, 0, 0, 0), (4, .iload_n 3, 1, 0, 0, 0, 0, 0), (5, .aload_n 0, 1, 0, 0, 0, 0, 0), (6, .getfield 35, 3, 3, 7, 0, 0, 0), (9, .if_icmp .ge 24, 3, 33, 0, 0, 0, 0), (12, .lload_n 1, 1, 0, 0, 0, 0, 0), (13, .aload_n 0, 1, 0, 0, 0, 0, 0)]),
  (30, [(14, .getfield 15, 3, 3, 1, 0, 0, 0), (17, .aload_n 0, 1, 0, 0, 0, 0, 0), (18, .getfield 32, 3, 3, 6, 0, 0, 0), (21, .iload_n 3, 1, 0, 0, 0, 0, 0), (22, .iaload, 1, 0, 0, 0, 0, 0), (23, .iaload, 1, 0, 0, 0, 0, 0), (24, .i2l, 1, 0, 0, 0, 0, 0), (25, .lmul, 1, 0, 0, 0, 0, 0), (26, .lstore_n 1, 1, 0, 0, 0, 0, 0), (27, .iinc 3 1, 3, 0, 0, 0, 1, 0)]),
  (35, [(30, .goto (-26), 3, 4, 0, 0, 0, 0), (33, .lload_n 1, 1, 0, 0, 0, 0, 0), (34, .lreturn, 1, 0, 0, 0, 0, 0)])]
set_option maxRecDepth 100000 in
theorem mx_ok35 : ∀ q ∈ mx_t35, ∀ en ∈ q.2, mx_gd 35 en := mx_gt_s mx_LLok3 mx_KLok3 mx_JLok3 mx_ARok (by decide +kernel)
def mx_t36 : List (Nat × List mx_En) := [(19, [(0, .aload_n 0, 1, 0, 0, 0, 0, 0), (1, .invokespecial 3, 3, 1000, 0, 0, 0, 0), (4, .aload_n 0, 1, 0, 0, 0, 0, 0), (5, .iconst 0, 1, 0, 0, 0, 0, 0), (6, .putfield 9, 3, 4, 0, 0, 0, 0), (9, .aload_n 0, 1, 0, 0, 0, 0, 0), (10, .sipush 200, 3, 0, 0, 0, 200, 0), (13, .newarray .int, 2, 0, 0, 0, 0, 0), (15, .putfield 15, 3, 4, 1, 0, 0, 0), (18, .aload_n 0, 1, 0, 0, 0, 0, 0)]),
  (41, [(19, .sipush 200, 3, 0, 0, 0, 200, 0), (22, .anewarray 19, 3, 0, 0, 0, 0, 0), (25, .putfield 21, 3, 4, 2, 0, 0, 0), (28, .aload_n 0, 1, 0, 0, 0, 0, 0), (29, .iconst 0, 1, 0, 0, 0, 0, 0), (30, .putfield 25, 3, 4, 3, 0, 0, 0), (33, .aload_n 0, 1, 0, 0, 0, 0, 0), (34, .bipush 24, 2, 0, 0, 0, 24, 0), (36, .newarray .int, 2, 0, 0, 0, 0, 0), (38, .putfield 28, 3, 4, 4, 0, 0, 0)]),
  (42, [(41, .return_, 1, 0, 0, 0, 0, 0)])]
set_option maxRecDepth 100000 in
theorem mx_ok36 : ∀ q ∈ mx_t36, ∀ en ∈ q.2, mx_gd 36 en := mx_gt_s mx_LLok4 mx_KLok4 mx_JLok4 mx_ARok (by decide +kernel)
def mx_t37 : List (Nat × List mx_En) := [(21, [(0, .aload_n 0, 1, 0, 0, 0, 0, 0), (1, .getfield 9, 3, 4, 0, 0, 0, 0), (4, .sipush 200, 3, 0, 0, 0, 200, 0), (7, .if_icmp .lt 6, 3, 13, 0, 0, 0, 0), (10, .bipush (-3), 2, 0, 0, 0, -3, 0), (12, .ireturn, 1, 0, 0, 0, 0, 0), (13, .aload_n 0, 1, 0, 0, 0, 0, 0), (14, .getfield 15, 3, 4, 1, 0, 0, 0), (17, .aload_n 0, 1, 0, 0, 0, 0, 0), (18, .getfield 9, 3, 4, 0, 0, 0, 0)]),
  (35, [(21, .iload_n 1, 1, 0, 0, 0, 0, 0), (22, .iastore, 1, 0, 0, 0, 0, 0), (23, .aload_n 0, 1, 0, 0, 0, 0, 0), (24, .getfield 21, 3, 4, 2, 0, 0, 0), (27, .aload_n 0, 1, 0, 0, 0, 0, 0), (28, .getfield 9, 3, 4, 0, 0, 0, 0), (31, .aload_n 2, 1, 0, 0, 0, 0, 0), (32, .aastore, 1, 0, 0, 0, 0, 0), (33, .aload_n 0, 1, 0, 0, 0, 0, 0), (34, .dup, 1, 0, 0, 0, 0, 0)]),
  (50, [(35, .getfield 9, 3, 4, 0, 0, 0, 0), (38, .iconst 1, 1, 0, 0, 0, 1, 0), (39, .iadd, 1, 0, 0, 0, 0, 0), (40, .putfield 9, 3, 4, 0, 0, 0, 0), (43, .aload_n 0, 1, 0, 0, 0, 0, 0), (44, .getfield 9, 3, 4, 0, 0, 0, 0), (47, .iconst 1, 1, 0, 0, 0, 1, 0), (48, .isub, 1, 0, 0, 0, 0, 0), (49, .ireturn, 1, 0, 0, 0, 0, 0)])]
set_option maxRecDepth 100000 in
theorem mx_ok37 : ∀ q ∈ mx_t37, ∀ en ∈ q.2, mx_gd 37 en := mx_gt_s mx_LLok4 mx_KLok4 mx_JLok4 mx_ARok (by decide +kernel)
def mx_t38 : List (Nat × List mx_En) := [(16, [(0, .iload_n 0, 1, 0, 0, 0, 0, 0), (1, .istore_n 2, 1, 0, 0, 0, 0, 0), (2, .iconst 0, 1, 0, 0, 0, 0, 0), (3, .istore_n 3, 1, 0, 0, 0, 0, 0), (4, .iload_n 3, 1, 0, 0, 0, 0, 0), (5, .getstatic 31, 3, 0, 0, 0, 0, 0), (8, .arraylength, 1, 0, 0, 0, 0, 0), (9, .if_icmp .ge 26, 3, 35, 0, 0, 0, 0), (12, .iload_n 2, 1, 0, 0, 0, 0, 0), (13, .ifCond .lt 22, 3, 35, 0, 0, 0, 0)]),
  (32, [(16, .iload_n 2, 1, 0, 0, 0, 0, 0), (17, .iload_n 1, 1, 0, 0, 0, 0, 0), (18, .if_icmp .ne 5, 3, 23, 0, 0, 0, 0), (21, .iconst 1, 1, 0, 0, 0, 1, 0), (22, .ireturn, 1, 0, 0, 0, 0, 0), (23, .getstatic 31, 3, 0, 0, 0, 0, 0), (26, .iload_n 2, 1, 0, 0, 0, 0, 0), (27, .iaload, 1, 0, 0, 0, 0, 0), (28, .istore_n 2, 1, 0, 0, 0, 0, 0), (29, .iinc 3 1, 3, 0, 0, 0, 1, 0)]),
  (37, [(32, .goto (-28), 3, 4, 0, 0, 0, 0), (35, .iconst 0, 1, 0, 0, 0, 0, 0), (36, .ireturn, 1, 0, 0, 0, 0, 0)])]
set_option maxRecDepth 100000 in
theorem mx_ok38 : ∀ q ∈ mx_t38, ∀ en ∈ q.2, mx_gd 38 en := mx_gt_s mx_LLok4 mx_KLok4 mx_JLok4 mx_ARok (by decide +kernel)
def mx_t39 : List (Nat × List mx_En) := [(14, [(0, .aload_n 0, 1, 0, 0, 0, 0, 0), (1, .getfield 21, 3, 4, 2, 0, 0, 0), (4, .iload_n 1, 1, 0, 0, 0, 0, 0), (5, .aaload, 1, 0, 0, 0, 0, 0), (6, .astore_n 2, 1, 0, 0, 0, 0, 0), (7, .aload_n 2, 1, 0, 0, 0, 0, 0), (8, .ifnonnull 5, 3, 13, 0, 0, 0, 0), (11, .iconst 0, 1, 0, 0, 0, 0, 0), (12, .ireturn, 1, 0, 0, 0, 0, 0), (13, .iload_n 1, 1, 0, 0, 0, 0, 0)]),
  (32, [(14, .aload_n 2, 1, 0, 0, 0, 0, 0), (15, .getfield 34, 3, 7, 5, 0, 0, 0), (18, .isub, 1, 0, 0, 0, 0, 0), (19, .iconst 0, 1, 0, 0, 0, 0, 0), (20, .aload_n 2, 1, 0, 0, 0, 0, 0), (21, .getfield 37, 3, 7, 6, 0, 0, 0), (24, .iconst 1, 1, 0, 0, 0, 1, 0), (25, .isub, 1, 0, 0, 0, 0, 0), (26, .invokestatic 40, 3, 157, 3, 1, 0, 0), (29, .ifCond .eq 17, 3, 46, 0, 0, 0, 0)]),
  (48, [(32, .aload_n 2, 1, 0, 0, 0, 0, 0), (33, .getfield 44, 3, 7, 9, 0, 0, 0), (36, .iload_n 1, 1, 0, 0, 0, 0, 0), (37, .aload_n 2, 1, 0, 0, 0, 0, 0), (38, .getfield 34, 3, 7, 5, 0, 0, 0), (41, .isub, 1, 0, 0, 0, 0, 0), (42, .iaload, 1, 0, 0, 0, 0, 0), (43, .goto 4, 3, 47, 0, 0, 0, 0), (46, .iconst 0, 1, 0, 0, 0, 0, 0), (47, .ireturn, 1, 0, 0, 0, 0, 0)])]
set_option maxRecDepth 100000 in
theorem mx_ok39 : ∀ q ∈ mx_t39, ∀ en ∈ q.2, mx_gd 39 en := mx_gt_s mx_LLok4 mx_KLok4 mx_JLok4 mx_ARok (by decide +kernel)
def mx_t40_0 : List (Nat × List mx_En) := [(20, [(0, .iload_n 2, 1, 0, 0, 0, 0, 0), (1, .istore 6, 2, 0, 0, 0, 0, 0), (3, .iconst 0, 1, 0, 0, 0, 0, 0), (4, .istore 7, 2, 0, 0, 0, 0, 0), (6, .iload 7, 2, 0, 0, 0, 0, 0), (8, .getstatic 31, 3, 0, 0, 0, 0, 0), (11, .arraylength, 1, 0, 0, 0, 0, 0), (12, .if_icmp .ge 35, 3, 47, 0, 0, 0, 0), (15, .iload 6, 2, 0, 0, 0, 0, 0), (17, .ifCond .le 30, 3, 47, 0, 0, 0, 0)]),
  (38, [(20, .getstatic 47, 3, 1, 0, 0, 0, 0), (23, .iconst 4, 1, 0, 0, 0, 4, 0), (24, .iload 6, 2, 0, 0, 0, 0, 0), (26, .imul, 1, 0, 0, 0, 0, 0), (27, .iload_n 3, 1, 0, 0, 0, 0, 0), (28, .iadd, 1, 0, 0, 0, 0, 0), (29, .iaload, 1, 0, 0, 0, 0, 0), (30, .ifCond .ne 17, 3, 47, 0, 0, 0, 0), (33, .getstatic 31, 3, 0, 0, 0, 0, 0), (36, .iload 6, 2, 0, 0, 0, 0, 0)]),
  (60, [(38, .iaload, 1, 0, 0, 0, 0, 0), (39, .istore 6, 2, 0, 0, 0, 0, 0), (41, .iinc 7 1, 3, 0, 0, 0, 1, 0), (44, .goto (-38), 3, 6, 0, 0, 0, 0), (47, .iload 6, 2, 0, 0, 0, 0, 0), (49, .ifCond .lt 10, 3, 59, 0, 0, 0, 0), (52, .iload 5, 2, 0, 0, 0, 0, 0), (54, .bipush 40, 2, 0, 0, 0, 40, 0), (56, .if_icmp .le 5, 3, 61, 0, 0, 0, 0), (59, .iconst 0, 1, 0, 0, 0, 0, 0)]),
  (77, [(60, .ireturn, 1, 0, 0, 0, 0, 0), (61, .getstatic 31, 3, 0, 0, 0, 0, 0), (64, .iload 6, 2, 0, 0, 0, 0, 0), (66, .iaload, 1, 0, 0, 0, 0, 0), (67, .istore 7, 2, 0, 0, 0, 0, 0), (69, .aload_n 0, 1, 0, 0, 0, 0, 0), (70, .getfield 15, 3, 4, 1, 0, 0, 0), (73, .iload_n 1, 1, 0, 0, 0, 0, 0), (74, .iaload, 1, 0, 0, 0, 0, 0), (75, .istore 8, 2, 0, 0, 0, 0, 0)]),
  (92, [(77, .iload 5, 2, 0, 0, 0, 0, 0), (79, .iconst 1, 1, 0, 0, 0, 1, 0), (80, .iadd, 1, 0, 0, 0, 0, 0), (81, .istore 9, 2, 0, 0, 0, 0, 0), (83, .aload_n 0, 1, 0, 0, 0, 0, 0), (84, .getstatic 47, 3, 1, 0, 0, 0, 0), (87, .iconst 4, 1, 0, 0, 0, 4, 0), (88, .iload 6, 2, 0, 0, 0, 0, 0), (90, .imul, 1, 0, 0, 0, 0, 0), (91, .iload_n 3, 1, 0, 0, 0, 0, 0)])]
set_option maxRecDepth 100000 in
theorem mx_ok40_0 : ∀ q ∈ mx_t40_0, ∀ en ∈ q.2, mx_gd 40 en := mx_gt_s mx_LLok4 mx_KLok4 mx_JLok4 mx_ARok (by decide +kernel)
def mx_t40_1 : List (Nat × List mx_En) := [(107, [(92, .iadd, 1, 0, 0, 0, 0, 0), (93, .iaload, 1, 0, 0, 0, 0, 0), (94, .invokevirtual 50, 3, 41, 1, 0, 0, 0), (97, .getstatic 47, 3, 1, 0, 0, 0, 0), (100, .iconst 4, 1, 0, 0, 0, 4, 0), (101, .iload 6, 2, 0, 0, 0, 0, 0), (103, .imul, 1, 0, 0, 0, 0, 0), (104, .iload_n 3, 1, 0, 0, 0, 0, 0), (105, .iadd, 1, 0, 0, 0, 0, 0), (106, .iaload, 1, 0, 0, 0, 0, 0)]),
  (225, [(107, .lookupswitch 310 #[(1, 105), (2, 114), (10, 143), (11, 158), (20, 163), (30, 178), (31, 193), (40, 222), (50, 236), (51, 251), (60, 266), (61, 295)], 105, 0, 0, 0, 0, 0), (212, .iload 4, 2, 0, 0, 0, 0, 0), (214, .aload_n 0, 1, 0, 0, 0, 0, 0), (215, .iload_n 1, 1, 0, 0, 0, 0, 0), (216, .invokevirtual 54, 3, 39, 1, 0, 0, 0), (219, .iadd, 1, 0, 0, 0, 0, 0), (220, .ireturn, 1, 0, 0, 0, 0, 0), (221, .aload_n 0, 1, 0, 0, 0, 0, 0), (222, .iload_n 1, 1, 0, 0, 0, 0, 0), (223, .iload 8, 2, 0, 0, 0, 0, 0)]),
  (242, [(225, .iconst 1, 1, 0, 0, 0, 1, 0), (226, .iload 4, 2, 0, 0, 0, 0, 0), (228, .iload 9, 2, 0, 0, 0, 0, 0), (230, .invokevirtual 58, 3, 40, 5, 0, 0, 0), (233, .istore 10, 2, 0, 0, 0, 0, 0), (235, .iload 10, 2, 0, 0, 0, 0, 0), (237, .aload_n 0, 1, 0, 0, 0, 0, 0), (238, .iload_n 1, 1, 0, 0, 0, 0, 0), (239, .iload 8, 2, 0, 0, 0, 0, 0), (241, .iconst 2, 1, 0, 0, 0, 2, 0)]),
  (257, [(242, .iconst 1, 1, 0, 0, 0, 1, 0), (243, .iload 9, 2, 0, 0, 0, 0, 0), (245, .invokevirtual 58, 3, 40, 5, 0, 0, 0), (248, .iadd, 1, 0, 0, 0, 0, 0), (249, .ireturn, 1, 0, 0, 0, 0, 0), (250, .aload_n 0, 1, 0, 0, 0, 0, 0), (251, .iload_n 1, 1, 0, 0, 0, 0, 0), (252, .iload 8, 2, 0, 0, 0, 0, 0), (254, .iconst 0, 1, 0, 0, 0, 0, 0), (255, .iload 4, 2, 0, 0, 0, 0, 0)]),
  (271, [(257, .iload 9, 2, 0, 0, 0, 0, 0), (259, .invokevirtual 58, 3, 40, 5, 0, 0, 0), (262, .iconst 2, 1, 0, 0, 0, 2, 0), (263, .imul, 1, 0, 0, 0, 0, 0), (264, .ireturn, 1, 0, 0, 0, 0, 0), (265, .iload 4, 2, 0, 0, 0, 0, 0), (267, .iload_n 1, 1, 0, 0, 0, 0, 0), (268, .ixor, 1, 0, 0, 0, 0, 0), (269, .ireturn, 1, 0, 0, 0, 0, 0), (270, .aload_n 0, 1, 0, 0, 0, 0, 0)])]
set_option maxRecDepth 100000 in
theorem mx_ok40_1 : ∀ q ∈ mx_t40_1, ∀ en ∈ q.2, mx_gd 40 en := mx_gt_s mx_LLok4 mx_KLok4 mx_JLok4 mx_ARok (by decide +kernel)
def mx_t40_2 : List (Nat × List mx_En) := [(286, [(271, .iload_n 1, 1, 0, 0, 0, 0, 0), (272, .iload 7, 2, 0, 0, 0, 0, 0), (274, .iconst 0, 1, 0, 0, 0, 0, 0), (275, .iload 4, 2, 0, 0, 0, 0, 0), (277, .iload 9, 2, 0, 0, 0, 0, 0), (279, .invokevirtual 58, 3, 40, 5, 0, 0, 0), (282, .iconst 1, 1, 0, 0, 0, 1, 0), (283, .isub, 1, 0, 0, 0, 0, 0), (284, .ireturn, 1, 0, 0, 0, 0, 0), (285, .aload_n 0, 1, 0, 0, 0, 0, 0)]),
  (301, [(286, .iload_n 1, 1, 0, 0, 0, 0, 0), (287, .iload 7, 2, 0, 0, 0, 0, 0), (289, .iconst 2, 1, 0, 0, 0, 2, 0), (290, .iload 4, 2, 0, 0, 0, 0, 0), (292, .iload 9, 2, 0, 0, 0, 0, 0), (294, .invokevirtual 58, 3, 40, 5, 0, 0, 0), (297, .iconst 5, 1, 0, 0, 0, 5, 0), (298, .imul, 1, 0, 0, 0, 0, 0), (299, .ireturn, 1, 0, 0, 0, 0, 0), (300, .aload_n 0, 1, 0, 0, 0, 0, 0)]),
  (318, [(301, .iload_n 1, 1, 0, 0, 0, 0, 0), (302, .iload 7, 2, 0, 0, 0, 0, 0), (304, .iconst 1, 1, 0, 0, 0, 1, 0), (305, .iload 4, 2, 0, 0, 0, 0, 0), (307, .iload 9, 2, 0, 0, 0, 0, 0), (309, .invokevirtual 58, 3, 40, 5, 0, 0, 0), (312, .istore 10, 2, 0, 0, 0, 0, 0), (314, .iload 10, 2, 0, 0, 0, 0, 0), (316, .aload_n 0, 1, 0, 0, 0, 0, 0), (317, .iload_n 1, 1, 0, 0, 0, 0, 0)]),
  (333, [(318, .iload 8, 2, 0, 0, 0, 0, 0), (320, .iconst 0, 1, 0, 0, 0, 0, 0), (321, .iconst 2, 1, 0, 0, 0, 2, 0), (322, .iload 9, 2, 0, 0, 0, 0, 0), (324, .invokevirtual 58, 3, 40, 5, 0, 0, 0), (327, .iadd, 1, 0, 0, 0, 0, 0), (328, .ireturn, 1, 0, 0, 0, 0, 0), (329, .aload_n 0, 1, 0, 0, 0, 0, 0), (330, .iload_n 1, 1, 0, 0, 0, 0, 0), (331, .iload 7, 2, 0, 0, 0, 0, 0)]),
  (348, [(333, .iconst 1, 1, 0, 0, 0, 1, 0), (334, .iload 4, 2, 0, 0, 0, 0, 0), (336, .iload 9, 2, 0, 0, 0, 0, 0), (338, .invokevirtual 58, 3, 40, 5, 0, 0, 0), (341, .ineg, 1, 0, 0, 0, 0, 0), (342, .ireturn, 1, 0, 0, 0, 0, 0), (343, .aload_n 0, 1, 0, 0, 0, 0, 0), (344, .iload_n 1, 1, 0, 0, 0, 0, 0), (345, .iload 7, 2, 0, 0, 0, 0, 0), (347, .iconst 0, 1, 0, 0, 0, 0, 0)])]
set_option maxRecDepth 100000 in
theorem mx_ok40_2 : ∀ q ∈ mx_t40_2, ∀ en ∈ q.2, mx_gd 40 en := mx_gt_s mx_LLok4 mx_KLok4 mx_JLok4 mx_ARok (by decide +kernel)
def mx_t40_3 : List (Nat × List mx_En) := [(363, [(348, .iload 4, 2, 0, 0, 0, 0, 0), (350, .iload 9, 2, 0, 0, 0, 0, 0), (352, .invokevirtual 58, 3, 40, 5, 0, 0, 0), (355, .iconst 3, 1, 0, 0, 0, 3, 0), (356, .ixor, 1, 0, 0, 0, 0, 0), (357, .ireturn, 1, 0, 0, 0, 0, 0), (358, .aload_n 0, 1, 0, 0, 0, 0, 0), (359, .iload_n 1, 1, 0, 0, 0, 0, 0), (360, .iload 7, 2, 0, 0, 0, 0, 0), (362, .iconst 3, 1, 0, 0, 0, 3, 0)]),
  (378, [(363, .iload 4, 2, 0, 0, 0, 0, 0), (365, .iconst 1, 1, 0, 0, 0, 1, 0), (366, .iadd, 1, 0, 0, 0, 0, 0), (367, .iload 9, 2, 0, 0, 0, 0, 0), (369, .invokevirtual 58, 3, 40, 5, 0, 0, 0), (372, .ireturn, 1, 0, 0, 0, 0, 0), (373, .aload_n 0, 1, 0, 0, 0, 0, 0), (374, .iload_n 1, 1, 0, 0, 0, 0, 0), (375, .iload 7, 2, 0, 0, 0, 0, 0), (377, .iconst 2, 1, 0, 0, 0, 2, 0)]),
  (395, [(378, .iload 4, 2, 0, 0, 0, 0, 0), (380, .iload 9, 2, 0, 0, 0, 0, 0), (382, .invokevirtual 58, 3, 40, 5, 0, 0, 0), (385, .istore 10, 2, 0, 0, 0, 0, 0), (387, .iload 10, 2, 0, 0, 0, 0, 0), (389, .aload_n 0, 1, 0, 0, 0, 0, 0), (390, .iload_n 1, 1, 0, 0, 0, 0, 0), (391, .iload 8, 2, 0, 0, 0, 0, 0), (393, .iconst 1, 1, 0, 0, 0, 1, 0), (394, .iconst 1, 1, 0, 0, 0, 1, 0)]),
  (411, [(395, .iload 9, 2, 0, 0, 0, 0, 0), (397, .invokevirtual 58, 3, 40, 5, 0, 0, 0), (400, .iadd, 1, 0, 0, 0, 0, 0), (401, .ireturn, 1, 0, 0, 0, 0, 0), (402, .aload_n 0, 1, 0, 0, 0, 0, 0), (403, .iload_n 1, 1, 0, 0, 0, 0, 0), (404, .iload 7, 2, 0, 0, 0, 0, 0), (406, .iconst 3, 1, 0, 0, 0, 3, 0), (407, .iload 4, 2, 0, 0, 0, 0, 0), (409, .iload 9, 2, 0, 0, 0, 0, 0)]),
  (419, [(411, .invokevirtual 58, 3, 40, 5, 0, 0, 0), (414, .iconst 2, 1, 0, 0, 0, 2, 0), (415, .imul, 1, 0, 0, 0, 0, 0), (416, .ireturn, 1, 0, 0, 0, 0, 0), (417, .iconst 0, 1, 0, 0, 0, 0, 0), (418, .ireturn, 1, 0, 0, 0, 0, 0)])]
set_option maxRecDepth 100000 in
theorem mx_ok40_3 : ∀ q ∈ mx_t40_3, ∀ en ∈ q.2, mx_gd 40 en := mx_gt_s mx_LLok4 mx_KLok4 mx_JLok4 mx_ARok (by decide +kernel)
def mx_t40 : List (Nat × List mx_En) := mx_t40_0 ++ (mx_t40_1 ++ (mx_t40_2 ++ (mx_t40_3)))
theorem mx_ok40 : ∀ q ∈ mx_t40, ∀ en ∈ q.2, mx_gd 40 en := (fun q h => (List.mem_append.mp h).elim (mx_ok40_0 q) ((fun q h => (List.mem_append.mp h).elim (mx_ok40_1 q) ((fun q h => (List.mem_append.mp h).elim (mx_ok40_2 q) (mx_ok40_3 q)) q)) q))
def mx_t41 : List (Nat × List mx_En) := [(19, [(0, .aload_n 0, 1, 0, 0, 0, 0, 0), (1, .getfield 25, 3, 4, 3, 0, 0, 0), (4, .bipush 24, 2, 0, 0, 0, 24, 0), (6, .if_icmp .ge 13, 3, 19, 0, 0, 0, 0), (9, .aload_n 0, 1, 0, 0, 0, 0, 0), (10, .getfield 28, 3, 4, 4, 0, 0, 0), (13, .aload_n 0, 1, 0, 0, 0, 0, 0), (14, .getfield 25, 3, 4, 3, 0, 0, 0), (17, .iload_n 1, 1, 0, 0, 0, 0, 0), (18, .iastore, 1, 0, 0, 0, 0, 0)]),
  (30, [(19, .aload_n 0, 1, 0, 0, 0, 0, 0), (20, .dup, 1, 0, 0, 0, 0, 0), (21, .getfield 25, 3, 4, 3, 0, 0, 0), (24, .iconst 1, 1, 0, 0, 0, 1, 0), (25, .iadd, 1, 0, 0, 0, 0, 0), (26, .putfield 25, 3, 4, 3, 0, 0, 0), (29, .return_, 1, 0, 0, 0, 0, 0)])]
set_option maxRecDepth 100000 in
theorem mx_ok41 : ∀ q ∈ mx_t41, ∀ en ∈ q.2, mx_gd 41 en := mx_gt_s mx_LLok4 mx_KLok4 mx_JLok4 mx_ARok (by decide +kernel)
def mx_t42 : List (Nat × List mx_En) := [(17, [(0, .aload_n 0, 1, 0, 0, 0, 0, 0), (1, .invokespecial 3, 3, 1000, 0, 0, 0, 0), (4, .aload_n 0, 1, 0, 0, 0, 0, 0), (5, .iconst 0, 1, 0, 0, 0, 0, 0), (6, .putfield 9, 3, 5, 0, 0, 0, 0), (9, .aload_n 0, 1, 0, 0, 0, 0, 0), (10, .iconst 0, 1, 0, 0, 0, 0, 0), (11, .putfield 15, 3, 5, 1, 0, 0, 0), (14, .aload_n 0, 1, 0, 0, 0, 0, 0), (15, .bipush 6, 2, 0, 0, 0, 6, 0)]),
  (38, [(17, .newarray .int, 2, 0, 0, 0, 0, 0), (19, .putfield 18, 3, 5, 2, 0, 0, 0), (22, .aload_n 0, 1, 0, 0, 0, 0, 0), (23, .bipush 6, 2, 0, 0, 0, 6, 0), (25, .newarray .int, 2, 0, 0, 0, 0, 0), (27, .putfield 22, 3, 5, 3, 0, 0, 0), (30, .aload_n 0, 1, 0, 0, 0, 0, 0), (31, .bipush 6, 2, 0, 0, 0, 6, 0), (33, .newarray .int, 2, 0, 0, 0, 0, 0), (35, .putfield 25, 3, 5, 4, 0, 0, 0)]),
  (56, [(38, .aload_n 0, 1, 0, 0, 0, 0, 0), (39, .iconst 0, 1, 0, 0, 0, 0, 0), (40, .putfield 28, 3, 5, 5, 0, 0, 0), (43, .aload_n 0, 1, 0, 0, 0, 0, 0), (44, .bipush 6, 2, 0, 0, 0, 6, 0), (46, .newarray .int, 2, 0, 0, 0, 0, 0), (48, .putfield 31, 3, 5, 6, 0, 0, 0), (51, .aload_n 0, 1, 0, 0, 0, 0, 0), (52, .bipush 6, 2, 0, 0, 0, 6, 0), (54, .newarray .int, 2, 0, 0, 0, 0, 0)]),
  (76, [(56, .putfield 34, 3, 5, 7, 0, 0, 0), (59, .aload_n 0, 1, 0, 0, 0, 0, 0), (60, .bipush 6, 2, 0, 0, 0, 6, 0), (62, .newarray .int, 2, 0, 0, 0, 0, 0), (64, .putfield 37, 3, 5, 8, 0, 0, 0), (67, .aload_n 0, 1, 0, 0, 0, 0, 0), (68, .bipush 6, 2, 0, 0, 0, 6, 0), (70, .newarray .int, 2, 0, 0, 0, 0, 0), (72, .putfield 40, 3, 5, 9, 0, 0, 0), (75, .aload_n 0, 1, 0, 0, 0, 0, 0)]),
  (91, [(76, .iconst 0, 1, 0, 0, 0, 0, 0), (77, .putfield 43, 3, 5, 10, 0, 0, 0), (80, .aload_n 0, 1, 0, 0, 0, 0, 0), (81, .iconst 0, 1, 0, 0, 0, 0, 0), (82, .putfield 46, 3, 5, 11, 0, 0, 0), (85, .aload_n 0, 1, 0, 0, 0, 0, 0), (86, .iconst 0, 1, 0, 0, 0, 0, 0), (87, .putfield 49, 3, 5, 12, 0, 0, 0), (90, .return_, 1, 0, 0, 0, 0, 0)])]
set_option maxRecDepth 100000 in
theorem mx_ok42 : ∀ q ∈ mx_t42, ∀ en ∈ q.2, mx_gd 42 en := mx_gt_s mx_LLok5 mx_KLok5 mx_JLok5 mx_ARok (by decide +kernel)
def mx_t43 : List (Nat × List mx_En) := [(16, [(0, .iconst 0, 1, 0, 0, 0, 0, 0), (1, .istore_n 3, 1, 0, 0, 0, 0, 0), (2, .iload_n 3, 1, 0, 0, 0, 0, 0), (3, .aload_n 0, 1, 0, 0, 0, 0, 0), (4, .getfield 15, 3, 5, 1, 0, 0, 0), (7, .if_icmp .ge 31, 3, 38, 0, 0, 0, 0), (10, .aload_n 0, 1, 0, 0, 0, 0, 0), (11, .getfield 18, 3, 5, 2, 0, 0, 0), (14, .iload_n 3, 1, 0, 0, 0, 0, 0), (15, .iaload, 1, 0, 0, 0, 0, 0)]),
  (32, [(16, .iload_n 1, 1, 0, 0, 0, 0, 0), (17, .if_icmp .ne 15, 3, 32, 0, 0, 0, 0), (20, .aload_n 0, 1, 0, 0, 0, 0, 0), (21, .getfield 22, 3, 5, 3, 0, 0, 0), (24, .iload_n 3, 1, 0, 0, 0, 0, 0), (25, .iaload, 1, 0, 0, 0, 0, 0), (26, .iload_n 2, 1, 0, 0, 0, 0, 0), (27, .if_icmp .ne 5, 3, 32, 0, 0, 0, 0), (30, .iconst 1, 1, 0, 0, 0, 1, 0), (31, .ireturn, 1, 0, 0, 0, 0, 0)]),
  (40, [(32, .iinc 3 1, 3, 0, 0, 0, 1, 0), (35, .goto (-33), 3, 2, 0, 0, 0, 0), (38, .iconst 0, 1, 0, 0, 0, 0, 0), (39, .ireturn, 1, 0, 0, 0, 0, 0)])]
set_option maxRecDepth 100000 in
theorem mx_ok43 : ∀ q ∈ mx_t43, ∀ en ∈ q.2, mx_gd 43 en := mx_gt_s mx_LLok5 mx_KLok5 mx_JLok5 mx_ARok (by decide +kernel)
def mx_t44 : List (Nat × List mx_En) := [(19, [(0, .aload_n 0, 1, 0, 0, 0, 0, 0), (1, .getfield 15, 3, 5, 1, 0, 0, 0), (4, .bipush 6, 2, 0, 0, 0, 6, 0), (6, .if_icmp .lt 4, 3, 10, 0, 0, 0, 0), (9, .return_, 1, 0, 0, 0, 0, 0), (10, .aload_n 0, 1, 0, 0, 0, 0, 0), (11, .getfield 18, 3, 5, 2, 0, 0, 0), (14, .aload_n 0, 1, 0, 0, 0, 0, 0), (15, .getfield 15, 3, 5, 1, 0, 0, 0), (18, .iload_n 1, 1, 0, 0, 0, 0, 0)]),
  (35, [(19, .iastore, 1, 0, 0, 0, 0, 0), (20, .aload_n 0, 1, 0, 0, 0, 0, 0), (21, .getfield 22, 3, 5, 3, 0, 0, 0), (24, .aload_n 0, 1, 0, 0, 0, 0, 0), (25, .getfield 15, 3, 5, 1, 0, 0, 0), (28, .iload_n 2, 1, 0, 0, 0, 0, 0), (29, .iastore, 1, 0, 0, 0, 0, 0), (30, .aload_n 0, 1, 0, 0, 0, 0, 0), (31, .getfield 25, 3, 5, 4, 0, 0, 0), (34, .aload_n 0, 1, 0, 0, 0, 0, 0)]),
  (51, [(35, .getfield 15, 3, 5, 1, 0, 0, 0), (38, .iload_n 3, 1, 0, 0, 0, 0, 0), (39, .iastore, 1, 0, 0, 0, 0, 0), (40, .aload_n 0, 1, 0, 0, 0, 0, 0), (41, .dup, 1, 0, 0, 0, 0, 0), (42, .getfield 15, 3, 5, 1, 0, 0, 0), (45, .iconst 1, 1, 0, 0, 0, 1, 0), (46, .iadd, 1, 0, 0, 0, 0, 0), (47, .putfield 15, 3, 5, 1, 0, 0, 0), (50, .return_, 1, 0, 0, 0, 0, 0)])]
set_option maxRecDepth 100000 in
theorem mx_ok44 : ∀ q ∈ mx_t44, ∀ en ∈ q.2, mx_gd 44 en := mx_gt_s mx_LLok5 mx_KLok5 mx_JLok5 mx_ARok (by decide +kernel)
def mx_t45 : List (Nat × List mx_En) := [(16, [(0, .iconst 0, 1, 0, 0, 0, 0, 0), (1, .istore_n 3, 1, 0, 0, 0, 0, 0), (2, .iload_n 3, 1, 0, 0, 0, 0, 0), (3, .aload_n 0, 1, 0, 0, 0, 0, 0), (4, .getfield 28, 3, 5, 5, 0, 0, 0), (7, .if_icmp .ge 31, 3, 38, 0, 0, 0, 0), (10, .aload_n 0, 1, 0, 0, 0, 0, 0), (11, .getfield 31, 3, 5, 6, 0, 0, 0), (14, .iload_n 3, 1, 0, 0, 0, 0, 0), (15, .iaload, 1, 0, 0, 0, 0, 0)]),
  (32, [(16, .iload_n 1, 1, 0, 0, 0, 0, 0), (17, .if_icmp .ne 15, 3, 32, 0, 0, 0, 0), (20, .aload_n 0, 1, 0, 0, 0, 0, 0), (21, .getfield 34, 3, 5, 7, 0, 0, 0), (24, .iload_n 3, 1, 0, 0, 0, 0, 0), (25, .iaload, 1, 0, 0, 0, 0, 0), (26, .iload_n 2, 1, 0, 0, 0, 0, 0), (27, .if_icmp .ne 5, 3, 32, 0, 0, 0, 0), (30, .iconst 1, 1, 0, 0, 0, 1, 0), (31, .ireturn, 1, 0, 0, 0, 0, 0)]),
  (40, [(32, .iinc 3 1, 3, 0, 0, 0, 1, 0), (35, .goto (-33), 3, 2, 0, 0, 0, 0), (38, .iconst 0, 1, 0, 0, 0, 0, 0), (39, .ireturn, 1, 0, 0, 0, 0, 0)])]
set_option maxRecDepth 100000 in
theorem mx_ok45 : ∀ q ∈ mx_t45, ∀ en ∈ q.2, mx_gd 45 en := mx_gt_s mx_LLok5 mx_KLok5 mx_JLok5 mx_ARok (by decide +kernel)
def mx_t46 : List (Nat × List mx_En) := [(19, [(0, .aload_n 0, 1, 0, 0, 0, 0, 0), (1, .getfield 28, 3, 5, 5, 0, 0, 0), (4, .bipush 6, 2, 0, 0, 0, 6, 0), (6, .if_icmp .lt 4, 3, 10, 0, 0, 0, 0), (9, .return_, 1, 0, 0, 0, 0, 0), (10, .aload_n 0, 1, 0, 0, 0, 0, 0), (11, .getfield 31, 3, 5, 6, 0, 0, 0), (14, .aload_n 0, 1, 0, 0, 0, 0, 0), (15, .getfield 28, 3, 5, 5, 0, 0, 0), (18, .iload_n 1, 1, 0, 0, 0, 0, 0)]),
  (35, [(19, .iastore, 1, 0, 0, 0, 0, 0), (20, .aload_n 0, 1, 0, 0, 0, 0, 0), (21, .getfield 34, 3, 5, 7, 0, 0, 0), (24, .aload_n 0, 1, 0, 0, 0, 0, 0), (25, .getfield 28, 3, 5, 5, 0, 0, 0), (28, .iload_n 2, 1, 0, 0, 0, 0, 0), (29, .iastore, 1, 0, 0, 0, 0, 0), (30, .aload_n 0, 1, 0, 0, 0, 0, 0), (31, .getfield 37, 3, 5, 8, 0, 0, 0), (34, .aload_n 0, 1, 0, 0, 0, 0, 0)]),
  (51, [(35, .getfield 28, 3, 5, 5, 0, 0, 0), (38, .iload_n 3, 1, 0, 0, 0, 0, 0), (39, .iastore, 1, 0, 0, 0, 0, 0), (40, .aload_n 0, 1, 0, 0, 0, 0, 0), (41, .dup, 1, 0, 0, 0, 0, 0), (42, .getfield 28, 3, 5, 5, 0, 0, 0), (45, .iconst 1, 1, 0, 0, 0, 1, 0), (46, .iadd, 1, 0, 0, 0, 0, 0), (47, .putfield 28, 3, 5, 5, 0, 0, 0), (50, .return_, 1, 0, 0, 0, 0, 0)])]
set_option maxRecDepth 100000 in
theorem mx_ok46 : ∀ q ∈ mx_t46, ∀ en ∈ q.2, mx_gd 46 en := mx_gt_s mx_LLok5 mx_KLok5 mx_JLok5 mx_ARok (by decide +kernel)
def mx_t47 : List (Nat × List mx_En) := [(14, [(0, .iconst (-1), 1, 0, 0, 0, -1, 0), (1, .istore_n 1, 1, 0, 0, 0, 0, 0), (2, .iconst 0, 1, 0, 0, 0, 0, 0), (3, .istore_n 2, 1, 0, 0, 0, 0, 0), (4, .iload_n 2, 1, 0, 0, 0, 0, 0), (5, .aload_n 0, 1, 0, 0, 0, 0, 0), (6, .getfield 28, 3, 5, 5, 0, 0, 0), (9, .if_icmp .ge 20, 3, 29, 0, 0, 0, 0), (12, .iload_n 1, 1, 0, 0, 0, 0, 0), (13, .aload_n 0, 1, 0, 0, 0, 0, 0)]),
  (31, [(14, .getfield 31, 3, 5, 6, 0, 0, 0), (17, .iload_n 2, 1, 0, 0, 0, 0, 0), (18, .iaload, 1, 0, 0, 0, 0, 0), (19, .invokestatic 52, 3, 2, 0, 2, 0, 0), (22, .istore_n 1, 1, 0, 0, 0, 0, 0), (23, .iinc 2 1, 3, 0, 0, 0, 1, 0), (26, .goto (-22), 3, 4, 0, 0, 0, 0), (29, .iload_n 1, 1, 0, 0, 0, 0, 0), (30, .ireturn, 1, 0, 0, 0, 0, 0)])]
set_option maxRecDepth 100000 in
theorem mx_ok47 : ∀ q ∈ mx_t47, ∀ en ∈ q.2, mx_gd 47 en := mx_gt_s mx_LLok5 mx_KLok5 mx_JLok5 mx_ARok (by decide +kernel)
def mx_t48 : List (Nat × List mx_En) := [(15, [(0, .aload_n 0, 1, 0, 0, 0, 0, 0), (1, .getfield 22, 3, 5, 3, 0, 0, 0), (4, .iload_n 3, 1, 0, 0, 0, 0, 0), (5, .iaload, 1, 0, 0, 0, 0, 0), (6, .istore 5, 2, 0, 0, 0, 0, 0), (8, .aload_n 0, 1, 0, 0, 0, 0, 0), (9, .getfield 18, 3, 5, 2, 0, 0, 0), (12, .iload_n 3, 1, 0, 0, 0, 0, 0), (13, .iaload, 1, 0, 0, 0, 0, 0), (14, .iconst 3, 1, 0, 0, 0, 3, 0)]),
  (32, [(15, .if_icmp .ne 44, 3, 59, 0, 0, 0, 0), (18, .aload_n 2, 1, 0, 0, 0, 0, 0), (19, .iload 5, 2, 0, 0, 0, 0, 0), (21, .aload_n 1, 1, 0, 0, 0, 0, 0), (22, .getfield 60, 3, 7, 1, 0, 0, 0), (25, .iload 5, 2, 0, 0, 0, 0, 0), (27, .iaload, 1, 0, 0, 0, 0, 0), (28, .iload 4, 2, 0, 0, 0, 0, 0), (30, .isub, 1, 0, 0, 0, 0, 0), (31, .aload_n 1, 1, 0, 0, 0, 0, 0)]),
  (53, [(32, .getfield 63, 3, 7, 3, 0, 0, 0), (35, .iload 5, 2, 0, 0, 0, 0, 0), (37, .iaload, 1, 0, 0, 0, 0, 0), (38, .invokevirtual 66, 3, 25, 3, 0, 0, 0), (41, .aload_n 1, 1, 0, 0, 0, 0, 0), (42, .getfield 60, 3, 7, 1, 0, 0, 0), (45, .iload 5, 2, 0, 0, 0, 0, 0), (47, .iaload, 1, 0, 0, 0, 0, 0), (48, .iload 4, 2, 0, 0, 0, 0, 0), (50, .if_icmp .le 7, 3, 57, 0, 0, 0, 0)]),
  (69, [(53, .iconst 1, 1, 0, 0, 0, 1, 0), (54, .goto 4, 3, 58, 0, 0, 0, 0), (57, .iconst 0, 1, 0, 0, 0, 0, 0), (58, .ireturn, 1, 0, 0, 0, 0, 0), (59, .aload_n 1, 1, 0, 0, 0, 0, 0), (60, .getfield 72, 3, 7, 9, 0, 0, 0), (63, .iload 5, 2, 0, 0, 0, 0, 0), (65, .iaload, 1, 0, 0, 0, 0, 0), (66, .iload 4, 2, 0, 0, 0, 0, 0), (68, .isub, 1, 0, 0, 0, 0, 0)]),
  (86, [(69, .istore 6, 2, 0, 0, 0, 0, 0), (71, .aload_n 2, 1, 0, 0, 0, 0, 0), (72, .aload_n 1, 1, 0, 0, 0, 0, 0), (73, .getfield 75, 3, 7, 7, 0, 0, 0), (76, .iload 5, 2, 0, 0, 0, 0, 0), (78, .iaload, 1, 0, 0, 0, 0, 0), (79, .aload_n 1, 1, 0, 0, 0, 0, 0), (80, .getfield 78, 3, 7, 8, 0, 0, 0), (83, .iload 5, 2, 0, 0, 0, 0, 0), (85, .iaload, 1, 0, 0, 0, 0, 0)]),
  (106, [(86, .iload 6, 2, 0, 0, 0, 0, 0), (88, .aload_n 1, 1, 0, 0, 0, 0, 0), (89, .getfield 81, 3, 7, 10, 0, 0, 0), (92, .iload 5, 2, 0, 0, 0, 0, 0), (94, .iaload, 1, 0, 0, 0, 0, 0), (95, .iload 6, 2, 0, 0, 0, 0, 0), (97, .invokestatic 84, 3, 4, 0, 2, 0, 0), (100, .isub, 1, 0, 0, 0, 0, 0), (101, .invokevirtual 87, 3, 26, 3, 0, 0, 0), (104, .iload 6, 2, 0, 0, 0, 0, 0)]),
  (116, [(106, .iconst 1, 1, 0, 0, 0, 1, 0), (107, .if_icmp .lt 7, 3, 114, 0, 0, 0, 0), (110, .iconst 1, 1, 0, 0, 0, 1, 0), (111, .goto 4, 3, 115, 0, 0, 0, 0), (114, .iconst 0, 1, 0, 0, 0, 0, 0), (115, .ireturn, 1, 0, 0, 0, 0, 0)])]
set_option maxRecDepth 100000 in
theorem mx_ok48 : ∀ q ∈ mx_t48, ∀ en ∈ q.2, mx_gd 48 en := mx_gt_s mx_LLok5 mx_KLok5 mx_JLok5 mx_ARok (by decide +kernel)
def mx_t49 : List (Nat × List mx_En) := [(17, [(0, .aload_n 0, 1, 0, 0, 0, 0, 0), (1, .ldc 90, 2, 0, 0, 0, 2147483647, 0), (3, .putfield 43, 3, 5, 10, 0, 0, 0), (6, .aload_n 0, 1, 0, 0, 0, 0, 0), (7, .iconst 0, 1, 0, 0, 0, 0, 0), (8, .putfield 46, 3, 5, 11, 0, 0, 0), (11, .aload_n 0, 1, 0, 0, 0, 0, 0), (12, .iconst 0, 1, 0, 0, 0, 0, 0), (13, .putfield 49, 3, 5, 12, 0, 0, 0), (16, .aload_n 0, 1, 0, 0, 0, 0, 0)]),
  (33, [(17, .getfield 40, 3, 5, 9, 0, 0, 0), (20, .iconst 0, 1, 0, 0, 0, 0, 0), (21, .invokestatic 91, 3, 317, 2, 0, 0, 0), (24, .iconst 0, 1, 0, 0, 0, 0, 0), (25, .istore_n 3, 1, 0, 0, 0, 0, 0), (26, .iload_n 3, 1, 0, 0, 0, 0, 0), (27, .iconst 4, 1, 0, 0, 0, 4, 0), (28, .if_icmp .gt 19, 3, 47, 0, 0, 0, 0), (31, .aload_n 0, 1, 0, 0, 0, 0, 0), (32, .aload_n 1, 1, 0, 0, 0, 0, 0)]),
  (48, [(33, .aload_n 2, 1, 0, 0, 0, 0, 0), (34, .iload_n 3, 1, 0, 0, 0, 0, 0), (35, .iload_n 3, 1, 0, 0, 0, 0, 0), (36, .iconst 0, 1, 0, 0, 0, 0, 0), (37, .iconst 0, 1, 0, 0, 0, 0, 0), (38, .invokevirtual 97, 3, 50, 6, 0, 0, 0), (41, .iinc 3 1, 3, 0, 0, 0, 1, 0), (44, .goto (-18), 3, 26, 0, 0, 0, 0), (47, .return_, 1, 0, 0, 0, 0, 0)])]
set_option maxRecDepth 100000 in
theorem mx_ok49 : ∀ q ∈ mx_t49, ∀ en ∈ q.2, mx_gd 49 en := mx_gt_s mx_LLok5 mx_KLok5 mx_JLok5 mx_ARok (by decide +kernel)
def mx_t50 : List (Nat × List mx_En) := [(17, [(0, .aload_n 0, 1, 0, 0, 0, 0, 0), (1, .getfield 43, 3, 5, 10, 0, 0, 0), (4, .ifCond .ne 4, 3, 8, 0, 0, 0, 0), (7, .return_, 1, 0, 0, 0, 0, 0), (8, .iload 4, 2, 0, 0, 0, 0, 0), (10, .ifCond .gt 13, 3, 23, 0, 0, 0, 0), (13, .aload_n 0, 1, 0, 0, 0, 0, 0), (14, .aload_n 1, 1, 0, 0, 0, 0, 0), (15, .aload_n 2, 1, 0, 0, 0, 0, 0), (16, .iload_n 3, 1, 0, 0, 0, 0, 0)]),
  (37, [(17, .iload 6, 2, 0, 0, 0, 0, 0), (19, .invokevirtual 101, 3, 51, 4, 0, 0, 0), (22, .return_, 1, 0, 0, 0, 0, 0), (23, .iload 5, 2, 0, 0, 0, 0, 0), (25, .istore 7, 2, 0, 0, 0, 0, 0), (27, .iload 7, 2, 0, 0, 0, 0, 0), (29, .aload_n 0, 1, 0, 0, 0, 0, 0), (30, .getfield 15, 3, 5, 1, 0, 0, 0), (33, .if_icmp .ge 71, 3, 104, 0, 0, 0, 0), (36, .aload_n 0, 1, 0, 0, 0, 0, 0)]),
  (57, [(37, .getfield 40, 3, 5, 9, 0, 0, 0), (40, .iload 7, 2, 0, 0, 0, 0, 0), (42, .iaload, 1, 0, 0, 0, 0, 0), (43, .aload_n 0, 1, 0, 0, 0, 0, 0), (44, .getfield 25, 3, 5, 4, 0, 0, 0), (47, .iload 7, 2, 0, 0, 0, 0, 0), (49, .iaload, 1, 0, 0, 0, 0, 0), (50, .if_icmp .ge 48, 3, 98, 0, 0, 0, 0), (53, .aload_n 0, 1, 0, 0, 0, 0, 0), (54, .getfield 40, 3, 5, 9, 0, 0, 0)]),
  (68, [(57, .iload 7, 2, 0, 0, 0, 0, 0), (59, .dup2, 1, 0, 0, 0, 0, 0), (60, .iaload, 1, 0, 0, 0, 0, 0), (61, .iconst 1, 1, 0, 0, 0, 1, 0), (62, .iadd, 1, 0, 0, 0, 0, 0), (63, .iastore, 1, 0, 0, 0, 0, 0), (64, .aload_n 0, 1, 0, 0, 0, 0, 0), (65, .aload_n 1, 1, 0, 0, 0, 0, 0), (66, .aload_n 2, 1, 0, 0, 0, 0, 0), (67, .iload_n 3, 1, 0, 0, 0, 0, 0)]),
  (83, [(68, .iload 4, 2, 0, 0, 0, 0, 0), (70, .iconst 1, 1, 0, 0, 0, 1, 0), (71, .isub, 1, 0, 0, 0, 0, 0), (72, .iload 7, 2, 0, 0, 0, 0, 0), (74, .bipush 10, 2, 0, 0, 0, 10, 0), (76, .iload 6, 2, 0, 0, 0, 0, 0), (78, .imul, 1, 0, 0, 0, 0, 0), (79, .iload 7, 2, 0, 0, 0, 0, 0), (81, .iadd, 1, 0, 0, 0, 0, 0), (82, .iconst 1, 1, 0, 0, 0, 1, 0)]),
  (98, [(83, .iadd, 1, 0, 0, 0, 0, 0), (84, .invokevirtual 97, 3, 50, 6, 0, 0, 0), (87, .aload_n 0, 1, 0, 0, 0, 0, 0), (88, .getfield 40, 3, 5, 9, 0, 0, 0), (91, .iload 7, 2, 0, 0, 0, 0, 0), (93, .dup2, 1, 0, 0, 0, 0, 0), (94, .iaload, 1, 0, 0, 0, 0, 0), (95, .iconst 1, 1, 0, 0, 0, 1, 0), (96, .isub, 1, 0, 0, 0, 0, 0), (97, .iastore, 1, 0, 0, 0, 0, 0)]),
  (105, [(98, .iinc 7 1, 3, 0, 0, 0, 1, 0), (101, .goto (-74), 3, 27, 0, 0, 0, 0), (104, .return_, 1, 0, 0, 0, 0, 0)])]
set_option maxRecDepth 100000 in
theorem mx_ok50 : ∀ q ∈ mx_t50, ∀ en ∈ q.2, mx_gd 50 en := mx_gt_s mx_LLok5 mx_KLok5 mx_JLok5 mx_ARok (by decide +kernel)
def mx_t51 : List (Nat × List mx_En) := [(18, [(0, .aload_n 2, 1, 0, 0, 0, 0, 0), (1, .aload_n 1, 1, 0, 0, 0, 0, 0), (2, .invokevirtual 105, 3, 22, 1, 0, 0, 0), (5, .iconst 0, 1, 0, 0, 0, 0, 0), (6, .istore 5, 2, 0, 0, 0, 0, 0), (8, .iload 5, 2, 0, 0, 0, 0, 0), (10, .aload_n 0, 1, 0, 0, 0, 0, 0), (11, .getfield 15, 3, 5, 1, 0, 0, 0), (14, .if_icmp .ge 38, 3, 52, 0, 0, 0, 0), (17, .aload_n 0, 1, 0, 0, 0, 0, 0)]),
  (36, [(18, .getfield 40, 3, 5, 9, 0, 0, 0), (21, .iload 5, 2, 0, 0, 0, 0, 0), (23, .iaload, 1, 0, 0, 0, 0, 0), (24, .ifCond .le 22, 3, 46, 0, 0, 0, 0), (27, .aload_n 0, 1, 0, 0, 0, 0, 0), (28, .aload_n 1, 1, 0, 0, 0, 0, 0), (29, .aload_n 2, 1, 0, 0, 0, 0, 0), (30, .iload 5, 2, 0, 0, 0, 0, 0), (32, .aload_n 0, 1, 0, 0, 0, 0, 0), (33, .getfield 40, 3, 5, 9, 0, 0, 0)]),
  (56, [(36, .iload 5, 2, 0, 0, 0, 0, 0), (38, .iaload, 1, 0, 0, 0, 0, 0), (39, .invokevirtual 109, 3, 48, 4, 0, 0, 0), (42, .ifCond .ne 4, 3, 46, 0, 0, 0, 0), (45, .return_, 1, 0, 0, 0, 0, 0), (46, .iinc 5 1, 3, 0, 0, 0, 1, 0), (49, .goto (-41), 3, 8, 0, 0, 0, 0), (52, .iconst 0, 1, 0, 0, 0, 0, 0), (53, .istore 5, 2, 0, 0, 0, 0, 0), (55, .iconst 0, 1, 0, 0, 0, 0, 0)]),
  (78, [(56, .istore 6, 2, 0, 0, 0, 0, 0), (58, .iload 6, 2, 0, 0, 0, 0, 0), (60, .aload_n 0, 1, 0, 0, 0, 0, 0), (61, .getfield 28, 3, 5, 5, 0, 0, 0), (64, .if_icmp .ge 52, 3, 116, 0, 0, 0, 0), (67, .iload 5, 2, 0, 0, 0, 0, 0), (69, .aload_n 0, 1, 0, 0, 0, 0, 0), (70, .getfield 43, 3, 5, 10, 0, 0, 0), (73, .if_icmp .ge 43, 3, 116, 0, 0, 0, 0), (76, .iload 5, 2, 0, 0, 0, 0, 0)]),
  (96, [(78, .aload_n 2, 1, 0, 0, 0, 0, 0), (79, .aload_n 0, 1, 0, 0, 0, 0, 0), (80, .getfield 31, 3, 5, 6, 0, 0, 0), (83, .iload 6, 2, 0, 0, 0, 0, 0), (85, .iaload, 1, 0, 0, 0, 0, 0), (86, .aload_n 0, 1, 0, 0, 0, 0, 0), (87, .getfield 34, 3, 5, 7, 0, 0, 0), (90, .iload 6, 2, 0, 0, 0, 0, 0), (92, .iaload, 1, 0, 0, 0, 0, 0), (93, .invokevirtual 113, 3, 33, 2, 0, 0, 0)]),
  (116, [(96, .aload_n 0, 1, 0, 0, 0, 0, 0), (97, .getfield 37, 3, 5, 8, 0, 0, 0), (100, .iload 6, 2, 0, 0, 0, 0, 0), (102, .iaload, 1, 0, 0, 0, 0, 0), (103, .isub, 1, 0, 0, 0, 0, 0), (104, .invokestatic 115, 3, 0, 0, 2, 0, 0), (107, .iadd, 1, 0, 0, 0, 0, 0), (108, .istore 5, 2, 0, 0, 0, 0, 0), (110, .iinc 6 1, 3, 0, 0, 0, 1, 0), (113, .goto (-55), 3, 58, 0, 0, 0, 0)]),
  (136, [(116, .iload 5, 2, 0, 0, 0, 0, 0), (118, .aload_n 0, 1, 0, 0, 0, 0, 0), (119, .getfield 43, 3, 5, 10, 0, 0, 0), (122, .if_icmp .ge 20, 3, 142, 0, 0, 0, 0), (125, .aload_n 0, 1, 0, 0, 0, 0, 0), (126, .iload 5, 2, 0, 0, 0, 0, 0), (128, .putfield 43, 3, 5, 10, 0, 0, 0), (131, .aload_n 0, 1, 0, 0, 0, 0, 0), (132, .iload_n 3, 1, 0, 0, 0, 0, 0), (133, .putfield 46, 3, 5, 11, 0, 0, 0)]),
  (143, [(136, .aload_n 0, 1, 0, 0, 0, 0, 0), (137, .iload 4, 2, 0, 0, 0, 0, 0), (139, .putfield 49, 3, 5, 12, 0, 0, 0), (142, .return_, 1, 0, 0, 0, 0, 0)])]
set_option maxRecDepth 100000 in
theorem mx_ok51 : ∀ q ∈ mx_t51, ∀ en ∈ q.2, mx_gd 51 en := mx_gt_s mx_LLok5 mx_KLok5 mx_JLok5 mx_ARok (by decide +kernel)
end
section
def mx_t52 : List (Nat × List mx_En) := [(18, [(0, .aload_n 0, 1, 0, 0, 0, 0, 0), (1, .invokespecial 3, 3, 1000, 0, 0, 0, 0), (4, .aload_n 0, 1, 0, 0, 0, 0, 0), (5, .iconst 0, 1, 0, 0, 0, 0, 0), (6, .putfield 9, 3, 6, 0, 0, 0, 0), (9, .aload_n 0, 1, 0, 0, 0, 0, 0), (10, .bipush 6, 2, 0, 0, 0, 6, 0), (12, .newarray .int, 2, 0, 0, 0, 0, 0), (14, .putfield 15, 3, 6, 1, 0, 0, 0), (17, .aload_n 0, 1, 0, 0, 0, 0, 0)]),
  (34, [(18, .bipush 6, 2, 0, 0, 0, 6, 0), (20, .newarray .int, 2, 0, 0, 0, 0, 0), (22, .putfield 19, 3, 6, 2, 0, 0, 0), (25, .aload_n 0, 1, 0, 0, 0, 0, 0), (26, .bipush 7, 2, 0, 0, 0, 7, 0), (28, .newarray .int, 2, 0, 0, 0, 0, 0), (30, .putfield 22, 3, 6, 3, 0, 0, 0), (33, .return_, 1, 0, 0, 0, 0, 0)])]
set_option maxRecDepth 100000 in
theorem mx_ok52 : ∀ q ∈ mx_t52, ∀ en ∈ q.2, mx_gd 52 en := mx_gt_s mx_LLok6 mx_KLok6 mx_JLok6 mx_ARok (by decide +kernel)
def mx_t53 : List (Nat × List mx_En) := [(19, [(0, .aload_n 0, 1, 0, 0, 0, 0, 0), (1, .getfield 9, 3, 6, 0, 0, 0, 0), (4, .bipush 6, 2, 0, 0, 0, 6, 0), (6, .if_icmp .lt 4, 3, 10, 0, 0, 0, 0), (9, .return_, 1, 0, 0, 0, 0, 0), (10, .aload_n 0, 1, 0, 0, 0, 0, 0), (11, .getfield 15, 3, 6, 1, 0, 0, 0), (14, .aload_n 0, 1, 0, 0, 0, 0, 0), (15, .getfield 9, 3, 6, 0, 0, 0, 0), (18, .iload_n 1, 1, 0, 0, 0, 0, 0)]),
  (35, [(19, .iastore, 1, 0, 0, 0, 0, 0), (20, .aload_n 0, 1, 0, 0, 0, 0, 0), (21, .getfield 19, 3, 6, 2, 0, 0, 0), (24, .aload_n 0, 1, 0, 0, 0, 0, 0), (25, .getfield 9, 3, 6, 0, 0, 0, 0), (28, .iload_n 2, 1, 0, 0, 0, 0, 0), (29, .iastore, 1, 0, 0, 0, 0, 0), (30, .aload_n 0, 1, 0, 0, 0, 0, 0), (31, .dup, 1, 0, 0, 0, 0, 0), (32, .getfield 9, 3, 6, 0, 0, 0, 0)]),
  (41, [(35, .iconst 1, 1, 0, 0, 0, 1, 0), (36, .iadd, 1, 0, 0, 0, 0, 0), (37, .putfield 9, 3, 6, 0, 0, 0, 0), (40, .return_, 1, 0, 0, 0, 0, 0)])]
set_option maxRecDepth 100000 in
theorem mx_ok53 : ∀ q ∈ mx_t53, ∀ en ∈ q.2, mx_gd 53 en := mx_gt_s mx_LLok6 mx_KLok6 mx_JLok6 mx_ARok (by decide +kernel)
def mx_t54 : List (Nat × List mx_En) := [(14, [(0, .aload_n 0, 1, 0, 0, 0, 0, 0), (1, .getfield 22, 3, 6, 3, 0, 0, 0), (4, .iload_n 2, 1, 0, 0, 0, 0, 0), (5, .iaload, 1, 0, 0, 0, 0, 0), (6, .aload_n 0, 1, 0, 0, 0, 0, 0), (7, .getfield 19, 3, 6, 2, 0, 0, 0), (10, .iload_n 1, 1, 0, 0, 0, 0, 0), (11, .iaload, 1, 0, 0, 0, 0, 0), (12, .imul, 1, 0, 0, 0, 0, 0), (13, .aload_n 0, 1, 0, 0, 0, 0, 0)]),
  (30, [(14, .getfield 22, 3, 6, 3, 0, 0, 0), (17, .iload_n 3, 1, 0, 0, 0, 0, 0), (18, .iaload, 1, 0, 0, 0, 0, 0), (19, .aload_n 0, 1, 0, 0, 0, 0, 0), (20, .getfield 15, 3, 6, 1, 0, 0, 0), (23, .iload_n 1, 1, 0, 0, 0, 0, 0), (24, .iaload, 1, 0, 0, 0, 0, 0), (25, .imul, 1, 0, 0, 0, 0, 0), (26, .isub, 1, 0, 0, 0, 0, 0), (27, .invokestatic 25, 3, 0, 0, 2, 0, 0)]),
  (41, [(30, .iload 4, 2, 0, 0, 0, 0, 0), (32, .if_icmp .gt 7, 3, 39, 0, 0, 0, 0), (35, .iconst 1, 1, 0, 0, 0, 1, 0), (36, .goto 4, 3, 40, 0, 0, 0, 0), (39, .iconst 0, 1, 0, 0, 0, 0, 0), (40, .ireturn, 1, 0, 0, 0, 0, 0)])]
set_option maxRecDepth 100000 in
theorem mx_ok54 : ∀ q ∈ mx_t54, ∀ en ∈ q.2, mx_gd 54 en := mx_gt_s mx_LLok6 mx_KLok6 mx_JLok6 mx_ARok (by decide +kernel)
def mx_t55 : List (Nat × List mx_En) := [(14, [(0, .iconst 0, 1, 0, 0, 0, 0, 0), (1, .istore_n 3, 1, 0, 0, 0, 0, 0), (2, .iconst 0, 1, 0, 0, 0, 0, 0), (3, .istore 4, 2, 0, 0, 0, 0, 0), (5, .iload 4, 2, 0, 0, 0, 0, 0), (7, .iconst 1, 1, 0, 0, 0, 1, 0), (8, .iadd, 1, 0, 0, 0, 0, 0), (9, .iload_n 1, 1, 0, 0, 0, 0, 0), (10, .if_icmp .ge 28, 3, 38, 0, 0, 0, 0), (13, .aload_n 0, 1, 0, 0, 0, 0, 0)]),
  (35, [(14, .iload 4, 2, 0, 0, 0, 0, 0), (16, .iload 4, 2, 0, 0, 0, 0, 0), (18, .iload 4, 2, 0, 0, 0, 0, 0), (20, .iconst 1, 1, 0, 0, 0, 1, 0), (21, .iadd, 1, 0, 0, 0, 0, 0), (22, .iload_n 2, 1, 0, 0, 0, 0, 0), (23, .invokevirtual 31, 3, 54, 4, 0, 0, 0), (26, .ifCond .eq 6, 3, 32, 0, 0, 0, 0), (29, .iinc 3 1, 3, 0, 0, 0, 1, 0), (32, .iinc 4 1, 3, 0, 0, 0, 1, 0)]),
  (40, [(35, .goto (-30), 3, 5, 0, 0, 0, 0), (38, .iload_n 3, 1, 0, 0, 0, 0, 0), (39, .ireturn, 1, 0, 0, 0, 0, 0)])]
set_option maxRecDepth 100000 in
theorem mx_ok55 : ∀ q ∈ mx_t55, ∀ en ∈ q.2, mx_gd 55 en := mx_gt_s mx_LLok6 mx_KLok6 mx_JLok6 mx_ARok (by decide +kernel)
def mx_t56 : List (Nat × List mx_En) := [(14, [(0, .iconst 1, 1, 0, 0, 0, 1, 0), (1, .iload_n 1, 1, 0, 0, 0, 0, 0), (2, .ishl, 1, 0, 0, 0, 0, 0), (3, .iconst 2, 1, 0, 0, 0, 2, 0), (4, .isub, 1, 0, 0, 0, 0, 0), (5, .istore_n 3, 1, 0, 0, 0, 0, 0), (6, .iload_n 3, 1, 0, 0, 0, 0, 0), (7, .istore 4, 2, 0, 0, 0, 0, 0), (9, .iload 4, 2, 0, 0, 0, 0, 0), (11, .ifCond .lt 35, 3, 46, 0, 0, 0, 0)]),
  (34, [(14, .iload 4, 2, 0, 0, 0, 0, 0), (16, .invokestatic 35, 3, 309, 1, 0, 0, 0), (19, .iload_n 3, 1, 0, 0, 0, 0, 0), (20, .invokestatic 35, 3, 309, 1, 0, 0, 0), (23, .if_icmp .gt 17, 3, 40, 0, 0, 0, 0), (26, .aload_n 0, 1, 0, 0, 0, 0, 0), (27, .iload_n 1, 1, 0, 0, 0, 0, 0), (28, .iload_n 2, 1, 0, 0, 0, 0, 0), (29, .iload 4, 2, 0, 0, 0, 0, 0), (31, .invokevirtual 40, 3, 57, 3, 0, 0, 0)]),
  (48, [(34, .ifCond .eq 6, 3, 40, 0, 0, 0, 0), (37, .iload 4, 2, 0, 0, 0, 0, 0), (39, .istore_n 3, 1, 0, 0, 0, 0, 0), (40, .iinc 4 (-1), 3, 0, 0, 0, -1, 0), (43, .goto (-34), 3, 9, 0, 0, 0, 0), (46, .iload_n 3, 1, 0, 0, 0, 0, 0), (47, .ireturn, 1, 0, 0, 0, 0, 0)])]
set_option maxRecDepth 100000 in
theorem mx_ok56 : ∀ q ∈ mx_t56, ∀ en ∈ q.2, mx_gd 56 en := mx_gt_s mx_LLok6 mx_KLok6 mx_JLok6 mx_ARok (by decide +kernel)
def mx_t57 : List (Nat × List mx_En) := [(16, [(0, .iconst 0, 1, 0, 0, 0, 0, 0), (1, .istore 4, 2, 0, 0, 0, 0, 0), (3, .iconst (-1), 1, 0, 0, 0, -1, 0), (4, .istore 5, 2, 0, 0, 0, 0, 0), (6, .iconst 0, 1, 0, 0, 0, 0, 0), (7, .istore 6, 2, 0, 0, 0, 0, 0), (9, .iload 6, 2, 0, 0, 0, 0, 0), (11, .iload_n 1, 1, 0, 0, 0, 0, 0), (12, .if_icmp .ge 51, 3, 63, 0, 0, 0, 0), (15, .iload_n 3, 1, 0, 0, 0, 0, 0)]),
  (35, [(16, .iload 6, 2, 0, 0, 0, 0, 0), (18, .ishr, 1, 0, 0, 0, 0, 0), (19, .iconst 1, 1, 0, 0, 0, 1, 0), (20, .iand, 1, 0, 0, 0, 0, 0), (21, .ifCond .eq 6, 3, 27, 0, 0, 0, 0), (24, .goto 33, 3, 57, 0, 0, 0, 0), (27, .iload 5, 2, 0, 0, 0, 0, 0), (29, .ifCond .lt 21, 3, 50, 0, 0, 0, 0), (32, .aload_n 0, 1, 0, 0, 0, 0, 0), (33, .iload 4, 2, 0, 0, 0, 0, 0)]),
  (52, [(35, .iconst 1, 1, 0, 0, 0, 1, 0), (36, .isub, 1, 0, 0, 0, 0, 0), (37, .iload 5, 2, 0, 0, 0, 0, 0), (39, .iload 6, 2, 0, 0, 0, 0, 0), (41, .iload_n 2, 1, 0, 0, 0, 0, 0), (42, .invokevirtual 31, 3, 54, 4, 0, 0, 0), (45, .ifCond .ne 5, 3, 50, 0, 0, 0, 0), (48, .iconst 0, 1, 0, 0, 0, 0, 0), (49, .ireturn, 1, 0, 0, 0, 0, 0), (50, .iload 6, 2, 0, 0, 0, 0, 0)]),
  (65, [(52, .istore 5, 2, 0, 0, 0, 0, 0), (54, .iinc 4 1, 3, 0, 0, 0, 1, 0), (57, .iinc 6 1, 3, 0, 0, 0, 1, 0), (60, .goto (-51), 3, 9, 0, 0, 0, 0), (63, .iconst 1, 1, 0, 0, 0, 1, 0), (64, .ireturn, 1, 0, 0, 0, 0, 0)])]
set_option maxRecDepth 100000 in
theorem mx_ok57 : ∀ q ∈ mx_t57, ∀ en ∈ q.2, mx_gd 57 en := mx_gt_s mx_LLok6 mx_KLok6 mx_JLok6 mx_ARok (by decide +kernel)
def mx_t58 : List (Nat × List mx_En) := [(18, [(0, .aload_n 0, 1, 0, 0, 0, 0, 0), (1, .invokespecial 3, 3, 1000, 0, 0, 0, 0), (4, .aload_n 0, 1, 0, 0, 0, 0, 0), (5, .iconst 0, 1, 0, 0, 0, 0, 0), (6, .putfield 9, 3, 7, 0, 0, 0, 0), (9, .aload_n 0, 1, 0, 0, 0, 0, 0), (10, .bipush 6, 2, 0, 0, 0, 6, 0), (12, .newarray .int, 2, 0, 0, 0, 0, 0), (14, .putfield 15, 3, 7, 1, 0, 0, 0), (17, .aload_n 0, 1, 0, 0, 0, 0, 0)]),
  (38, [(18, .bipush 6, 2, 0, 0, 0, 6, 0), (20, .newarray .int, 2, 0, 0, 0, 0, 0), (22, .putfield 19, 3, 7, 2, 0, 0, 0), (25, .aload_n 0, 1, 0, 0, 0, 0, 0), (26, .bipush 6, 2, 0, 0, 0, 6, 0), (28, .newarray .int, 2, 0, 0, 0, 0, 0), (30, .putfield 22, 3, 7, 3, 0, 0, 0), (33, .aload_n 0, 1, 0, 0, 0, 0, 0), (34, .bipush 6, 2, 0, 0, 0, 6, 0), (36, .newarray .int, 2, 0, 0, 0, 0, 0)]),
  (56, [(38, .putfield 25, 3, 7, 4, 0, 0, 0), (41, .aload_n 0, 1, 0, 0, 0, 0, 0), (42, .iconst 0, 1, 0, 0, 0, 0, 0), (43, .putfield 28, 3, 7, 5, 0, 0, 0), (46, .aload_n 0, 1, 0, 0, 0, 0, 0), (47, .iconst 0, 1, 0, 0, 0, 0, 0), (48, .putfield 31, 3, 7, 6, 0, 0, 0), (51, .aload_n 0, 1, 0, 0, 0, 0, 0), (52, .bipush 15, 2, 0, 0, 0, 15, 0), (54, .newarray .int, 2, 0, 0, 0, 0, 0)]),
  (76, [(56, .putfield 34, 3, 7, 7, 0, 0, 0), (59, .aload_n 0, 1, 0, 0, 0, 0, 0), (60, .bipush 15, 2, 0, 0, 0, 15, 0), (62, .newarray .int, 2, 0, 0, 0, 0, 0), (64, .putfield 37, 3, 7, 8, 0, 0, 0), (67, .aload_n 0, 1, 0, 0, 0, 0, 0), (68, .bipush 15, 2, 0, 0, 0, 15, 0), (70, .newarray .int, 2, 0, 0, 0, 0, 0), (72, .putfield 40, 3, 7, 9, 0, 0, 0), (75, .aload_n 0, 1, 0, 0, 0, 0, 0)]),
  (94, [(76, .bipush 15, 2, 0, 0, 0, 15, 0), (78, .newarray .int, 2, 0, 0, 0, 0, 0), (80, .putfield 43, 3, 7, 10, 0, 0, 0), (83, .aload_n 0, 1, 0, 0, 0, 0, 0), (84, .iconst (-1), 1, 0, 0, 0, -1, 0), (85, .putfield 46, 3, 7, 11, 0, 0, 0), (88, .aload_n 0, 1, 0, 0, 0, 0, 0), (89, .iconst (-1), 1, 0, 0, 0, -1, 0), (90, .putfield 49, 3, 7, 12, 0, 0, 0), (93, .return_, 1, 0, 0, 0, 0, 0)])]
set_option maxRecDepth 100000 in
theorem mx_ok58 : ∀ q ∈ mx_t58, ∀ en ∈ q.2, mx_gd 58 en := mx_gt_s mx_LLok7 mx_KLok7 mx_JLok7 mx_ARok (by decide +kernel)
def mx_t59 : List (Nat × List mx_En) := [(18, [(0, .aload_n 0, 1, 0, 0, 0, 0, 0), (1, .iconst 0, 1, 0, 0, 0, 0, 0), (2, .putfield 9, 3, 7, 0, 0, 0, 0), (5, .aload_n 0, 1, 0, 0, 0, 0, 0), (6, .iconst 0, 1, 0, 0, 0, 0, 0), (7, .putfield 31, 3, 7, 6, 0, 0, 0), (10, .aload_n 0, 1, 0, 0, 0, 0, 0), (11, .getfield 19, 3, 7, 2, 0, 0, 0), (14, .iconst 0, 1, 0, 0, 0, 0, 0), (15, .invokestatic 52, 3, 317, 2, 0, 0, 0)]),
  (36, [(18, .aload_n 0, 1, 0, 0, 0, 0, 0), (19, .getfield 22, 3, 7, 3, 0, 0, 0), (22, .iconst 0, 1, 0, 0, 0, 0, 0), (23, .invokestatic 52, 3, 317, 2, 0, 0, 0), (26, .aload_n 0, 1, 0, 0, 0, 0, 0), (27, .getfield 25, 3, 7, 4, 0, 0, 0), (30, .iconst 0, 1, 0, 0, 0, 0, 0), (31, .invokestatic 52, 3, 317, 2, 0, 0, 0), (34, .aload_n 0, 1, 0, 0, 0, 0, 0), (35, .iconst (-1), 1, 0, 0, 0, -1, 0)]),
  (45, [(36, .putfield 46, 3, 7, 11, 0, 0, 0), (39, .aload_n 0, 1, 0, 0, 0, 0, 0), (40, .iconst (-1), 1, 0, 0, 0, -1, 0), (41, .putfield 49, 3, 7, 12, 0, 0, 0), (44, .return_, 1, 0, 0, 0, 0, 0)])]
set_option maxRecDepth 100000 in
theorem mx_ok59 : ∀ q ∈ mx_t59, ∀ en ∈ q.2, mx_gd 59 en := mx_gt_s mx_LLok7 mx_KLok7 mx_JLok7 mx_ARok (by decide +kernel)
def mx_t60 : List (Nat × List mx_En) := [(16, [(0, .iconst 0, 1, 0, 0, 0, 0, 0), (1, .istore_n 1, 1, 0, 0, 0, 0, 0), (2, .iconst 0, 1, 0, 0, 0, 0, 0), (3, .istore_n 2, 1, 0, 0, 0, 0, 0), (4, .iload_n 2, 1, 0, 0, 0, 0, 0), (5, .aload_n 0, 1, 0, 0, 0, 0, 0), (6, .getfield 9, 3, 7, 0, 0, 0, 0), (9, .if_icmp .ge 21, 3, 30, 0, 0, 0, 0), (12, .aload_n 0, 1, 0, 0, 0, 0, 0), (13, .getfield 25, 3, 7, 4, 0, 0, 0)]),
  (32, [(16, .iload_n 2, 1, 0, 0, 0, 0, 0), (17, .iaload, 1, 0, 0, 0, 0, 0), (18, .ifCond .ne 6, 3, 24, 0, 0, 0, 0), (21, .iinc 1 1, 3, 0, 0, 0, 1, 0), (24, .iinc 2 1, 3, 0, 0, 0, 1, 0), (27, .goto (-23), 3, 4, 0, 0, 0, 0), (30, .iload_n 1, 1, 0, 0, 0, 0, 0), (31, .ireturn, 1, 0, 0, 0, 0, 0)])]
set_option maxRecDepth 100000 in
theorem mx_ok60 : ∀ q ∈ mx_t60, ∀ en ∈ q.2, mx_gd 60 en := mx_gt_s mx_LLok7 mx_KLok7 mx_JLok7 mx_ARok (by decide +kernel)
def mx_t61 : List (Nat × List mx_En) := [(16, [(0, .iconst 0, 1, 0, 0, 0, 0, 0), (1, .istore_n 3, 1, 0, 0, 0, 0, 0), (2, .iload_n 3, 1, 0, 0, 0, 0, 0), (3, .aload_n 0, 1, 0, 0, 0, 0, 0), (4, .getfield 31, 3, 7, 6, 0, 0, 0), (7, .if_icmp .ge 39, 3, 46, 0, 0, 0, 0), (10, .aload_n 0, 1, 0, 0, 0, 0, 0), (11, .getfield 34, 3, 7, 7, 0, 0, 0), (14, .iload_n 3, 1, 0, 0, 0, 0, 0), (15, .iaload, 1, 0, 0, 0, 0, 0)]),
  (32, [(16, .iload_n 1, 1, 0, 0, 0, 0, 0), (17, .iload_n 2, 1, 0, 0, 0, 0, 0), (18, .invokestatic 58, 3, 4, 0, 2, 0, 0), (21, .if_icmp .ne 19, 3, 40, 0, 0, 0, 0), (24, .aload_n 0, 1, 0, 0, 0, 0, 0), (25, .getfield 37, 3, 7, 8, 0, 0, 0), (28, .iload_n 3, 1, 0, 0, 0, 0, 0), (29, .iaload, 1, 0, 0, 0, 0, 0), (30, .iload_n 1, 1, 0, 0, 0, 0, 0), (31, .iload_n 2, 1, 0, 0, 0, 0, 0)]),
  (48, [(32, .invokestatic 64, 3, 2, 0, 2, 0, 0), (35, .if_icmp .ne 5, 3, 40, 0, 0, 0, 0), (38, .iload_n 3, 1, 0, 0, 0, 0, 0), (39, .ireturn, 1, 0, 0, 0, 0, 0), (40, .iinc 3 1, 3, 0, 0, 0, 1, 0), (43, .goto (-41), 3, 2, 0, 0, 0, 0), (46, .iconst (-1), 1, 0, 0, 0, -1, 0), (47, .ireturn, 1, 0, 0, 0, 0, 0)])]
set_option maxRecDepth 100000 in
theorem mx_ok61 : ∀ q ∈ mx_t61, ∀ en ∈ q.2, mx_gd 61 en := mx_gt_s mx_LLok7 mx_KLok7 mx_JLok7 mx_ARok (by decide +kernel)
def mx_t62 : List (Nat × List mx_En) := [(14, [(0, .aload_n 0, 1, 0, 0, 0, 0, 0), (1, .getfield 40, 3, 7, 9, 0, 0, 0), (4, .iload_n 1, 1, 0, 0, 0, 0, 0), (5, .iaload, 1, 0, 0, 0, 0, 0), (6, .aload_n 0, 1, 0, 0, 0, 0, 0), (7, .getfield 43, 3, 7, 10, 0, 0, 0), (10, .iload_n 1, 1, 0, 0, 0, 0, 0), (11, .iaload, 1, 0, 0, 0, 0, 0), (12, .isub, 1, 0, 0, 0, 0, 0), (13, .ireturn, 1, 0, 0, 0, 0, 0)])]
set_option maxRecDepth 100000 in
theorem mx_ok62 : ∀ q ∈ mx_t62, ∀ en ∈ q.2, mx_gd 62 en := mx_gt_s mx_LLok7 mx_KLok7 mx_JLok7 mx_ARok (by decide +kernel)
def mx_t63 : List (Nat × List mx_En) := [(19, [(0, .aload_n 0, 1, 0, 0, 0, 0, 0), (1, .getfield 31, 3, 7, 6, 0, 0, 0), (4, .bipush 15, 2, 0, 0, 0, 15, 0), (6, .if_icmp .lt 4, 3, 10, 0, 0, 0, 0), (9, .return_, 1, 0, 0, 0, 0, 0), (10, .aload_n 0, 1, 0, 0, 0, 0, 0), (11, .getfield 34, 3, 7, 7, 0, 0, 0), (14, .aload_n 0, 1, 0, 0, 0, 0, 0), (15, .getfield 31, 3, 7, 6, 0, 0, 0), (18, .iload_n 1, 1, 0, 0, 0, 0, 0)]),
  (37, [(19, .iload_n 2, 1, 0, 0, 0, 0, 0), (20, .invokestatic 58, 3, 4, 0, 2, 0, 0), (23, .iastore, 1, 0, 0, 0, 0, 0), (24, .aload_n 0, 1, 0, 0, 0, 0, 0), (25, .getfield 37, 3, 7, 8, 0, 0, 0), (28, .aload_n 0, 1, 0, 0, 0, 0, 0), (29, .getfield 31, 3, 7, 6, 0, 0, 0), (32, .iload_n 1, 1, 0, 0, 0, 0, 0), (33, .iload_n 2, 1, 0, 0, 0, 0, 0), (34, .invokestatic 64, 3, 2, 0, 2, 0, 0)]),
  (53, [(37, .iastore, 1, 0, 0, 0, 0, 0), (38, .aload_n 0, 1, 0, 0, 0, 0, 0), (39, .getfield 40, 3, 7, 9, 0, 0, 0), (42, .aload_n 0, 1, 0, 0, 0, 0, 0), (43, .getfield 31, 3, 7, 6, 0, 0, 0), (46, .iload_n 3, 1, 0, 0, 0, 0, 0), (47, .iastore, 1, 0, 0, 0, 0, 0), (48, .aload_n 0, 1, 0, 0, 0, 0, 0), (49, .getfield 43, 3, 7, 10, 0, 0, 0), (52, .aload_n 0, 1, 0, 0, 0, 0, 0)]),
  (69, [(53, .getfield 31, 3, 7, 6, 0, 0, 0), (56, .iconst 0, 1, 0, 0, 0, 0, 0), (57, .iastore, 1, 0, 0, 0, 0, 0), (58, .aload_n 0, 1, 0, 0, 0, 0, 0), (59, .dup, 1, 0, 0, 0, 0, 0), (60, .getfield 31, 3, 7, 6, 0, 0, 0), (63, .iconst 1, 1, 0, 0, 0, 1, 0), (64, .iadd, 1, 0, 0, 0, 0, 0), (65, .putfield 31, 3, 7, 6, 0, 0, 0), (68, .return_, 1, 0, 0, 0, 0, 0)])]
set_option maxRecDepth 100000 in
theorem mx_ok63 : ∀ q ∈ mx_t63, ∀ en ∈ q.2, mx_gd 63 en := mx_gt_s mx_LLok7 mx_KLok7 mx_JLok7 mx_ARok (by decide +kernel)
def mx_t64 : List (Nat × List mx_En) := [(16, [(0, .aload_n 0, 1, 0, 0, 0, 0, 0), (1, .getfield 9, 3, 7, 0, 0, 0, 0), (4, .istore_n 2, 1, 0, 0, 0, 0, 0), (5, .iconst 0, 1, 0, 0, 0, 0, 0), (6, .istore_n 3, 1, 0, 0, 0, 0, 0), (7, .iload_n 3, 1, 0, 0, 0, 0, 0), (8, .aload_n 1, 1, 0, 0, 0, 0, 0), (9, .getfield 9, 3, 7, 0, 0, 0, 0), (12, .if_icmp .ge 88, 3, 100, 0, 0, 0, 0), (15, .aload_n 0, 1, 0, 0, 0, 0, 0)]),
  (37, [(16, .getfield 9, 3, 7, 0, 0, 0, 0), (19, .bipush 6, 2, 0, 0, 0, 6, 0), (21, .if_icmp .ge 79, 3, 100, 0, 0, 0, 0), (24, .aload_n 0, 1, 0, 0, 0, 0, 0), (25, .getfield 15, 3, 7, 1, 0, 0, 0), (28, .aload_n 0, 1, 0, 0, 0, 0, 0), (29, .getfield 9, 3, 7, 0, 0, 0, 0), (32, .aload_n 1, 1, 0, 0, 0, 0, 0), (33, .getfield 15, 3, 7, 1, 0, 0, 0), (36, .iload_n 3, 1, 0, 0, 0, 0, 0)]),
  (53, [(37, .iaload, 1, 0, 0, 0, 0, 0), (38, .iastore, 1, 0, 0, 0, 0, 0), (39, .aload_n 0, 1, 0, 0, 0, 0, 0), (40, .getfield 19, 3, 7, 2, 0, 0, 0), (43, .aload_n 0, 1, 0, 0, 0, 0, 0), (44, .getfield 9, 3, 7, 0, 0, 0, 0), (47, .aload_n 1, 1, 0, 0, 0, 0, 0), (48, .getfield 19, 3, 7, 2, 0, 0, 0), (51, .iload_n 3, 1, 0, 0, 0, 0, 0), (52, .iaload, 1, 0, 0, 0, 0, 0)]),
  (69, [(53, .iastore, 1, 0, 0, 0, 0, 0), (54, .aload_n 0, 1, 0, 0, 0, 0, 0), (55, .getfield 22, 3, 7, 3, 0, 0, 0), (58, .aload_n 0, 1, 0, 0, 0, 0, 0), (59, .getfield 9, 3, 7, 0, 0, 0, 0), (62, .aload_n 1, 1, 0, 0, 0, 0, 0), (63, .getfield 22, 3, 7, 3, 0, 0, 0), (66, .iload_n 3, 1, 0, 0, 0, 0, 0), (67, .iaload, 1, 0, 0, 0, 0, 0), (68, .iastore, 1, 0, 0, 0, 0, 0)]),
  (85, [(69, .aload_n 0, 1, 0, 0, 0, 0, 0), (70, .getfield 25, 3, 7, 4, 0, 0, 0), (73, .aload_n 0, 1, 0, 0, 0, 0, 0), (74, .getfield 9, 3, 7, 0, 0, 0, 0), (77, .aload_n 1, 1, 0, 0, 0, 0, 0), (78, .getfield 25, 3, 7, 4, 0, 0, 0), (81, .iload_n 3, 1, 0, 0, 0, 0, 0), (82, .iaload, 1, 0, 0, 0, 0, 0), (83, .iastore, 1, 0, 0, 0, 0, 0), (84, .aload_n 0, 1, 0, 0, 0, 0, 0)]),
  (103, [(85, .dup, 1, 0, 0, 0, 0, 0), (86, .getfield 9, 3, 7, 0, 0, 0, 0), (89, .iconst 1, 1, 0, 0, 0, 1, 0), (90, .iadd, 1, 0, 0, 0, 0, 0), (91, .putfield 9, 3, 7, 0, 0, 0, 0), (94, .iinc 3 1, 3, 0, 0, 0, 1, 0), (97, .goto (-90), 3, 7, 0, 0, 0, 0), (100, .iconst 0, 1, 0, 0, 0, 0, 0), (101, .istore_n 3, 1, 0, 0, 0, 0, 0), (102, .iload_n 3, 1, 0, 0, 0, 0, 0)]),
  (122, [(103, .aload_n 1, 1, 0, 0, 0, 0, 0), (104, .getfield 31, 3, 7, 6, 0, 0, 0), (107, .if_icmp .ge 61, 3, 168, 0, 0, 0, 0), (110, .aload_n 0, 1, 0, 0, 0, 0, 0), (111, .getfield 31, 3, 7, 6, 0, 0, 0), (114, .bipush 15, 2, 0, 0, 0, 15, 0), (116, .if_icmp .ge 52, 3, 168, 0, 0, 0, 0), (119, .aload_n 0, 1, 0, 0, 0, 0, 0), (120, .iload_n 2, 1, 0, 0, 0, 0, 0), (121, .aload_n 1, 1, 0, 0, 0, 0, 0)]),
  (136, [(122, .getfield 34, 3, 7, 7, 0, 0, 0), (125, .iload_n 3, 1, 0, 0, 0, 0, 0), (126, .iaload, 1, 0, 0, 0, 0, 0), (127, .iadd, 1, 0, 0, 0, 0, 0), (128, .iload_n 2, 1, 0, 0, 0, 0, 0), (129, .aload_n 1, 1, 0, 0, 0, 0, 0), (130, .getfield 37, 3, 7, 8, 0, 0, 0), (133, .iload_n 3, 1, 0, 0, 0, 0, 0), (134, .iaload, 1, 0, 0, 0, 0, 0), (135, .iadd, 1, 0, 0, 0, 0, 0)]),
  (154, [(136, .aload_n 1, 1, 0, 0, 0, 0, 0), (137, .getfield 40, 3, 7, 9, 0, 0, 0), (140, .iload_n 3, 1, 0, 0, 0, 0, 0), (141, .iaload, 1, 0, 0, 0, 0, 0), (142, .invokevirtual 67, 3, 63, 3, 0, 0, 0), (145, .aload_n 0, 1, 0, 0, 0, 0, 0), (146, .getfield 43, 3, 7, 10, 0, 0, 0), (149, .aload_n 0, 1, 0, 0, 0, 0, 0), (150, .getfield 31, 3, 7, 6, 0, 0, 0), (153, .iconst 1, 1, 0, 0, 0, 1, 0)]),
  (169, [(154, .isub, 1, 0, 0, 0, 0, 0), (155, .aload_n 1, 1, 0, 0, 0, 0, 0), (156, .getfield 43, 3, 7, 10, 0, 0, 0), (159, .iload_n 3, 1, 0, 0, 0, 0, 0), (160, .iaload, 1, 0, 0, 0, 0, 0), (161, .iastore, 1, 0, 0, 0, 0, 0), (162, .iinc 3 1, 3, 0, 0, 0, 1, 0), (165, .goto (-63), 3, 102, 0, 0, 0, 0), (168, .return_, 1, 0, 0, 0, 0, 0)])]
set_option maxRecDepth 100000 in
theorem mx_ok64 : ∀ q ∈ mx_t64, ∀ en ∈ q.2, mx_gd 64 en := mx_gt_s mx_LLok7 mx_KLok7 mx_JLok7 mx_ARok (by decide +kernel)
def mx_t65 : List (Nat × List mx_En) := [(7, [(0, .bipush 10, 2, 0, 0, 0, 10, 0), (2, .iload_n 0, 1, 0, 0, 0, 0, 0), (3, .imul, 1, 0, 0, 0, 0, 0), (4, .iload_n 1, 1, 0, 0, 0, 0, 0), (5, .iadd, 1, 0, 0, 0, 0, 0), (6, .ireturn, 1, 0, 0, 0, 0, 0)])]
set_option maxRecDepth 100000 in
theorem mx_ok65 : ∀ q ∈ mx_t65, ∀ en ∈ q.2, mx_gd 65 en := mx_gt_s mx_LLok7 mx_KLok7 mx_JLok7 mx_ARok (by decide +kernel)
def mx_t66 : List (Nat × List mx_En) := [(44, [(0, .iload_n 1, 1, 0, 0, 0, 0, 0), (1, .tableswitch 59 0 3 #[31, 38, 45, 52], 31, 0, 0, 0, 0, 0), (32, .aload_n 0, 1, 0, 0, 0, 0, 0), (33, .getfield 19, 3, 7, 2, 0, 0, 0), (36, .iload_n 2, 1, 0, 0, 0, 0, 0), (37, .iaload, 1, 0, 0, 0, 0, 0), (38, .ireturn, 1, 0, 0, 0, 0, 0), (39, .aload_n 0, 1, 0, 0, 0, 0, 0), (40, .getfield 22, 3, 7, 3, 0, 0, 0), (43, .iload_n 2, 1, 0, 0, 0, 0, 0)]),
  (58, [(44, .iaload, 1, 0, 0, 0, 0, 0), (45, .ireturn, 1, 0, 0, 0, 0, 0), (46, .aload_n 0, 1, 0, 0, 0, 0, 0), (47, .getfield 25, 3, 7, 4, 0, 0, 0), (50, .iload_n 2, 1, 0, 0, 0, 0, 0), (51, .iaload, 1, 0, 0, 0, 0, 0), (52, .ireturn, 1, 0, 0, 0, 0, 0), (53, .aload_n 0, 1, 0, 0, 0, 0, 0), (54, .getfield 15, 3, 7, 1, 0, 0, 0), (57, .iload_n 2, 1, 0, 0, 0, 0, 0)]),
  (72, [(58, .iaload, 1, 0, 0, 0, 0, 0), (59, .ireturn, 1, 0, 0, 0, 0, 0), (60, .aload_n 0, 1, 0, 0, 0, 0, 0), (61, .getfield 40, 3, 7, 9, 0, 0, 0), (64, .iload_n 2, 1, 0, 0, 0, 0, 0), (65, .iaload, 1, 0, 0, 0, 0, 0), (66, .aload_n 0, 1, 0, 0, 0, 0, 0), (67, .getfield 43, 3, 7, 10, 0, 0, 0), (70, .iload_n 2, 1, 0, 0, 0, 0, 0), (71, .iaload, 1, 0, 0, 0, 0, 0)]),
  (76, [(72, .invokestatic 71, 3, 65, 2, 0, 0, 0), (75, .ireturn, 1, 0, 0, 0, 0, 0)])]
set_option maxRecDepth 100000 in
theorem mx_ok66 : ∀ q ∈ mx_t66, ∀ en ∈ q.2, mx_gd 66 en := mx_gt_s mx_LLok7 mx_KLok7 mx_JLok7 mx_ARok (by decide +kernel)
def mx_t67 : List (Nat × List mx_En) := [(46, [(0, .iload_n 1, 1, 0, 0, 0, 0, 0), (1, .tableswitch 71 0 3 #[31, 41, 51, 61], 31, 0, 0, 0, 0, 0), (32, .aload_n 0, 1, 0, 0, 0, 0, 0), (33, .getfield 19, 3, 7, 2, 0, 0, 0), (36, .iload_n 2, 1, 0, 0, 0, 0, 0), (37, .iload_n 3, 1, 0, 0, 0, 0, 0), (38, .iastore, 1, 0, 0, 0, 0, 0), (39, .goto 53, 3, 92, 0, 0, 0, 0), (42, .aload_n 0, 1, 0, 0, 0, 0, 0), (43, .getfield 22, 3, 7, 3, 0, 0, 0)]),
  (62, [(46, .iload_n 2, 1, 0, 0, 0, 0, 0), (47, .iload_n 3, 1, 0, 0, 0, 0, 0), (48, .iastore, 1, 0, 0, 0, 0, 0), (49, .goto 43, 3, 92, 0, 0, 0, 0), (52, .aload_n 0, 1, 0, 0, 0, 0, 0), (53, .getfield 25, 3, 7, 4, 0, 0, 0), (56, .iload_n 2, 1, 0, 0, 0, 0, 0), (57, .iload_n 3, 1, 0, 0, 0, 0, 0), (58, .iastore, 1, 0, 0, 0, 0, 0), (59, .goto 33, 3, 92, 0, 0, 0, 0)]),
  (78, [(62, .aload_n 0, 1, 0, 0, 0, 0, 0), (63, .getfield 15, 3, 7, 1, 0, 0, 0), (66, .iload_n 2, 1, 0, 0, 0, 0, 0), (67, .iload_n 3, 1, 0, 0, 0, 0, 0), (68, .iastore, 1, 0, 0, 0, 0, 0), (69, .goto 23, 3, 92, 0, 0, 0, 0), (72, .aload_n 0, 1, 0, 0, 0, 0, 0), (73, .getfield 40, 3, 7, 9, 0, 0, 0), (76, .iload_n 2, 1, 0, 0, 0, 0, 0), (77, .iload_n 3, 1, 0, 0, 0, 0, 0)]),
  (92, [(78, .bipush 10, 2, 0, 0, 0, 10, 0), (80, .idiv, 1, 0, 0, 0, 0, 0), (81, .iastore, 1, 0, 0, 0, 0, 0), (82, .aload_n 0, 1, 0, 0, 0, 0, 0), (83, .getfield 43, 3, 7, 10, 0, 0, 0), (86, .iload_n 2, 1, 0, 0, 0, 0, 0), (87, .iload_n 3, 1, 0, 0, 0, 0, 0), (88, .bipush 10, 2, 0, 0, 0, 10, 0), (90, .irem, 1, 0, 0, 0, 0, 0), (91, .iastore, 1, 0, 0, 0, 0, 0)]),
  (93, [(92, .return_, 1, 0, 0, 0, 0, 0)])]
set_option maxRecDepth 100000 in
theorem mx_ok67 : ∀ q ∈ mx_t67, ∀ en ∈ q.2, mx_gd 67 en := mx_gt_s mx_LLok7 mx_KLok7 mx_JLok7 mx_ARok (by decide +kernel)
def mx_t68 : List (Nat × List mx_En) := [(15, [(0, .iload_n 1, 1, 0, 0, 0, 0, 0), (1, .istore_n 2, 1, 0, 0, 0, 0, 0), (2, .iconst 0, 1, 0, 0, 0, 0, 0), (3, .istore_n 3, 1, 0, 0, 0, 0, 0), (4, .iload_n 3, 1, 0, 0, 0, 0, 0), (5, .aload_n 0, 1, 0, 0, 0, 0, 0), (6, .getfield 9, 3, 7, 0, 0, 0, 0), (9, .if_icmp .ge 51, 3, 60, 0, 0, 0, 0), (12, .iload_n 2, 1, 0, 0, 0, 0, 0), (13, .bipush 31, 2, 0, 0, 0, 31, 0)]),
  (30, [(15, .imul, 1, 0, 0, 0, 0, 0), (16, .aload_n 0, 1, 0, 0, 0, 0, 0), (17, .getfield 15, 3, 7, 1, 0, 0, 0), (20, .iload_n 3, 1, 0, 0, 0, 0, 0), (21, .iaload, 1, 0, 0, 0, 0, 0), (22, .iadd, 1, 0, 0, 0, 0, 0), (23, .bipush 31, 2, 0, 0, 0, 31, 0), (25, .imul, 1, 0, 0, 0, 0, 0), (26, .aload_n 0, 1, 0, 0, 0, 0, 0), (27, .getfield 19, 3, 7, 2, 0, 0, 0)]),
  (43, [(30, .iload_n 3, 1, 0, 0, 0, 0, 0), (31, .iaload, 1, 0, 0, 0, 0, 0), (32, .iadd, 1, 0, 0, 0, 0, 0), (33, .bipush 31, 2, 0, 0, 0, 31, 0), (35, .imul, 1, 0, 0, 0, 0, 0), (36, .aload_n 0, 1, 0, 0, 0, 0, 0), (37, .getfield 22, 3, 7, 3, 0, 0, 0), (40, .iload_n 3, 1, 0, 0, 0, 0, 0), (41, .iaload, 1, 0, 0, 0, 0, 0), (42, .iadd, 1, 0, 0, 0, 0, 0)]),
  (60, [(43, .bipush 31, 2, 0, 0, 0, 31, 0), (45, .imul, 1, 0, 0, 0, 0, 0), (46, .aload_n 0, 1, 0, 0, 0, 0, 0), (47, .getfield 25, 3, 7, 4, 0, 0, 0), (50, .iload_n 3, 1, 0, 0, 0, 0, 0), (51, .iaload, 1, 0, 0, 0, 0, 0), (52, .iadd, 1, 0, 0, 0, 0, 0), (53, .istore_n 2, 1, 0, 0, 0, 0, 0), (54, .iinc 3 1, 3, 0, 0, 0, 1, 0), (57, .goto (-53), 3, 4, 0, 0, 0, 0)]),
  (75, [(60, .iconst 0, 1, 0, 0, 0, 0, 0), (61, .istore_n 3, 1, 0, 0, 0, 0, 0), (62, .iload_n 3, 1, 0, 0, 0, 0, 0), (63, .aload_n 0, 1, 0, 0, 0, 0, 0), (64, .getfield 31, 3, 7, 6, 0, 0, 0), (67, .if_icmp .ge 51, 3, 118, 0, 0, 0, 0), (70, .iload_n 2, 1, 0, 0, 0, 0, 0), (71, .bipush 31, 2, 0, 0, 0, 31, 0), (73, .imul, 1, 0, 0, 0, 0, 0), (74, .aload_n 0, 1, 0, 0, 0, 0, 0)]),
  (90, [(75, .getfield 34, 3, 7, 7, 0, 0, 0), (78, .iload_n 3, 1, 0, 0, 0, 0, 0), (79, .iaload, 1, 0, 0, 0, 0, 0), (80, .iadd, 1, 0, 0, 0, 0, 0), (81, .bipush 31, 2, 0, 0, 0, 31, 0), (83, .imul, 1, 0, 0, 0, 0, 0), (84, .aload_n 0, 1, 0, 0, 0, 0, 0), (85, .getfield 37, 3, 7, 8, 0, 0, 0), (88, .iload_n 3, 1, 0, 0, 0, 0, 0), (89, .iaload, 1, 0, 0, 0, 0, 0)]),
  (104, [(90, .iadd, 1, 0, 0, 0, 0, 0), (91, .bipush 31, 2, 0, 0, 0, 31, 0), (93, .imul, 1, 0, 0, 0, 0, 0), (94, .aload_n 0, 1, 0, 0, 0, 0, 0), (95, .getfield 40, 3, 7, 9, 0, 0, 0), (98, .iload_n 3, 1, 0, 0, 0, 0, 0), (99, .iaload, 1, 0, 0, 0, 0, 0), (100, .iadd, 1, 0, 0, 0, 0, 0), (101, .bipush 31, 2, 0, 0, 0, 31, 0), (103, .imul, 1, 0, 0, 0, 0, 0)]),
  (120, [(104, .aload_n 0, 1, 0, 0, 0, 0, 0), (105, .getfield 43, 3, 7, 10, 0, 0, 0), (108, .iload_n 3, 1, 0, 0, 0, 0, 0), (109, .iaload, 1, 0, 0, 0, 0, 0), (110, .iadd, 1, 0, 0, 0, 0, 0), (111, .istore_n 2, 1, 0, 0, 0, 0, 0), (112, .iinc 3 1, 3, 0, 0, 0, 1, 0), (115, .goto (-53), 3, 62, 0, 0, 0, 0), (118, .iload_n 2, 1, 0, 0, 0, 0, 0), (119, .ireturn, 1, 0, 0, 0, 0, 0)])]
set_option maxRecDepth 100000 in
theorem mx_ok68 : ∀ q ∈ mx_t68, ∀ en ∈ q.2, mx_gd 68 en := mx_gt_s mx_LLok7 mx_KLok7 mx_JLok7 mx_ARok (by decide +kernel)
def mx_t69 : List (Nat × List mx_En) := [(15, [(0, .aload_n 0, 1, 0, 0, 0, 0, 0), (1, .invokespecial 3, 3, 1000, 0, 0, 0, 0), (4, .aload_n 0, 1, 0, 0, 0, 0, 0), (5, .bipush 6, 2, 0, 0, 0, 6, 0), (7, .newarray .int, 2, 0, 0, 0, 0, 0), (9, .dup, 1, 0, 0, 0, 0, 0), (10, .iconst 0, 1, 0, 0, 0, 0, 0), (11, .bipush (-2), 2, 0, 0, 0, -2, 0), (13, .iastore, 1, 0, 0, 0, 0, 0), (14, .dup, 1, 0, 0, 0, 0, 0)]),
  (28, [(15, .iconst 1, 1, 0, 0, 0, 1, 0), (16, .bipush (-2), 2, 0, 0, 0, -2, 0), (18, .iastore, 1, 0, 0, 0, 0, 0), (19, .dup, 1, 0, 0, 0, 0, 0), (20, .iconst 2, 1, 0, 0, 0, 2, 0), (21, .bipush (-2), 2, 0, 0, 0, -2, 0), (23, .iastore, 1, 0, 0, 0, 0, 0), (24, .dup, 1, 0, 0, 0, 0, 0), (25, .iconst 3, 1, 0, 0, 0, 3, 0), (26, .bipush (-2), 2, 0, 0, 0, -2, 0)]),
  (42, [(28, .iastore, 1, 0, 0, 0, 0, 0), (29, .dup, 1, 0, 0, 0, 0, 0), (30, .iconst 4, 1, 0, 0, 0, 4, 0), (31, .bipush (-2), 2, 0, 0, 0, -2, 0), (33, .iastore, 1, 0, 0, 0, 0, 0), (34, .dup, 1, 0, 0, 0, 0, 0), (35, .iconst 5, 1, 0, 0, 0, 5, 0), (36, .bipush (-2), 2, 0, 0, 0, -2, 0), (38, .iastore, 1, 0, 0, 0, 0, 0), (39, .putfield 11, 3, 8, 0, 0, 0, 0)]),
  (61, [(42, .aload_n 0, 1, 0, 0, 0, 0, 0), (43, .bipush 6, 2, 0, 0, 0, 6, 0), (45, .newarray .int, 2, 0, 0, 0, 0, 0), (47, .putfield 15, 3, 8, 1, 0, 0, 0), (50, .aload_n 0, 1, 0, 0, 0, 0, 0), (51, .bipush 6, 2, 0, 0, 0, 6, 0), (53, .newarray .int, 2, 0, 0, 0, 0, 0), (55, .putfield 18, 3, 8, 2, 0, 0, 0), (58, .aload_n 0, 1, 0, 0, 0, 0, 0), (59, .bipush 6, 2, 0, 0, 0, 6, 0)]),
  (71, [(61, .bipush 60, 2, 0, 0, 0, 60, 0), (67, .putfield 23, 3, 8, 3, 0, 0, 0), (70, .return_, 1, 0, 0, 0, 0, 0)])]
set_option maxRecDepth 100000 in
theorem mx_ok69 : ∀ q ∈ mx_t69, ∀ en ∈ q.2, mx_gd 69 en := mx_gt_s mx_LLok8 mx_KLok8 mx_JLok8 mx_ARok (by decide +kernel)
def mx_t70 : List (Nat × List mx_En) := [(17, [(0, .aload_n 0, 1, 0, 0, 0, 0, 0), (1, .getfield 11, 3, 8, 0, 0, 0, 0), (4, .iload_n 1, 1, 0, 0, 0, 0, 0), (5, .iload_n 2, 1, 0, 0, 0, 0, 0), (6, .ifCond .ge 8, 3, 14, 0, 0, 0, 0), (9, .bipush (-2), 2, 0, 0, 0, -2, 0), (11, .goto 4, 3, 15, 0, 0, 0, 0), (14, .iconst (-1), 1, 0, 0, 0, -1, 0), (15, .iastore, 1, 0, 0, 0, 0, 0), (16, .aload_n 0, 1, 0, 0, 0, 0, 0)]),
  (33, [(17, .getfield 18, 3, 8, 2, 0, 0, 0), (20, .iload_n 1, 1, 0, 0, 0, 0, 0), (21, .iload_n 2, 1, 0, 0, 0, 0, 0), (22, .iconst 0, 1, 0, 0, 0, 0, 0), (23, .invokestatic 26, 3, 2, 0, 2, 0, 0), (26, .iastore, 1, 0, 0, 0, 0, 0), (27, .aload_n 0, 1, 0, 0, 0, 0, 0), (28, .getfield 15, 3, 8, 1, 0, 0, 0), (31, .iload_n 1, 1, 0, 0, 0, 0, 0), (32, .iconst 0, 1, 0, 0, 0, 0, 0)]),
  (35, [(33, .iastore, 1, 0, 0, 0, 0, 0), (34, .return_, 1, 0, 0, 0, 0, 0)])]
set_option maxRecDepth 100000 in
theorem mx_ok70 : ∀ q ∈ mx_t70, ∀ en ∈ q.2, mx_gd 70 en := mx_gt_s mx_LLok8 mx_KLok8 mx_JLok8 mx_ARok (by decide +kernel)
def mx_t71 : List (Nat × List mx_En) := [(14, [(0, .aload_n 0, 1, 0, 0, 0, 0, 0), (1, .getfield 11, 3, 8, 0, 0, 0, 0), (4, .iload_n 1, 1, 0, 0, 0, 0, 0), (5, .iload_n 2, 1, 0, 0, 0, 0, 0), (6, .iastore, 1, 0, 0, 0, 0, 0), (7, .aload_n 0, 1, 0, 0, 0, 0, 0), (8, .getfield 15, 3, 8, 1, 0, 0, 0), (11, .iload_n 1, 1, 0, 0, 0, 0, 0), (12, .iload_n 3, 1, 0, 0, 0, 0, 0), (13, .iastore, 1, 0, 0, 0, 0, 0)]),
  (25, [(14, .aload_n 0, 1, 0, 0, 0, 0, 0), (15, .getfield 23, 3, 8, 3, 0, 0, 0), (18, .iload_n 1, 1, 0, 0, 0, 0, 0), (19, .aaload, 1, 0, 0, 0, 0, 0), (20, .lconst 0, 1, 0, 0, 0, 0, 0), (21, .invokestatic 32, 3, 316, 2, 0, 0, 0), (24, .return_, 1, 0, 0, 0, 0, 0)])]
set_option maxRecDepth 100000 in
theorem mx_ok71 : ∀ q ∈ mx_t71, ∀ en ∈ q.2, mx_gd 71 en := mx_gt_s mx_LLok8 mx_KLok8 mx_JLok8 mx_ARok (by decide +kernel)
def mx_t72 : List (Nat × List mx_En) := [(18, [(0, .aload_n 0, 1, 0, 0, 0, 0, 0), (1, .getfield 11, 3, 8, 0, 0, 0, 0), (4, .iload_n 1, 1, 0, 0, 0, 0, 0), (5, .iaload, 1, 0, 0, 0, 0, 0), (6, .bipush (-2), 2, 0, 0, 0, -2, 0), (8, .if_icmp .ne 6, 3, 14, 0, 0, 0, 0), (11, .bipush (-11), 2, 0, 0, 0, -11, 0), (13, .ireturn, 1, 0, 0, 0, 0, 0), (14, .aload_n 0, 1, 0, 0, 0, 0, 0), (15, .getfield 11, 3, 8, 0, 0, 0, 0)]),
  (31, [(18, .iload_n 1, 1, 0, 0, 0, 0, 0), (19, .iaload, 1, 0, 0, 0, 0, 0), (20, .iconst (-1), 1, 0, 0, 0, -1, 0), (21, .if_icmp .ne 8, 3, 29, 0, 0, 0, 0), (24, .bipush (-12), 2, 0, 0, 0, -12, 0), (26, .goto 4, 3, 30, 0, 0, 0, 0), (29, .iconst 0, 1, 0, 0, 0, 0, 0), (30, .ireturn, 1, 0, 0, 0, 0, 0)])]
set_option maxRecDepth 100000 in
theorem mx_ok72 : ∀ q ∈ mx_t72, ∀ en ∈ q.2, mx_gd 72 en := mx_gt_s mx_LLok8 mx_KLok8 mx_JLok8 mx_ARok (by decide +kernel)
def mx_t73 : List (Nat × List mx_En) := [(18, [(0, .aload_n 0, 1, 0, 0, 0, 0, 0), (1, .getfield 11, 3, 8, 0, 0, 0, 0), (4, .iload_n 1, 1, 0, 0, 0, 0, 0), (5, .iaload, 1, 0, 0, 0, 0, 0), (6, .bipush (-2), 2, 0, 0, 0, -2, 0), (8, .if_icmp .ne 6, 3, 14, 0, 0, 0, 0), (11, .bipush (-11), 2, 0, 0, 0, -11, 0), (13, .ireturn, 1, 0, 0, 0, 0, 0), (14, .aload_n 0, 1, 0, 0, 0, 0, 0), (15, .getfield 11, 3, 8, 0, 0, 0, 0)]),
  (35, [(18, .iload_n 1, 1, 0, 0, 0, 0, 0), (19, .iaload, 1, 0, 0, 0, 0, 0), (20, .iconst 0, 1, 0, 0, 0, 0, 0), (21, .iconst 2, 1, 0, 0, 0, 2, 0), (22, .invokestatic 38, 3, 157, 3, 1, 0, 0), (25, .ifCond .eq 7, 3, 32, 0, 0, 0, 0), (28, .iconst 0, 1, 0, 0, 0, 0, 0), (29, .goto 5, 3, 34, 0, 0, 0, 0), (32, .bipush (-12), 2, 0, 0, 0, -12, 0), (34, .ireturn, 1, 0, 0, 0, 0, 0)])]
set_option maxRecDepth 100000 in
theorem mx_ok73 : ∀ q ∈ mx_t73, ∀ en ∈ q.2, mx_gd 73 en := mx_gt_s mx_LLok8 mx_KLok8 mx_JLok8 mx_ARok (by decide +kernel)
def mx_t74 : List (Nat × List mx_En) := [(18, [(0, .iload_n 2, 1, 0, 0, 0, 0, 0), (1, .ifCond .lt 17, 3, 18, 0, 0, 0, 0), (4, .iload_n 2, 1, 0, 0, 0, 0, 0), (5, .aload_n 0, 1, 0, 0, 0, 0, 0), (6, .getfield 15, 3, 8, 1, 0, 0, 0), (9, .iload_n 1, 1, 0, 0, 0, 0, 0), (10, .iaload, 1, 0, 0, 0, 0, 0), (11, .if_icmp .ge 7, 3, 18, 0, 0, 0, 0), (14, .iconst 1, 1, 0, 0, 0, 1, 0), (15, .goto 4, 3, 19, 0, 0, 0, 0)]),
  (20, [(18, .iconst 0, 1, 0, 0, 0, 0, 0), (19, .ireturn, 1, 0, 0, 0, 0, 0)])]
set_option maxRecDepth 100000 in
theorem mx_ok74 : ∀ q ∈ mx_t74, ∀ en ∈ q.2, mx_gd 74 en := mx_gt_s mx_LLok8 mx_KLok8 mx_JLok8 mx_ARok (by decide +kernel)
def mx_t75 : List (Nat × List mx_En) := [(18, [(0, .iload_n 2, 1, 0, 0, 0, 0, 0), (1, .ifCond .lt 33, 3, 34, 0, 0, 0, 0), (4, .iload_n 3, 1, 0, 0, 0, 0, 0), (5, .ifCond .lt 29, 3, 34, 0, 0, 0, 0), (8, .iload_n 3, 1, 0, 0, 0, 0, 0), (9, .aload_n 0, 1, 0, 0, 0, 0, 0), (10, .getfield 15, 3, 8, 1, 0, 0, 0), (13, .iload_n 1, 1, 0, 0, 0, 0, 0), (14, .iaload, 1, 0, 0, 0, 0, 0), (15, .if_icmp .gt 19, 3, 34, 0, 0, 0, 0)]),
  (34, [(18, .iload_n 2, 1, 0, 0, 0, 0, 0), (19, .aload_n 0, 1, 0, 0, 0, 0, 0), (20, .getfield 15, 3, 8, 1, 0, 0, 0), (23, .iload_n 1, 1, 0, 0, 0, 0, 0), (24, .iaload, 1, 0, 0, 0, 0, 0), (25, .iload_n 3, 1, 0, 0, 0, 0, 0), (26, .isub, 1, 0, 0, 0, 0, 0), (27, .if_icmp .gt 7, 3, 34, 0, 0, 0, 0), (30, .iconst 1, 1, 0, 0, 0, 1, 0), (31, .goto 4, 3, 35, 0, 0, 0, 0)]),
  (36, [(34, .iconst 0, 1, 0, 0, 0, 0, 0), (35, .ireturn, 1, 0, 0, 0, 0, 0)])]
set_option maxRecDepth 100000 in
theorem mx_ok75 : ∀ q ∈ mx_t75, ∀ en ∈ q.2, mx_gd 75 en := mx_gt_s mx_LLok8 mx_KLok8 mx_JLok8 mx_ARok (by decide +kernel)
def mx_t76 : List (Nat × List mx_En) := [(14, [(0, .aload_n 0, 1, 0, 0, 0, 0, 0), (1, .getfield 23, 3, 8, 3, 0, 0, 0), (4, .iload_n 1, 1, 0, 0, 0, 0, 0), (5, .aaload, 1, 0, 0, 0, 0, 0), (6, .iload_n 2, 1, 0, 0, 0, 0, 0), (7, .aload_n 0, 1, 0, 0, 0, 0, 0), (8, .getfield 11, 3, 8, 0, 0, 0, 0), (11, .iload_n 1, 1, 0, 0, 0, 0, 0), (12, .iaload, 1, 0, 0, 0, 0, 0), (13, .lload_n 3, 1, 0, 0, 0, 0, 0)]),
  (19, [(14, .invokestatic 42, 3, 77, 2, 0, 0, 0), (17, .lastore, 1, 0, 0, 0, 0, 0), (18, .return_, 1, 0, 0, 0, 0, 0)])]
set_option maxRecDepth 100000 in
theorem mx_ok76 : ∀ q ∈ mx_t76, ∀ en ∈ q.2, mx_gd 76 en := mx_gt_s mx_LLok8 mx_KLok8 mx_JLok8 mx_ARok (by decide +kernel)
def mx_t77 : List (Nat × List mx_En) := [(40, [(0, .iload_n 0, 1, 0, 0, 0, 0, 0), (1, .tableswitch 47 0 3 #[31, 36, 41, 45], 31, 0, 0, 0, 0, 0), (32, .lload_n 1, 1, 0, 0, 0, 0, 0), (33, .l2i, 1, 0, 0, 0, 0, 0), (34, .i2b, 1, 0, 0, 0, 0, 0), (35, .i2l, 1, 0, 0, 0, 0, 0), (36, .lreturn, 1, 0, 0, 0, 0, 0), (37, .lload_n 1, 1, 0, 0, 0, 0, 0), (38, .l2i, 1, 0, 0, 0, 0, 0), (39, .i2s, 1, 0, 0, 0, 0, 0)]),
  (50, [(40, .i2l, 1, 0, 0, 0, 0, 0), (41, .lreturn, 1, 0, 0, 0, 0, 0), (42, .lload_n 1, 1, 0, 0, 0, 0, 0), (43, .l2i, 1, 0, 0, 0, 0, 0), (44, .i2l, 1, 0, 0, 0, 0, 0), (45, .lreturn, 1, 0, 0, 0, 0, 0), (46, .lload_n 1, 1, 0, 0, 0, 0, 0), (47, .lreturn, 1, 0, 0, 0, 0, 0), (48, .lload_n 1, 1, 0, 0, 0, 0, 0), (49, .lconst 0, 1, 0, 0, 0, 0, 0)]),
  (60, [(50, .lcmp, 1, 0, 0, 0, 0, 0), (51, .ifCond .eq 7, 3, 58, 0, 0, 0, 0), (54, .lconst 1, 1, 0, 0, 0, 0, 1), (55, .goto 4, 3, 59, 0, 0, 0, 0), (58, .lconst 0, 1, 0, 0, 0, 0, 0), (59, .lreturn, 1, 0, 0, 0, 0, 0)])]
set_option maxRecDepth 100000 in
theorem mx_ok77 : ∀ q ∈ mx_t77, ∀ en ∈ q.2, mx_gd 77 en := mx_gt_s mx_LLok8 mx_KLok8 mx_JLok8 mx_ARok (by decide +kernel)
def mx_t78 : List (Nat × List mx_En) := [(22, [(0, .iload_n 0, 1, 0, 0, 0, 0, 0), (1, .ifCond .ne 7, 3, 8, 0, 0, 0, 0), (4, .ldc2_w 46, 3, 0, 0, 0, 0, 127), (7, .lreturn, 1, 0, 0, 0, 0, 0), (8, .iload_n 0, 1, 0, 0, 0, 0, 0), (9, .iconst 1, 1, 0, 0, 0, 1, 0), (10, .if_icmp .ne 9, 3, 19, 0, 0, 0, 0), (13, .ldc2_w 48, 3, 0, 0, 0, 0, 32767), (16, .goto 6, 3, 22, 0, 0, 0, 0), (19, .ldc2_w 50, 3, 0, 0, 0, 0, 2147483647)]),
  (23, [(22, .lreturn, 1, 0, 0, 0, 0, 0)])]
set_option maxRecDepth 100000 in
theorem mx_ok78 : ∀ q ∈ mx_t78, ∀ en ∈ q.2, mx_gd 78 en := mx_gt_s mx_LLok8 mx_KLok8 mx_JLok8 mx_ARok (by decide +kernel)
def mx_t79 : List (Nat × List mx_En) := [(17, [(0, .aload_n 0, 1, 0, 0, 0, 0, 0), (1, .getfield 11, 3, 8, 0, 0, 0, 0), (4, .iload_n 1, 1, 0, 0, 0, 0, 0), (5, .iaload, 1, 0, 0, 0, 0, 0), (6, .invokestatic 52, 3, 78, 1, 0, 0, 0), (9, .lstore 4, 2, 0, 0, 0, 0, 0), (11, .aload_n 0, 1, 0, 0, 0, 0, 0), (12, .getfield 23, 3, 8, 3, 0, 0, 0), (15, .iload_n 1, 1, 0, 0, 0, 0, 0), (16, .aaload, 1, 0, 0, 0, 0, 0)]),
  (33, [(17, .iload_n 2, 1, 0, 0, 0, 0, 0), (18, .lload 4, 2, 0, 0, 0, 0, 0), (20, .lneg, 1, 0, 0, 0, 0, 0), (21, .lload 4, 2, 0, 0, 0, 0, 0), (23, .iload_n 3, 1, 0, 0, 0, 0, 0), (24, .i2l, 1, 0, 0, 0, 0, 0), (25, .invokestatic 56, 3, 5, 0, 2, 0, 0), (28, .invokestatic 60, 3, 3, 0, 2, 0, 0), (31, .lastore, 1, 0, 0, 0, 0, 0), (32, .return_, 1, 0, 0, 0, 0, 0)])]
set_option maxRecDepth 100000 in
theorem mx_ok79 : ∀ q ∈ mx_t79, ∀ en ∈ q.2, mx_gd 79 en := mx_gt_s mx_LLok8 mx_KLok8 mx_JLok8 mx_ARok (by decide +kernel)
def mx_t80 : List (Nat × List mx_En) := [(14, [(0, .aload_n 0, 1, 0, 0, 0, 0, 0), (1, .getfield 23, 3, 8, 3, 0, 0, 0), (4, .iload_n 1, 1, 0, 0, 0, 0, 0), (5, .aaload, 1, 0, 0, 0, 0, 0), (6, .iload_n 2, 1, 0, 0, 0, 0, 0), (7, .laload, 1, 0, 0, 0, 0, 0), (8, .lstore_n 3, 1, 0, 0, 0, 0, 0), (9, .lload_n 3, 1, 0, 0, 0, 0, 0), (10, .aload_n 0, 1, 0, 0, 0, 0, 0), (11, .getfield 11, 3, 8, 0, 0, 0, 0)]),
  (30, [(14, .iload_n 1, 1, 0, 0, 0, 0, 0), (15, .iaload, 1, 0, 0, 0, 0, 0), (16, .invokestatic 52, 3, 78, 1, 0, 0, 0), (19, .lneg, 1, 0, 0, 0, 0, 0), (20, .lcmp, 1, 0, 0, 0, 0, 0), (21, .ifCond .ge 7, 3, 28, 0, 0, 0, 0), (24, .lconst 0, 1, 0, 0, 0, 0, 0), (25, .goto 4, 3, 29, 0, 0, 0, 0), (28, .lload_n 3, 1, 0, 0, 0, 0, 0), (29, .lreturn, 1, 0, 0, 0, 0, 0)])]
set_option maxRecDepth 100000 in
theorem mx_ok80 : ∀ q ∈ mx_t80, ∀ en ∈ q.2, mx_gd 80 en := mx_gt_s mx_LLok8 mx_KLok8 mx_JLok8 mx_ARok (by decide +kernel)
def mx_t81 : List (Nat × List mx_En) := [(15, [(0, .lconst 0, 1, 0, 0, 0, 0, 0), (1, .lstore_n 3, 1, 0, 0, 0, 0, 0), (2, .lconst 0, 1, 0, 0, 0, 0, 0), (3, .lstore 5, 2, 0, 0, 0, 0, 0), (5, .iconst 0, 1, 0, 0, 0, 0, 0), (6, .istore 7, 2, 0, 0, 0, 0, 0), (8, .iload 7, 2, 0, 0, 0, 0, 0), (10, .aload_n 0, 1, 0, 0, 0, 0, 0), (11, .getfield 15, 3, 8, 1, 0, 0, 0), (14, .iload_n 1, 1, 0, 0, 0, 0, 0)]),
  (33, [(15, .iaload, 1, 0, 0, 0, 0, 0), (16, .if_icmp .ge 51, 3, 67, 0, 0, 0, 0), (19, .lload_n 3, 1, 0, 0, 0, 0, 0), (20, .aload_n 0, 1, 0, 0, 0, 0, 0), (21, .iload_n 1, 1, 0, 0, 0, 0, 0), (22, .iload 7, 2, 0, 0, 0, 0, 0), (24, .invokevirtual 62, 3, 80, 2, 0, 0, 0), (27, .iload 7, 2, 0, 0, 0, 0, 0), (29, .iload_n 2, 1, 0, 0, 0, 0, 0), (30, .invokestatic 66, 3, 82, 2, 0, 0, 0)]),
  (48, [(33, .i2l, 1, 0, 0, 0, 0, 0), (34, .lmul, 1, 0, 0, 0, 0, 0), (35, .ladd, 1, 0, 0, 0, 0, 0), (36, .lstore_n 3, 1, 0, 0, 0, 0, 0), (37, .lload 5, 2, 0, 0, 0, 0, 0), (39, .aload_n 0, 1, 0, 0, 0, 0, 0), (40, .iload_n 1, 1, 0, 0, 0, 0, 0), (41, .iload 7, 2, 0, 0, 0, 0, 0), (43, .invokevirtual 62, 3, 80, 2, 0, 0, 0), (46, .iload 7, 2, 0, 0, 0, 0, 0)]),
  (61, [(48, .iload_n 2, 1, 0, 0, 0, 0, 0), (49, .iconst 4, 1, 0, 0, 0, 4, 0), (50, .idiv, 1, 0, 0, 0, 0, 0), (51, .iadd, 1, 0, 0, 0, 0, 0), (52, .iload_n 2, 1, 0, 0, 0, 0, 0), (53, .invokestatic 66, 3, 82, 2, 0, 0, 0), (56, .i2l, 1, 0, 0, 0, 0, 0), (57, .lmul, 1, 0, 0, 0, 0, 0), (58, .ladd, 1, 0, 0, 0, 0, 0), (59, .lstore 5, 2, 0, 0, 0, 0, 0)]),
  (82, [(61, .iinc 7 1, 3, 0, 0, 0, 1, 0), (64, .goto (-56), 3, 8, 0, 0, 0, 0), (67, .lload_n 3, 1, 0, 0, 0, 0, 0), (68, .invokestatic 69, 3, 1, 0, 2, 0, 0), (71, .lstore_n 3, 1, 0, 0, 0, 0, 0), (72, .lload 5, 2, 0, 0, 0, 0, 0), (74, .invokestatic 69, 3, 1, 0, 2, 0, 0), (77, .lstore 5, 2, 0, 0, 0, 0, 0), (79, .lload_n 3, 1, 0, 0, 0, 0, 0), (80, .lload 5, 2, 0, 0, 0, 0, 0)]),
  (97, [(82, .invokestatic 60, 3, 3, 0, 2, 0, 0), (85, .lload_n 3, 1, 0, 0, 0, 0, 0), (86, .lload 5, 2, 0, 0, 0, 0, 0), (88, .invokestatic 56, 3, 5, 0, 2, 0, 0), (91, .ldc2_w 73, 3, 0, 0, 0, 0, 2), (94, .ldiv, 1, 0, 0, 0, 0, 0), (95, .ladd, 1, 0, 0, 0, 0, 0), (96, .lreturn, 1, 0, 0, 0, 0, 0)])]
set_option maxRecDepth 100000 in
theorem mx_ok81 : ∀ q ∈ mx_t81, ∀ en ∈ q.2, mx_gd 81 en := mx_gt_s mx_LLok8 mx_KLok8 mx_JLok8 mx_ARok (by decide +kernel)
def mx_t82 : List (Nat × List mx_En) := [(10, [(0, .iload_n 1, 1, 0, 0, 0, 0, 0), (1, .iconst 2, 1, 0, 0, 0, 2, 0), (2, .iload_n 0, 1, 0, 0, 0, 0, 0), (3, .iload_n 1, 1, 0, 0, 0, 0, 0), (4, .irem, 1, 0, 0, 0, 0, 0), (5, .imul, 1, 0, 0, 0, 0, 0), (6, .invokestatic 75, 3, 308, 2, 0, 0, 0), (9, .ireturn, 1, 0, 0, 0, 0, 0)])]
set_option maxRecDepth 100000 in
theorem mx_ok82 : ∀ q ∈ mx_t82, ∀ en ∈ q.2, mx_gd 82 en := mx_gt_s mx_LLok8 mx_KLok8 mx_JLok8 mx_ARok (by decide +kernel)
def mx_t83 : List (Nat × List mx_En) := [(17, [(0, .iconst 2, 1, 0, 0, 0, 2, 0), (1, .istore_n 2, 1, 0, 0, 0, 0, 0), (2, .ldc2_w 80, 3, 0, 0, 0, 0, -1), (5, .lstore_n 3, 1, 0, 0, 0, 0, 0), (6, .iconst 2, 1, 0, 0, 0, 2, 0), (7, .istore 5, 2, 0, 0, 0, 0, 0), (9, .iload 5, 2, 0, 0, 0, 0, 0), (11, .bipush 60, 2, 0, 0, 0, 60, 0), (13, .if_icmp .gt 43, 3, 56, 0, 0, 0, 0), (16, .aload_n 0, 1, 0, 0, 0, 0, 0)]),
  (34, [(17, .iload_n 1, 1, 0, 0, 0, 0, 0), (18, .iload 5, 2, 0, 0, 0, 0, 0), (20, .invokevirtual 82, 3, 81, 2, 0, 0, 0), (23, .iconst 1, 1, 0, 0, 0, 1, 0), (24, .aload_n 0, 1, 0, 0, 0, 0, 0), (25, .getfield 15, 3, 8, 1, 0, 0, 0), (28, .iload_n 1, 1, 0, 0, 0, 0, 0), (29, .iaload, 1, 0, 0, 0, 0, 0), (30, .invokestatic 26, 3, 2, 0, 2, 0, 0), (33, .i2l, 1, 0, 0, 0, 0, 0)]),
  (50, [(34, .ldiv, 1, 0, 0, 0, 0, 0), (35, .lstore 6, 2, 0, 0, 0, 0, 0), (37, .lload 6, 2, 0, 0, 0, 0, 0), (39, .lload_n 3, 1, 0, 0, 0, 0, 0), (40, .lcmp, 1, 0, 0, 0, 0, 0), (41, .ifCond .le 9, 3, 50, 0, 0, 0, 0), (44, .lload 6, 2, 0, 0, 0, 0, 0), (46, .lstore_n 3, 1, 0, 0, 0, 0, 0), (47, .iload 5, 2, 0, 0, 0, 0, 0), (49, .istore_n 2, 1, 0, 0, 0, 0, 0)]),
  (58, [(50, .iinc 5 1, 3, 0, 0, 0, 1, 0), (53, .goto (-44), 3, 9, 0, 0, 0, 0), (56, .iload_n 2, 1, 0, 0, 0, 0, 0), (57, .ireturn, 1, 0, 0, 0, 0, 0)])]
set_option maxRecDepth 100000 in
theorem mx_ok83 : ∀ q ∈ mx_t83, ∀ en ∈ q.2, mx_gd 83 en := mx_gt_s mx_LLok8 mx_KLok8 mx_JLok8 mx_ARok (by decide +kernel)
def mx_t84 : List (Nat × List mx_En) := [(18, [(0, .aload_n 0, 1, 0, 0, 0, 0, 0), (1, .invokespecial 3, 3, 1000, 0, 0, 0, 0), (4, .aload_n 0, 1, 0, 0, 0, 0, 0), (5, .bipush 120, 2, 0, 0, 0, 120, 0), (7, .newarray .int, 2, 0, 0, 0, 0, 0), (9, .putfield 11, 3, 9, 0, 0, 0, 0), (12, .aload_n 0, 1, 0, 0, 0, 0, 0), (13, .iconst 0, 1, 0, 0, 0, 0, 0), (14, .putfield 15, 3, 9, 1, 0, 0, 0), (17, .aload_n 0, 1, 0, 0, 0, 0, 0)]),
  (23, [(18, .iconst 0, 1, 0, 0, 0, 0, 0), (19, .putfield 19, 3, 9, 2, 0, 0, 0), (22, .return_, 1, 0, 0, 0, 0, 0)])]
set_option maxRecDepth 100000 in
theorem mx_ok84 : ∀ q ∈ mx_t84, ∀ en ∈ q.2, mx_gd 84 en := mx_gt_s mx_LLok9 mx_KLok9 mx_JLok9 mx_ARok (by decide +kernel)
def mx_t85 : List (Nat × List mx_En) := [(17, [(0, .iconst 0, 1, 0, 0, 0, 0, 0), (1, .istore_n 3, 1, 0, 0, 0, 0, 0), (2, .iload_n 3, 1, 0, 0, 0, 0, 0), (3, .iload_n 1, 1, 0, 0, 0, 0, 0), (4, .if_icmp .ge 47, 3, 51, 0, 0, 0, 0), (7, .aload_n 0, 1, 0, 0, 0, 0, 0), (8, .getfield 15, 3, 9, 1, 0, 0, 0), (11, .bipush 120, 2, 0, 0, 0, 120, 0), (13, .if_icmp .ge 38, 3, 51, 0, 0, 0, 0), (16, .aload_n 0, 1, 0, 0, 0, 0, 0)]),
  (34, [(17, .getfield 11, 3, 9, 0, 0, 0, 0), (20, .aload_n 0, 1, 0, 0, 0, 0, 0), (21, .getfield 15, 3, 9, 1, 0, 0, 0), (24, .iload_n 2, 1, 0, 0, 0, 0, 0), (25, .bipush 8, 2, 0, 0, 0, 8, 0), (27, .iload_n 3, 1, 0, 0, 0, 0, 0), (28, .imul, 1, 0, 0, 0, 0, 0), (29, .iushr, 1, 0, 0, 0, 0, 0), (30, .sipush 255, 3, 0, 0, 0, 255, 0), (33, .iand, 1, 0, 0, 0, 0, 0)]),
  (52, [(34, .iastore, 1, 0, 0, 0, 0, 0), (35, .aload_n 0, 1, 0, 0, 0, 0, 0), (36, .dup, 1, 0, 0, 0, 0, 0), (37, .getfield 15, 3, 9, 1, 0, 0, 0), (40, .iconst 1, 1, 0, 0, 0, 1, 0), (41, .iadd, 1, 0, 0, 0, 0, 0), (42, .putfield 15, 3, 9, 1, 0, 0, 0), (45, .iinc 3 1, 3, 0, 0, 0, 1, 0), (48, .goto (-46), 3, 2, 0, 0, 0, 0), (51, .return_, 1, 0, 0, 0, 0, 0)])]
set_option maxRecDepth 100000 in
theorem mx_ok85 : ∀ q ∈ mx_t85, ∀ en ∈ q.2, mx_gd 85 en := mx_gt_s mx_LLok9 mx_KLok9 mx_JLok9 mx_ARok (by decide +kernel)
def mx_t86 : List (Nat × List mx_En) := [(16, [(0, .aload_n 1, 1, 0, 0, 0, 0, 0), (1, .invokevirtual 22, 3, 59, 0, 0, 0, 0), (4, .aload_n 0, 1, 0, 0, 0, 0, 0), (5, .iconst 0, 1, 0, 0, 0, 0, 0), (6, .putfield 19, 3, 9, 2, 0, 0, 0), (9, .aload_n 0, 1, 0, 0, 0, 0, 0), (10, .aload_n 1, 1, 0, 0, 0, 0, 0), (11, .invokevirtual 27, 3, 87, 1, 0, 0, 0), (14, .istore_n 2, 1, 0, 0, 0, 0, 0), (15, .iconst 0, 1, 0, 0, 0, 0, 0)]),
  (35, [(16, .istore_n 3, 1, 0, 0, 0, 0, 0), (17, .iload_n 2, 1, 0, 0, 0, 0, 0), (18, .ifCond .eq 32, 3, 50, 0, 0, 0, 0), (21, .aload_n 0, 1, 0, 0, 0, 0, 0), (22, .getfield 19, 3, 9, 2, 0, 0, 0), (25, .aload_n 0, 1, 0, 0, 0, 0, 0), (26, .getfield 15, 3, 9, 1, 0, 0, 0), (29, .if_icmp .ge 21, 3, 50, 0, 0, 0, 0), (32, .iload_n 3, 1, 0, 0, 0, 0, 0), (33, .bipush 120, 2, 0, 0, 0, 120, 0)]),
  (55, [(35, .if_icmp .ge 15, 3, 50, 0, 0, 0, 0), (38, .aload_n 0, 1, 0, 0, 0, 0, 0), (39, .aload_n 1, 1, 0, 0, 0, 0, 0), (40, .invokevirtual 31, 3, 88, 1, 0, 0, 0), (43, .istore_n 2, 1, 0, 0, 0, 0, 0), (44, .iinc 3 1, 3, 0, 0, 0, 1, 0), (47, .goto (-30), 3, 17, 0, 0, 0, 0), (50, .iload_n 2, 1, 0, 0, 0, 0, 0), (51, .ifCond .eq 7, 3, 58, 0, 0, 0, 0), (54, .iconst (-1), 1, 0, 0, 0, -1, 0)]),
  (63, [(55, .goto 7, 3, 62, 0, 0, 0, 0), (58, .aload_n 0, 1, 0, 0, 0, 0, 0), (59, .getfield 19, 3, 9, 2, 0, 0, 0), (62, .ireturn, 1, 0, 0, 0, 0, 0)])]
set_option maxRecDepth 100000 in
theorem mx_ok86 : ∀ q ∈ mx_t86, ∀ en ∈ q.2, mx_gd 86 en := mx_gt_s mx_LLok9 mx_KLok9 mx_JLok9 mx_ARok (by decide +kernel)
def mx_t87 : List (Nat × List mx_En) := [(17, [(0, .aload_n 0, 1, 0, 0, 0, 0, 0), (1, .invokevirtual 34, 3, 92, 0, 0, 0, 0), (4, .bipush 99, 2, 0, 0, 0, 99, 0), (6, .if_icmp .eq 5, 3, 11, 0, 0, 0, 0), (9, .iconst 0, 1, 0, 0, 0, 0, 0), (10, .ireturn, 1, 0, 0, 0, 0, 0), (11, .aload_n 0, 1, 0, 0, 0, 0, 0), (12, .dup, 1, 0, 0, 0, 0, 0), (13, .getfield 19, 3, 9, 2, 0, 0, 0), (16, .iconst 1, 1, 0, 0, 0, 1, 0)]),
  (36, [(17, .iadd, 1, 0, 0, 0, 0, 0), (18, .putfield 19, 3, 9, 2, 0, 0, 0), (21, .iconst 0, 1, 0, 0, 0, 0, 0), (22, .istore_n 2, 1, 0, 0, 0, 0, 0), (23, .iload_n 2, 1, 0, 0, 0, 0, 0), (24, .bipush 6, 2, 0, 0, 0, 6, 0), (26, .if_icmp .ge 43, 3, 69, 0, 0, 0, 0), (29, .aload_n 0, 1, 0, 0, 0, 0, 0), (30, .invokevirtual 38, 3, 93, 0, 0, 0, 0), (33, .ifCond .le 36, 3, 69, 0, 0, 0, 0)]),
  (50, [(36, .aload_n 1, 1, 0, 0, 0, 0, 0), (37, .getfield 41, 3, 7, 1, 0, 0, 0), (40, .iload_n 2, 1, 0, 0, 0, 0, 0), (41, .aload_n 0, 1, 0, 0, 0, 0, 0), (42, .invokevirtual 38, 3, 93, 0, 0, 0, 0), (45, .iastore, 1, 0, 0, 0, 0, 0), (46, .aload_n 1, 1, 0, 0, 0, 0, 0), (47, .iload_n 2, 1, 0, 0, 0, 0, 0), (48, .iconst 1, 1, 0, 0, 0, 1, 0), (49, .iadd, 1, 0, 0, 0, 0, 0)]),
  (70, [(50, .putfield 44, 3, 7, 0, 0, 0, 0), (53, .aload_n 0, 1, 0, 0, 0, 0, 0), (54, .dup, 1, 0, 0, 0, 0, 0), (55, .getfield 19, 3, 9, 2, 0, 0, 0), (58, .iconst 1, 1, 0, 0, 0, 1, 0), (59, .iadd, 1, 0, 0, 0, 0, 0), (60, .putfield 19, 3, 9, 2, 0, 0, 0), (63, .iinc 2 1, 3, 0, 0, 0, 1, 0), (66, .goto (-43), 3, 23, 0, 0, 0, 0), (69, .aload_n 1, 1, 0, 0, 0, 0, 0)]),
  (82, [(70, .getfield 44, 3, 7, 0, 0, 0, 0), (73, .ifCond .le 7, 3, 80, 0, 0, 0, 0), (76, .iconst 1, 1, 0, 0, 0, 1, 0), (77, .goto 4, 3, 81, 0, 0, 0, 0), (80, .iconst 0, 1, 0, 0, 0, 0, 0), (81, .ireturn, 1, 0, 0, 0, 0, 0)])]
set_option maxRecDepth 100000 in
theorem mx_ok87 : ∀ q ∈ mx_t87, ∀ en ∈ q.2, mx_gd 87 en := mx_gt_s mx_LLok9 mx_KLok9 mx_JLok9 mx_ARok (by decide +kernel)
def mx_t88 : List (Nat × List mx_En) := [(17, [(0, .aload_n 0, 1, 0, 0, 0, 0, 0), (1, .invokevirtual 34, 3, 92, 0, 0, 0, 0), (4, .bipush 59, 2, 0, 0, 0, 59, 0), (6, .if_icmp .eq 5, 3, 11, 0, 0, 0, 0), (9, .iconst 0, 1, 0, 0, 0, 0, 0), (10, .ireturn, 1, 0, 0, 0, 0, 0), (11, .aload_n 0, 1, 0, 0, 0, 0, 0), (12, .dup, 1, 0, 0, 0, 0, 0), (13, .getfield 19, 3, 9, 2, 0, 0, 0), (16, .iconst 1, 1, 0, 0, 0, 1, 0)]),
  (35, [(17, .iadd, 1, 0, 0, 0, 0, 0), (18, .putfield 19, 3, 9, 2, 0, 0, 0), (21, .aload_n 0, 1, 0, 0, 0, 0, 0), (22, .invokevirtual 34, 3, 92, 0, 0, 0, 0), (25, .istore_n 2, 1, 0, 0, 0, 0, 0), (26, .iload_n 2, 1, 0, 0, 0, 0, 0), (27, .bipush 112, 2, 0, 0, 0, 112, 0), (29, .if_icmp .eq 23, 3, 52, 0, 0, 0, 0), (32, .iload_n 2, 1, 0, 0, 0, 0, 0), (33, .bipush 115, 2, 0, 0, 0, 115, 0)]),
  (53, [(35, .if_icmp .eq 17, 3, 52, 0, 0, 0, 0), (38, .iload_n 2, 1, 0, 0, 0, 0, 0), (39, .bipush 104, 2, 0, 0, 0, 104, 0), (41, .if_icmp .eq 11, 3, 52, 0, 0, 0, 0), (44, .iload_n 2, 1, 0, 0, 0, 0, 0), (45, .bipush 119, 2, 0, 0, 0, 119, 0), (47, .if_icmp .eq 5, 3, 52, 0, 0, 0, 0), (50, .iconst 0, 1, 0, 0, 0, 0, 0), (51, .ireturn, 1, 0, 0, 0, 0, 0), (52, .aload_n 0, 1, 0, 0, 0, 0, 0)]),
  (70, [(53, .dup, 1, 0, 0, 0, 0, 0), (54, .getfield 19, 3, 9, 2, 0, 0, 0), (57, .iconst 1, 1, 0, 0, 0, 1, 0), (58, .iadd, 1, 0, 0, 0, 0, 0), (59, .putfield 19, 3, 9, 2, 0, 0, 0), (62, .iload_n 2, 1, 0, 0, 0, 0, 0), (63, .bipush 112, 2, 0, 0, 0, 112, 0), (65, .if_icmp .ne 9, 3, 74, 0, 0, 0, 0), (68, .aload_n 0, 1, 0, 0, 0, 0, 0), (69, .aload_n 1, 1, 0, 0, 0, 0, 0)]),
  (87, [(70, .invokevirtual 47, 3, 89, 1, 0, 0, 0), (73, .ireturn, 1, 0, 0, 0, 0, 0), (74, .iload_n 2, 1, 0, 0, 0, 0, 0), (75, .bipush 104, 2, 0, 0, 0, 104, 0), (77, .if_icmp .ne 9, 3, 86, 0, 0, 0, 0), (80, .aload_n 0, 1, 0, 0, 0, 0, 0), (81, .aload_n 1, 1, 0, 0, 0, 0, 0), (82, .invokevirtual 50, 3, 90, 1, 0, 0, 0), (85, .ireturn, 1, 0, 0, 0, 0, 0), (86, .aload_n 0, 1, 0, 0, 0, 0, 0)]),
  (108, [(87, .aload_n 1, 1, 0, 0, 0, 0, 0), (88, .iload_n 2, 1, 0, 0, 0, 0, 0), (89, .bipush 115, 2, 0, 0, 0, 115, 0), (91, .if_icmp .ne 10, 3, 101, 0, 0, 0, 0), (94, .aload_n 1, 1, 0, 0, 0, 0, 0), (95, .getfield 53, 3, 7, 2, 0, 0, 0), (98, .goto 7, 3, 105, 0, 0, 0, 0), (101, .aload_n 1, 1, 0, 0, 0, 0, 0), (102, .getfield 56, 3, 7, 3, 0, 0, 0), (105, .invokevirtual 59, 3, 91, 2, 0, 0, 0)]),
  (109, [(108, .ireturn, 1, 0, 0, 0, 0, 0)])]
set_option maxRecDepth 100000 in
theorem mx_ok88 : ∀ q ∈ mx_t88, ∀ en ∈ q.2, mx_gd 88 en := mx_gt_s mx_LLok9 mx_KLok9 mx_JLok9 mx_ARok (by decide +kernel)
def mx_t89 : List (Nat × List mx_En) := [(14, [(0, .aload_n 0, 1, 0, 0, 0, 0, 0), (1, .aload_n 1, 1, 0, 0, 0, 0, 0), (2, .invokevirtual 63, 3, 94, 1, 0, 0, 0), (5, .istore_n 2, 1, 0, 0, 0, 0, 0), (6, .iload_n 2, 1, 0, 0, 0, 0, 0), (7, .ifCond .ge 5, 3, 12, 0, 0, 0, 0), (10, .iconst 0, 1, 0, 0, 0, 0, 0), (11, .ireturn, 1, 0, 0, 0, 0, 0), (12, .aload_n 0, 1, 0, 0, 0, 0, 0), (13, .dup, 1, 0, 0, 0, 0, 0)]),
  (32, [(14, .getfield 19, 3, 9, 2, 0, 0, 0), (17, .iconst 1, 1, 0, 0, 0, 1, 0), (18, .iadd, 1, 0, 0, 0, 0, 0), (19, .putfield 19, 3, 9, 2, 0, 0, 0), (22, .aload_n 0, 1, 0, 0, 0, 0, 0), (23, .aload_n 1, 1, 0, 0, 0, 0, 0), (24, .invokevirtual 63, 3, 94, 1, 0, 0, 0), (27, .istore_n 3, 1, 0, 0, 0, 0, 0), (28, .iload_n 3, 1, 0, 0, 0, 0, 0), (29, .ifCond .lt 17, 3, 46, 0, 0, 0, 0)]),
  (48, [(32, .iload_n 3, 1, 0, 0, 0, 0, 0), (33, .iload_n 2, 1, 0, 0, 0, 0, 0), (34, .if_icmp .eq 12, 3, 46, 0, 0, 0, 0), (37, .aload_n 1, 1, 0, 0, 0, 0, 0), (38, .iload_n 2, 1, 0, 0, 0, 0, 0), (39, .iload_n 3, 1, 0, 0, 0, 0, 0), (40, .invokevirtual 67, 3, 61, 2, 0, 0, 0), (43, .ifCond .lt 5, 3, 48, 0, 0, 0, 0), (46, .iconst 0, 1, 0, 0, 0, 0, 0), (47, .ireturn, 1, 0, 0, 0, 0, 0)]),
  (66, [(48, .aload_n 0, 1, 0, 0, 0, 0, 0), (49, .dup, 1, 0, 0, 0, 0, 0), (50, .getfield 19, 3, 9, 2, 0, 0, 0), (53, .iconst 1, 1, 0, 0, 0, 1, 0), (54, .iadd, 1, 0, 0, 0, 0, 0), (55, .putfield 19, 3, 9, 2, 0, 0, 0), (58, .aload_n 0, 1, 0, 0, 0, 0, 0), (59, .invokevirtual 38, 3, 93, 0, 0, 0, 0), (62, .ifCond .ne 5, 3, 67, 0, 0, 0, 0), (65, .iconst 0, 1, 0, 0, 0, 0, 0)]),
  (82, [(66, .ireturn, 1, 0, 0, 0, 0, 0), (67, .aload_n 1, 1, 0, 0, 0, 0, 0), (68, .iload_n 2, 1, 0, 0, 0, 0, 0), (69, .iload_n 3, 1, 0, 0, 0, 0, 0), (70, .aload_n 0, 1, 0, 0, 0, 0, 0), (71, .invokevirtual 38, 3, 93, 0, 0, 0, 0), (74, .invokevirtual 71, 3, 63, 3, 0, 0, 0), (77, .aload_n 0, 1, 0, 0, 0, 0, 0), (78, .dup, 1, 0, 0, 0, 0, 0), (79, .getfield 19, 3, 9, 2, 0, 0, 0)]),
  (89, [(82, .iconst 1, 1, 0, 0, 0, 1, 0), (83, .iadd, 1, 0, 0, 0, 0, 0), (84, .putfield 19, 3, 9, 2, 0, 0, 0), (87, .iconst 1, 1, 0, 0, 0, 1, 0), (88, .ireturn, 1, 0, 0, 0, 0, 0)])]
set_option maxRecDepth 100000 in
theorem mx_ok89 : ∀ q ∈ mx_t89, ∀ en ∈ q.2, mx_gd 89 en := mx_gt_s mx_LLok9 mx_KLok9 mx_JLok9 mx_ARok (by decide +kernel)
def mx_t90 : List (Nat × List mx_En) := [(16, [(0, .aload_n 0, 1, 0, 0, 0, 0, 0), (1, .aload_n 1, 1, 0, 0, 0, 0, 0), (2, .invokevirtual 63, 3, 94, 1, 0, 0, 0), (5, .istore_n 2, 1, 0, 0, 0, 0, 0), (6, .iload_n 2, 1, 0, 0, 0, 0, 0), (7, .ifCond .lt 12, 3, 19, 0, 0, 0, 0), (10, .aload_n 1, 1, 0, 0, 0, 0, 0), (11, .getfield 75, 3, 7, 4, 0, 0, 0), (14, .iload_n 2, 1, 0, 0, 0, 0, 0), (15, .iaload, 1, 0, 0, 0, 0, 0)]),
  (32, [(16, .ifCond .eq 5, 3, 21, 0, 0, 0, 0), (19, .iconst 0, 1, 0, 0, 0, 0, 0), (20, .ireturn, 1, 0, 0, 0, 0, 0), (21, .aload_n 0, 1, 0, 0, 0, 0, 0), (22, .dup, 1, 0, 0, 0, 0, 0), (23, .getfield 19, 3, 9, 2, 0, 0, 0), (26, .iconst 1, 1, 0, 0, 0, 1, 0), (27, .iadd, 1, 0, 0, 0, 0, 0), (28, .putfield 19, 3, 9, 2, 0, 0, 0), (31, .aload_n 1, 1, 0, 0, 0, 0, 0)]),
  (40, [(32, .getfield 75, 3, 7, 4, 0, 0, 0), (35, .iload_n 2, 1, 0, 0, 0, 0, 0), (36, .iconst 1, 1, 0, 0, 0, 1, 0), (37, .iastore, 1, 0, 0, 0, 0, 0), (38, .iconst 1, 1, 0, 0, 0, 1, 0), (39, .ireturn, 1, 0, 0, 0, 0, 0)])]
set_option maxRecDepth 100000 in
theorem mx_ok90 : ∀ q ∈ mx_t90, ∀ en ∈ q.2, mx_gd 90 en := mx_gt_s mx_LLok9 mx_KLok9 mx_JLok9 mx_ARok (by decide +kernel)
def mx_t91 : List (Nat × List mx_En) := [(16, [(0, .aload_n 0, 1, 0, 0, 0, 0, 0), (1, .aload_n 1, 1, 0, 0, 0, 0, 0), (2, .invokevirtual 63, 3, 94, 1, 0, 0, 0), (5, .istore_n 3, 1, 0, 0, 0, 0, 0), (6, .iload_n 3, 1, 0, 0, 0, 0, 0), (7, .ifCond .lt 9, 3, 16, 0, 0, 0, 0), (10, .aload_n 2, 1, 0, 0, 0, 0, 0), (11, .iload_n 3, 1, 0, 0, 0, 0, 0), (12, .iaload, 1, 0, 0, 0, 0, 0), (13, .ifCond .eq 5, 3, 18, 0, 0, 0, 0)]),
  (32, [(16, .iconst 0, 1, 0, 0, 0, 0, 0), (17, .ireturn, 1, 0, 0, 0, 0, 0), (18, .aload_n 0, 1, 0, 0, 0, 0, 0), (19, .dup, 1, 0, 0, 0, 0, 0), (20, .getfield 19, 3, 9, 2, 0, 0, 0), (23, .iconst 1, 1, 0, 0, 0, 1, 0), (24, .iadd, 1, 0, 0, 0, 0, 0), (25, .putfield 19, 3, 9, 2, 0, 0, 0), (28, .aload_n 0, 1, 0, 0, 0, 0, 0), (29, .invokevirtual 38, 3, 93, 0, 0, 0, 0)]),
  (46, [(32, .ifCond .ne 5, 3, 37, 0, 0, 0, 0), (35, .iconst 0, 1, 0, 0, 0, 0, 0), (36, .ireturn, 1, 0, 0, 0, 0, 0), (37, .aload_n 2, 1, 0, 0, 0, 0, 0), (38, .iload_n 3, 1, 0, 0, 0, 0, 0), (39, .aload_n 0, 1, 0, 0, 0, 0, 0), (40, .invokevirtual 38, 3, 93, 0, 0, 0, 0), (43, .iastore, 1, 0, 0, 0, 0, 0), (44, .aload_n 0, 1, 0, 0, 0, 0, 0), (45, .dup, 1, 0, 0, 0, 0, 0)]),
  (56, [(46, .getfield 19, 3, 9, 2, 0, 0, 0), (49, .iconst 1, 1, 0, 0, 0, 1, 0), (50, .iadd, 1, 0, 0, 0, 0, 0), (51, .putfield 19, 3, 9, 2, 0, 0, 0), (54, .iconst 1, 1, 0, 0, 0, 1, 0), (55, .ireturn, 1, 0, 0, 0, 0, 0)])]
set_option maxRecDepth 100000 in
theorem mx_ok91 : ∀ q ∈ mx_t91, ∀ en ∈ q.2, mx_gd 91 en := mx_gt_s mx_LLok9 mx_KLok9 mx_JLok9 mx_ARok (by decide +kernel)
def mx_t92 : List (Nat × List mx_En) := [(21, [(0, .aload_n 0, 1, 0, 0, 0, 0, 0), (1, .getfield 19, 3, 9, 2, 0, 0, 0), (4, .aload_n 0, 1, 0, 0, 0, 0, 0), (5, .getfield 15, 3, 9, 1, 0, 0, 0), (8, .if_icmp .ge 24, 3, 32, 0, 0, 0, 0), (11, .aload_n 0, 1, 0, 0, 0, 0, 0), (12, .getfield 19, 3, 9, 2, 0, 0, 0), (15, .bipush 120, 2, 0, 0, 0, 120, 0), (17, .if_icmp .ge 15, 3, 32, 0, 0, 0, 0), (20, .aload_n 0, 1, 0, 0, 0, 0, 0)]),
  (34, [(21, .getfield 11, 3, 9, 0, 0, 0, 0), (24, .aload_n 0, 1, 0, 0, 0, 0, 0), (25, .getfield 19, 3, 9, 2, 0, 0, 0), (28, .iaload, 1, 0, 0, 0, 0, 0), (29, .goto 4, 3, 33, 0, 0, 0, 0), (32, .iconst (-1), 1, 0, 0, 0, -1, 0), (33, .ireturn, 1, 0, 0, 0, 0, 0)])]
set_option maxRecDepth 100000 in
theorem mx_ok92 : ∀ q ∈ mx_t92, ∀ en ∈ q.2, mx_gd 92 en := mx_gt_s mx_LLok9 mx_KLok9 mx_JLok9 mx_ARok (by decide +kernel)
def mx_t93 : List (Nat × List mx_En) := [(19, [(0, .aload_n 0, 1, 0, 0, 0, 0, 0), (1, .invokevirtual 34, 3, 92, 0, 0, 0, 0), (4, .istore_n 1, 1, 0, 0, 0, 0, 0), (5, .iload_n 1, 1, 0, 0, 0, 0, 0), (6, .bipush 49, 2, 0, 0, 0, 49, 0), (8, .bipush 57, 2, 0, 0, 0, 57, 0), (10, .invokestatic 78, 3, 157, 3, 1, 0, 0), (13, .ifCond .eq 10, 3, 23, 0, 0, 0, 0), (16, .iload_n 1, 1, 0, 0, 0, 0, 0), (17, .bipush 48, 2, 0, 0, 0, 48, 0)]),
  (25, [(19, .isub, 1, 0, 0, 0, 0, 0), (20, .goto 4, 3, 24, 0, 0, 0, 0), (23, .iconst 0, 1, 0, 0, 0, 0, 0), (24, .ireturn, 1, 0, 0, 0, 0, 0)])]
set_option maxRecDepth 100000 in
theorem mx_ok93 : ∀ q ∈ mx_t93, ∀ en ∈ q.2, mx_gd 93 en := mx_gt_s mx_LLok9 mx_KLok9 mx_JLok9 mx_ARok (by decide +kernel)
def mx_t94 : List (Nat × List mx_En) := [(15, [(0, .aload_n 0, 1, 0, 0, 0, 0, 0), (1, .invokevirtual 34, 3, 92, 0, 0, 0, 0), (4, .bipush 97, 2, 0, 0, 0, 97, 0), (6, .isub, 1, 0, 0, 0, 0, 0), (7, .istore_n 2, 1, 0, 0, 0, 0, 0), (8, .iload_n 2, 1, 0, 0, 0, 0, 0), (9, .iconst 0, 1, 0, 0, 0, 0, 0), (10, .aload_n 1, 1, 0, 0, 0, 0, 0), (11, .getfield 44, 3, 7, 0, 0, 0, 0), (14, .iconst 1, 1, 0, 0, 0, 1, 0)]),
  (28, [(15, .isub, 1, 0, 0, 0, 0, 0), (16, .invokestatic 78, 3, 157, 3, 1, 0, 0), (19, .ifCond .eq 7, 3, 26, 0, 0, 0, 0), (22, .iload_n 2, 1, 0, 0, 0, 0, 0), (23, .goto 4, 3, 27, 0, 0, 0, 0), (26, .iconst (-1), 1, 0, 0, 0, -1, 0), (27, .ireturn, 1, 0, 0, 0, 0, 0)])]
set_option maxRecDepth 100000 in
theorem mx_ok94 : ∀ q ∈ mx_t94, ∀ en ∈ q.2, mx_gd 94 en := mx_gt_s mx_LLok9 mx_KLok9 mx_JLok9 mx_ARok (by decide +kernel)
def mx_t95 : List (Nat × List mx_En) := [(17, [(0, .aload_n 0, 1, 0, 0, 0, 0, 0), (1, .invokespecial 3, 3, 1000, 0, 0, 0, 0), (4, .aload_n 0, 1, 0, 0, 0, 0, 0), (5, .iconst 0, 1, 0, 0, 0, 0, 0), (6, .putfield 9, 3, 10, 0, 0, 0, 0), (9, .aload_n 0, 1, 0, 0, 0, 0, 0), (10, .iconst 0, 1, 0, 0, 0, 0, 0), (11, .putfield 15, 3, 10, 1, 0, 0, 0), (14, .aload_n 0, 1, 0, 0, 0, 0, 0), (15, .bipush 6, 2, 0, 0, 0, 6, 0)]),
  (38, [(17, .newarray .int, 2, 0, 0, 0, 0, 0), (19, .putfield 18, 3, 10, 2, 0, 0, 0), (22, .aload_n 0, 1, 0, 0, 0, 0, 0), (23, .bipush 6, 2, 0, 0, 0, 6, 0), (25, .newarray .int, 2, 0, 0, 0, 0, 0), (27, .putfield 22, 3, 10, 3, 0, 0, 0), (30, .aload_n 0, 1, 0, 0, 0, 0, 0), (31, .new 25, 3, 3, 0, 0, 0, 0), (34, .dup, 1, 0, 0, 0, 0, 0), (35, .invokespecial 27, 3, 21, 0, 1, 0, 0)]),
  (53, [(38, .putfield 28, 3, 10, 4, 0, 0, 0), (41, .aload_n 0, 1, 0, 0, 0, 0, 0), (42, .new 25, 3, 3, 0, 0, 0, 0), (45, .dup, 1, 0, 0, 0, 0, 0), (46, .invokespecial 27, 3, 21, 0, 1, 0, 0), (49, .putfield 32, 3, 10, 5, 0, 0, 0), (52, .return_, 1, 0, 0, 0, 0, 0)])]
set_option maxRecDepth 100000 in
theorem mx_ok95 : ∀ q ∈ mx_t95, ∀ en ∈ q.2, mx_gd 95 en := mx_gt_s mx_LLok10 mx_KLok10 mx_JLok10 mx_ARok (by decide +kernel)
def mx_t96 : List (Nat × List mx_En) := [(18, [(0, .aload_n 0, 1, 0, 0, 0, 0, 0), (1, .iconst 0, 1, 0, 0, 0, 0, 0), (2, .putfield 9, 3, 10, 0, 0, 0, 0), (5, .aload_n 0, 1, 0, 0, 0, 0, 0), (6, .iconst 0, 1, 0, 0, 0, 0, 0), (7, .putfield 15, 3, 10, 1, 0, 0, 0), (10, .aload_n 0, 1, 0, 0, 0, 0, 0), (11, .getfield 18, 3, 10, 2, 0, 0, 0), (14, .iconst 0, 1, 0, 0, 0, 0, 0), (15, .invokestatic 35, 3, 317, 2, 0, 0, 0)]),
  (38, [(18, .aload_n 1, 1, 0, 0, 0, 0, 0), (19, .getfield 41, 3, 7, 0, 0, 0, 0), (22, .aload_n 2, 1, 0, 0, 0, 0, 0), (23, .getfield 41, 3, 7, 0, 0, 0, 0), (26, .if_icmp .eq 4, 3, 30, 0, 0, 0, 0), (29, .return_, 1, 0, 0, 0, 0, 0), (30, .aload_n 0, 1, 0, 0, 0, 0, 0), (31, .getfield 28, 3, 10, 4, 0, 0, 0), (34, .aload_n 1, 1, 0, 0, 0, 0, 0), (35, .invokevirtual 46, 3, 22, 1, 0, 0, 0)]),
  (54, [(38, .aload_n 0, 1, 0, 0, 0, 0, 0), (39, .getfield 32, 3, 10, 5, 0, 0, 0), (42, .aload_n 2, 1, 0, 0, 0, 0, 0), (43, .invokevirtual 46, 3, 22, 1, 0, 0, 0), (46, .aload_n 0, 1, 0, 0, 0, 0, 0), (47, .aload_n 1, 1, 0, 0, 0, 0, 0), (48, .aload_n 2, 1, 0, 0, 0, 0, 0), (49, .iconst 0, 1, 0, 0, 0, 0, 0), (50, .invokevirtual 50, 3, 97, 3, 0, 0, 0), (53, .return_, 1, 0, 0, 0, 0, 0)])]
set_option maxRecDepth 100000 in
theorem mx_ok96 : ∀ q ∈ mx_t96, ∀ en ∈ q.2, mx_gd 96 en := mx_gt_s mx_LLok10 mx_KLok10 mx_JLok10 mx_ARok (by decide +kernel)
def mx_t97 : List (Nat × List mx_En) := [(19, [(0, .iload_n 3, 1, 0, 0, 0, 0, 0), (1, .aload_n 1, 1, 0, 0, 0, 0, 0), (2, .getfield 41, 3, 7, 0, 0, 0, 0), (5, .if_icmp .ge 9, 3, 14, 0, 0, 0, 0), (8, .iload_n 3, 1, 0, 0, 0, 0, 0), (9, .bipush 6, 2, 0, 0, 0, 6, 0), (11, .if_icmp .lt 9, 3, 20, 0, 0, 0, 0), (14, .aload_n 0, 1, 0, 0, 0, 0, 0), (15, .iload_n 3, 1, 0, 0, 0, 0, 0), (16, .invokevirtual 54, 3, 100, 1, 0, 0, 0)]),
  (35, [(19, .return_, 1, 0, 0, 0, 0, 0), (20, .iconst 0, 1, 0, 0, 0, 0, 0), (21, .istore 4, 2, 0, 0, 0, 0, 0), (23, .iload 4, 2, 0, 0, 0, 0, 0), (25, .aload_n 2, 1, 0, 0, 0, 0, 0), (26, .getfield 41, 3, 7, 0, 0, 0, 0), (29, .if_icmp .ge 47, 3, 76, 0, 0, 0, 0), (32, .aload_n 1, 1, 0, 0, 0, 0, 0), (33, .iload_n 3, 1, 0, 0, 0, 0, 0), (34, .aload_n 2, 1, 0, 0, 0, 0, 0)]),
  (57, [(35, .iload 4, 2, 0, 0, 0, 0, 0), (37, .invokestatic 58, 3, 98, 4, 0, 0, 0), (40, .ifCond .eq 30, 3, 70, 0, 0, 0, 0), (43, .aload_n 0, 1, 0, 0, 0, 0, 0), (44, .iload_n 3, 1, 0, 0, 0, 0, 0), (45, .iload 4, 2, 0, 0, 0, 0, 0), (47, .invokevirtual 62, 3, 99, 2, 0, 0, 0), (50, .ifCond .eq 20, 3, 70, 0, 0, 0, 0), (53, .aload_n 0, 1, 0, 0, 0, 0, 0), (54, .getfield 22, 3, 10, 3, 0, 0, 0)]),
  (70, [(57, .iload_n 3, 1, 0, 0, 0, 0, 0), (58, .iload 4, 2, 0, 0, 0, 0, 0), (60, .iastore, 1, 0, 0, 0, 0, 0), (61, .aload_n 0, 1, 0, 0, 0, 0, 0), (62, .aload_n 1, 1, 0, 0, 0, 0, 0), (63, .aload_n 2, 1, 0, 0, 0, 0, 0), (64, .iload_n 3, 1, 0, 0, 0, 0, 0), (65, .iconst 1, 1, 0, 0, 0, 1, 0), (66, .iadd, 1, 0, 0, 0, 0, 0), (67, .invokevirtual 50, 3, 97, 3, 0, 0, 0)]),
  (77, [(70, .iinc 4 1, 3, 0, 0, 0, 1, 0), (73, .goto (-50), 3, 23, 0, 0, 0, 0), (76, .return_, 1, 0, 0, 0, 0, 0)])]
set_option maxRecDepth 100000 in
theorem mx_ok97 : ∀ q ∈ mx_t97, ∀ en ∈ q.2, mx_gd 97 en := mx_gt_s mx_LLok10 mx_KLok10 mx_JLok10 mx_ARok (by decide +kernel)
def mx_t98 : List (Nat × List mx_En) := [(16, [(0, .aload_n 0, 1, 0, 0, 0, 0, 0), (1, .getfield 66, 3, 7, 1, 0, 0, 0), (4, .iload_n 1, 1, 0, 0, 0, 0, 0), (5, .iaload, 1, 0, 0, 0, 0, 0), (6, .aload_n 2, 1, 0, 0, 0, 0, 0), (7, .getfield 66, 3, 7, 1, 0, 0, 0), (10, .iload_n 3, 1, 0, 0, 0, 0, 0), (11, .iaload, 1, 0, 0, 0, 0, 0), (12, .if_icmp .ne 52, 3, 64, 0, 0, 0, 0), (15, .aload_n 0, 1, 0, 0, 0, 0, 0)]),
  (34, [(16, .getfield 69, 3, 7, 2, 0, 0, 0), (19, .iload_n 1, 1, 0, 0, 0, 0, 0), (20, .iaload, 1, 0, 0, 0, 0, 0), (21, .aload_n 2, 1, 0, 0, 0, 0, 0), (22, .getfield 69, 3, 7, 2, 0, 0, 0), (25, .iload_n 3, 1, 0, 0, 0, 0, 0), (26, .iaload, 1, 0, 0, 0, 0, 0), (27, .if_icmp .ne 37, 3, 64, 0, 0, 0, 0), (30, .aload_n 0, 1, 0, 0, 0, 0, 0), (31, .getfield 72, 3, 7, 3, 0, 0, 0)]),
  (50, [(34, .iload_n 1, 1, 0, 0, 0, 0, 0), (35, .iaload, 1, 0, 0, 0, 0, 0), (36, .aload_n 2, 1, 0, 0, 0, 0, 0), (37, .getfield 72, 3, 7, 3, 0, 0, 0), (40, .iload_n 3, 1, 0, 0, 0, 0, 0), (41, .iaload, 1, 0, 0, 0, 0, 0), (42, .if_icmp .ne 22, 3, 64, 0, 0, 0, 0), (45, .aload_n 0, 1, 0, 0, 0, 0, 0), (46, .getfield 75, 3, 7, 4, 0, 0, 0), (49, .iload_n 1, 1, 0, 0, 0, 0, 0)]),
  (66, [(50, .iaload, 1, 0, 0, 0, 0, 0), (51, .aload_n 2, 1, 0, 0, 0, 0, 0), (52, .getfield 75, 3, 7, 4, 0, 0, 0), (55, .iload_n 3, 1, 0, 0, 0, 0, 0), (56, .iaload, 1, 0, 0, 0, 0, 0), (57, .if_icmp .ne 7, 3, 64, 0, 0, 0, 0), (60, .iconst 1, 1, 0, 0, 0, 1, 0), (61, .goto 4, 3, 65, 0, 0, 0, 0), (64, .iconst 0, 1, 0, 0, 0, 0, 0), (65, .ireturn, 1, 0, 0, 0, 0, 0)])]
set_option maxRecDepth 100000 in
theorem mx_ok98 : ∀ q ∈ mx_t98, ∀ en ∈ q.2, mx_gd 98 en := mx_gt_s mx_LLok10 mx_KLok10 mx_JLok10 mx_ARok (by decide +kernel)
def mx_t99 : List (Nat × List mx_En) := [(14, [(0, .iconst 0, 1, 0, 0, 0, 0, 0), (1, .istore_n 3, 1, 0, 0, 0, 0, 0), (2, .iload_n 3, 1, 0, 0, 0, 0, 0), (3, .iload_n 1, 1, 0, 0, 0, 0, 0), (4, .if_icmp .ge 47, 3, 51, 0, 0, 0, 0), (7, .aload_n 0, 1, 0, 0, 0, 0, 0), (8, .getfield 22, 3, 10, 3, 0, 0, 0), (11, .iload_n 3, 1, 0, 0, 0, 0, 0), (12, .iaload, 1, 0, 0, 0, 0, 0), (13, .iload_n 2, 1, 0, 0, 0, 0, 0)]),
  (34, [(14, .if_icmp .eq 29, 3, 43, 0, 0, 0, 0), (17, .aload_n 0, 1, 0, 0, 0, 0, 0), (18, .getfield 28, 3, 10, 4, 0, 0, 0), (21, .iload_n 3, 1, 0, 0, 0, 0, 0), (22, .iload_n 1, 1, 0, 0, 0, 0, 0), (23, .invokevirtual 78, 3, 27, 2, 0, 0, 0), (26, .aload_n 0, 1, 0, 0, 0, 0, 0), (27, .getfield 32, 3, 10, 5, 0, 0, 0), (30, .aload_n 0, 1, 0, 0, 0, 0, 0), (31, .getfield 22, 3, 10, 3, 0, 0, 0)]),
  (52, [(34, .iload_n 3, 1, 0, 0, 0, 0, 0), (35, .iaload, 1, 0, 0, 0, 0, 0), (36, .iload_n 2, 1, 0, 0, 0, 0, 0), (37, .invokevirtual 78, 3, 27, 2, 0, 0, 0), (40, .if_icmp .eq 5, 3, 45, 0, 0, 0, 0), (43, .iconst 0, 1, 0, 0, 0, 0, 0), (44, .ireturn, 1, 0, 0, 0, 0, 0), (45, .iinc 3 1, 3, 0, 0, 0, 1, 0), (48, .goto (-46), 3, 2, 0, 0, 0, 0), (51, .iconst 1, 1, 0, 0, 0, 1, 0)]),
  (53, [(52, .ireturn, 1, 0, 0, 0, 0, 0)])]
set_option maxRecDepth 100000 in
theorem mx_ok99 : ∀ q ∈ mx_t99, ∀ en ∈ q.2, mx_gd 99 en := mx_gt_s mx_LLok10 mx_KLok10 mx_JLok10 mx_ARok (by decide +kernel)
def mx_t100 : List (Nat × List mx_En) := [(13, [(0, .iconst 0, 1, 0, 0, 0, 0, 0), (1, .istore_n 2, 1, 0, 0, 0, 0, 0), (2, .iconst 0, 1, 0, 0, 0, 0, 0), (3, .istore_n 3, 1, 0, 0, 0, 0, 0), (4, .iload_n 3, 1, 0, 0, 0, 0, 0), (5, .iload_n 1, 1, 0, 0, 0, 0, 0), (6, .if_icmp .ge 38, 3, 44, 0, 0, 0, 0), (9, .bipush 10, 2, 0, 0, 0, 10, 0), (11, .iload_n 2, 1, 0, 0, 0, 0, 0), (12, .imul, 1, 0, 0, 0, 0, 0)]),
  (27, [(13, .aload_n 0, 1, 0, 0, 0, 0, 0), (14, .getfield 22, 3, 10, 3, 0, 0, 0), (17, .iload_n 3, 1, 0, 0, 0, 0, 0), (18, .iaload, 1, 0, 0, 0, 0, 0), (19, .iadd, 1, 0, 0, 0, 0, 0), (20, .istore_n 2, 1, 0, 0, 0, 0, 0), (21, .aload_n 0, 1, 0, 0, 0, 0, 0), (22, .getfield 18, 3, 10, 2, 0, 0, 0), (25, .iload_n 3, 1, 0, 0, 0, 0, 0), (26, .dup2, 1, 0, 0, 0, 0, 0)]),
  (41, [(27, .iaload, 1, 0, 0, 0, 0, 0), (28, .iconst 1, 1, 0, 0, 0, 1, 0), (29, .aload_n 0, 1, 0, 0, 0, 0, 0), (30, .getfield 22, 3, 10, 3, 0, 0, 0), (33, .iload_n 3, 1, 0, 0, 0, 0, 0), (34, .iaload, 1, 0, 0, 0, 0, 0), (35, .ishl, 1, 0, 0, 0, 0, 0), (36, .ior, 1, 0, 0, 0, 0, 0), (37, .iastore, 1, 0, 0, 0, 0, 0), (38, .iinc 3 1, 3, 0, 0, 0, 1, 0)]),
  (61, [(41, .goto (-37), 3, 4, 0, 0, 0, 0), (44, .aload_n 0, 1, 0, 0, 0, 0, 0), (45, .getfield 9, 3, 10, 0, 0, 0, 0), (48, .ifCond .ne 8, 3, 56, 0, 0, 0, 0), (51, .aload_n 0, 1, 0, 0, 0, 0, 0), (52, .iload_n 2, 1, 0, 0, 0, 0, 0), (53, .putfield 15, 3, 10, 1, 0, 0, 0), (56, .aload_n 0, 1, 0, 0, 0, 0, 0), (57, .dup, 1, 0, 0, 0, 0, 0), (58, .getfield 9, 3, 10, 0, 0, 0, 0)]),
  (67, [(61, .iconst 1, 1, 0, 0, 0, 1, 0), (62, .iadd, 1, 0, 0, 0, 0, 0), (63, .putfield 9, 3, 10, 0, 0, 0, 0), (66, .return_, 1, 0, 0, 0, 0, 0)])]
set_option maxRecDepth 100000 in
theorem mx_ok100 : ∀ q ∈ mx_t100, ∀ en ∈ q.2, mx_gd 100 en := mx_gt_s mx_LLok10 mx_KLok10 mx_JLok10 mx_ARok (by decide +kernel)
def mx_t101 : List (Nat × List mx_En) := [(21, [(0, .aload_n 0, 1, 0, 0, 0, 0, 0), (1, .invokespecial 1, 3, 1000, 0, 0, 0, 0), (4, .aload_n 0, 1, 0, 0, 0, 0, 0), (5, .new 7, 3, 9, 0, 0, 0, 0), (8, .dup, 1, 0, 0, 0, 0, 0), (9, .invokespecial 9, 3, 84, 0, 1, 0, 0), (12, .putfield 10, 3, 11, 0, 0, 0, 0), (15, .aload_n 0, 1, 0, 0, 0, 0, 0), (16, .bipush 12, 2, 0, 0, 0, 12, 0), (18, .anewarray 16, 3, 0, 0, 0, 0, 0)]),
  (41, [(21, .putfield 18, 3, 11, 1, 0, 0, 0), (24, .aload_n 0, 1, 0, 0, 0, 0, 0), (25, .iconst 0, 1, 0, 0, 0, 0, 0), (26, .putfield 22, 3, 11, 2, 0, 0, 0), (29, .aload_n 0, 1, 0, 0, 0, 0, 0), (30, .new 16, 3, 7, 0, 0, 0, 0), (33, .dup, 1, 0, 0, 0, 0, 0), (34, .invokespecial 26, 3, 58, 0, 1, 0, 0), (37, .putfield 27, 3, 11, 3, 0, 0, 0), (40, .aload_n 0, 1, 0, 0, 0, 0, 0)]),
  (63, [(41, .new 31, 3, 3, 0, 0, 0, 0), (44, .dup, 1, 0, 0, 0, 0, 0), (45, .invokespecial 33, 3, 21, 0, 1, 0, 0), (48, .putfield 34, 3, 11, 4, 0, 0, 0), (51, .aload_n 0, 1, 0, 0, 0, 0, 0), (52, .new 31, 3, 3, 0, 0, 0, 0), (55, .dup, 1, 0, 0, 0, 0, 0), (56, .invokespecial 33, 3, 21, 0, 1, 0, 0), (59, .putfield 38, 3, 11, 5, 0, 0, 0), (62, .aload_n 0, 1, 0, 0, 0, 0, 0)]),
  (85, [(63, .new 41, 3, 10, 0, 0, 0, 0), (66, .dup, 1, 0, 0, 0, 0, 0), (67, .invokespecial 43, 3, 95, 0, 1, 0, 0), (70, .putfield 44, 3, 11, 6, 0, 0, 0), (73, .aload_n 0, 1, 0, 0, 0, 0, 0), (74, .new 48, 3, 5, 0, 0, 0, 0), (77, .dup, 1, 0, 0, 0, 0, 0), (78, .invokespecial 50, 3, 42, 0, 1, 0, 0), (81, .putfield 51, 3, 11, 7, 0, 0, 0), (84, .aload_n 0, 1, 0, 0, 0, 0, 0)]),
  (107, [(85, .new 55, 3, 1, 0, 0, 0, 0), (88, .dup, 1, 0, 0, 0, 0, 0), (89, .invokespecial 57, 3, 11, 0, 1, 0, 0), (92, .putfield 58, 3, 11, 8, 0, 0, 0), (95, .aload_n 0, 1, 0, 0, 0, 0, 0), (96, .new 62, 3, 0, 0, 0, 0, 0), (99, .dup, 1, 0, 0, 0, 0, 0), (100, .invokespecial 64, 3, 1, 0, 1, 0, 0), (103, .putfield 65, 3, 11, 9, 0, 0, 0), (106, .aload_n 0, 1, 0, 0, 0, 0, 0)]),
  (129, [(107, .new 69, 3, 6, 0, 0, 0, 0), (110, .dup, 1, 0, 0, 0, 0, 0), (111, .invokespecial 71, 3, 52, 0, 1, 0, 0), (114, .putfield 72, 3, 11, 10, 0, 0, 0), (117, .aload_n 0, 1, 0, 0, 0, 0, 0), (118, .new 76, 3, 2, 0, 0, 0, 0), (121, .dup, 1, 0, 0, 0, 0, 0), (122, .invokespecial 78, 3, 16, 0, 1, 0, 0), (125, .putfield 79, 3, 11, 11, 0, 0, 0), (128, .aload_n 0, 1, 0, 0, 0, 0, 0)]),
  (151, [(129, .new 83, 3, 4, 0, 0, 0, 0), (132, .dup, 1, 0, 0, 0, 0, 0), (133, .invokespecial 85, 3, 36, 0, 1, 0, 0), (136, .putfield 86, 3, 11, 12, 0, 0, 0), (139, .aload_n 0, 1, 0, 0, 0, 0, 0), (140, .new 90, 3, 8, 0, 0, 0, 0), (143, .dup, 1, 0, 0, 0, 0, 0), (144, .invokespecial 92, 3, 69, 0, 1, 0, 0), (147, .putfield 93, 3, 11, 13, 0, 0, 0), (150, .return_, 1, 0, 0, 0, 0, 0)])]
set_option maxRecDepth 100000 in
theorem mx_ok101 : ∀ q ∈ mx_t101, ∀ en ∈ q.2, mx_gd 101 en := mx_gt_s mx_LLok11 mx_KLok11 mx_JLok11 mx_ARok (by decide +kernel)
def mx_t102 : List (Nat × List mx_En) := [(18, [(0, .iload_n 1, 1, 0, 0, 0, 0, 0), (1, .iconst 1, 1, 0, 0, 0, 1, 0), (2, .iconst 4, 1, 0, 0, 0, 4, 0), (3, .invokestatic 97, 3, 157, 3, 0, 0, 0), (6, .ifCond .ne 5, 3, 11, 0, 0, 0, 0), (9, .iconst (-1), 1, 0, 0, 0, -1, 0), (10, .ireturn, 1, 0, 0, 0, 0, 0), (11, .aload_n 0, 1, 0, 0, 0, 0, 0), (12, .getfield 10, 3, 11, 0, 0, 0, 0), (15, .getfield 101, 3, 9, 1, 0, 0, 0)]),
  (34, [(18, .iload_n 1, 1, 0, 0, 0, 0, 0), (19, .iadd, 1, 0, 0, 0, 0, 0), (20, .bipush 120, 2, 0, 0, 0, 120, 0), (22, .if_icmp .le 6, 3, 28, 0, 0, 0, 0), (25, .bipush (-3), 2, 0, 0, 0, -3, 0), (27, .ireturn, 1, 0, 0, 0, 0, 0), (28, .aload_n 0, 1, 0, 0, 0, 0, 0), (29, .getfield 10, 3, 11, 0, 0, 0, 0), (32, .iload_n 1, 1, 0, 0, 0, 0, 0), (33, .iload_n 2, 1, 0, 0, 0, 0, 0)]),
  (45, [(34, .invokevirtual 104, 3, 85, 2, 0, 0, 0), (37, .aload_n 0, 1, 0, 0, 0, 0, 0), (38, .getfield 10, 3, 11, 0, 0, 0, 0), (41, .getfield 101, 3, 9, 1, 0, 0, 0), (44, .ireturn, 1, 0, 0, 0, 0, 0)])]
set_option maxRecDepth 100000 in
theorem mx_ok102 : ∀ q ∈ mx_t102, ∀ en ∈ q.2, mx_gd 102 en := mx_gt_s mx_LLok11 mx_KLok11 mx_JLok11 mx_ARok (by decide +kernel)
def mx_t103 : List (Nat × List mx_En) := [(20, [(0, .aload_n 0, 1, 0, 0, 0, 0, 0), (1, .getfield 10, 3, 11, 0, 0, 0, 0), (4, .aload_n 0, 1, 0, 0, 0, 0, 0), (5, .getfield 27, 3, 11, 3, 0, 0, 0), (8, .invokevirtual 108, 3, 86, 1, 0, 0, 0), (11, .istore_n 1, 1, 0, 0, 0, 0, 0), (12, .iload_n 1, 1, 0, 0, 0, 0, 0), (13, .ifCond .lt 16, 3, 29, 0, 0, 0, 0), (16, .aload_n 0, 1, 0, 0, 0, 0, 0), (17, .getfield 10, 3, 11, 0, 0, 0, 0)]),
  (37, [(20, .iconst 0, 1, 0, 0, 0, 0, 0), (21, .putfield 101, 3, 9, 1, 0, 0, 0), (24, .bipush (-100), 2, 0, 0, 0, -100, 0), (26, .iload_n 1, 1, 0, 0, 0, 0, 0), (27, .isub, 1, 0, 0, 0, 0, 0), (28, .ireturn, 1, 0, 0, 0, 0, 0), (29, .aload_n 0, 1, 0, 0, 0, 0, 0), (30, .aload_n 0, 1, 0, 0, 0, 0, 0), (31, .getfield 27, 3, 11, 3, 0, 0, 0), (34, .getfield 112, 3, 7, 6, 0, 0, 0)]),
  (58, [(37, .invokevirtual 115, 3, 168, 1, 0, 0, 0), (40, .ifCond .eq 6, 3, 46, 0, 0, 0, 0), (43, .bipush (-3), 2, 0, 0, 0, -3, 0), (45, .ireturn, 1, 0, 0, 0, 0, 0), (46, .aload_n 0, 1, 0, 0, 0, 0, 0), (47, .getfield 10, 3, 11, 0, 0, 0, 0), (50, .iconst 0, 1, 0, 0, 0, 0, 0), (51, .putfield 101, 3, 9, 1, 0, 0, 0), (54, .aload_n 0, 1, 0, 0, 0, 0, 0), (55, .invokevirtual 119, 3, 169, 0, 0, 0, 0)]),
  (59, [(58, .ireturn, 1, 0, 0, 0, 0, 0)])]
set_option maxRecDepth 100000 in
theorem mx_ok103 : ∀ q ∈ mx_t103, ∀ en ∈ q.2, mx_gd 103 en := mx_gt_s mx_LLok11 mx_KLok11 mx_JLok11 mx_ARok (by decide +kernel)
def mx_t104 : List (Nat × List mx_En) := [(17, [(0, .aload_n 0, 1, 0, 0, 0, 0, 0), (1, .iload_n 1, 1, 0, 0, 0, 0, 0), (2, .invokevirtual 123, 3, 166, 1, 0, 0, 0), (5, .astore_n 3, 1, 0, 0, 0, 0, 0), (6, .aload_n 3, 1, 0, 0, 0, 0, 0), (7, .ifnonnull 6, 3, 13, 0, 0, 0, 0), (10, .ldc 127, 2, 0, 0, 0, -2000000000, 0), (12, .ireturn, 1, 0, 0, 0, 0, 0), (13, .iload_n 2, 1, 0, 0, 0, 0, 0), (14, .ifCond .ne 8, 3, 22, 0, 0, 0, 0)]),
  (33, [(17, .aload_n 3, 1, 0, 0, 0, 0, 0), (18, .getfield 128, 3, 7, 0, 0, 0, 0), (21, .ireturn, 1, 0, 0, 0, 0, 0), (22, .iload_n 2, 1, 0, 0, 0, 0, 0), (23, .iconst 1, 1, 0, 0, 0, 1, 0), (24, .if_icmp .ne 8, 3, 32, 0, 0, 0, 0), (27, .aload_n 3, 1, 0, 0, 0, 0, 0), (28, .getfield 112, 3, 7, 6, 0, 0, 0), (31, .ireturn, 1, 0, 0, 0, 0, 0), (32, .iload_n 2, 1, 0, 0, 0, 0, 0)]),
  (51, [(33, .iconst 2, 1, 0, 0, 0, 2, 0), (34, .if_icmp .ne 8, 3, 42, 0, 0, 0, 0), (37, .aload_n 3, 1, 0, 0, 0, 0, 0), (38, .invokevirtual 131, 3, 60, 0, 0, 0, 0), (41, .ireturn, 1, 0, 0, 0, 0, 0), (42, .iload_n 2, 1, 0, 0, 0, 0, 0), (43, .bipush 10, 2, 0, 0, 0, 10, 0), (45, .if_icmp .lt 14, 3, 59, 0, 0, 0, 0), (48, .iload_n 2, 1, 0, 0, 0, 0, 0), (49, .bipush 10, 2, 0, 0, 0, 10, 0)]),
  (96, [(51, .irem, 1, 0, 0, 0, 0, 0), (52, .aload_n 3, 1, 0, 0, 0, 0, 0), (53, .getfield 128, 3, 7, 0, 0, 0, 0), (56, .if_icmp .lt 6, 3, 62, 0, 0, 0, 0), (59, .ldc 127, 2, 0, 0, 0, -2000000000, 0), (61, .ireturn, 1, 0, 0, 0, 0, 0), (62, .iload_n 2, 1, 0, 0, 0, 0, 0), (63, .bipush 10, 2, 0, 0, 0, 10, 0), (65, .idiv, 1, 0, 0, 0, 0, 0), (66, .tableswitch 70 1 4 #[30, 40, 50, 60], 30, 0, 0, 0, 0, 0)]),
  (111, [(96, .aload_n 3, 1, 0, 0, 0, 0, 0), (97, .getfield 134, 3, 7, 1, 0, 0, 0), (100, .iload_n 2, 1, 0, 0, 0, 0, 0), (101, .bipush 10, 2, 0, 0, 0, 10, 0), (103, .irem, 1, 0, 0, 0, 0, 0), (104, .iaload, 1, 0, 0, 0, 0, 0), (105, .ireturn, 1, 0, 0, 0, 0, 0), (106, .aload_n 3, 1, 0, 0, 0, 0, 0), (107, .getfield 138, 3, 7, 2, 0, 0, 0), (110, .iload_n 2, 1, 0, 0, 0, 0, 0)]),
  (125, [(111, .bipush 10, 2, 0, 0, 0, 10, 0), (113, .irem, 1, 0, 0, 0, 0, 0), (114, .iaload, 1, 0, 0, 0, 0, 0), (115, .ireturn, 1, 0, 0, 0, 0, 0), (116, .aload_n 3, 1, 0, 0, 0, 0, 0), (117, .getfield 141, 3, 7, 3, 0, 0, 0), (120, .iload_n 2, 1, 0, 0, 0, 0, 0), (121, .bipush 10, 2, 0, 0, 0, 10, 0), (123, .irem, 1, 0, 0, 0, 0, 0), (124, .iaload, 1, 0, 0, 0, 0, 0)]),
  (139, [(125, .ireturn, 1, 0, 0, 0, 0, 0), (126, .aload_n 3, 1, 0, 0, 0, 0, 0), (127, .getfield 144, 3, 7, 4, 0, 0, 0), (130, .iload_n 2, 1, 0, 0, 0, 0, 0), (131, .bipush 10, 2, 0, 0, 0, 10, 0), (133, .irem, 1, 0, 0, 0, 0, 0), (134, .iaload, 1, 0, 0, 0, 0, 0), (135, .ireturn, 1, 0, 0, 0, 0, 0), (136, .ldc 127, 2, 0, 0, 0, -2000000000, 0), (138, .ireturn, 1, 0, 0, 0, 0, 0)])]
set_option maxRecDepth 100000 in
theorem mx_ok104 : ∀ q ∈ mx_t104, ∀ en ∈ q.2, mx_gd 104 en := mx_gt_s mx_LLok11 mx_KLok11 mx_JLok11 mx_ARok (by decide +kernel)
def mx_t105 : List (Nat × List mx_En) := [(19, [(0, .aload_n 0, 1, 0, 0, 0, 0, 0), (1, .iload_n 1, 1, 0, 0, 0, 0, 0), (2, .invokevirtual 123, 3, 166, 1, 0, 0, 0), (5, .astore 5, 2, 0, 0, 0, 0, 0), (7, .aload 5, 2, 0, 0, 0, 0, 0), (9, .iload_n 2, 1, 0, 0, 0, 0, 0), (10, .invokestatic 147, 3, 164, 2, 0, 0, 0), (13, .ifCond .eq 22, 3, 35, 0, 0, 0, 0), (16, .aload 5, 2, 0, 0, 0, 0, 0), (18, .iload_n 3, 1, 0, 0, 0, 0, 0)]),
  (39, [(19, .invokestatic 147, 3, 164, 2, 0, 0, 0), (22, .ifCond .eq 13, 3, 35, 0, 0, 0, 0), (25, .iload 4, 2, 0, 0, 0, 0, 0), (27, .iconst 0, 1, 0, 0, 0, 0, 0), (28, .iconst 2, 1, 0, 0, 0, 2, 0), (29, .invokestatic 97, 3, 157, 3, 0, 0, 0), (32, .ifCond .ne 5, 3, 37, 0, 0, 0, 0), (35, .iconst (-1), 1, 0, 0, 0, -1, 0), (36, .ireturn, 1, 0, 0, 0, 0, 0), (37, .aload 5, 2, 0, 0, 0, 0, 0)]),
  (59, [(39, .iload_n 2, 1, 0, 0, 0, 0, 0), (40, .iload_n 3, 1, 0, 0, 0, 0, 0), (41, .invokevirtual 151, 3, 61, 2, 0, 0, 0), (44, .istore 6, 2, 0, 0, 0, 0, 0), (46, .iload 6, 2, 0, 0, 0, 0, 0), (48, .ifCond .ge 6, 3, 54, 0, 0, 0, 0), (51, .bipush (-2), 2, 0, 0, 0, -2, 0), (53, .ireturn, 1, 0, 0, 0, 0, 0), (54, .iload 4, 2, 0, 0, 0, 0, 0), (56, .ifCond .ne 12, 3, 68, 0, 0, 0, 0)]),
  (79, [(59, .aload 5, 2, 0, 0, 0, 0, 0), (61, .getfield 155, 3, 7, 5, 0, 0, 0), (64, .iload 6, 2, 0, 0, 0, 0, 0), (66, .iadd, 1, 0, 0, 0, 0, 0), (67, .ireturn, 1, 0, 0, 0, 0, 0), (68, .iload 4, 2, 0, 0, 0, 0, 0), (70, .iconst 1, 1, 0, 0, 0, 1, 0), (71, .if_icmp .ne 14, 3, 85, 0, 0, 0, 0), (74, .aload 5, 2, 0, 0, 0, 0, 0), (76, .getfield 158, 3, 7, 9, 0, 0, 0)]),
  (94, [(79, .iload 6, 2, 0, 0, 0, 0, 0), (81, .iaload, 1, 0, 0, 0, 0, 0), (82, .goto 11, 3, 93, 0, 0, 0, 0), (85, .aload 5, 2, 0, 0, 0, 0, 0), (87, .getfield 161, 3, 7, 10, 0, 0, 0), (90, .iload 6, 2, 0, 0, 0, 0, 0), (92, .iaload, 1, 0, 0, 0, 0, 0), (93, .ireturn, 1, 0, 0, 0, 0, 0)])]
set_option maxRecDepth 100000 in
theorem mx_ok105 : ∀ q ∈ mx_t105, ∀ en ∈ q.2, mx_gd 105 en := mx_gt_s mx_LLok11 mx_KLok11 mx_JLok11 mx_ARok (by decide +kernel)
def mx_t106 : List (Nat × List mx_En) := [(18, [(0, .aload_n 0, 1, 0, 0, 0, 0, 0), (1, .iload_n 1, 1, 0, 0, 0, 0, 0), (2, .invokevirtual 123, 3, 166, 1, 0, 0, 0), (5, .astore 5, 2, 0, 0, 0, 0, 0), (7, .aload 5, 2, 0, 0, 0, 0, 0), (9, .iload_n 2, 1, 0, 0, 0, 0, 0), (10, .invokestatic 147, 3, 164, 2, 0, 0, 0), (13, .ifCond .eq 12, 3, 25, 0, 0, 0, 0), (16, .iload_n 3, 1, 0, 0, 0, 0, 0), (17, .iconst 0, 1, 0, 0, 0, 0, 0)]),
  (35, [(18, .iconst 2, 1, 0, 0, 0, 2, 0), (19, .invokestatic 97, 3, 157, 3, 0, 0, 0), (22, .ifCond .ne 5, 3, 27, 0, 0, 0, 0), (25, .iconst (-1), 1, 0, 0, 0, -1, 0), (26, .ireturn, 1, 0, 0, 0, 0, 0), (27, .iload 4, 2, 0, 0, 0, 0, 0), (29, .iconst 0, 1, 0, 0, 0, 0, 0), (30, .iload_n 3, 1, 0, 0, 0, 0, 0), (31, .iconst 2, 1, 0, 0, 0, 2, 0), (32, .if_icmp .ne 7, 3, 39, 0, 0, 0, 0)]),
  (53, [(35, .iconst 1, 1, 0, 0, 0, 1, 0), (36, .goto 5, 3, 41, 0, 0, 0, 0), (39, .bipush 9, 2, 0, 0, 0, 9, 0), (41, .invokestatic 97, 3, 157, 3, 0, 0, 0), (44, .ifCond .ne 5, 3, 49, 0, 0, 0, 0), (47, .iconst (-1), 1, 0, 0, 0, -1, 0), (48, .ireturn, 1, 0, 0, 0, 0, 0), (49, .aload_n 0, 1, 0, 0, 0, 0, 0), (50, .aload 5, 2, 0, 0, 0, 0, 0), (52, .iload_n 3, 1, 0, 0, 0, 0, 0)]),
  (60, [(53, .iload_n 2, 1, 0, 0, 0, 0, 0), (54, .iload 4, 2, 0, 0, 0, 0, 0), (56, .invokevirtual 164, 3, 170, 4, 0, 0, 0), (59, .ireturn, 1, 0, 0, 0, 0, 0)])]
set_option maxRecDepth 100000 in
theorem mx_ok106 : ∀ q ∈ mx_t106, ∀ en ∈ q.2, mx_gd 106 en := mx_gt_s mx_LLok11 mx_KLok11 mx_JLok11 mx_ARok (by decide +kernel)
def mx_t107 : List (Nat × List mx_En) := [(19, [(0, .aload_n 0, 1, 0, 0, 0, 0, 0), (1, .iload_n 1, 1, 0, 0, 0, 0, 0), (2, .invokevirtual 123, 3, 166, 1, 0, 0, 0), (5, .astore 5, 2, 0, 0, 0, 0, 0), (7, .aload 5, 2, 0, 0, 0, 0, 0), (9, .iload_n 2, 1, 0, 0, 0, 0, 0), (10, .invokestatic 147, 3, 164, 2, 0, 0, 0), (13, .ifCond .eq 23, 3, 36, 0, 0, 0, 0), (16, .aload 5, 2, 0, 0, 0, 0, 0), (18, .iload_n 3, 1, 0, 0, 0, 0, 0)]),
  (40, [(19, .invokestatic 147, 3, 164, 2, 0, 0, 0), (22, .ifCond .eq 14, 3, 36, 0, 0, 0, 0), (25, .iload 4, 2, 0, 0, 0, 0, 0), (27, .iconst 0, 1, 0, 0, 0, 0, 0), (28, .bipush 9, 2, 0, 0, 0, 9, 0), (30, .invokestatic 97, 3, 157, 3, 0, 0, 0), (33, .ifCond .ne 5, 3, 38, 0, 0, 0, 0), (36, .iconst (-1), 1, 0, 0, 0, -1, 0), (37, .ireturn, 1, 0, 0, 0, 0, 0), (38, .aload 5, 2, 0, 0, 0, 0, 0)]),
  (59, [(40, .iload_n 2, 1, 0, 0, 0, 0, 0), (41, .iload_n 3, 1, 0, 0, 0, 0, 0), (42, .invokevirtual 151, 3, 61, 2, 0, 0, 0), (45, .istore 6, 2, 0, 0, 0, 0, 0), (47, .iload 6, 2, 0, 0, 0, 0, 0), (49, .ifCond .ge 6, 3, 55, 0, 0, 0, 0), (52, .bipush (-2), 2, 0, 0, 0, -2, 0), (54, .ireturn, 1, 0, 0, 0, 0, 0), (55, .iload 4, 2, 0, 0, 0, 0, 0), (57, .aload 5, 2, 0, 0, 0, 0, 0)]),
  (76, [(59, .getfield 158, 3, 7, 9, 0, 0, 0), (62, .iload 6, 2, 0, 0, 0, 0, 0), (64, .iaload, 1, 0, 0, 0, 0, 0), (65, .if_icmp .le 5, 3, 70, 0, 0, 0, 0), (68, .iconst (-1), 1, 0, 0, 0, -1, 0), (69, .ireturn, 1, 0, 0, 0, 0, 0), (70, .aload_n 0, 1, 0, 0, 0, 0, 0), (71, .aload 5, 2, 0, 0, 0, 0, 0), (73, .iconst 4, 1, 0, 0, 0, 4, 0), (74, .iload 6, 2, 0, 0, 0, 0, 0)]),
  (96, [(76, .aload 5, 2, 0, 0, 0, 0, 0), (78, .getfield 158, 3, 7, 9, 0, 0, 0), (81, .iload 6, 2, 0, 0, 0, 0, 0), (83, .iaload, 1, 0, 0, 0, 0, 0), (84, .iload 4, 2, 0, 0, 0, 0, 0), (86, .invokestatic 168, 3, 65, 2, 0, 0, 0), (89, .invokevirtual 164, 3, 170, 4, 0, 0, 0), (92, .bipush 10, 2, 0, 0, 0, 10, 0), (94, .irem, 1, 0, 0, 0, 0, 0), (95, .ireturn, 1, 0, 0, 0, 0, 0)])]
set_option maxRecDepth 100000 in
theorem mx_ok107 : ∀ q ∈ mx_t107, ∀ en ∈ q.2, mx_gd 107 en := mx_gt_s mx_LLok11 mx_KLok11 mx_JLok11 mx_ARok (by decide +kernel)
def mx_t108 : List (Nat × List mx_En) := [(18, [(0, .aload_n 0, 1, 0, 0, 0, 0, 0), (1, .iload_n 1, 1, 0, 0, 0, 0, 0), (2, .invokevirtual 123, 3, 166, 1, 0, 0, 0), (5, .astore 4, 2, 0, 0, 0, 0, 0), (7, .aload 4, 2, 0, 0, 0, 0, 0), (9, .iload_n 2, 1, 0, 0, 0, 0, 0), (10, .invokestatic 147, 3, 164, 2, 0, 0, 0), (13, .ifCond .eq 17, 3, 30, 0, 0, 0, 0), (16, .iload_n 3, 1, 0, 0, 0, 0, 0), (17, .iconst (-1), 1, 0, 0, 0, -1, 0)]),
  (37, [(18, .if_icmp .eq 14, 3, 32, 0, 0, 0, 0), (21, .aload 4, 2, 0, 0, 0, 0, 0), (23, .iload_n 3, 1, 0, 0, 0, 0, 0), (24, .invokestatic 147, 3, 164, 2, 0, 0, 0), (27, .ifCond .ne 5, 3, 32, 0, 0, 0, 0), (30, .iconst (-1), 1, 0, 0, 0, -1, 0), (31, .ireturn, 1, 0, 0, 0, 0, 0), (32, .iload_n 3, 1, 0, 0, 0, 0, 0), (33, .iconst (-1), 1, 0, 0, 0, -1, 0), (34, .if_icmp .ne 43, 3, 77, 0, 0, 0, 0)]),
  (54, [(37, .aload 4, 2, 0, 0, 0, 0, 0), (39, .getfield 134, 3, 7, 1, 0, 0, 0), (42, .iload_n 2, 1, 0, 0, 0, 0, 0), (43, .iaload, 1, 0, 0, 0, 0, 0), (44, .iconst 1, 1, 0, 0, 0, 1, 0), (45, .if_icmp .gt 6, 3, 51, 0, 0, 0, 0), (48, .bipush (-4), 2, 0, 0, 0, -4, 0), (50, .ireturn, 1, 0, 0, 0, 0, 0), (51, .aload_n 0, 1, 0, 0, 0, 0, 0), (52, .aload 4, 2, 0, 0, 0, 0, 0)]),
  (69, [(54, .iconst 3, 1, 0, 0, 0, 3, 0), (55, .iload_n 2, 1, 0, 0, 0, 0, 0), (56, .aload 4, 2, 0, 0, 0, 0, 0), (58, .getfield 134, 3, 7, 1, 0, 0, 0), (61, .iload_n 2, 1, 0, 0, 0, 0, 0), (62, .iaload, 1, 0, 0, 0, 0, 0), (63, .iconst 1, 1, 0, 0, 0, 1, 0), (64, .isub, 1, 0, 0, 0, 0, 0), (65, .invokevirtual 164, 3, 170, 4, 0, 0, 0), (68, .pop, 1, 0, 0, 0, 0, 0)]),
  (86, [(69, .aload 4, 2, 0, 0, 0, 0, 0), (71, .getfield 134, 3, 7, 1, 0, 0, 0), (74, .iload_n 2, 1, 0, 0, 0, 0, 0), (75, .iaload, 1, 0, 0, 0, 0, 0), (76, .ireturn, 1, 0, 0, 0, 0, 0), (77, .aload 4, 2, 0, 0, 0, 0, 0), (79, .iload_n 2, 1, 0, 0, 0, 0, 0), (80, .iload_n 3, 1, 0, 0, 0, 0, 0), (81, .invokevirtual 151, 3, 61, 2, 0, 0, 0), (84, .istore 5, 2, 0, 0, 0, 0, 0)]),
  (104, [(86, .iload 5, 2, 0, 0, 0, 0, 0), (88, .ifCond .ge 6, 3, 94, 0, 0, 0, 0), (91, .bipush (-2), 2, 0, 0, 0, -2, 0), (93, .ireturn, 1, 0, 0, 0, 0, 0), (94, .aload 4, 2, 0, 0, 0, 0, 0), (96, .getfield 158, 3, 7, 9, 0, 0, 0), (99, .iload 5, 2, 0, 0, 0, 0, 0), (101, .iaload, 1, 0, 0, 0, 0, 0), (102, .iconst 1, 1, 0, 0, 0, 1, 0), (103, .isub, 1, 0, 0, 0, 0, 0)]),
  (121, [(104, .istore 6, 2, 0, 0, 0, 0, 0), (106, .iload 6, 2, 0, 0, 0, 0, 0), (108, .iconst 1, 1, 0, 0, 0, 1, 0), (109, .if_icmp .ge 6, 3, 115, 0, 0, 0, 0), (112, .bipush (-4), 2, 0, 0, 0, -4, 0), (114, .ireturn, 1, 0, 0, 0, 0, 0), (115, .aload_n 0, 1, 0, 0, 0, 0, 0), (116, .aload 4, 2, 0, 0, 0, 0, 0), (118, .iconst 4, 1, 0, 0, 0, 4, 0), (119, .iload 5, 2, 0, 0, 0, 0, 0)]),
  (143, [(121, .iload 6, 2, 0, 0, 0, 0, 0), (123, .aload 4, 2, 0, 0, 0, 0, 0), (125, .getfield 161, 3, 7, 10, 0, 0, 0), (128, .iload 5, 2, 0, 0, 0, 0, 0), (130, .iaload, 1, 0, 0, 0, 0, 0), (131, .iload 6, 2, 0, 0, 0, 0, 0), (133, .invokestatic 171, 3, 4, 0, 2, 0, 0), (136, .invokestatic 168, 3, 65, 2, 0, 0, 0), (139, .invokevirtual 164, 3, 170, 4, 0, 0, 0), (142, .pop, 1, 0, 0, 0, 0, 0)]),
  (146, [(143, .iload 6, 2, 0, 0, 0, 0, 0), (145, .ireturn, 1, 0, 0, 0, 0, 0)])]
set_option maxRecDepth 100000 in
theorem mx_ok108 : ∀ q ∈ mx_t108, ∀ en ∈ q.2, mx_gd 108 en := mx_gt_s mx_LLok11 mx_KLok11 mx_JLok11 mx_ARok (by decide +kernel)
def mx_t109 : List (Nat × List mx_En) := [(20, [(0, .aload_n 0, 1, 0, 0, 0, 0, 0), (1, .iload_n 1, 1, 0, 0, 0, 0, 0), (2, .invokevirtual 123, 3, 166, 1, 0, 0, 0), (5, .astore 4, 2, 0, 0, 0, 0, 0), (7, .aload 4, 2, 0, 0, 0, 0, 0), (9, .ifnull 19, 3, 28, 0, 0, 0, 0), (12, .iload_n 2, 1, 0, 0, 0, 0, 0), (13, .invokestatic 176, 3, 158, 1, 0, 0, 0), (16, .ifCond .eq 12, 3, 28, 0, 0, 0, 0), (19, .iload_n 3, 1, 0, 0, 0, 0, 0)]),
  (39, [(20, .iconst 0, 1, 0, 0, 0, 0, 0), (21, .iconst 1, 1, 0, 0, 0, 1, 0), (22, .invokestatic 97, 3, 157, 3, 0, 0, 0), (25, .ifCond .ne 5, 3, 30, 0, 0, 0, 0), (28, .iconst (-1), 1, 0, 0, 0, -1, 0), (29, .ireturn, 1, 0, 0, 0, 0, 0), (30, .aload_n 0, 1, 0, 0, 0, 0, 0), (31, .getfield 34, 3, 11, 4, 0, 0, 0), (34, .aload 4, 2, 0, 0, 0, 0, 0), (36, .invokevirtual 179, 3, 22, 1, 0, 0, 0)]),
  (55, [(39, .iload_n 3, 1, 0, 0, 0, 0, 0), (40, .ifCond .ne 21, 3, 61, 0, 0, 0, 0), (43, .aload_n 0, 1, 0, 0, 0, 0, 0), (44, .getfield 34, 3, 11, 4, 0, 0, 0), (47, .iload_n 2, 1, 0, 0, 0, 0, 0), (48, .bipush 10, 2, 0, 0, 0, 10, 0), (50, .idiv, 1, 0, 0, 0, 0, 0), (51, .iload_n 2, 1, 0, 0, 0, 0, 0), (52, .bipush 10, 2, 0, 0, 0, 10, 0), (54, .irem, 1, 0, 0, 0, 0, 0)]),
  (73, [(55, .invokevirtual 183, 3, 31, 2, 0, 0, 0), (58, .goto 18, 3, 76, 0, 0, 0, 0), (61, .aload_n 0, 1, 0, 0, 0, 0, 0), (62, .getfield 34, 3, 11, 4, 0, 0, 0), (65, .iload_n 2, 1, 0, 0, 0, 0, 0), (66, .bipush 10, 2, 0, 0, 0, 10, 0), (68, .idiv, 1, 0, 0, 0, 0, 0), (69, .iload_n 2, 1, 0, 0, 0, 0, 0), (70, .bipush 10, 2, 0, 0, 0, 10, 0), (72, .irem, 1, 0, 0, 0, 0, 0)]),
  (77, [(73, .invokevirtual 186, 3, 32, 2, 0, 0, 0), (76, .ireturn, 1, 0, 0, 0, 0, 0)])]
set_option maxRecDepth 100000 in
theorem mx_ok109 : ∀ q ∈ mx_t109, ∀ en ∈ q.2, mx_gd 109 en := mx_gt_s mx_LLok11 mx_KLok11 mx_JLok11 mx_ARok (by decide +kernel)
def mx_t110 : List (Nat × List mx_En) := [(20, [(0, .aload_n 0, 1, 0, 0, 0, 0, 0), (1, .iload_n 1, 1, 0, 0, 0, 0, 0), (2, .invokevirtual 123, 3, 166, 1, 0, 0, 0), (5, .astore 4, 2, 0, 0, 0, 0, 0), (7, .aload 4, 2, 0, 0, 0, 0, 0), (9, .ifnull 23, 3, 32, 0, 0, 0, 0), (12, .iload_n 2, 1, 0, 0, 0, 0, 0), (13, .invokestatic 176, 3, 158, 1, 0, 0, 0), (16, .ifCond .eq 16, 3, 32, 0, 0, 0, 0), (19, .iload_n 3, 1, 0, 0, 0, 0, 0)]),
  (42, [(20, .iconst 0, 1, 0, 0, 0, 0, 0), (21, .aload 4, 2, 0, 0, 0, 0, 0), (23, .invokevirtual 131, 3, 60, 0, 0, 0, 0), (26, .invokestatic 97, 3, 157, 3, 0, 0, 0), (29, .ifCond .ne 7, 3, 36, 0, 0, 0, 0), (32, .ldc2_w 189, 3, 0, 0, 0, 0, -9223372036854775808), (35, .lreturn, 1, 0, 0, 0, 0, 0), (36, .aload_n 0, 1, 0, 0, 0, 0, 0), (37, .getfield 34, 3, 11, 4, 0, 0, 0), (40, .aload 4, 2, 0, 0, 0, 0, 0)]),
  (60, [(42, .invokevirtual 179, 3, 22, 1, 0, 0, 0), (45, .aload_n 0, 1, 0, 0, 0, 0, 0), (46, .getfield 34, 3, 11, 4, 0, 0, 0), (49, .iload_n 2, 1, 0, 0, 0, 0, 0), (50, .bipush 10, 2, 0, 0, 0, 10, 0), (52, .idiv, 1, 0, 0, 0, 0, 0), (53, .iload_n 2, 1, 0, 0, 0, 0, 0), (54, .bipush 10, 2, 0, 0, 0, 10, 0), (56, .irem, 1, 0, 0, 0, 0, 0), (57, .invokevirtual 191, 3, 29, 2, 0, 0, 0)]),
  (70, [(60, .aload_n 0, 1, 0, 0, 0, 0, 0), (61, .getfield 34, 3, 11, 4, 0, 0, 0), (64, .getfield 194, 3, 3, 5, 0, 0, 0), (67, .iload_n 3, 1, 0, 0, 0, 0, 0), (68, .laload, 1, 0, 0, 0, 0, 0), (69, .lreturn, 1, 0, 0, 0, 0, 0)])]
set_option maxRecDepth 100000 in
theorem mx_ok110 : ∀ q ∈ mx_t110, ∀ en ∈ q.2, mx_gd 110 en := mx_gt_s mx_LLok11 mx_KLok11 mx_JLok11 mx_ARok (by decide +kernel)
def mx_t111 : List (Nat × List mx_En) := [(18, [(0, .aload_n 0, 1, 0, 0, 0, 0, 0), (1, .iload_n 1, 1, 0, 0, 0, 0, 0), (2, .invokevirtual 123, 3, 166, 1, 0, 0, 0), (5, .astore 4, 2, 0, 0, 0, 0, 0), (7, .aload 4, 2, 0, 0, 0, 0, 0), (9, .iload_n 2, 1, 0, 0, 0, 0, 0), (10, .iload_n 3, 1, 0, 0, 0, 0, 0), (11, .invokestatic 198, 3, 165, 3, 0, 0, 0), (14, .ifCond .ne 5, 3, 19, 0, 0, 0, 0), (17, .iconst (-1), 1, 0, 0, 0, -1, 0)]),
  (37, [(18, .ireturn, 1, 0, 0, 0, 0, 0), (19, .aload_n 0, 1, 0, 0, 0, 0, 0), (20, .getfield 34, 3, 11, 4, 0, 0, 0), (23, .aload 4, 2, 0, 0, 0, 0, 0), (25, .invokevirtual 179, 3, 22, 1, 0, 0, 0), (28, .aload_n 0, 1, 0, 0, 0, 0, 0), (29, .getfield 34, 3, 11, 4, 0, 0, 0), (32, .iload_n 2, 1, 0, 0, 0, 0, 0), (33, .iload_n 3, 1, 0, 0, 0, 0, 0), (34, .invokevirtual 202, 3, 33, 2, 0, 0, 0)]),
  (38, [(37, .ireturn, 1, 0, 0, 0, 0, 0)])]
set_option maxRecDepth 100000 in
theorem mx_ok111 : ∀ q ∈ mx_t111, ∀ en ∈ q.2, mx_gd 111 en := mx_gt_s mx_LLok11 mx_KLok11 mx_JLok11 mx_ARok (by decide +kernel)
def mx_t112 : List (Nat × List mx_En) := [(20, [(0, .aload_n 0, 1, 0, 0, 0, 0, 0), (1, .iload_n 1, 1, 0, 0, 0, 0, 0), (2, .invokevirtual 123, 3, 166, 1, 0, 0, 0), (5, .astore 4, 2, 0, 0, 0, 0, 0), (7, .aload 4, 2, 0, 0, 0, 0, 0), (9, .iload_n 2, 1, 0, 0, 0, 0, 0), (10, .invokestatic 147, 3, 164, 2, 0, 0, 0), (13, .ifCond .eq 20, 3, 33, 0, 0, 0, 0), (16, .iload_n 3, 1, 0, 0, 0, 0, 0), (17, .invokestatic 176, 3, 158, 1, 0, 0, 0)]),
  (39, [(20, .ifCond .eq 13, 3, 33, 0, 0, 0, 0), (23, .aload 4, 2, 0, 0, 0, 0, 0), (25, .getfield 144, 3, 7, 4, 0, 0, 0), (28, .iload_n 2, 1, 0, 0, 0, 0, 0), (29, .iaload, 1, 0, 0, 0, 0, 0), (30, .ifCond .eq 5, 3, 35, 0, 0, 0, 0), (33, .iconst (-1), 1, 0, 0, 0, -1, 0), (34, .ireturn, 1, 0, 0, 0, 0, 0), (35, .aload_n 0, 1, 0, 0, 0, 0, 0), (36, .getfield 34, 3, 11, 4, 0, 0, 0)]),
  (56, [(39, .aload 4, 2, 0, 0, 0, 0, 0), (41, .invokevirtual 179, 3, 22, 1, 0, 0, 0), (44, .aload_n 0, 1, 0, 0, 0, 0, 0), (45, .getfield 34, 3, 11, 4, 0, 0, 0), (48, .iload_n 3, 1, 0, 0, 0, 0, 0), (49, .bipush 10, 2, 0, 0, 0, 10, 0), (51, .idiv, 1, 0, 0, 0, 0, 0), (52, .iload_n 3, 1, 0, 0, 0, 0, 0), (53, .bipush 10, 2, 0, 0, 0, 10, 0), (55, .irem, 1, 0, 0, 0, 0, 0)]),
  (76, [(56, .invokevirtual 186, 3, 32, 2, 0, 0, 0), (59, .istore 5, 2, 0, 0, 0, 0, 0), (61, .aload_n 0, 1, 0, 0, 0, 0, 0), (62, .getfield 34, 3, 11, 4, 0, 0, 0), (65, .getfield 205, 3, 3, 3, 0, 0, 0), (68, .iload_n 2, 1, 0, 0, 0, 0, 0), (69, .iconst 1, 1, 0, 0, 0, 1, 0), (70, .iastore, 1, 0, 0, 0, 0, 0), (71, .iload 5, 2, 0, 0, 0, 0, 0), (73, .ifCond .le 27, 3, 100, 0, 0, 0, 0)]),
  (93, [(76, .aload_n 0, 1, 0, 0, 0, 0, 0), (77, .getfield 34, 3, 11, 4, 0, 0, 0), (80, .iload_n 3, 1, 0, 0, 0, 0, 0), (81, .bipush 10, 2, 0, 0, 0, 10, 0), (83, .idiv, 1, 0, 0, 0, 0, 0), (84, .iload_n 3, 1, 0, 0, 0, 0, 0), (85, .bipush 10, 2, 0, 0, 0, 10, 0), (87, .irem, 1, 0, 0, 0, 0, 0), (88, .invokevirtual 186, 3, 32, 2, 0, 0, 0), (91, .iload 5, 2, 0, 0, 0, 0, 0)]),
  (102, [(93, .if_icmp .lt 7, 3, 100, 0, 0, 0, 0), (96, .iconst 1, 1, 0, 0, 0, 1, 0), (97, .goto 4, 3, 101, 0, 0, 0, 0), (100, .iconst 0, 1, 0, 0, 0, 0, 0), (101, .ireturn, 1, 0, 0, 0, 0, 0)])]
set_option maxRecDepth 100000 in
theorem mx_ok112 : ∀ q ∈ mx_t112, ∀ en ∈ q.2, mx_gd 112 en := mx_gt_s mx_LLok11 mx_KLok11 mx_JLok11 mx_ARok (by decide +kernel)
def mx_t113 : List (Nat × List mx_En) := [(19, [(0, .aload_n 0, 1, 0, 0, 0, 0, 0), (1, .iload_n 1, 1, 0, 0, 0, 0, 0), (2, .invokevirtual 123, 3, 166, 1, 0, 0, 0), (5, .astore 5, 2, 0, 0, 0, 0, 0), (7, .aload 5, 2, 0, 0, 0, 0, 0), (9, .iload_n 2, 1, 0, 0, 0, 0, 0), (10, .iload_n 3, 1, 0, 0, 0, 0, 0), (11, .invokestatic 198, 3, 165, 3, 0, 0, 0), (14, .ifCond .eq 29, 3, 43, 0, 0, 0, 0), (17, .iload 4, 2, 0, 0, 0, 0, 0)]),
  (40, [(19, .ifCond .lt 24, 3, 43, 0, 0, 0, 0), (22, .iload 4, 2, 0, 0, 0, 0, 0), (24, .bipush 10, 2, 0, 0, 0, 10, 0), (26, .irem, 1, 0, 0, 0, 0, 0), (27, .ifCond .eq 16, 3, 43, 0, 0, 0, 0), (30, .aload 5, 2, 0, 0, 0, 0, 0), (32, .iload 4, 2, 0, 0, 0, 0, 0), (34, .bipush 10, 2, 0, 0, 0, 10, 0), (36, .idiv, 1, 0, 0, 0, 0, 0), (37, .invokestatic 147, 3, 164, 2, 0, 0, 0)]),
  (59, [(40, .ifCond .ne 5, 3, 45, 0, 0, 0, 0), (43, .iconst (-1), 1, 0, 0, 0, -1, 0), (44, .ireturn, 1, 0, 0, 0, 0, 0), (45, .iload 4, 2, 0, 0, 0, 0, 0), (47, .bipush 10, 2, 0, 0, 0, 10, 0), (49, .idiv, 1, 0, 0, 0, 0, 0), (50, .istore 6, 2, 0, 0, 0, 0, 0), (52, .aload 5, 2, 0, 0, 0, 0, 0), (54, .getfield 144, 3, 7, 4, 0, 0, 0), (57, .iload 6, 2, 0, 0, 0, 0, 0)]),
  (78, [(59, .iaload, 1, 0, 0, 0, 0, 0), (60, .ifCond .ne 14, 3, 74, 0, 0, 0, 0), (63, .aload 5, 2, 0, 0, 0, 0, 0), (65, .getfield 141, 3, 7, 3, 0, 0, 0), (68, .iload 6, 2, 0, 0, 0, 0, 0), (70, .iaload, 1, 0, 0, 0, 0, 0), (71, .ifCond .eq 6, 3, 77, 0, 0, 0, 0), (74, .bipush (-4), 2, 0, 0, 0, -4, 0), (76, .ireturn, 1, 0, 0, 0, 0, 0), (77, .aload_n 0, 1, 0, 0, 0, 0, 0)]),
  (101, [(78, .getfield 34, 3, 11, 4, 0, 0, 0), (81, .aload 5, 2, 0, 0, 0, 0, 0), (83, .invokevirtual 179, 3, 22, 1, 0, 0, 0), (86, .aload_n 0, 1, 0, 0, 0, 0, 0), (87, .getfield 38, 3, 11, 5, 0, 0, 0), (90, .aload 5, 2, 0, 0, 0, 0, 0), (92, .invokevirtual 179, 3, 22, 1, 0, 0, 0), (95, .aload_n 0, 1, 0, 0, 0, 0, 0), (96, .getfield 38, 3, 11, 5, 0, 0, 0), (99, .iload 6, 2, 0, 0, 0, 0, 0)]),
  (121, [(101, .aload 5, 2, 0, 0, 0, 0, 0), (103, .getfield 134, 3, 7, 1, 0, 0, 0), (106, .iload 6, 2, 0, 0, 0, 0, 0), (108, .iaload, 1, 0, 0, 0, 0, 0), (109, .iload 4, 2, 0, 0, 0, 0, 0), (111, .bipush 10, 2, 0, 0, 0, 10, 0), (113, .irem, 1, 0, 0, 0, 0, 0), (114, .invokevirtual 206, 3, 25, 3, 0, 0, 0), (117, .aload_n 0, 1, 0, 0, 0, 0, 0), (118, .getfield 34, 3, 11, 4, 0, 0, 0)]),
  (138, [(121, .iload_n 2, 1, 0, 0, 0, 0, 0), (122, .iload_n 3, 1, 0, 0, 0, 0, 0), (123, .invokevirtual 202, 3, 33, 2, 0, 0, 0), (126, .istore 7, 2, 0, 0, 0, 0, 0), (128, .iconst 0, 1, 0, 0, 0, 0, 0), (129, .istore 8, 2, 0, 0, 0, 0, 0), (131, .iconst 0, 1, 0, 0, 0, 0, 0), (132, .istore 9, 2, 0, 0, 0, 0, 0), (134, .iload 9, 2, 0, 0, 0, 0, 0), (136, .aload 5, 2, 0, 0, 0, 0, 0)]),
  (160, [(138, .invokevirtual 131, 3, 60, 0, 0, 0, 0), (141, .if_icmp .ge 42, 3, 183, 0, 0, 0, 0), (144, .aload_n 0, 1, 0, 0, 0, 0, 0), (145, .getfield 34, 3, 11, 4, 0, 0, 0), (148, .iload 9, 2, 0, 0, 0, 0, 0), (150, .iload_n 3, 1, 0, 0, 0, 0, 0), (151, .invokevirtual 202, 3, 33, 2, 0, 0, 0), (154, .iload 7, 2, 0, 0, 0, 0, 0), (156, .if_icmp .ne 21, 3, 177, 0, 0, 0, 0), (159, .aload_n 0, 1, 0, 0, 0, 0, 0)]),
  (185, [(160, .getfield 38, 3, 11, 5, 0, 0, 0), (163, .iload 9, 2, 0, 0, 0, 0, 0), (165, .iload_n 3, 1, 0, 0, 0, 0, 0), (166, .invokevirtual 202, 3, 33, 2, 0, 0, 0), (169, .iload 7, 2, 0, 0, 0, 0, 0), (171, .if_icmp .eq 6, 3, 177, 0, 0, 0, 0), (174, .iinc 8 1, 3, 0, 0, 0, 1, 0), (177, .iinc 9 1, 3, 0, 0, 0, 1, 0), (180, .goto (-46), 3, 134, 0, 0, 0, 0), (183, .iload 8, 2, 0, 0, 0, 0, 0)]),
  (186, [(185, .ireturn, 1, 0, 0, 0, 0, 0)])]
set_option maxRecDepth 100000 in
theorem mx_ok113 : ∀ q ∈ mx_t113, ∀ en ∈ q.2, mx_gd 113 en := mx_gt_s mx_LLok11 mx_KLok11 mx_JLok11 mx_ARok (by decide +kernel)
def mx_t114 : List (Nat × List mx_En) := [(19, [(0, .aload_n 0, 1, 0, 0, 0, 0, 0), (1, .iload_n 1, 1, 0, 0, 0, 0, 0), (2, .invokevirtual 123, 3, 166, 1, 0, 0, 0), (5, .astore 6, 2, 0, 0, 0, 0, 0), (7, .aload 6, 2, 0, 0, 0, 0, 0), (9, .iload_n 2, 1, 0, 0, 0, 0, 0), (10, .iload_n 3, 1, 0, 0, 0, 0, 0), (11, .invokestatic 198, 3, 165, 3, 0, 0, 0), (14, .ifCond .eq 24, 3, 38, 0, 0, 0, 0), (17, .iload 4, 2, 0, 0, 0, 0, 0)]),
  (39, [(19, .iconst 0, 1, 0, 0, 0, 0, 0), (20, .bipush 8, 2, 0, 0, 0, 8, 0), (22, .invokestatic 97, 3, 157, 3, 0, 0, 0), (25, .ifCond .eq 13, 3, 38, 0, 0, 0, 0), (28, .iload 5, 2, 0, 0, 0, 0, 0), (30, .iconst 0, 1, 0, 0, 0, 0, 0), (31, .iconst 1, 1, 0, 0, 0, 1, 0), (32, .invokestatic 97, 3, 157, 3, 0, 0, 0), (35, .ifCond .ne 5, 3, 40, 0, 0, 0, 0), (38, .iconst (-1), 1, 0, 0, 0, -1, 0)]),
  (59, [(39, .ireturn, 1, 0, 0, 0, 0, 0), (40, .aload_n 0, 1, 0, 0, 0, 0, 0), (41, .getfield 34, 3, 11, 4, 0, 0, 0), (44, .aload 6, 2, 0, 0, 0, 0, 0), (46, .iload 5, 2, 0, 0, 0, 0, 0), (48, .ifCond .ne 9, 3, 57, 0, 0, 0, 0), (51, .iload 4, 2, 0, 0, 0, 0, 0), (53, .ineg, 1, 0, 0, 0, 0, 0), (54, .goto 5, 3, 59, 0, 0, 0, 0), (57, .iload 4, 2, 0, 0, 0, 0, 0)]),
  (72, [(59, .invokevirtual 210, 3, 23, 2, 0, 0, 0), (62, .aload_n 0, 1, 0, 0, 0, 0, 0), (63, .getfield 34, 3, 11, 4, 0, 0, 0), (66, .iload_n 2, 1, 0, 0, 0, 0, 0), (67, .iload_n 3, 1, 0, 0, 0, 0, 0), (68, .invokevirtual 202, 3, 33, 2, 0, 0, 0), (71, .ireturn, 1, 0, 0, 0, 0, 0)])]
set_option maxRecDepth 100000 in
theorem mx_ok114 : ∀ q ∈ mx_t114, ∀ en ∈ q.2, mx_gd 114 en := mx_gt_s mx_LLok11 mx_KLok11 mx_JLok11 mx_ARok (by decide +kernel)
def mx_t115 : List (Nat × List mx_En) := [(19, [(0, .aload_n 0, 1, 0, 0, 0, 0, 0), (1, .iload_n 1, 1, 0, 0, 0, 0, 0), (2, .invokevirtual 123, 3, 166, 1, 0, 0, 0), (5, .astore 5, 2, 0, 0, 0, 0, 0), (7, .aload 5, 2, 0, 0, 0, 0, 0), (9, .iload_n 2, 1, 0, 0, 0, 0, 0), (10, .iload_n 3, 1, 0, 0, 0, 0, 0), (11, .invokestatic 198, 3, 165, 3, 0, 0, 0), (14, .ifCond .eq 13, 3, 27, 0, 0, 0, 0), (17, .iload 4, 2, 0, 0, 0, 0, 0)]),
  (38, [(19, .iconst 0, 1, 0, 0, 0, 0, 0), (20, .iconst 1, 1, 0, 0, 0, 1, 0), (21, .invokestatic 97, 3, 157, 3, 0, 0, 0), (24, .ifCond .ne 5, 3, 29, 0, 0, 0, 0), (27, .iconst (-1), 1, 0, 0, 0, -1, 0), (28, .ireturn, 1, 0, 0, 0, 0, 0), (29, .aload_n 0, 1, 0, 0, 0, 0, 0), (30, .getfield 34, 3, 11, 4, 0, 0, 0), (33, .aload 5, 2, 0, 0, 0, 0, 0), (35, .invokevirtual 179, 3, 22, 1, 0, 0, 0)]),
  (56, [(38, .aload_n 0, 1, 0, 0, 0, 0, 0), (39, .getfield 34, 3, 11, 4, 0, 0, 0), (42, .iload_n 2, 1, 0, 0, 0, 0, 0), (43, .iload_n 3, 1, 0, 0, 0, 0, 0), (44, .invokevirtual 202, 3, 33, 2, 0, 0, 0), (47, .istore 6, 2, 0, 0, 0, 0, 0), (49, .iconst (-1), 1, 0, 0, 0, -1, 0), (50, .istore 7, 2, 0, 0, 0, 0, 0), (52, .bipush (-2), 2, 0, 0, 0, -2, 0), (54, .istore 8, 2, 0, 0, 0, 0, 0)]),
  (78, [(56, .iconst 0, 1, 0, 0, 0, 0, 0), (57, .istore 9, 2, 0, 0, 0, 0, 0), (59, .iload 9, 2, 0, 0, 0, 0, 0), (61, .aload 5, 2, 0, 0, 0, 0, 0), (63, .getfield 112, 3, 7, 6, 0, 0, 0), (66, .if_icmp .ge 98, 3, 164, 0, 0, 0, 0), (69, .aload_n 0, 1, 0, 0, 0, 0, 0), (70, .getfield 34, 3, 11, 4, 0, 0, 0), (73, .aload 5, 2, 0, 0, 0, 0, 0), (75, .getfield 214, 3, 7, 7, 0, 0, 0)]),
  (96, [(78, .iload 9, 2, 0, 0, 0, 0, 0), (80, .iaload, 1, 0, 0, 0, 0, 0), (81, .aload 5, 2, 0, 0, 0, 0, 0), (83, .getfield 217, 3, 7, 8, 0, 0, 0), (86, .iload 9, 2, 0, 0, 0, 0, 0), (88, .iaload, 1, 0, 0, 0, 0, 0), (89, .iconst 0, 1, 0, 0, 0, 0, 0), (90, .invokevirtual 220, 3, 26, 3, 0, 0, 0), (93, .iload 6, 2, 0, 0, 0, 0, 0), (95, .aload_n 0, 1, 0, 0, 0, 0, 0)]),
  (116, [(96, .getfield 34, 3, 11, 4, 0, 0, 0), (99, .iload_n 2, 1, 0, 0, 0, 0, 0), (100, .iload_n 3, 1, 0, 0, 0, 0, 0), (101, .invokevirtual 202, 3, 33, 2, 0, 0, 0), (104, .isub, 1, 0, 0, 0, 0, 0), (105, .istore 10, 2, 0, 0, 0, 0, 0), (107, .aload_n 0, 1, 0, 0, 0, 0, 0), (108, .getfield 34, 3, 11, 4, 0, 0, 0), (111, .aload 5, 2, 0, 0, 0, 0, 0), (113, .getfield 214, 3, 7, 7, 0, 0, 0)]),
  (137, [(116, .iload 9, 2, 0, 0, 0, 0, 0), (118, .iaload, 1, 0, 0, 0, 0, 0), (119, .aload 5, 2, 0, 0, 0, 0, 0), (121, .getfield 217, 3, 7, 8, 0, 0, 0), (124, .iload 9, 2, 0, 0, 0, 0, 0), (126, .iaload, 1, 0, 0, 0, 0, 0), (127, .aload 5, 2, 0, 0, 0, 0, 0), (129, .iload 9, 2, 0, 0, 0, 0, 0), (131, .invokevirtual 223, 3, 62, 1, 0, 0, 0), (134, .invokevirtual 220, 3, 26, 3, 0, 0, 0)]),
  (158, [(137, .iload 10, 2, 0, 0, 0, 0, 0), (139, .iload 7, 2, 0, 0, 0, 0, 0), (141, .if_icmp .le 17, 3, 158, 0, 0, 0, 0), (144, .iload 10, 2, 0, 0, 0, 0, 0), (146, .istore 7, 2, 0, 0, 0, 0, 0), (148, .aload 5, 2, 0, 0, 0, 0, 0), (150, .getfield 155, 3, 7, 5, 0, 0, 0), (153, .iload 9, 2, 0, 0, 0, 0, 0), (155, .iadd, 1, 0, 0, 0, 0, 0), (156, .istore 8, 2, 0, 0, 0, 0, 0)]),
  (181, [(158, .iinc 9 1, 3, 0, 0, 0, 1, 0), (161, .goto (-102), 3, 59, 0, 0, 0, 0), (164, .iload 4, 2, 0, 0, 0, 0, 0), (166, .ifCond .ne 8, 3, 174, 0, 0, 0, 0), (169, .iload 8, 2, 0, 0, 0, 0, 0), (171, .goto 9, 3, 180, 0, 0, 0, 0), (174, .iload 7, 2, 0, 0, 0, 0, 0), (176, .iconst 0, 1, 0, 0, 0, 0, 0), (177, .invokestatic 227, 3, 2, 0, 2, 0, 0), (180, .ireturn, 1, 0, 0, 0, 0, 0)])]
set_option maxRecDepth 100000 in
theorem mx_ok115 : ∀ q ∈ mx_t115, ∀ en ∈ q.2, mx_gd 115 en := mx_gt_s mx_LLok11 mx_KLok11 mx_JLok11 mx_ARok (by decide +kernel)
end
section
def mx_t116 : List (Nat × List mx_En) := [(16, [(0, .aload_n 0, 1, 0, 0, 0, 0, 0), (1, .iload_n 1, 1, 0, 0, 0, 0, 0), (2, .invokevirtual 123, 3, 166, 1, 0, 0, 0), (5, .astore_n 2, 1, 0, 0, 0, 0, 0), (6, .aload_n 2, 1, 0, 0, 0, 0, 0), (7, .ifnonnull 5, 3, 12, 0, 0, 0, 0), (10, .iconst (-1), 1, 0, 0, 0, -1, 0), (11, .ireturn, 1, 0, 0, 0, 0, 0), (12, .aload_n 0, 1, 0, 0, 0, 0, 0), (13, .getfield 44, 3, 11, 6, 0, 0, 0)]),
  (29, [(16, .aload_n 2, 1, 0, 0, 0, 0, 0), (17, .aload_n 2, 1, 0, 0, 0, 0, 0), (18, .invokevirtual 230, 3, 96, 2, 0, 0, 0), (21, .aload_n 0, 1, 0, 0, 0, 0, 0), (22, .getfield 44, 3, 11, 6, 0, 0, 0), (25, .getfield 234, 3, 10, 0, 0, 0, 0), (28, .ireturn, 1, 0, 0, 0, 0, 0)])]
set_option maxRecDepth 100000 in
theorem mx_ok116 : ∀ q ∈ mx_t116, ∀ en ∈ q.2, mx_gd 116 en := mx_gt_s mx_LLok11 mx_KLok11 mx_JLok11 mx_ARok (by decide +kernel)
def mx_t117 : List (Nat × List mx_En) := [(16, [(0, .aload_n 0, 1, 0, 0, 0, 0, 0), (1, .iload_n 1, 1, 0, 0, 0, 0, 0), (2, .invokevirtual 123, 3, 166, 1, 0, 0, 0), (5, .astore_n 3, 1, 0, 0, 0, 0, 0), (6, .aload_n 3, 1, 0, 0, 0, 0, 0), (7, .iload_n 2, 1, 0, 0, 0, 0, 0), (8, .invokestatic 147, 3, 164, 2, 0, 0, 0), (11, .ifCond .ne 5, 3, 16, 0, 0, 0, 0), (14, .iconst (-1), 1, 0, 0, 0, -1, 0), (15, .ireturn, 1, 0, 0, 0, 0, 0)]),
  (34, [(16, .aload_n 0, 1, 0, 0, 0, 0, 0), (17, .getfield 44, 3, 11, 6, 0, 0, 0), (20, .aload_n 3, 1, 0, 0, 0, 0, 0), (21, .aload_n 3, 1, 0, 0, 0, 0, 0), (22, .invokevirtual 230, 3, 96, 2, 0, 0, 0), (25, .aload_n 0, 1, 0, 0, 0, 0, 0), (26, .getfield 44, 3, 11, 6, 0, 0, 0), (29, .getfield 237, 3, 10, 2, 0, 0, 0), (32, .iload_n 2, 1, 0, 0, 0, 0, 0), (33, .iaload, 1, 0, 0, 0, 0, 0)]),
  (35, [(34, .ireturn, 1, 0, 0, 0, 0, 0)])]
set_option maxRecDepth 100000 in
theorem mx_ok117 : ∀ q ∈ mx_t117, ∀ en ∈ q.2, mx_gd 117 en := mx_gt_s mx_LLok11 mx_KLok11 mx_JLok11 mx_ARok (by decide +kernel)
def mx_t118 : List (Nat × List mx_En) := [(17, [(0, .aload_n 0, 1, 0, 0, 0, 0, 0), (1, .iload_n 1, 1, 0, 0, 0, 0, 0), (2, .invokevirtual 123, 3, 166, 1, 0, 0, 0), (5, .astore_n 3, 1, 0, 0, 0, 0, 0), (6, .aload_n 0, 1, 0, 0, 0, 0, 0), (7, .iload_n 2, 1, 0, 0, 0, 0, 0), (8, .invokevirtual 123, 3, 166, 1, 0, 0, 0), (11, .astore 4, 2, 0, 0, 0, 0, 0), (13, .aload_n 3, 1, 0, 0, 0, 0, 0), (14, .ifnull 8, 3, 22, 0, 0, 0, 0)]),
  (35, [(17, .aload 4, 2, 0, 0, 0, 0, 0), (19, .ifnonnull 5, 3, 24, 0, 0, 0, 0), (22, .iconst (-1), 1, 0, 0, 0, -1, 0), (23, .ireturn, 1, 0, 0, 0, 0, 0), (24, .aload_n 0, 1, 0, 0, 0, 0, 0), (25, .getfield 44, 3, 11, 6, 0, 0, 0), (28, .aload_n 3, 1, 0, 0, 0, 0, 0), (29, .aload 4, 2, 0, 0, 0, 0, 0), (31, .invokevirtual 230, 3, 96, 2, 0, 0, 0), (34, .aload_n 0, 1, 0, 0, 0, 0, 0)]),
  (57, [(35, .getfield 44, 3, 11, 6, 0, 0, 0), (38, .getfield 234, 3, 10, 0, 0, 0, 0), (41, .ifCond .le 13, 3, 54, 0, 0, 0, 0), (44, .aload_n 0, 1, 0, 0, 0, 0, 0), (45, .getfield 44, 3, 11, 6, 0, 0, 0), (48, .getfield 240, 3, 10, 1, 0, 0, 0), (51, .goto 5, 3, 56, 0, 0, 0, 0), (54, .bipush (-2), 2, 0, 0, 0, -2, 0), (56, .ireturn, 1, 0, 0, 0, 0, 0)])]
set_option maxRecDepth 100000 in
theorem mx_ok118 : ∀ q ∈ mx_t118, ∀ en ∈ q.2, mx_gd 118 en := mx_gt_s mx_LLok11 mx_KLok11 mx_JLok11 mx_ARok (by decide +kernel)
def mx_t119 : List (Nat × List mx_En) := [(19, [(0, .aload_n 0, 1, 0, 0, 0, 0, 0), (1, .iload_n 1, 1, 0, 0, 0, 0, 0), (2, .invokevirtual 123, 3, 166, 1, 0, 0, 0), (5, .astore 4, 2, 0, 0, 0, 0, 0), (7, .aload_n 0, 1, 0, 0, 0, 0, 0), (8, .iload_n 2, 1, 0, 0, 0, 0, 0), (9, .invokevirtual 123, 3, 166, 1, 0, 0, 0), (12, .astore 5, 2, 0, 0, 0, 0, 0), (14, .aload 4, 2, 0, 0, 0, 0, 0), (16, .ifnull 17, 3, 33, 0, 0, 0, 0)]),
  (36, [(19, .aload 5, 2, 0, 0, 0, 0, 0), (21, .ifnull 12, 3, 33, 0, 0, 0, 0), (24, .iload_n 3, 1, 0, 0, 0, 0, 0), (25, .iconst 0, 1, 0, 0, 0, 0, 0), (26, .iconst 1, 1, 0, 0, 0, 1, 0), (27, .invokestatic 97, 3, 157, 3, 0, 0, 0), (30, .ifCond .ne 5, 3, 35, 0, 0, 0, 0), (33, .iconst (-1), 1, 0, 0, 0, -1, 0), (34, .ireturn, 1, 0, 0, 0, 0, 0), (35, .aload_n 0, 1, 0, 0, 0, 0, 0)]),
  (58, [(36, .getfield 34, 3, 11, 4, 0, 0, 0), (39, .aload 4, 2, 0, 0, 0, 0, 0), (41, .invokevirtual 179, 3, 22, 1, 0, 0, 0), (44, .aload_n 0, 1, 0, 0, 0, 0, 0), (45, .getfield 38, 3, 11, 5, 0, 0, 0), (48, .aload 5, 2, 0, 0, 0, 0, 0), (50, .invokevirtual 179, 3, 22, 1, 0, 0, 0), (53, .aload_n 0, 1, 0, 0, 0, 0, 0), (54, .getfield 34, 3, 11, 4, 0, 0, 0), (57, .aload_n 0, 1, 0, 0, 0, 0, 0)]),
  (76, [(58, .getfield 38, 3, 11, 5, 0, 0, 0), (61, .invokevirtual 243, 3, 34, 1, 0, 0, 0), (64, .ifCond .ne 5, 3, 69, 0, 0, 0, 0), (67, .iconst 0, 1, 0, 0, 0, 0, 0), (68, .ireturn, 1, 0, 0, 0, 0, 0), (69, .iload_n 3, 1, 0, 0, 0, 0, 0), (70, .ifCond .ne 5, 3, 75, 0, 0, 0, 0), (73, .iconst 1, 1, 0, 0, 0, 1, 0), (74, .ireturn, 1, 0, 0, 0, 0, 0), (75, .aload_n 0, 1, 0, 0, 0, 0, 0)]),
  (100, [(76, .getfield 44, 3, 11, 6, 0, 0, 0), (79, .aload 4, 2, 0, 0, 0, 0, 0), (81, .aload 5, 2, 0, 0, 0, 0, 0), (83, .invokevirtual 230, 3, 96, 2, 0, 0, 0), (86, .aload_n 0, 1, 0, 0, 0, 0, 0), (87, .getfield 44, 3, 11, 6, 0, 0, 0), (90, .getfield 234, 3, 10, 0, 0, 0, 0), (93, .ifCond .ne 7, 3, 100, 0, 0, 0, 0), (96, .iconst 1, 1, 0, 0, 0, 1, 0), (97, .goto 4, 3, 101, 0, 0, 0, 0)]),
  (102, [(100, .iconst 0, 1, 0, 0, 0, 0, 0), (101, .ireturn, 1, 0, 0, 0, 0, 0)])]
set_option maxRecDepth 100000 in
theorem mx_ok119 : ∀ q ∈ mx_t119, ∀ en ∈ q.2, mx_gd 119 en := mx_gt_s mx_LLok11 mx_KLok11 mx_JLok11 mx_ARok (by decide +kernel)
def mx_t120 : List (Nat × List mx_En) := [(18, [(0, .aload_n 0, 1, 0, 0, 0, 0, 0), (1, .iload_n 1, 1, 0, 0, 0, 0, 0), (2, .invokevirtual 123, 3, 166, 1, 0, 0, 0), (5, .astore 5, 2, 0, 0, 0, 0, 0), (7, .aload 5, 2, 0, 0, 0, 0, 0), (9, .iload_n 2, 1, 0, 0, 0, 0, 0), (10, .invokestatic 147, 3, 164, 2, 0, 0, 0), (13, .ifCond .eq 27, 3, 40, 0, 0, 0, 0), (16, .iload_n 3, 1, 0, 0, 0, 0, 0), (17, .iconst (-1), 1, 0, 0, 0, -1, 0)]),
  (40, [(18, .if_icmp .eq 12, 3, 30, 0, 0, 0, 0), (21, .aload 5, 2, 0, 0, 0, 0, 0), (23, .iload_n 3, 1, 0, 0, 0, 0, 0), (24, .invokestatic 147, 3, 164, 2, 0, 0, 0), (27, .ifCond .eq 13, 3, 40, 0, 0, 0, 0), (30, .iload 4, 2, 0, 0, 0, 0, 0), (32, .iconst 1, 1, 0, 0, 0, 1, 0), (33, .iconst 3, 1, 0, 0, 0, 3, 0), (34, .invokestatic 97, 3, 157, 3, 0, 0, 0), (37, .ifCond .ne 5, 3, 42, 0, 0, 0, 0)]),
  (60, [(40, .iconst (-1), 1, 0, 0, 0, -1, 0), (41, .ireturn, 1, 0, 0, 0, 0, 0), (42, .aload_n 0, 1, 0, 0, 0, 0, 0), (43, .getfield 51, 3, 11, 7, 0, 0, 0), (46, .getfield 247, 3, 5, 1, 0, 0, 0), (49, .ifCond .le 16, 3, 65, 0, 0, 0, 0), (52, .aload_n 0, 1, 0, 0, 0, 0, 0), (53, .getfield 51, 3, 11, 7, 0, 0, 0), (56, .getfield 250, 3, 5, 0, 0, 0, 0), (59, .iload_n 1, 1, 0, 0, 0, 0, 0)]),
  (77, [(60, .if_icmp .eq 5, 3, 65, 0, 0, 0, 0), (63, .iconst (-1), 1, 0, 0, 0, -1, 0), (64, .ireturn, 1, 0, 0, 0, 0, 0), (65, .iload_n 3, 1, 0, 0, 0, 0, 0), (66, .iconst (-1), 1, 0, 0, 0, -1, 0), (67, .if_icmp .ne 7, 3, 74, 0, 0, 0, 0), (70, .iconst 3, 1, 0, 0, 0, 3, 0), (71, .goto 4, 3, 75, 0, 0, 0, 0), (74, .iconst 4, 1, 0, 0, 0, 4, 0), (75, .istore 6, 2, 0, 0, 0, 0, 0)]),
  (95, [(77, .iload_n 3, 1, 0, 0, 0, 0, 0), (78, .iconst (-1), 1, 0, 0, 0, -1, 0), (79, .if_icmp .ne 7, 3, 86, 0, 0, 0, 0), (82, .iload_n 2, 1, 0, 0, 0, 0, 0), (83, .goto 10, 3, 93, 0, 0, 0, 0), (86, .aload 5, 2, 0, 0, 0, 0, 0), (88, .iload_n 2, 1, 0, 0, 0, 0, 0), (89, .iload_n 3, 1, 0, 0, 0, 0, 0), (90, .invokevirtual 151, 3, 61, 2, 0, 0, 0), (93, .istore 7, 2, 0, 0, 0, 0, 0)]),
  (117, [(95, .iload 7, 2, 0, 0, 0, 0, 0), (97, .ifCond .ge 6, 3, 103, 0, 0, 0, 0), (100, .bipush (-2), 2, 0, 0, 0, -2, 0), (102, .ireturn, 1, 0, 0, 0, 0, 0), (103, .aload_n 0, 1, 0, 0, 0, 0, 0), (104, .getfield 51, 3, 11, 7, 0, 0, 0), (107, .iload 6, 2, 0, 0, 0, 0, 0), (109, .iload 7, 2, 0, 0, 0, 0, 0), (111, .invokevirtual 253, 3, 43, 2, 0, 0, 0), (114, .ifCond .eq 5, 3, 119, 0, 0, 0, 0)]),
  (135, [(117, .iconst (-1), 1, 0, 0, 0, -1, 0), (118, .ireturn, 1, 0, 0, 0, 0, 0), (119, .aload_n 0, 1, 0, 0, 0, 0, 0), (120, .getfield 51, 3, 11, 7, 0, 0, 0), (123, .getfield 247, 3, 5, 1, 0, 0, 0), (126, .bipush 6, 2, 0, 0, 0, 6, 0), (128, .if_icmp .lt 6, 3, 134, 0, 0, 0, 0), (131, .bipush (-3), 2, 0, 0, 0, -3, 0), (133, .ireturn, 1, 0, 0, 0, 0, 0), (134, .aload_n 0, 1, 0, 0, 0, 0, 0)]),
  (156, [(135, .getfield 51, 3, 11, 7, 0, 0, 0), (138, .iload_n 1, 1, 0, 0, 0, 0, 0), (139, .putfield 250, 3, 5, 0, 0, 0, 0), (142, .aload_n 0, 1, 0, 0, 0, 0, 0), (143, .getfield 51, 3, 11, 7, 0, 0, 0), (146, .iload 6, 2, 0, 0, 0, 0, 0), (148, .iload 7, 2, 0, 0, 0, 0, 0), (150, .iload 4, 2, 0, 0, 0, 0, 0), (152, .invokevirtual 257, 3, 44, 3, 0, 0, 0), (155, .aload_n 0, 1, 0, 0, 0, 0, 0)]),
  (163, [(156, .getfield 51, 3, 11, 7, 0, 0, 0), (159, .getfield 247, 3, 5, 1, 0, 0, 0), (162, .ireturn, 1, 0, 0, 0, 0, 0)])]
set_option maxRecDepth 100000 in
theorem mx_ok120 : ∀ q ∈ mx_t120, ∀ en ∈ q.2, mx_gd 120 en := mx_gt_s mx_LLok11 mx_KLok11 mx_JLok11 mx_ARok (by decide +kernel)
def mx_t121 : List (Nat × List mx_En) := [(19, [(0, .iload_n 1, 1, 0, 0, 0, 0, 0), (1, .iconst 0, 1, 0, 0, 0, 0, 0), (2, .iconst 5, 1, 0, 0, 0, 5, 0), (3, .invokestatic 97, 3, 157, 3, 0, 0, 0), (6, .ifCond .eq 23, 3, 29, 0, 0, 0, 0), (9, .iload_n 2, 1, 0, 0, 0, 0, 0), (10, .iconst 1, 1, 0, 0, 0, 1, 0), (11, .bipush 9, 2, 0, 0, 0, 9, 0), (13, .invokestatic 97, 3, 157, 3, 0, 0, 0), (16, .ifCond .eq 13, 3, 29, 0, 0, 0, 0)]),
  (37, [(19, .iload_n 3, 1, 0, 0, 0, 0, 0), (20, .iconst 0, 1, 0, 0, 0, 0, 0), (21, .bipush 99, 2, 0, 0, 0, 99, 0), (23, .invokestatic 97, 3, 157, 3, 0, 0, 0), (26, .ifCond .ne 5, 3, 31, 0, 0, 0, 0), (29, .iconst (-1), 1, 0, 0, 0, -1, 0), (30, .ireturn, 1, 0, 0, 0, 0, 0), (31, .aload_n 0, 1, 0, 0, 0, 0, 0), (32, .invokevirtual 260, 3, 167, 0, 0, 0, 0), (35, .astore 4, 2, 0, 0, 0, 0, 0)]),
  (58, [(37, .aload 4, 2, 0, 0, 0, 0, 0), (39, .ifnonnull 6, 3, 45, 0, 0, 0, 0), (42, .bipush (-4), 2, 0, 0, 0, -4, 0), (44, .ireturn, 1, 0, 0, 0, 0, 0), (45, .iload_n 1, 1, 0, 0, 0, 0, 0), (46, .aload 4, 2, 0, 0, 0, 0, 0), (48, .invokevirtual 131, 3, 60, 0, 0, 0, 0), (51, .if_icmp .ge 15, 3, 66, 0, 0, 0, 0), (54, .aload_n 0, 1, 0, 0, 0, 0, 0), (55, .getfield 51, 3, 11, 7, 0, 0, 0)]),
  (77, [(58, .iload_n 1, 1, 0, 0, 0, 0, 0), (59, .iload_n 2, 1, 0, 0, 0, 0, 0), (60, .invokevirtual 264, 3, 45, 2, 0, 0, 0), (63, .ifCond .eq 5, 3, 68, 0, 0, 0, 0), (66, .iconst (-1), 1, 0, 0, 0, -1, 0), (67, .ireturn, 1, 0, 0, 0, 0, 0), (68, .aload_n 0, 1, 0, 0, 0, 0, 0), (69, .getfield 51, 3, 11, 7, 0, 0, 0), (72, .getfield 267, 3, 5, 5, 0, 0, 0), (75, .bipush 6, 2, 0, 0, 0, 6, 0)]),
  (94, [(77, .if_icmp .lt 6, 3, 83, 0, 0, 0, 0), (80, .bipush (-3), 2, 0, 0, 0, -3, 0), (82, .ireturn, 1, 0, 0, 0, 0, 0), (83, .aload_n 0, 1, 0, 0, 0, 0, 0), (84, .getfield 51, 3, 11, 7, 0, 0, 0), (87, .iload_n 1, 1, 0, 0, 0, 0, 0), (88, .iload_n 2, 1, 0, 0, 0, 0, 0), (89, .iload_n 3, 1, 0, 0, 0, 0, 0), (90, .invokevirtual 270, 3, 46, 3, 0, 0, 0), (93, .aload_n 0, 1, 0, 0, 0, 0, 0)]),
  (101, [(94, .getfield 51, 3, 11, 7, 0, 0, 0), (97, .getfield 267, 3, 5, 5, 0, 0, 0), (100, .ireturn, 1, 0, 0, 0, 0, 0)])]
set_option maxRecDepth 100000 in
theorem mx_ok121 : ∀ q ∈ mx_t121, ∀ en ∈ q.2, mx_gd 121 en := mx_gt_s mx_LLok11 mx_KLok11 mx_JLok11 mx_ARok (by decide +kernel)
def mx_t122 : List (Nat × List mx_En) := [(18, [(0, .aload_n 0, 1, 0, 0, 0, 0, 0), (1, .invokevirtual 260, 3, 167, 0, 0, 0, 0), (4, .astore 4, 2, 0, 0, 0, 0, 0), (6, .aload 4, 2, 0, 0, 0, 0, 0), (8, .iload_n 2, 1, 0, 0, 0, 0, 0), (9, .iload_n 3, 1, 0, 0, 0, 0, 0), (10, .invokestatic 198, 3, 165, 3, 0, 0, 0), (13, .ifCond .eq 20, 3, 33, 0, 0, 0, 0), (16, .iload_n 1, 1, 0, 0, 0, 0, 0), (17, .iconst 0, 1, 0, 0, 0, 0, 0)]),
  (36, [(18, .aload_n 0, 1, 0, 0, 0, 0, 0), (19, .getfield 51, 3, 11, 7, 0, 0, 0), (22, .getfield 247, 3, 5, 1, 0, 0, 0), (25, .iconst 1, 1, 0, 0, 0, 1, 0), (26, .isub, 1, 0, 0, 0, 0, 0), (27, .invokestatic 97, 3, 157, 3, 0, 0, 0), (30, .ifCond .ne 5, 3, 35, 0, 0, 0, 0), (33, .iconst (-1), 1, 0, 0, 0, -1, 0), (34, .ireturn, 1, 0, 0, 0, 0, 0), (35, .aload_n 0, 1, 0, 0, 0, 0, 0)]),
  (56, [(36, .getfield 34, 3, 11, 4, 0, 0, 0), (39, .aload 4, 2, 0, 0, 0, 0, 0), (41, .invokevirtual 179, 3, 22, 1, 0, 0, 0), (44, .aload_n 0, 1, 0, 0, 0, 0, 0), (45, .getfield 51, 3, 11, 7, 0, 0, 0), (48, .aload 4, 2, 0, 0, 0, 0, 0), (50, .aload_n 0, 1, 0, 0, 0, 0, 0), (51, .getfield 34, 3, 11, 4, 0, 0, 0), (54, .iload_n 1, 1, 0, 0, 0, 0, 0), (55, .iconst 1, 1, 0, 0, 0, 1, 0)]),
  (75, [(56, .invokevirtual 273, 3, 48, 4, 0, 0, 0), (59, .ifCond .ne 6, 3, 65, 0, 0, 0, 0), (62, .bipush (-4), 2, 0, 0, 0, -4, 0), (64, .ireturn, 1, 0, 0, 0, 0, 0), (65, .aload_n 0, 1, 0, 0, 0, 0, 0), (66, .getfield 34, 3, 11, 4, 0, 0, 0), (69, .iload_n 2, 1, 0, 0, 0, 0, 0), (70, .iload_n 3, 1, 0, 0, 0, 0, 0), (71, .invokevirtual 202, 3, 33, 2, 0, 0, 0), (74, .ireturn, 1, 0, 0, 0, 0, 0)])]
set_option maxRecDepth 100000 in
theorem mx_ok122 : ∀ q ∈ mx_t122, ∀ en ∈ q.2, mx_gd 122 en := mx_gt_s mx_LLok11 mx_KLok11 mx_JLok11 mx_ARok (by decide +kernel)
def mx_t123 : List (Nat × List mx_En) := [(16, [(0, .iload_n 1, 1, 0, 0, 0, 0, 0), (1, .iconst 0, 1, 0, 0, 0, 0, 0), (2, .iconst 3, 1, 0, 0, 0, 3, 0), (3, .invokestatic 97, 3, 157, 3, 0, 0, 0), (6, .ifCond .ne 5, 3, 11, 0, 0, 0, 0), (9, .iconst (-1), 1, 0, 0, 0, -1, 0), (10, .ireturn, 1, 0, 0, 0, 0, 0), (11, .aload_n 0, 1, 0, 0, 0, 0, 0), (12, .invokevirtual 260, 3, 167, 0, 0, 0, 0), (15, .astore_n 2, 1, 0, 0, 0, 0, 0)]),
  (38, [(16, .aload_n 2, 1, 0, 0, 0, 0, 0), (17, .ifnull 27, 3, 44, 0, 0, 0, 0), (20, .aload_n 0, 1, 0, 0, 0, 0, 0), (21, .getfield 51, 3, 11, 7, 0, 0, 0), (24, .getfield 267, 3, 5, 5, 0, 0, 0), (27, .ifCond .eq 17, 3, 44, 0, 0, 0, 0), (30, .aload_n 0, 1, 0, 0, 0, 0, 0), (31, .getfield 51, 3, 11, 7, 0, 0, 0), (34, .invokevirtual 277, 3, 47, 0, 0, 0, 0), (37, .aload_n 2, 1, 0, 0, 0, 0, 0)]),
  (59, [(38, .invokevirtual 131, 3, 60, 0, 0, 0, 0), (41, .if_icmp .lt 6, 3, 47, 0, 0, 0, 0), (44, .bipush (-4), 2, 0, 0, 0, -4, 0), (46, .ireturn, 1, 0, 0, 0, 0, 0), (47, .aload_n 0, 1, 0, 0, 0, 0, 0), (48, .getfield 51, 3, 11, 7, 0, 0, 0), (51, .aload_n 2, 1, 0, 0, 0, 0, 0), (52, .aload_n 0, 1, 0, 0, 0, 0, 0), (53, .getfield 34, 3, 11, 4, 0, 0, 0), (56, .invokevirtual 280, 3, 49, 2, 0, 0, 0)]),
  (77, [(59, .iload_n 1, 1, 0, 0, 0, 0, 0), (60, .iconst 2, 1, 0, 0, 0, 2, 0), (61, .if_icmp .ne 11, 3, 72, 0, 0, 0, 0), (64, .aload_n 0, 1, 0, 0, 0, 0, 0), (65, .getfield 51, 3, 11, 7, 0, 0, 0), (68, .getfield 284, 3, 5, 10, 0, 0, 0), (71, .ireturn, 1, 0, 0, 0, 0, 0), (72, .iload_n 1, 1, 0, 0, 0, 0, 0), (73, .iconst 3, 1, 0, 0, 0, 3, 0), (74, .if_icmp .ne 11, 3, 85, 0, 0, 0, 0)]),
  (98, [(77, .aload_n 0, 1, 0, 0, 0, 0, 0), (78, .getfield 51, 3, 11, 7, 0, 0, 0), (81, .getfield 287, 3, 5, 11, 0, 0, 0), (84, .ireturn, 1, 0, 0, 0, 0, 0), (85, .aload_n 0, 1, 0, 0, 0, 0, 0), (86, .getfield 51, 3, 11, 7, 0, 0, 0), (89, .getfield 284, 3, 5, 10, 0, 0, 0), (92, .ifCond .eq 6, 3, 98, 0, 0, 0, 0), (95, .bipush (-2), 2, 0, 0, 0, -2, 0), (97, .ireturn, 1, 0, 0, 0, 0, 0)]),
  (120, [(98, .iload_n 1, 1, 0, 0, 0, 0, 0), (99, .ifCond .ne 13, 3, 112, 0, 0, 0, 0), (102, .aload_n 0, 1, 0, 0, 0, 0, 0), (103, .getfield 51, 3, 11, 7, 0, 0, 0), (106, .getfield 287, 3, 5, 11, 0, 0, 0), (109, .goto 10, 3, 119, 0, 0, 0, 0), (112, .aload_n 0, 1, 0, 0, 0, 0, 0), (113, .getfield 51, 3, 11, 7, 0, 0, 0), (116, .getfield 290, 3, 5, 12, 0, 0, 0), (119, .ireturn, 1, 0, 0, 0, 0, 0)])]
set_option maxRecDepth 100000 in
theorem mx_ok123 : ∀ q ∈ mx_t123, ∀ en ∈ q.2, mx_gd 123 en := mx_gt_s mx_LLok11 mx_KLok11 mx_JLok11 mx_ARok (by decide +kernel)
def mx_t124 : List (Nat × List mx_En) := [(20, [(0, .aload_n 0, 1, 0, 0, 0, 0, 0), (1, .getfield 51, 3, 11, 7, 0, 0, 0), (4, .getfield 247, 3, 5, 1, 0, 0, 0), (7, .istore_n 1, 1, 0, 0, 0, 0, 0), (8, .aload_n 0, 1, 0, 0, 0, 0, 0), (9, .getfield 51, 3, 11, 7, 0, 0, 0), (12, .iconst 0, 1, 0, 0, 0, 0, 0), (13, .putfield 247, 3, 5, 1, 0, 0, 0), (16, .aload_n 0, 1, 0, 0, 0, 0, 0), (17, .getfield 51, 3, 11, 7, 0, 0, 0)]),
  (26, [(20, .iconst 0, 1, 0, 0, 0, 0, 0), (21, .putfield 267, 3, 5, 5, 0, 0, 0), (24, .iload_n 1, 1, 0, 0, 0, 0, 0), (25, .ireturn, 1, 0, 0, 0, 0, 0)])]
set_option maxRecDepth 100000 in
theorem mx_ok124 : ∀ q ∈ mx_t124, ∀ en ∈ q.2, mx_gd 124 en := mx_gt_s mx_LLok11 mx_KLok11 mx_JLok11 mx_ARok (by decide +kernel)
def mx_t125 : List (Nat × List mx_En) := [(19, [(0, .iload_n 1, 1, 0, 0, 0, 0, 0), (1, .iconst 0, 1, 0, 0, 0, 0, 0), (2, .bipush 99, 2, 0, 0, 0, 99, 0), (4, .invokestatic 97, 3, 157, 3, 0, 0, 0), (7, .ifCond .ne 5, 3, 12, 0, 0, 0, 0), (10, .iconst (-1), 1, 0, 0, 0, -1, 0), (11, .ireturn, 1, 0, 0, 0, 0, 0), (12, .aload_n 0, 1, 0, 0, 0, 0, 0), (13, .getfield 58, 3, 11, 8, 0, 0, 0), (16, .getfield 293, 3, 1, 0, 0, 0, 0)]),
  (39, [(19, .bipush 6, 2, 0, 0, 0, 6, 0), (21, .if_icmp .lt 6, 3, 27, 0, 0, 0, 0), (24, .bipush (-3), 2, 0, 0, 0, -3, 0), (26, .ireturn, 1, 0, 0, 0, 0, 0), (27, .aload_n 0, 1, 0, 0, 0, 0, 0), (28, .getfield 58, 3, 11, 8, 0, 0, 0), (31, .iload_n 1, 1, 0, 0, 0, 0, 0), (32, .invokevirtual 296, 3, 12, 1, 0, 0, 0), (35, .aload_n 0, 1, 0, 0, 0, 0, 0), (36, .getfield 58, 3, 11, 8, 0, 0, 0)]),
  (43, [(39, .getfield 293, 3, 1, 0, 0, 0, 0), (42, .ireturn, 1, 0, 0, 0, 0, 0)])]
set_option maxRecDepth 100000 in
theorem mx_ok125 : ∀ q ∈ mx_t125, ∀ en ∈ q.2, mx_gd 125 en := mx_gt_s mx_LLok11 mx_KLok11 mx_JLok11 mx_ARok (by decide +kernel)
def mx_t126 : List (Nat × List mx_En) := [(19, [(0, .aload_n 0, 1, 0, 0, 0, 0, 0), (1, .iload_n 1, 1, 0, 0, 0, 0, 0), (2, .invokevirtual 123, 3, 166, 1, 0, 0, 0), (5, .astore 4, 2, 0, 0, 0, 0, 0), (7, .aload 4, 2, 0, 0, 0, 0, 0), (9, .ifnull 22, 3, 31, 0, 0, 0, 0), (12, .iload_n 2, 1, 0, 0, 0, 0, 0), (13, .iconst 1, 1, 0, 0, 0, 1, 0), (14, .bipush 9, 2, 0, 0, 0, 9, 0), (16, .invokestatic 97, 3, 157, 3, 0, 0, 0)]),
  (37, [(19, .ifCond .eq 12, 3, 31, 0, 0, 0, 0), (22, .iload_n 3, 1, 0, 0, 0, 0, 0), (23, .iconst 0, 1, 0, 0, 0, 0, 0), (24, .iconst 2, 1, 0, 0, 0, 2, 0), (25, .invokestatic 97, 3, 157, 3, 0, 0, 0), (28, .ifCond .ne 5, 3, 33, 0, 0, 0, 0), (31, .iconst (-1), 1, 0, 0, 0, -1, 0), (32, .ireturn, 1, 0, 0, 0, 0, 0), (33, .aload_n 0, 1, 0, 0, 0, 0, 0), (34, .getfield 58, 3, 11, 8, 0, 0, 0)]),
  (57, [(37, .getfield 293, 3, 1, 0, 0, 0, 0), (40, .aload 4, 2, 0, 0, 0, 0, 0), (42, .invokevirtual 131, 3, 60, 0, 0, 0, 0), (45, .if_icmp .le 5, 3, 50, 0, 0, 0, 0), (48, .iconst (-1), 1, 0, 0, 0, -1, 0), (49, .ireturn, 1, 0, 0, 0, 0, 0), (50, .aload_n 0, 1, 0, 0, 0, 0, 0), (51, .getfield 58, 3, 11, 8, 0, 0, 0), (54, .aload 4, 2, 0, 0, 0, 0, 0), (56, .aload_n 0, 1, 0, 0, 0, 0, 0)]),
  (77, [(57, .getfield 34, 3, 11, 4, 0, 0, 0), (60, .iload_n 2, 1, 0, 0, 0, 0, 0), (61, .invokevirtual 299, 3, 13, 3, 0, 0, 0), (64, .iload_n 3, 1, 0, 0, 0, 0, 0), (65, .ifCond .ne 11, 3, 76, 0, 0, 0, 0), (68, .aload_n 0, 1, 0, 0, 0, 0, 0), (69, .getfield 58, 3, 11, 8, 0, 0, 0), (72, .getfield 302, 3, 1, 2, 0, 0, 0), (75, .ireturn, 1, 0, 0, 0, 0, 0), (76, .aload_n 0, 1, 0, 0, 0, 0, 0)]),
  (98, [(77, .getfield 58, 3, 11, 8, 0, 0, 0), (80, .getfield 302, 3, 1, 2, 0, 0, 0), (83, .ifCond .ne 6, 3, 89, 0, 0, 0, 0), (86, .bipush (-2), 2, 0, 0, 0, -2, 0), (88, .ireturn, 1, 0, 0, 0, 0, 0), (89, .iload_n 3, 1, 0, 0, 0, 0, 0), (90, .iconst 2, 1, 0, 0, 0, 2, 0), (91, .if_icmp .ne 11, 3, 102, 0, 0, 0, 0), (94, .aload_n 0, 1, 0, 0, 0, 0, 0), (95, .getfield 58, 3, 11, 8, 0, 0, 0)]),
  (121, [(98, .getfield 305, 3, 1, 4, 0, 0, 0), (101, .ireturn, 1, 0, 0, 0, 0, 0), (102, .aload_n 0, 1, 0, 0, 0, 0, 0), (103, .getfield 58, 3, 11, 8, 0, 0, 0), (106, .getfield 308, 3, 1, 3, 0, 0, 0), (109, .ifCond .ge 7, 3, 116, 0, 0, 0, 0), (112, .iconst (-1), 1, 0, 0, 0, -1, 0), (113, .goto 16, 3, 129, 0, 0, 0, 0), (116, .aload 4, 2, 0, 0, 0, 0, 0), (118, .getfield 155, 3, 7, 5, 0, 0, 0)]),
  (130, [(121, .aload_n 0, 1, 0, 0, 0, 0, 0), (122, .getfield 58, 3, 11, 8, 0, 0, 0), (125, .getfield 308, 3, 1, 3, 0, 0, 0), (128, .iadd, 1, 0, 0, 0, 0, 0), (129, .ireturn, 1, 0, 0, 0, 0, 0)])]
set_option maxRecDepth 100000 in
theorem mx_ok126 : ∀ q ∈ mx_t126, ∀ en ∈ q.2, mx_gd 126 en := mx_gt_s mx_LLok11 mx_KLok11 mx_JLok11 mx_ARok (by decide +kernel)
def mx_t127 : List (Nat × List mx_En) := [(17, [(0, .aload_n 0, 1, 0, 0, 0, 0, 0), (1, .iload_n 1, 1, 0, 0, 0, 0, 0), (2, .invokevirtual 123, 3, 166, 1, 0, 0, 0), (5, .astore_n 3, 1, 0, 0, 0, 0, 0), (6, .aload_n 3, 1, 0, 0, 0, 0, 0), (7, .ifnull 13, 3, 20, 0, 0, 0, 0), (10, .iload_n 2, 1, 0, 0, 0, 0, 0), (11, .iconst 1, 1, 0, 0, 0, 1, 0), (12, .bipush 9, 2, 0, 0, 0, 9, 0), (14, .invokestatic 97, 3, 157, 3, 0, 0, 0)]),
  (38, [(17, .ifCond .ne 5, 3, 22, 0, 0, 0, 0), (20, .iconst (-1), 1, 0, 0, 0, -1, 0), (21, .ireturn, 1, 0, 0, 0, 0, 0), (22, .aload_n 0, 1, 0, 0, 0, 0, 0), (23, .getfield 58, 3, 11, 8, 0, 0, 0), (26, .getfield 293, 3, 1, 0, 0, 0, 0), (29, .aload_n 3, 1, 0, 0, 0, 0, 0), (30, .invokevirtual 131, 3, 60, 0, 0, 0, 0), (33, .if_icmp .lt 6, 3, 39, 0, 0, 0, 0), (36, .bipush (-2), 2, 0, 0, 0, -2, 0)]),
  (56, [(38, .ireturn, 1, 0, 0, 0, 0, 0), (39, .aload_n 0, 1, 0, 0, 0, 0, 0), (40, .getfield 58, 3, 11, 8, 0, 0, 0), (43, .aload_n 3, 1, 0, 0, 0, 0, 0), (44, .aload_n 0, 1, 0, 0, 0, 0, 0), (45, .getfield 34, 3, 11, 4, 0, 0, 0), (48, .iload_n 2, 1, 0, 0, 0, 0, 0), (49, .invokevirtual 299, 3, 13, 3, 0, 0, 0), (52, .aload_n 0, 1, 0, 0, 0, 0, 0), (53, .getfield 58, 3, 11, 8, 0, 0, 0)]),
  (79, [(56, .getfield 302, 3, 1, 2, 0, 0, 0), (59, .ifCond .ne 8, 3, 67, 0, 0, 0, 0), (62, .bipush (-2), 2, 0, 0, 0, -2, 0), (64, .goto 14, 3, 78, 0, 0, 0, 0), (67, .aload_n 0, 1, 0, 0, 0, 0, 0), (68, .getfield 58, 3, 11, 8, 0, 0, 0), (71, .aload_n 3, 1, 0, 0, 0, 0, 0), (72, .invokevirtual 131, 3, 60, 0, 0, 0, 0), (75, .invokevirtual 311, 3, 15, 1, 0, 0, 0), (78, .ireturn, 1, 0, 0, 0, 0, 0)])]
set_option maxRecDepth 100000 in
theorem mx_ok127 : ∀ q ∈ mx_t127, ∀ en ∈ q.2, mx_gd 127 en := mx_gt_s mx_LLok11 mx_KLok11 mx_JLok11 mx_ARok (by decide +kernel)
def mx_t128 : List (Nat × List mx_En) := [(18, [(0, .aload_n 0, 1, 0, 0, 0, 0, 0), (1, .getfield 58, 3, 11, 8, 0, 0, 0), (4, .getfield 293, 3, 1, 0, 0, 0, 0), (7, .istore_n 1, 1, 0, 0, 0, 0, 0), (8, .aload_n 0, 1, 0, 0, 0, 0, 0), (9, .getfield 58, 3, 11, 8, 0, 0, 0), (12, .iconst 0, 1, 0, 0, 0, 0, 0), (13, .putfield 293, 3, 1, 0, 0, 0, 0), (16, .iload_n 1, 1, 0, 0, 0, 0, 0), (17, .ireturn, 1, 0, 0, 0, 0, 0)])]
set_option maxRecDepth 100000 in
theorem mx_ok128 : ∀ q ∈ mx_t128, ∀ en ∈ q.2, mx_gd 128 en := mx_gt_s mx_LLok11 mx_KLok11 mx_JLok11 mx_ARok (by decide +kernel)
def mx_t129 : List (Nat × List mx_En) := [(20, [(0, .iload_n 1, 1, 0, 0, 0, 0, 0), (1, .iconst 0, 1, 0, 0, 0, 0, 0), (2, .sipush 500, 3, 0, 0, 0, 500, 0), (5, .invokestatic 97, 3, 157, 3, 0, 0, 0), (8, .ifCond .ne 5, 3, 13, 0, 0, 0, 0), (11, .iconst (-1), 1, 0, 0, 0, -1, 0), (12, .ireturn, 1, 0, 0, 0, 0, 0), (13, .aload_n 0, 1, 0, 0, 0, 0, 0), (14, .getfield 65, 3, 11, 9, 0, 0, 0), (17, .getfield 314, 3, 0, 0, 0, 0, 0)]),
  (31, [(20, .istore_n 2, 1, 0, 0, 0, 0, 0), (21, .aload_n 0, 1, 0, 0, 0, 0, 0), (22, .getfield 65, 3, 11, 9, 0, 0, 0), (25, .iload_n 1, 1, 0, 0, 0, 0, 0), (26, .putfield 314, 3, 0, 0, 0, 0, 0), (29, .iload_n 2, 1, 0, 0, 0, 0, 0), (30, .ireturn, 1, 0, 0, 0, 0, 0)])]
set_option maxRecDepth 100000 in
theorem mx_ok129 : ∀ q ∈ mx_t129, ∀ en ∈ q.2, mx_gd 129 en := mx_gt_s mx_LLok11 mx_KLok11 mx_JLok11 mx_ARok (by decide +kernel)
def mx_t130 : List (Nat × List mx_En) := [(19, [(0, .iload_n 1, 1, 0, 0, 0, 0, 0), (1, .invokestatic 317, 3, 160, 1, 0, 0, 0), (4, .ifCond .eq 12, 3, 16, 0, 0, 0, 0), (7, .iload_n 2, 1, 0, 0, 0, 0, 0), (8, .iconst (-1), 1, 0, 0, 0, -1, 0), (9, .iconst 5, 1, 0, 0, 0, 5, 0), (10, .invokestatic 97, 3, 157, 3, 0, 0, 0), (13, .ifCond .ne 6, 3, 19, 0, 0, 0, 0), (16, .ldc 127, 2, 0, 0, 0, -2000000000, 0), (18, .ireturn, 1, 0, 0, 0, 0, 0)]),
  (37, [(19, .aload_n 0, 1, 0, 0, 0, 0, 0), (20, .getfield 65, 3, 11, 9, 0, 0, 0), (23, .getfield 320, 3, 0, 1, 0, 0, 0), (26, .iload_n 1, 1, 0, 0, 0, 0, 0), (27, .iaload, 1, 0, 0, 0, 0, 0), (28, .istore_n 3, 1, 0, 0, 0, 0, 0), (29, .aload_n 0, 1, 0, 0, 0, 0, 0), (30, .getfield 65, 3, 11, 9, 0, 0, 0), (33, .getfield 320, 3, 0, 1, 0, 0, 0), (36, .iload_n 1, 1, 0, 0, 0, 0, 0)]),
  (41, [(37, .iload_n 2, 1, 0, 0, 0, 0, 0), (38, .iastore, 1, 0, 0, 0, 0, 0), (39, .iload_n 3, 1, 0, 0, 0, 0, 0), (40, .ireturn, 1, 0, 0, 0, 0, 0)])]
set_option maxRecDepth 100000 in
theorem mx_ok130 : ∀ q ∈ mx_t130, ∀ en ∈ q.2, mx_gd 130 en := mx_gt_s mx_LLok11 mx_KLok11 mx_JLok11 mx_ARok (by decide +kernel)
def mx_t131 : List (Nat × List mx_En) := [(20, [(0, .aload_n 0, 1, 0, 0, 0, 0, 0), (1, .iload_n 1, 1, 0, 0, 0, 0, 0), (2, .invokevirtual 123, 3, 166, 1, 0, 0, 0), (5, .astore 5, 2, 0, 0, 0, 0, 0), (7, .aload 5, 2, 0, 0, 0, 0, 0), (9, .iload_n 2, 1, 0, 0, 0, 0, 0), (10, .invokestatic 147, 3, 164, 2, 0, 0, 0), (13, .ifCond .eq 22, 3, 35, 0, 0, 0, 0), (16, .iload_n 3, 1, 0, 0, 0, 0, 0), (17, .invokestatic 323, 3, 159, 1, 0, 0, 0)]),
  (42, [(20, .ifCond .eq 15, 3, 35, 0, 0, 0, 0), (23, .iload 4, 2, 0, 0, 0, 0, 0), (25, .iconst 1, 1, 0, 0, 0, 1, 0), (26, .sipush 200, 3, 0, 0, 0, 200, 0), (29, .invokestatic 97, 3, 157, 3, 0, 0, 0), (32, .ifCond .ne 5, 3, 37, 0, 0, 0, 0), (35, .iconst (-1), 1, 0, 0, 0, -1, 0), (36, .ireturn, 1, 0, 0, 0, 0, 0), (37, .aload 5, 2, 0, 0, 0, 0, 0), (39, .getfield 144, 3, 7, 4, 0, 0, 0)]),
  (60, [(42, .iload_n 2, 1, 0, 0, 0, 0, 0), (43, .iaload, 1, 0, 0, 0, 0, 0), (44, .ifCond .eq 6, 3, 50, 0, 0, 0, 0), (47, .bipush (-4), 2, 0, 0, 0, -4, 0), (49, .ireturn, 1, 0, 0, 0, 0, 0), (50, .aload_n 0, 1, 0, 0, 0, 0, 0), (51, .getfield 34, 3, 11, 4, 0, 0, 0), (54, .aload 5, 2, 0, 0, 0, 0, 0), (56, .invokevirtual 179, 3, 22, 1, 0, 0, 0), (59, .aload_n 0, 1, 0, 0, 0, 0, 0)]),
  (80, [(60, .getfield 65, 3, 11, 9, 0, 0, 0), (63, .aload_n 0, 1, 0, 0, 0, 0, 0), (64, .getfield 34, 3, 11, 4, 0, 0, 0), (67, .invokevirtual 326, 3, 3, 1, 0, 0, 0), (70, .aload_n 0, 1, 0, 0, 0, 0, 0), (71, .getfield 65, 3, 11, 9, 0, 0, 0), (74, .aload_n 0, 1, 0, 0, 0, 0, 0), (75, .getfield 34, 3, 11, 4, 0, 0, 0), (78, .iload_n 2, 1, 0, 0, 0, 0, 0), (79, .iload_n 3, 1, 0, 0, 0, 0, 0)]),
  (98, [(80, .invokevirtual 330, 3, 4, 3, 0, 0, 0), (83, .aload_n 0, 1, 0, 0, 0, 0, 0), (84, .getfield 65, 3, 11, 9, 0, 0, 0), (87, .aload_n 0, 1, 0, 0, 0, 0, 0), (88, .getfield 34, 3, 11, 4, 0, 0, 0), (91, .iload 4, 2, 0, 0, 0, 0, 0), (93, .iconst 0, 1, 0, 0, 0, 0, 0), (94, .invokevirtual 334, 3, 5, 3, 0, 0, 0), (97, .ireturn, 1, 0, 0, 0, 0, 0)])]
set_option maxRecDepth 100000 in
theorem mx_ok131 : ∀ q ∈ mx_t131, ∀ en ∈ q.2, mx_gd 131 en := mx_gt_s mx_LLok11 mx_KLok11 mx_JLok11 mx_ARok (by decide +kernel)
def mx_t132 : List (Nat × List mx_En) := [(18, [(0, .iload_n 1, 1, 0, 0, 0, 0, 0), (1, .iconst 0, 1, 0, 0, 0, 0, 0), (2, .iconst 5, 1, 0, 0, 0, 5, 0), (3, .invokestatic 97, 3, 157, 3, 0, 0, 0), (6, .ifCond .eq 20, 3, 26, 0, 0, 0, 0), (9, .iload_n 2, 1, 0, 0, 0, 0, 0), (10, .invokestatic 323, 3, 159, 1, 0, 0, 0), (13, .ifCond .eq 13, 3, 26, 0, 0, 0, 0), (16, .iload_n 3, 1, 0, 0, 0, 0, 0), (17, .iconst 0, 1, 0, 0, 0, 0, 0)]),
  (40, [(18, .bipush 99, 2, 0, 0, 0, 99, 0), (20, .invokestatic 97, 3, 157, 3, 0, 0, 0), (23, .ifCond .ne 5, 3, 28, 0, 0, 0, 0), (26, .iconst (-1), 1, 0, 0, 0, -1, 0), (27, .ireturn, 1, 0, 0, 0, 0, 0), (28, .aload_n 0, 1, 0, 0, 0, 0, 0), (29, .getfield 65, 3, 11, 9, 0, 0, 0), (32, .getfield 338, 3, 0, 7, 0, 0, 0), (35, .bipush 6, 2, 0, 0, 0, 6, 0), (37, .if_icmp .lt 6, 3, 43, 0, 0, 0, 0)]),
  (57, [(40, .bipush (-3), 2, 0, 0, 0, -3, 0), (42, .ireturn, 1, 0, 0, 0, 0, 0), (43, .aload_n 0, 1, 0, 0, 0, 0, 0), (44, .getfield 65, 3, 11, 9, 0, 0, 0), (47, .iload_n 1, 1, 0, 0, 0, 0, 0), (48, .iload_n 2, 1, 0, 0, 0, 0, 0), (49, .iload_n 3, 1, 0, 0, 0, 0, 0), (50, .invokevirtual 339, 3, 2, 3, 0, 0, 0), (53, .aload_n 0, 1, 0, 0, 0, 0, 0), (54, .getfield 65, 3, 11, 9, 0, 0, 0)]),
  (61, [(57, .getfield 338, 3, 0, 7, 0, 0, 0), (60, .ireturn, 1, 0, 0, 0, 0, 0)])]
set_option maxRecDepth 100000 in
theorem mx_ok132 : ∀ q ∈ mx_t132, ∀ en ∈ q.2, mx_gd 132 en := mx_gt_s mx_LLok11 mx_KLok11 mx_JLok11 mx_ARok (by decide +kernel)
def mx_t133 : List (Nat × List mx_En) := [(18, [(0, .aload_n 0, 1, 0, 0, 0, 0, 0), (1, .iload_n 1, 1, 0, 0, 0, 0, 0), (2, .invokevirtual 123, 3, 166, 1, 0, 0, 0), (5, .astore_n 3, 1, 0, 0, 0, 0, 0), (6, .aload_n 3, 1, 0, 0, 0, 0, 0), (7, .ifnull 14, 3, 21, 0, 0, 0, 0), (10, .iload_n 2, 1, 0, 0, 0, 0, 0), (11, .iconst 1, 1, 0, 0, 0, 1, 0), (12, .sipush 200, 3, 0, 0, 0, 200, 0), (15, .invokestatic 97, 3, 157, 3, 0, 0, 0)]),
  (37, [(18, .ifCond .ne 5, 3, 23, 0, 0, 0, 0), (21, .iconst (-1), 1, 0, 0, 0, -1, 0), (22, .ireturn, 1, 0, 0, 0, 0, 0), (23, .aload_n 0, 1, 0, 0, 0, 0, 0), (24, .getfield 65, 3, 11, 9, 0, 0, 0), (27, .getfield 338, 3, 0, 7, 0, 0, 0), (30, .ifCond .ne 6, 3, 36, 0, 0, 0, 0), (33, .bipush (-4), 2, 0, 0, 0, -4, 0), (35, .ireturn, 1, 0, 0, 0, 0, 0), (36, .aload_n 0, 1, 0, 0, 0, 0, 0)]),
  (59, [(37, .getfield 34, 3, 11, 4, 0, 0, 0), (40, .aload_n 3, 1, 0, 0, 0, 0, 0), (41, .invokevirtual 179, 3, 22, 1, 0, 0, 0), (44, .aload_n 0, 1, 0, 0, 0, 0, 0), (45, .getfield 65, 3, 11, 9, 0, 0, 0), (48, .aload_n 0, 1, 0, 0, 0, 0, 0), (49, .getfield 34, 3, 11, 4, 0, 0, 0), (52, .invokevirtual 326, 3, 3, 1, 0, 0, 0), (55, .aload_n 0, 1, 0, 0, 0, 0, 0), (56, .getfield 65, 3, 11, 9, 0, 0, 0)]),
  (80, [(59, .aload_n 0, 1, 0, 0, 0, 0, 0), (60, .getfield 34, 3, 11, 4, 0, 0, 0), (63, .iload_n 2, 1, 0, 0, 0, 0, 0), (64, .aload_n 0, 1, 0, 0, 0, 0, 0), (65, .getfield 65, 3, 11, 9, 0, 0, 0), (68, .getfield 338, 3, 0, 7, 0, 0, 0), (71, .invokevirtual 334, 3, 5, 3, 0, 0, 0), (74, .istore 4, 2, 0, 0, 0, 0, 0), (76, .aload_n 0, 1, 0, 0, 0, 0, 0), (77, .getfield 65, 3, 11, 9, 0, 0, 0)]),
  (87, [(80, .iconst 0, 1, 0, 0, 0, 0, 0), (81, .putfield 338, 3, 0, 7, 0, 0, 0), (84, .iload 4, 2, 0, 0, 0, 0, 0), (86, .ireturn, 1, 0, 0, 0, 0, 0)])]
set_option maxRecDepth 100000 in
theorem mx_ok133 : ∀ q ∈ mx_t133, ∀ en ∈ q.2, mx_gd 133 en := mx_gt_s mx_LLok11 mx_KLok11 mx_JLok11 mx_ARok (by decide +kernel)
def mx_t134 : List (Nat × List mx_En) := [(22, [(0, .iload_n 1, 1, 0, 0, 0, 0, 0), (1, .invokestatic 317, 3, 160, 1, 0, 0, 0), (4, .ifCond .eq 29, 3, 33, 0, 0, 0, 0), (7, .iload_n 2, 1, 0, 0, 0, 0, 0), (8, .iconst 1, 1, 0, 0, 0, 1, 0), (9, .aload_n 0, 1, 0, 0, 0, 0, 0), (10, .getfield 65, 3, 11, 9, 0, 0, 0), (13, .getfield 341, 3, 0, 2, 0, 0, 0), (16, .invokestatic 97, 3, 157, 3, 0, 0, 0), (19, .ifCond .eq 14, 3, 33, 0, 0, 0, 0)]),
  (41, [(22, .aload_n 0, 1, 0, 0, 0, 0, 0), (23, .getfield 65, 3, 11, 9, 0, 0, 0), (26, .iload_n 1, 1, 0, 0, 0, 0, 0), (27, .invokevirtual 344, 3, 7, 1, 0, 0, 0), (30, .ifCond .ne 6, 3, 36, 0, 0, 0, 0), (33, .ldc 127, 2, 0, 0, 0, -2000000000, 0), (35, .ireturn, 1, 0, 0, 0, 0, 0), (36, .aload_n 0, 1, 0, 0, 0, 0, 0), (37, .getfield 65, 3, 11, 9, 0, 0, 0), (40, .iload_n 1, 1, 0, 0, 0, 0, 0)]),
  (46, [(41, .iload_n 2, 1, 0, 0, 0, 0, 0), (42, .invokevirtual 347, 3, 8, 2, 0, 0, 0), (45, .ireturn, 1, 0, 0, 0, 0, 0)])]
set_option maxRecDepth 100000 in
theorem mx_ok134 : ∀ q ∈ mx_t134, ∀ en ∈ q.2, mx_gd 134 en := mx_gt_s mx_LLok11 mx_KLok11 mx_JLok11 mx_ARok (by decide +kernel)
def mx_t135 : List (Nat × List mx_En) := [(18, [(0, .iload_n 1, 1, 0, 0, 0, 0, 0), (1, .invokestatic 317, 3, 160, 1, 0, 0, 0), (4, .ifCond .eq 8, 3, 12, 0, 0, 0, 0), (7, .iload_n 2, 1, 0, 0, 0, 0, 0), (8, .iconst (-1), 1, 0, 0, 0, -1, 0), (9, .if_icmp .ge 5, 3, 14, 0, 0, 0, 0), (12, .iconst (-1), 1, 0, 0, 0, -1, 0), (13, .ireturn, 1, 0, 0, 0, 0, 0), (14, .aload_n 0, 1, 0, 0, 0, 0, 0), (15, .getfield 65, 3, 11, 9, 0, 0, 0)]),
  (37, [(18, .iload_n 1, 1, 0, 0, 0, 0, 0), (19, .invokevirtual 344, 3, 7, 1, 0, 0, 0), (22, .ifCond .ne 6, 3, 28, 0, 0, 0, 0), (25, .bipush (-4), 2, 0, 0, 0, -4, 0), (27, .ireturn, 1, 0, 0, 0, 0, 0), (28, .iload_n 2, 1, 0, 0, 0, 0, 0), (29, .iconst (-1), 1, 0, 0, 0, -1, 0), (30, .if_icmp .ne 14, 3, 44, 0, 0, 0, 0), (33, .aload_n 0, 1, 0, 0, 0, 0, 0), (34, .getfield 65, 3, 11, 9, 0, 0, 0)]),
  (54, [(37, .iload_n 1, 1, 0, 0, 0, 0, 0), (38, .invokevirtual 350, 3, 9, 1, 0, 0, 0), (41, .goto 12, 3, 53, 0, 0, 0, 0), (44, .aload_n 0, 1, 0, 0, 0, 0, 0), (45, .getfield 65, 3, 11, 9, 0, 0, 0), (48, .iload_n 1, 1, 0, 0, 0, 0, 0), (49, .iload_n 2, 1, 0, 0, 0, 0, 0), (50, .invokevirtual 353, 3, 10, 2, 0, 0, 0), (53, .ireturn, 1, 0, 0, 0, 0, 0)])]
set_option maxRecDepth 100000 in
theorem mx_ok135 : ∀ q ∈ mx_t135, ∀ en ∈ q.2, mx_gd 135 en := mx_gt_s mx_LLok11 mx_KLok11 mx_JLok11 mx_ARok (by decide +kernel)
def mx_t136 : List (Nat × List mx_En) := [(22, [(0, .iload_n 1, 1, 0, 0, 0, 0, 0), (1, .invokestatic 317, 3, 160, 1, 0, 0, 0), (4, .ifCond .eq 21, 3, 25, 0, 0, 0, 0), (7, .iload_n 2, 1, 0, 0, 0, 0, 0), (8, .invokestatic 356, 3, 161, 1, 0, 0, 0), (11, .ifCond .eq 14, 3, 25, 0, 0, 0, 0), (14, .iload 4, 2, 0, 0, 0, 0, 0), (16, .iconst 1, 1, 0, 0, 0, 1, 0), (17, .bipush 60, 2, 0, 0, 0, 60, 0), (19, .invokestatic 97, 3, 157, 3, 0, 0, 0)]),
  (41, [(22, .ifCond .ne 5, 3, 27, 0, 0, 0, 0), (25, .iconst (-1), 1, 0, 0, 0, -1, 0), (26, .ireturn, 1, 0, 0, 0, 0, 0), (27, .aload_n 0, 1, 0, 0, 0, 0, 0), (28, .getfield 65, 3, 11, 9, 0, 0, 0), (31, .iload_n 1, 1, 0, 0, 0, 0, 0), (32, .invokevirtual 344, 3, 7, 1, 0, 0, 0), (35, .ifCond .ne 6, 3, 41, 0, 0, 0, 0), (38, .bipush (-4), 2, 0, 0, 0, -4, 0), (40, .ireturn, 1, 0, 0, 0, 0, 0)]),
  (60, [(41, .aload_n 0, 1, 0, 0, 0, 0, 0), (42, .getfield 93, 3, 11, 13, 0, 0, 0), (45, .iload_n 2, 1, 0, 0, 0, 0, 0), (46, .invokevirtual 359, 3, 73, 1, 0, 0, 0), (49, .istore 5, 2, 0, 0, 0, 0, 0), (51, .iload 5, 2, 0, 0, 0, 0, 0), (53, .ifCond .eq 6, 3, 59, 0, 0, 0, 0), (56, .iload 5, 2, 0, 0, 0, 0, 0), (58, .ireturn, 1, 0, 0, 0, 0, 0), (59, .aload_n 0, 1, 0, 0, 0, 0, 0)]),
  (80, [(60, .getfield 93, 3, 11, 13, 0, 0, 0), (63, .iload_n 2, 1, 0, 0, 0, 0, 0), (64, .iload_n 3, 1, 0, 0, 0, 0, 0), (65, .invokevirtual 362, 3, 74, 2, 0, 0, 0), (68, .ifCond .ne 6, 3, 74, 0, 0, 0, 0), (71, .bipush (-13), 2, 0, 0, 0, -13, 0), (73, .ireturn, 1, 0, 0, 0, 0, 0), (74, .iload 4, 2, 0, 0, 0, 0, 0), (76, .aload_n 0, 1, 0, 0, 0, 0, 0), (77, .getfield 93, 3, 11, 13, 0, 0, 0)]),
  (100, [(80, .getfield 365, 3, 8, 1, 0, 0, 0), (83, .iload_n 2, 1, 0, 0, 0, 0, 0), (84, .iaload, 1, 0, 0, 0, 0, 0), (85, .iload_n 3, 1, 0, 0, 0, 0, 0), (86, .isub, 1, 0, 0, 0, 0, 0), (87, .aload_n 0, 1, 0, 0, 0, 0, 0), (88, .getfield 65, 3, 11, 9, 0, 0, 0), (91, .getfield 341, 3, 0, 2, 0, 0, 0), (94, .invokestatic 171, 3, 4, 0, 2, 0, 0), (97, .invokestatic 171, 3, 4, 0, 2, 0, 0)]),
  (118, [(100, .istore 6, 2, 0, 0, 0, 0, 0), (102, .iconst 0, 1, 0, 0, 0, 0, 0), (103, .istore 7, 2, 0, 0, 0, 0, 0), (105, .iload 7, 2, 0, 0, 0, 0, 0), (107, .iload 6, 2, 0, 0, 0, 0, 0), (109, .if_icmp .ge 33, 3, 142, 0, 0, 0, 0), (112, .aload_n 0, 1, 0, 0, 0, 0, 0), (113, .getfield 93, 3, 11, 13, 0, 0, 0), (116, .iload_n 2, 1, 0, 0, 0, 0, 0), (117, .iload_n 3, 1, 0, 0, 0, 0, 0)]),
  (136, [(118, .iload 7, 2, 0, 0, 0, 0, 0), (120, .iadd, 1, 0, 0, 0, 0, 0), (121, .aload_n 0, 1, 0, 0, 0, 0, 0), (122, .getfield 65, 3, 11, 9, 0, 0, 0), (125, .iload_n 1, 1, 0, 0, 0, 0, 0), (126, .iload 7, 2, 0, 0, 0, 0, 0), (128, .iconst 1, 1, 0, 0, 0, 1, 0), (129, .iadd, 1, 0, 0, 0, 0, 0), (130, .invokevirtual 347, 3, 8, 2, 0, 0, 0), (133, .invokevirtual 368, 3, 79, 3, 0, 0, 0)]),
  (145, [(136, .iinc 7 1, 3, 0, 0, 0, 1, 0), (139, .goto (-34), 3, 105, 0, 0, 0, 0), (142, .iload 6, 2, 0, 0, 0, 0, 0), (144, .ireturn, 1, 0, 0, 0, 0, 0)])]
set_option maxRecDepth 100000 in
theorem mx_ok136 : ∀ q ∈ mx_t136, ∀ en ∈ q.2, mx_gd 136 en := mx_gt_s mx_LLok11 mx_KLok11 mx_JLok11 mx_ARok (by decide +kernel)
def mx_t137 : List (Nat × List mx_En) := [(19, [(0, .iload_n 1, 1, 0, 0, 0, 0, 0), (1, .invokestatic 356, 3, 161, 1, 0, 0, 0), (4, .ifCond .eq 13, 3, 17, 0, 0, 0, 0), (7, .iload_n 2, 1, 0, 0, 0, 0, 0), (8, .iconst 2, 1, 0, 0, 0, 2, 0), (9, .bipush 60, 2, 0, 0, 0, 60, 0), (11, .invokestatic 97, 3, 157, 3, 0, 0, 0), (14, .ifCond .ne 5, 3, 19, 0, 0, 0, 0), (17, .iconst (-1), 1, 0, 0, 0, -1, 0), (18, .ireturn, 1, 0, 0, 0, 0, 0)]),
  (35, [(19, .aload_n 0, 1, 0, 0, 0, 0, 0), (20, .getfield 93, 3, 11, 13, 0, 0, 0), (23, .iload_n 1, 1, 0, 0, 0, 0, 0), (24, .invokevirtual 359, 3, 73, 1, 0, 0, 0), (27, .istore_n 3, 1, 0, 0, 0, 0, 0), (28, .iload_n 3, 1, 0, 0, 0, 0, 0), (29, .ifCond .eq 5, 3, 34, 0, 0, 0, 0), (32, .iload_n 3, 1, 0, 0, 0, 0, 0), (33, .ireturn, 1, 0, 0, 0, 0, 0), (34, .aload_n 0, 1, 0, 0, 0, 0, 0)]),
  (51, [(35, .getfield 93, 3, 11, 13, 0, 0, 0), (38, .iload_n 1, 1, 0, 0, 0, 0, 0), (39, .iload_n 2, 1, 0, 0, 0, 0, 0), (40, .invokevirtual 371, 3, 81, 2, 0, 0, 0), (43, .ldc2_w 375, 3, 0, 0, 0, 0, 1999999999), (46, .invokestatic 377, 3, 5, 0, 2, 0, 0), (49, .l2i, 1, 0, 0, 0, 0, 0), (50, .ireturn, 1, 0, 0, 0, 0, 0)])]
set_option maxRecDepth 100000 in
theorem mx_ok137 : ∀ q ∈ mx_t137, ∀ en ∈ q.2, mx_gd 137 en := mx_gt_s mx_LLok11 mx_KLok11 mx_JLok11 mx_ARok (by decide +kernel)
def mx_t138 : List (Nat × List mx_En) := [(18, [(0, .iload_n 1, 1, 0, 0, 0, 0, 0), (1, .invokestatic 356, 3, 161, 1, 0, 0, 0), (4, .ifCond .ne 5, 3, 9, 0, 0, 0, 0), (7, .iconst (-1), 1, 0, 0, 0, -1, 0), (8, .ireturn, 1, 0, 0, 0, 0, 0), (9, .aload_n 0, 1, 0, 0, 0, 0, 0), (10, .getfield 93, 3, 11, 13, 0, 0, 0), (13, .iload_n 1, 1, 0, 0, 0, 0, 0), (14, .invokevirtual 359, 3, 73, 1, 0, 0, 0), (17, .istore_n 2, 1, 0, 0, 0, 0, 0)]),
  (36, [(18, .iload_n 2, 1, 0, 0, 0, 0, 0), (19, .ifCond .eq 5, 3, 24, 0, 0, 0, 0), (22, .iload_n 2, 1, 0, 0, 0, 0, 0), (23, .ireturn, 1, 0, 0, 0, 0, 0), (24, .aload_n 0, 1, 0, 0, 0, 0, 0), (25, .getfield 93, 3, 11, 13, 0, 0, 0), (28, .getfield 365, 3, 8, 1, 0, 0, 0), (31, .iload_n 1, 1, 0, 0, 0, 0, 0), (32, .iaload, 1, 0, 0, 0, 0, 0), (33, .ifCond .ne 8, 3, 41, 0, 0, 0, 0)]),
  (50, [(36, .bipush (-2), 2, 0, 0, 0, -2, 0), (38, .goto 11, 3, 49, 0, 0, 0, 0), (41, .aload_n 0, 1, 0, 0, 0, 0, 0), (42, .getfield 93, 3, 11, 13, 0, 0, 0), (45, .iload_n 1, 1, 0, 0, 0, 0, 0), (46, .invokevirtual 380, 3, 83, 1, 0, 0, 0), (49, .ireturn, 1, 0, 0, 0, 0, 0)])]
set_option maxRecDepth 100000 in
theorem mx_ok138 : ∀ q ∈ mx_t138, ∀ en ∈ q.2, mx_gd 138 en := mx_gt_s mx_LLok11 mx_KLok11 mx_JLok11 mx_ARok (by decide +kernel)
def mx_t139 : List (Nat × List mx_En) := [(20, [(0, .iload_n 1, 1, 0, 0, 0, 0, 0), (1, .iconst 1, 1, 0, 0, 0, 1, 0), (2, .bipush 9, 2, 0, 0, 0, 9, 0), (4, .invokestatic 97, 3, 157, 3, 0, 0, 0), (7, .ifCond .eq 13, 3, 20, 0, 0, 0, 0), (10, .iload_n 2, 1, 0, 0, 0, 0, 0), (11, .iconst 1, 1, 0, 0, 0, 1, 0), (12, .bipush 9, 2, 0, 0, 0, 9, 0), (14, .invokestatic 97, 3, 157, 3, 0, 0, 0), (17, .ifCond .ne 5, 3, 22, 0, 0, 0, 0)]),
  (38, [(20, .iconst (-1), 1, 0, 0, 0, -1, 0), (21, .ireturn, 1, 0, 0, 0, 0, 0), (22, .aload_n 0, 1, 0, 0, 0, 0, 0), (23, .getfield 72, 3, 11, 10, 0, 0, 0), (26, .getfield 383, 3, 6, 0, 0, 0, 0), (29, .bipush 6, 2, 0, 0, 0, 6, 0), (31, .if_icmp .lt 6, 3, 37, 0, 0, 0, 0), (34, .bipush (-3), 2, 0, 0, 0, -3, 0), (36, .ireturn, 1, 0, 0, 0, 0, 0), (37, .aload_n 0, 1, 0, 0, 0, 0, 0)]),
  (54, [(38, .getfield 72, 3, 11, 10, 0, 0, 0), (41, .iload_n 1, 1, 0, 0, 0, 0, 0), (42, .iload_n 2, 1, 0, 0, 0, 0, 0), (43, .invokevirtual 384, 3, 53, 2, 0, 0, 0), (46, .aload_n 0, 1, 0, 0, 0, 0, 0), (47, .getfield 72, 3, 11, 10, 0, 0, 0), (50, .getfield 383, 3, 6, 0, 0, 0, 0), (53, .ireturn, 1, 0, 0, 0, 0, 0)])]
set_option maxRecDepth 100000 in
theorem mx_ok139 : ∀ q ∈ mx_t139, ∀ en ∈ q.2, mx_gd 139 en := mx_gt_s mx_LLok11 mx_KLok11 mx_JLok11 mx_ARok (by decide +kernel)
def mx_t140 : List (Nat × List mx_En) := [(15, [(0, .iload_n 2, 1, 0, 0, 0, 0, 0), (1, .iconst 2, 1, 0, 0, 0, 2, 0), (2, .bipush 7, 2, 0, 0, 0, 7, 0), (4, .invokestatic 97, 3, 157, 3, 0, 0, 0), (7, .ifCond .eq 11, 3, 18, 0, 0, 0, 0), (10, .iload_n 1, 1, 0, 0, 0, 0, 0), (11, .iconst 4, 1, 0, 0, 0, 4, 0), (12, .iload_n 2, 1, 0, 0, 0, 0, 0), (13, .imul, 1, 0, 0, 0, 0, 0), (14, .ishr, 1, 0, 0, 0, 0, 0)]),
  (34, [(15, .ifCond .eq 5, 3, 20, 0, 0, 0, 0), (18, .iconst (-1), 1, 0, 0, 0, -1, 0), (19, .ireturn, 1, 0, 0, 0, 0, 0), (20, .iload_n 3, 1, 0, 0, 0, 0, 0), (21, .iconst 0, 1, 0, 0, 0, 0, 0), (22, .sipush 9999, 3, 0, 0, 0, 9999, 0), (25, .invokestatic 97, 3, 157, 3, 0, 0, 0), (28, .ifCond .eq 13, 3, 41, 0, 0, 0, 0), (31, .iload 4, 2, 0, 0, 0, 0, 0), (33, .iconst 0, 1, 0, 0, 0, 0, 0)]),
  (52, [(34, .iconst 1, 1, 0, 0, 0, 1, 0), (35, .invokestatic 97, 3, 157, 3, 0, 0, 0), (38, .ifCond .ne 5, 3, 43, 0, 0, 0, 0), (41, .iconst (-1), 1, 0, 0, 0, -1, 0), (42, .ireturn, 1, 0, 0, 0, 0, 0), (43, .iconst 0, 1, 0, 0, 0, 0, 0), (44, .istore 5, 2, 0, 0, 0, 0, 0), (46, .iload 5, 2, 0, 0, 0, 0, 0), (48, .iload_n 2, 1, 0, 0, 0, 0, 0), (49, .if_icmp .ge 68, 3, 117, 0, 0, 0, 0)]),
  (67, [(52, .aload_n 0, 1, 0, 0, 0, 0, 0), (53, .iload_n 1, 1, 0, 0, 0, 0, 0), (54, .iconst 4, 1, 0, 0, 0, 4, 0), (55, .iload 5, 2, 0, 0, 0, 0, 0), (57, .imul, 1, 0, 0, 0, 0, 0), (58, .ishr, 1, 0, 0, 0, 0, 0), (59, .bipush 15, 2, 0, 0, 0, 15, 0), (61, .iand, 1, 0, 0, 0, 0, 0), (62, .invokevirtual 123, 3, 166, 1, 0, 0, 0), (65, .astore 6, 2, 0, 0, 0, 0, 0)]),
  (88, [(67, .aload 6, 2, 0, 0, 0, 0, 0), (69, .ifnull 11, 3, 80, 0, 0, 0, 0), (72, .aload 6, 2, 0, 0, 0, 0, 0), (74, .invokevirtual 131, 3, 60, 0, 0, 0, 0), (77, .ifCond .ne 5, 3, 82, 0, 0, 0, 0), (80, .iconst (-1), 1, 0, 0, 0, -1, 0), (81, .ireturn, 1, 0, 0, 0, 0, 0), (82, .aload_n 0, 1, 0, 0, 0, 0, 0), (83, .getfield 34, 3, 11, 4, 0, 0, 0), (86, .aload 6, 2, 0, 0, 0, 0, 0)]),
  (110, [(88, .invokevirtual 179, 3, 22, 1, 0, 0, 0), (91, .aload_n 0, 1, 0, 0, 0, 0, 0), (92, .getfield 72, 3, 11, 10, 0, 0, 0), (95, .getfield 385, 3, 6, 3, 0, 0, 0), (98, .iload 5, 2, 0, 0, 0, 0, 0), (100, .aload_n 0, 1, 0, 0, 0, 0, 0), (101, .getfield 34, 3, 11, 4, 0, 0, 0), (104, .iconst 0, 1, 0, 0, 0, 0, 0), (105, .bipush 9, 2, 0, 0, 0, 9, 0), (107, .invokevirtual 202, 3, 33, 2, 0, 0, 0)]),
  (130, [(110, .iastore, 1, 0, 0, 0, 0, 0), (111, .iinc 5 1, 3, 0, 0, 0, 1, 0), (114, .goto (-68), 3, 46, 0, 0, 0, 0), (117, .aload_n 0, 1, 0, 0, 0, 0, 0), (118, .getfield 72, 3, 11, 10, 0, 0, 0), (121, .getfield 383, 3, 6, 0, 0, 0, 0), (124, .iload_n 2, 1, 0, 0, 0, 0, 0), (125, .iconst 1, 1, 0, 0, 0, 1, 0), (126, .isub, 1, 0, 0, 0, 0, 0), (127, .if_icmp .ge 6, 3, 133, 0, 0, 0, 0)]),
  (150, [(130, .bipush (-4), 2, 0, 0, 0, -4, 0), (132, .ireturn, 1, 0, 0, 0, 0, 0), (133, .iload 4, 2, 0, 0, 0, 0, 0), (135, .ifCond .ne 15, 3, 150, 0, 0, 0, 0), (138, .aload_n 0, 1, 0, 0, 0, 0, 0), (139, .getfield 72, 3, 11, 10, 0, 0, 0), (142, .iload_n 2, 1, 0, 0, 0, 0, 0), (143, .iload_n 3, 1, 0, 0, 0, 0, 0), (144, .invokevirtual 388, 3, 55, 2, 0, 0, 0), (147, .goto 12, 3, 159, 0, 0, 0, 0)]),
  (160, [(150, .aload_n 0, 1, 0, 0, 0, 0, 0), (151, .getfield 72, 3, 11, 10, 0, 0, 0), (154, .iload_n 2, 1, 0, 0, 0, 0, 0), (155, .iload_n 3, 1, 0, 0, 0, 0, 0), (156, .invokevirtual 391, 3, 56, 2, 0, 0, 0), (159, .ireturn, 1, 0, 0, 0, 0, 0)])]
set_option maxRecDepth 100000 in
theorem mx_ok140 : ∀ q ∈ mx_t140, ∀ en ∈ q.2, mx_gd 140 en := mx_gt_s mx_LLok11 mx_KLok11 mx_JLok11 mx_ARok (by decide +kernel)
def mx_t141 : List (Nat × List mx_En) := [(18, [(0, .aload_n 0, 1, 0, 0, 0, 0, 0), (1, .getfield 72, 3, 11, 10, 0, 0, 0), (4, .getfield 383, 3, 6, 0, 0, 0, 0), (7, .istore_n 1, 1, 0, 0, 0, 0, 0), (8, .aload_n 0, 1, 0, 0, 0, 0, 0), (9, .getfield 72, 3, 11, 10, 0, 0, 0), (12, .iconst 0, 1, 0, 0, 0, 0, 0), (13, .putfield 383, 3, 6, 0, 0, 0, 0), (16, .iload_n 1, 1, 0, 0, 0, 0, 0), (17, .ireturn, 1, 0, 0, 0, 0, 0)])]
set_option maxRecDepth 100000 in
theorem mx_ok141 : ∀ q ∈ mx_t141, ∀ en ∈ q.2, mx_gd 141 en := mx_gt_s mx_LLok11 mx_KLok11 mx_JLok11 mx_ARok (by decide +kernel)
def mx_t142 : List (Nat × List mx_En) := [(18, [(0, .aload_n 0, 1, 0, 0, 0, 0, 0), (1, .iload_n 1, 1, 0, 0, 0, 0, 0), (2, .invokevirtual 123, 3, 166, 1, 0, 0, 0), (5, .astore 5, 2, 0, 0, 0, 0, 0), (7, .aload_n 0, 1, 0, 0, 0, 0, 0), (8, .iload_n 2, 1, 0, 0, 0, 0, 0), (9, .invokevirtual 123, 3, 166, 1, 0, 0, 0), (12, .astore 6, 2, 0, 0, 0, 0, 0), (14, .iload_n 3, 1, 0, 0, 0, 0, 0), (15, .ifCond .lt 38, 3, 53, 0, 0, 0, 0)]),
  (36, [(18, .aload 5, 2, 0, 0, 0, 0, 0), (20, .iload_n 3, 1, 0, 0, 0, 0, 0), (21, .bipush 10, 2, 0, 0, 0, 10, 0), (23, .idiv, 1, 0, 0, 0, 0, 0), (24, .invokestatic 147, 3, 164, 2, 0, 0, 0), (27, .ifCond .eq 26, 3, 53, 0, 0, 0, 0), (30, .aload 6, 2, 0, 0, 0, 0, 0), (32, .iload_n 3, 1, 0, 0, 0, 0, 0), (33, .bipush 10, 2, 0, 0, 0, 10, 0), (35, .irem, 1, 0, 0, 0, 0, 0)]),
  (57, [(36, .invokestatic 147, 3, 164, 2, 0, 0, 0), (39, .ifCond .eq 14, 3, 53, 0, 0, 0, 0), (42, .iload 4, 2, 0, 0, 0, 0, 0), (44, .iconst 1, 1, 0, 0, 0, 1, 0), (45, .bipush 9, 2, 0, 0, 0, 9, 0), (47, .invokestatic 97, 3, 157, 3, 0, 0, 0), (50, .ifCond .ne 5, 3, 55, 0, 0, 0, 0), (53, .iconst (-1), 1, 0, 0, 0, -1, 0), (54, .ireturn, 1, 0, 0, 0, 0, 0), (55, .aload 5, 2, 0, 0, 0, 0, 0)]),
  (76, [(57, .getfield 128, 3, 7, 0, 0, 0, 0), (60, .aload 6, 2, 0, 0, 0, 0, 0), (62, .getfield 128, 3, 7, 0, 0, 0, 0), (65, .iadd, 1, 0, 0, 0, 0, 0), (66, .bipush 6, 2, 0, 0, 0, 6, 0), (68, .if_icmp .le 5, 3, 73, 0, 0, 0, 0), (71, .iconst (-1), 1, 0, 0, 0, -1, 0), (72, .ireturn, 1, 0, 0, 0, 0, 0), (73, .aload_n 0, 1, 0, 0, 0, 0, 0), (74, .aload 5, 2, 0, 0, 0, 0, 0)]),
  (96, [(76, .getfield 112, 3, 7, 6, 0, 0, 0), (79, .aload 6, 2, 0, 0, 0, 0, 0), (81, .getfield 112, 3, 7, 6, 0, 0, 0), (84, .iadd, 1, 0, 0, 0, 0, 0), (85, .iconst 1, 1, 0, 0, 0, 1, 0), (86, .iadd, 1, 0, 0, 0, 0, 0), (87, .invokevirtual 115, 3, 168, 1, 0, 0, 0), (90, .ifCond .eq 6, 3, 96, 0, 0, 0, 0), (93, .bipush (-3), 2, 0, 0, 0, -3, 0), (95, .ireturn, 1, 0, 0, 0, 0, 0)]),
  (118, [(96, .aload_n 0, 1, 0, 0, 0, 0, 0), (97, .getfield 27, 3, 11, 3, 0, 0, 0), (100, .invokevirtual 394, 3, 59, 0, 0, 0, 0), (103, .aload_n 0, 1, 0, 0, 0, 0, 0), (104, .getfield 27, 3, 11, 3, 0, 0, 0), (107, .aload 5, 2, 0, 0, 0, 0, 0), (109, .invokevirtual 397, 3, 64, 1, 0, 0, 0), (112, .aload_n 0, 1, 0, 0, 0, 0, 0), (113, .getfield 27, 3, 11, 3, 0, 0, 0), (116, .aload 6, 2, 0, 0, 0, 0, 0)]),
  (137, [(118, .invokevirtual 397, 3, 64, 1, 0, 0, 0), (121, .aload_n 0, 1, 0, 0, 0, 0, 0), (122, .getfield 27, 3, 11, 3, 0, 0, 0), (125, .iload_n 3, 1, 0, 0, 0, 0, 0), (126, .bipush 10, 2, 0, 0, 0, 10, 0), (128, .idiv, 1, 0, 0, 0, 0, 0), (129, .aload 5, 2, 0, 0, 0, 0, 0), (131, .getfield 128, 3, 7, 0, 0, 0, 0), (134, .iload_n 3, 1, 0, 0, 0, 0, 0), (135, .bipush 10, 2, 0, 0, 0, 10, 0)]),
  (156, [(137, .irem, 1, 0, 0, 0, 0, 0), (138, .iadd, 1, 0, 0, 0, 0, 0), (139, .iload 4, 2, 0, 0, 0, 0, 0), (141, .invokevirtual 400, 3, 63, 3, 0, 0, 0), (144, .aload_n 0, 1, 0, 0, 0, 0, 0), (145, .getfield 27, 3, 11, 3, 0, 0, 0), (148, .iload_n 1, 1, 0, 0, 0, 0, 0), (149, .putfield 403, 3, 7, 11, 0, 0, 0), (152, .aload_n 0, 1, 0, 0, 0, 0, 0), (153, .getfield 27, 3, 11, 3, 0, 0, 0)]),
  (165, [(156, .iload_n 2, 1, 0, 0, 0, 0, 0), (157, .putfield 406, 3, 7, 12, 0, 0, 0), (160, .aload_n 0, 1, 0, 0, 0, 0, 0), (161, .invokevirtual 119, 3, 169, 0, 0, 0, 0), (164, .ireturn, 1, 0, 0, 0, 0, 0)])]
set_option maxRecDepth 100000 in
theorem mx_ok142 : ∀ q ∈ mx_t142, ∀ en ∈ q.2, mx_gd 142 en := mx_gt_s mx_LLok11 mx_KLok11 mx_JLok11 mx_ARok (by decide +kernel)
def mx_t143 : List (Nat × List mx_En) := [(18, [(0, .aload_n 0, 1, 0, 0, 0, 0, 0), (1, .iload_n 1, 1, 0, 0, 0, 0, 0), (2, .invokevirtual 123, 3, 166, 1, 0, 0, 0), (5, .astore_n 3, 1, 0, 0, 0, 0, 0), (6, .aload_n 3, 1, 0, 0, 0, 0, 0), (7, .ifnull 10, 3, 17, 0, 0, 0, 0), (10, .iload_n 2, 1, 0, 0, 0, 0, 0), (11, .invokestatic 176, 3, 158, 1, 0, 0, 0), (14, .ifCond .ne 5, 3, 19, 0, 0, 0, 0), (17, .iconst (-1), 1, 0, 0, 0, -1, 0)]),
  (37, [(18, .ireturn, 1, 0, 0, 0, 0, 0), (19, .aload_n 0, 1, 0, 0, 0, 0, 0), (20, .aload_n 3, 1, 0, 0, 0, 0, 0), (21, .getfield 403, 3, 7, 11, 0, 0, 0), (24, .invokevirtual 123, 3, 166, 1, 0, 0, 0), (27, .astore 4, 2, 0, 0, 0, 0, 0), (29, .aload_n 0, 1, 0, 0, 0, 0, 0), (30, .aload_n 3, 1, 0, 0, 0, 0, 0), (31, .getfield 406, 3, 7, 12, 0, 0, 0), (34, .invokevirtual 123, 3, 166, 1, 0, 0, 0)]),
  (56, [(37, .astore 5, 2, 0, 0, 0, 0, 0), (39, .aload 4, 2, 0, 0, 0, 0, 0), (41, .ifnull 8, 3, 49, 0, 0, 0, 0), (44, .aload 5, 2, 0, 0, 0, 0, 0), (46, .ifnonnull 6, 3, 52, 0, 0, 0, 0), (49, .bipush (-2), 2, 0, 0, 0, -2, 0), (51, .ireturn, 1, 0, 0, 0, 0, 0), (52, .aload_n 0, 1, 0, 0, 0, 0, 0), (53, .aload 4, 2, 0, 0, 0, 0, 0), (55, .iload_n 2, 1, 0, 0, 0, 0, 0)]),
  (73, [(56, .invokevirtual 409, 3, 171, 2, 0, 0, 0), (59, .aload_n 0, 1, 0, 0, 0, 0, 0), (60, .aload 5, 2, 0, 0, 0, 0, 0), (62, .iload_n 2, 1, 0, 0, 0, 0, 0), (63, .invokevirtual 409, 3, 171, 2, 0, 0, 0), (66, .iadd, 1, 0, 0, 0, 0, 0), (67, .aload_n 0, 1, 0, 0, 0, 0, 0), (68, .aload_n 3, 1, 0, 0, 0, 0, 0), (69, .iload_n 2, 1, 0, 0, 0, 0, 0), (70, .invokevirtual 409, 3, 171, 2, 0, 0, 0)]),
  (92, [(73, .isub, 1, 0, 0, 0, 0, 0), (74, .istore 6, 2, 0, 0, 0, 0, 0), (76, .iload 6, 2, 0, 0, 0, 0, 0), (78, .ifCond .eq 9, 3, 87, 0, 0, 0, 0), (81, .iload 6, 2, 0, 0, 0, 0, 0), (83, .iconst 1, 1, 0, 0, 0, 1, 0), (84, .if_icmp .ne 7, 3, 91, 0, 0, 0, 0), (87, .iconst 1, 1, 0, 0, 0, 1, 0), (88, .goto 4, 3, 92, 0, 0, 0, 0), (91, .iconst 0, 1, 0, 0, 0, 0, 0)]),
  (93, [(92, .ireturn, 1, 0, 0, 0, 0, 0)])]
set_option maxRecDepth 100000 in
theorem mx_ok143 : ∀ q ∈ mx_t143, ∀ en ∈ q.2, mx_gd 143 en := mx_gt_s mx_LLok11 mx_KLok11 mx_JLok11 mx_ARok (by decide +kernel)
def mx_t144 : List (Nat × List mx_En) := [(21, [(0, .aload_n 0, 1, 0, 0, 0, 0, 0), (1, .getfield 79, 3, 11, 11, 0, 0, 0), (4, .getfield 413, 3, 2, 0, 0, 0, 0), (7, .ifCond .ne 6, 3, 13, 0, 0, 0, 0), (10, .bipush (-4), 2, 0, 0, 0, -4, 0), (12, .ireturn, 1, 0, 0, 0, 0, 0), (13, .aload_n 0, 1, 0, 0, 0, 0, 0), (14, .getfield 79, 3, 11, 11, 0, 0, 0), (17, .invokevirtual 416, 3, 19, 0, 0, 0, 0), (20, .aload_n 0, 1, 0, 0, 0, 0, 0)]),
  (28, [(21, .getfield 79, 3, 11, 11, 0, 0, 0), (24, .getfield 413, 3, 2, 0, 0, 0, 0), (27, .ireturn, 1, 0, 0, 0, 0, 0)])]
set_option maxRecDepth 100000 in
theorem mx_ok144 : ∀ q ∈ mx_t144, ∀ en ∈ q.2, mx_gd 144 en := mx_gt_s mx_LLok11 mx_KLok11 mx_JLok11 mx_ARok (by decide +kernel)
def mx_t145 : List (Nat × List mx_En) := [(21, [(0, .aload_n 0, 1, 0, 0, 0, 0, 0), (1, .getfield 79, 3, 11, 11, 0, 0, 0), (4, .getfield 419, 3, 2, 1, 0, 0, 0), (7, .ifCond .ne 6, 3, 13, 0, 0, 0, 0), (10, .bipush (-4), 2, 0, 0, 0, -4, 0), (12, .ireturn, 1, 0, 0, 0, 0, 0), (13, .aload_n 0, 1, 0, 0, 0, 0, 0), (14, .getfield 79, 3, 11, 11, 0, 0, 0), (17, .invokevirtual 422, 3, 20, 0, 0, 0, 0), (20, .aload_n 0, 1, 0, 0, 0, 0, 0)]),
  (28, [(21, .getfield 79, 3, 11, 11, 0, 0, 0), (24, .getfield 419, 3, 2, 1, 0, 0, 0), (27, .ireturn, 1, 0, 0, 0, 0, 0)])]
set_option maxRecDepth 100000 in
theorem mx_ok145 : ∀ q ∈ mx_t145, ∀ en ∈ q.2, mx_gd 145 en := mx_gt_s mx_LLok11 mx_KLok11 mx_JLok11 mx_ARok (by decide +kernel)
def mx_t146 : List (Nat × List mx_En) := [(15, [(0, .bipush 7, 2, 0, 0, 0, 7, 0), (2, .istore_n 1, 1, 0, 0, 0, 0, 0), (3, .iconst 0, 1, 0, 0, 0, 0, 0), (4, .istore_n 2, 1, 0, 0, 0, 0, 0), (5, .iload_n 2, 1, 0, 0, 0, 0, 0), (6, .aload_n 0, 1, 0, 0, 0, 0, 0), (7, .getfield 22, 3, 11, 2, 0, 0, 0), (10, .if_icmp .ge 25, 3, 35, 0, 0, 0, 0), (13, .aload_n 0, 1, 0, 0, 0, 0, 0), (14, .iload_n 2, 1, 0, 0, 0, 0, 0)]),
  (35, [(15, .invokevirtual 123, 3, 166, 1, 0, 0, 0), (18, .astore_n 3, 1, 0, 0, 0, 0, 0), (19, .aload_n 3, 1, 0, 0, 0, 0, 0), (20, .ifnull 9, 3, 29, 0, 0, 0, 0), (23, .aload_n 3, 1, 0, 0, 0, 0, 0), (24, .iload_n 1, 1, 0, 0, 0, 0, 0), (25, .invokevirtual 425, 3, 68, 1, 0, 0, 0), (28, .istore_n 1, 1, 0, 0, 0, 0, 0), (29, .iinc 2 1, 3, 0, 0, 0, 1, 0), (32, .goto (-27), 3, 5, 0, 0, 0, 0)]),
  (37, [(35, .iload_n 1, 1, 0, 0, 0, 0, 0), (36, .ireturn, 1, 0, 0, 0, 0, 0)])]
set_option maxRecDepth 100000 in
theorem mx_ok146 : ∀ q ∈ mx_t146, ∀ en ∈ q.2, mx_gd 146 en := mx_gt_s mx_LLok11 mx_KLok11 mx_JLok11 mx_ARok (by decide +kernel)
def mx_t147 : List (Nat × List mx_En) := [(22, [(0, .iload_n 1, 1, 0, 0, 0, 0, 0), (1, .invokestatic 428, 3, 162, 1, 0, 0, 0), (4, .ifCond .ne 5, 3, 9, 0, 0, 0, 0), (7, .iconst (-1), 1, 0, 0, 0, -1, 0), (8, .ireturn, 1, 0, 0, 0, 0, 0), (9, .aload_n 0, 1, 0, 0, 0, 0, 0), (10, .getfield 86, 3, 11, 12, 0, 0, 0), (13, .getfield 431, 3, 4, 0, 0, 0, 0), (16, .sipush 200, 3, 0, 0, 0, 200, 0), (19, .if_icmp .lt 8, 3, 27, 0, 0, 0, 0)]),
  (37, [(22, .bipush (-3), 2, 0, 0, 0, -3, 0), (24, .goto 12, 3, 36, 0, 0, 0, 0), (27, .aload_n 0, 1, 0, 0, 0, 0, 0), (28, .getfield 86, 3, 11, 12, 0, 0, 0), (31, .iload_n 1, 1, 0, 0, 0, 0, 0), (32, .aconst_null, 1, 0, 0, 0, 0, 0), (33, .invokevirtual 434, 3, 37, 2, 0, 0, 0), (36, .ireturn, 1, 0, 0, 0, 0, 0)])]
set_option maxRecDepth 100000 in
theorem mx_ok147 : ∀ q ∈ mx_t147, ∀ en ∈ q.2, mx_gd 147 en := mx_gt_s mx_LLok11 mx_KLok11 mx_JLok11 mx_ARok (by decide +kernel)
def mx_t148 : List (Nat × List mx_En) := [(18, [(0, .aload_n 0, 1, 0, 0, 0, 0, 0), (1, .getfield 86, 3, 11, 12, 0, 0, 0), (4, .iconst 0, 1, 0, 0, 0, 0, 0), (5, .putfield 437, 3, 4, 3, 0, 0, 0), (8, .aload_n 0, 1, 0, 0, 0, 0, 0), (9, .iload_n 1, 1, 0, 0, 0, 0, 0), (10, .invokevirtual 440, 3, 163, 1, 0, 0, 0), (13, .ifCond .eq 12, 3, 25, 0, 0, 0, 0), (16, .iload_n 2, 1, 0, 0, 0, 0, 0), (17, .iconst 0, 1, 0, 0, 0, 0, 0)]),
  (36, [(18, .iconst 3, 1, 0, 0, 0, 3, 0), (19, .invokestatic 97, 3, 157, 3, 0, 0, 0), (22, .ifCond .ne 5, 3, 27, 0, 0, 0, 0), (25, .iconst 0, 1, 0, 0, 0, 0, 0), (26, .ireturn, 1, 0, 0, 0, 0, 0), (27, .aload_n 0, 1, 0, 0, 0, 0, 0), (28, .getfield 86, 3, 11, 12, 0, 0, 0), (31, .iload_n 1, 1, 0, 0, 0, 0, 0), (32, .aload_n 0, 1, 0, 0, 0, 0, 0), (33, .getfield 86, 3, 11, 12, 0, 0, 0)]),
  (48, [(36, .getfield 443, 3, 4, 1, 0, 0, 0), (39, .iload_n 1, 1, 0, 0, 0, 0, 0), (40, .iaload, 1, 0, 0, 0, 0, 0), (41, .iload_n 2, 1, 0, 0, 0, 0, 0), (42, .iload_n 3, 1, 0, 0, 0, 0, 0), (43, .iconst 0, 1, 0, 0, 0, 0, 0), (44, .invokevirtual 446, 3, 40, 5, 0, 0, 0), (47, .ireturn, 1, 0, 0, 0, 0, 0)])]
set_option maxRecDepth 100000 in
theorem mx_ok148 : ∀ q ∈ mx_t148, ∀ en ∈ q.2, mx_gd 148 en := mx_gt_s mx_LLok11 mx_KLok11 mx_JLok11 mx_ARok (by decide +kernel)
def mx_t149 : List (Nat × List mx_En) := [(19, [(0, .iload_n 1, 1, 0, 0, 0, 0, 0), (1, .iconst 0, 1, 0, 0, 0, 0, 0), (2, .aload_n 0, 1, 0, 0, 0, 0, 0), (3, .getfield 86, 3, 11, 12, 0, 0, 0), (6, .getfield 437, 3, 4, 3, 0, 0, 0), (9, .bipush 24, 2, 0, 0, 0, 24, 0), (11, .invokestatic 171, 3, 4, 0, 2, 0, 0), (14, .iconst 1, 1, 0, 0, 0, 1, 0), (15, .isub, 1, 0, 0, 0, 0, 0), (16, .invokestatic 97, 3, 157, 3, 0, 0, 0)]),
  (36, [(19, .ifCond .eq 15, 3, 34, 0, 0, 0, 0), (22, .aload_n 0, 1, 0, 0, 0, 0, 0), (23, .getfield 86, 3, 11, 12, 0, 0, 0), (26, .getfield 449, 3, 4, 4, 0, 0, 0), (29, .iload_n 1, 1, 0, 0, 0, 0, 0), (30, .iaload, 1, 0, 0, 0, 0, 0), (31, .goto 4, 3, 35, 0, 0, 0, 0), (34, .iconst (-1), 1, 0, 0, 0, -1, 0), (35, .ireturn, 1, 0, 0, 0, 0, 0)])]
set_option maxRecDepth 100000 in
theorem mx_ok149 : ∀ q ∈ mx_t149, ∀ en ∈ q.2, mx_gd 149 en := mx_gt_s mx_LLok11 mx_KLok11 mx_JLok11 mx_ARok (by decide +kernel)
def mx_t150 : List (Nat × List mx_En) := [(20, [(0, .iload_n 1, 1, 0, 0, 0, 0, 0), (1, .invokestatic 356, 3, 161, 1, 0, 0, 0), (4, .ifCond .eq 16, 3, 20, 0, 0, 0, 0), (7, .iload_n 2, 1, 0, 0, 0, 0, 0), (8, .iconst (-1), 1, 0, 0, 0, -1, 0), (9, .if_icmp .eq 13, 3, 22, 0, 0, 0, 0), (12, .aload_n 0, 1, 0, 0, 0, 0, 0), (13, .iload_n 2, 1, 0, 0, 0, 0, 0), (14, .invokevirtual 440, 3, 163, 1, 0, 0, 0), (17, .ifCond .ne 5, 3, 22, 0, 0, 0, 0)]),
  (33, [(20, .iconst (-1), 1, 0, 0, 0, -1, 0), (21, .ireturn, 1, 0, 0, 0, 0, 0), (22, .aload_n 0, 1, 0, 0, 0, 0, 0), (23, .getfield 93, 3, 11, 13, 0, 0, 0), (26, .iload_n 1, 1, 0, 0, 0, 0, 0), (27, .iload_n 2, 1, 0, 0, 0, 0, 0), (28, .invokevirtual 452, 3, 70, 2, 0, 0, 0), (31, .iconst 1, 1, 0, 0, 0, 1, 0), (32, .ireturn, 1, 0, 0, 0, 0, 0)])]
set_option maxRecDepth 100000 in
theorem mx_ok150 : ∀ q ∈ mx_t150, ∀ en ∈ q.2, mx_gd 150 en := mx_gt_s mx_LLok11 mx_KLok11 mx_JLok11 mx_ARok (by decide +kernel)
def mx_t151 : List (Nat × List mx_En) := [(19, [(0, .iload_n 1, 1, 0, 0, 0, 0, 0), (1, .invokestatic 356, 3, 161, 1, 0, 0, 0), (4, .ifCond .eq 18, 3, 22, 0, 0, 0, 0), (7, .iload_n 2, 1, 0, 0, 0, 0, 0), (8, .iconst 0, 1, 0, 0, 0, 0, 0), (9, .iconst 4, 1, 0, 0, 0, 4, 0), (10, .invokestatic 97, 3, 157, 3, 0, 0, 0), (13, .ifCond .eq 9, 3, 22, 0, 0, 0, 0), (16, .iload_n 3, 1, 0, 0, 0, 0, 0), (17, .bipush 60, 2, 0, 0, 0, 60, 0)]),
  (36, [(19, .if_icmp .le 5, 3, 24, 0, 0, 0, 0), (22, .iconst (-1), 1, 0, 0, 0, -1, 0), (23, .ireturn, 1, 0, 0, 0, 0, 0), (24, .iload_n 3, 1, 0, 0, 0, 0, 0), (25, .ifCond .ge 6, 3, 31, 0, 0, 0, 0), (28, .bipush (-14), 2, 0, 0, 0, -14, 0), (30, .ireturn, 1, 0, 0, 0, 0, 0), (31, .aload_n 0, 1, 0, 0, 0, 0, 0), (32, .getfield 93, 3, 11, 13, 0, 0, 0), (35, .iload_n 1, 1, 0, 0, 0, 0, 0)]),
  (43, [(36, .iload_n 2, 1, 0, 0, 0, 0, 0), (37, .iload_n 3, 1, 0, 0, 0, 0, 0), (38, .invokevirtual 455, 3, 71, 3, 0, 0, 0), (41, .iconst 1, 1, 0, 0, 0, 1, 0), (42, .ireturn, 1, 0, 0, 0, 0, 0)])]
set_option maxRecDepth 100000 in
theorem mx_ok151 : ∀ q ∈ mx_t151, ∀ en ∈ q.2, mx_gd 151 en := mx_gt_s mx_LLok11 mx_KLok11 mx_JLok11 mx_ARok (by decide +kernel)
def mx_t152 : List (Nat × List mx_En) := [(19, [(0, .iload_n 1, 1, 0, 0, 0, 0, 0), (1, .invokestatic 356, 3, 161, 1, 0, 0, 0), (4, .ifCond .ne 5, 3, 9, 0, 0, 0, 0), (7, .iconst (-1), 1, 0, 0, 0, -1, 0), (8, .ireturn, 1, 0, 0, 0, 0, 0), (9, .aload_n 0, 1, 0, 0, 0, 0, 0), (10, .getfield 93, 3, 11, 13, 0, 0, 0), (13, .iload_n 1, 1, 0, 0, 0, 0, 0), (14, .invokevirtual 458, 3, 72, 1, 0, 0, 0), (17, .istore 5, 2, 0, 0, 0, 0, 0)]),
  (39, [(19, .iload 5, 2, 0, 0, 0, 0, 0), (21, .ifCond .eq 6, 3, 27, 0, 0, 0, 0), (24, .iload 5, 2, 0, 0, 0, 0, 0), (26, .ireturn, 1, 0, 0, 0, 0, 0), (27, .aload_n 0, 1, 0, 0, 0, 0, 0), (28, .getfield 93, 3, 11, 13, 0, 0, 0), (31, .iload_n 1, 1, 0, 0, 0, 0, 0), (32, .iload_n 2, 1, 0, 0, 0, 0, 0), (33, .invokevirtual 362, 3, 74, 2, 0, 0, 0), (36, .ifCond .ne 6, 3, 42, 0, 0, 0, 0)]),
  (54, [(39, .bipush (-13), 2, 0, 0, 0, -13, 0), (41, .ireturn, 1, 0, 0, 0, 0, 0), (42, .aload_n 0, 1, 0, 0, 0, 0, 0), (43, .getfield 93, 3, 11, 13, 0, 0, 0), (46, .iload_n 1, 1, 0, 0, 0, 0, 0), (47, .iload_n 2, 1, 0, 0, 0, 0, 0), (48, .lload_n 3, 1, 0, 0, 0, 0, 0), (49, .invokevirtual 461, 3, 76, 3, 0, 0, 0), (52, .iconst 1, 1, 0, 0, 0, 1, 0), (53, .ireturn, 1, 0, 0, 0, 0, 0)])]
set_option maxRecDepth 100000 in
theorem mx_ok152 : ∀ q ∈ mx_t152, ∀ en ∈ q.2, mx_gd 152 en := mx_gt_s mx_LLok11 mx_KLok11 mx_JLok11 mx_ARok (by decide +kernel)
def mx_t153 : List (Nat × List mx_En) := [(22, [(0, .iload_n 1, 1, 0, 0, 0, 0, 0), (1, .invokestatic 356, 3, 161, 1, 0, 0, 0), (4, .ifCond .eq 26, 3, 30, 0, 0, 0, 0), (7, .aload_n 0, 1, 0, 0, 0, 0, 0), (8, .getfield 93, 3, 11, 13, 0, 0, 0), (11, .iload_n 1, 1, 0, 0, 0, 0, 0), (12, .invokevirtual 458, 3, 72, 1, 0, 0, 0), (15, .ifCond .ne 15, 3, 30, 0, 0, 0, 0), (18, .aload_n 0, 1, 0, 0, 0, 0, 0), (19, .getfield 93, 3, 11, 13, 0, 0, 0)]),
  (42, [(22, .iload_n 1, 1, 0, 0, 0, 0, 0), (23, .iload_n 2, 1, 0, 0, 0, 0, 0), (24, .invokevirtual 362, 3, 74, 2, 0, 0, 0), (27, .ifCond .ne 7, 3, 34, 0, 0, 0, 0), (30, .ldc2_w 189, 3, 0, 0, 0, 0, -9223372036854775808), (33, .lreturn, 1, 0, 0, 0, 0, 0), (34, .aload_n 0, 1, 0, 0, 0, 0, 0), (35, .getfield 93, 3, 11, 13, 0, 0, 0), (38, .getfield 465, 3, 8, 3, 0, 0, 0), (41, .iload_n 1, 1, 0, 0, 0, 0, 0)]),
  (46, [(42, .aaload, 1, 0, 0, 0, 0, 0), (43, .iload_n 2, 1, 0, 0, 0, 0, 0), (44, .laload, 1, 0, 0, 0, 0, 0), (45, .lreturn, 1, 0, 0, 0, 0, 0)])]
set_option maxRecDepth 100000 in
theorem mx_ok153 : ∀ q ∈ mx_t153, ∀ en ∈ q.2, mx_gd 153 en := mx_gt_s mx_LLok11 mx_KLok11 mx_JLok11 mx_ARok (by decide +kernel)
def mx_t154 : List (Nat × List mx_En) := [(20, [(0, .iload_n 1, 1, 0, 0, 0, 0, 0), (1, .invokestatic 356, 3, 161, 1, 0, 0, 0), (4, .ifCond .eq 10, 3, 14, 0, 0, 0, 0), (7, .iload_n 3, 1, 0, 0, 0, 0, 0), (8, .invokestatic 356, 3, 161, 1, 0, 0, 0), (11, .ifCond .ne 5, 3, 16, 0, 0, 0, 0), (14, .iconst (-1), 1, 0, 0, 0, -1, 0), (15, .ireturn, 1, 0, 0, 0, 0, 0), (16, .aload_n 0, 1, 0, 0, 0, 0, 0), (17, .getfield 93, 3, 11, 13, 0, 0, 0)]),
  (41, [(20, .getfield 469, 3, 8, 0, 0, 0, 0), (23, .iload_n 1, 1, 0, 0, 0, 0, 0), (24, .iaload, 1, 0, 0, 0, 0, 0), (25, .istore 6, 2, 0, 0, 0, 0, 0), (27, .iload 6, 2, 0, 0, 0, 0, 0), (29, .bipush (-2), 2, 0, 0, 0, -2, 0), (31, .if_icmp .eq 17, 3, 48, 0, 0, 0, 0), (34, .aload_n 0, 1, 0, 0, 0, 0, 0), (35, .getfield 93, 3, 11, 13, 0, 0, 0), (38, .getfield 469, 3, 8, 0, 0, 0, 0)]),
  (59, [(41, .iload_n 3, 1, 0, 0, 0, 0, 0), (42, .iaload, 1, 0, 0, 0, 0, 0), (43, .bipush (-2), 2, 0, 0, 0, -2, 0), (45, .if_icmp .ne 6, 3, 51, 0, 0, 0, 0), (48, .bipush (-11), 2, 0, 0, 0, -11, 0), (50, .ireturn, 1, 0, 0, 0, 0, 0), (51, .iload 6, 2, 0, 0, 0, 0, 0), (53, .iconst (-1), 1, 0, 0, 0, -1, 0), (54, .if_icmp .eq 17, 3, 71, 0, 0, 0, 0), (57, .iload 6, 2, 0, 0, 0, 0, 0)]),
  (78, [(59, .aload_n 0, 1, 0, 0, 0, 0, 0), (60, .getfield 93, 3, 11, 13, 0, 0, 0), (63, .getfield 469, 3, 8, 0, 0, 0, 0), (66, .iload_n 3, 1, 0, 0, 0, 0, 0), (67, .iaload, 1, 0, 0, 0, 0, 0), (68, .if_icmp .eq 6, 3, 74, 0, 0, 0, 0), (71, .bipush (-12), 2, 0, 0, 0, -12, 0), (73, .ireturn, 1, 0, 0, 0, 0, 0), (74, .aload_n 0, 1, 0, 0, 0, 0, 0), (75, .getfield 93, 3, 11, 13, 0, 0, 0)]),
  (97, [(78, .iload_n 1, 1, 0, 0, 0, 0, 0), (79, .iload_n 2, 1, 0, 0, 0, 0, 0), (80, .iload 5, 2, 0, 0, 0, 0, 0), (82, .invokevirtual 472, 3, 75, 3, 0, 0, 0), (85, .ifCond .eq 18, 3, 103, 0, 0, 0, 0), (88, .aload_n 0, 1, 0, 0, 0, 0, 0), (89, .getfield 93, 3, 11, 13, 0, 0, 0), (92, .iload_n 3, 1, 0, 0, 0, 0, 0), (93, .iload 4, 2, 0, 0, 0, 0, 0), (95, .iload 5, 2, 0, 0, 0, 0, 0)]),
  (116, [(97, .invokevirtual 472, 3, 75, 3, 0, 0, 0), (100, .ifCond .ne 6, 3, 106, 0, 0, 0, 0), (103, .bipush (-13), 2, 0, 0, 0, -13, 0), (105, .ireturn, 1, 0, 0, 0, 0, 0), (106, .aload_n 0, 1, 0, 0, 0, 0, 0), (107, .getfield 93, 3, 11, 13, 0, 0, 0), (110, .getfield 465, 3, 8, 3, 0, 0, 0), (113, .iload_n 1, 1, 0, 0, 0, 0, 0), (114, .aaload, 1, 0, 0, 0, 0, 0), (115, .iload_n 2, 1, 0, 0, 0, 0, 0)]),
  (135, [(116, .aload_n 0, 1, 0, 0, 0, 0, 0), (117, .getfield 93, 3, 11, 13, 0, 0, 0), (120, .getfield 465, 3, 8, 3, 0, 0, 0), (123, .iload_n 3, 1, 0, 0, 0, 0, 0), (124, .aaload, 1, 0, 0, 0, 0, 0), (125, .iload 4, 2, 0, 0, 0, 0, 0), (127, .iload 5, 2, 0, 0, 0, 0, 0), (132, .iload 5, 2, 0, 0, 0, 0, 0), (134, .ireturn, 1, 0, 0, 0, 0, 0)])]
set_option maxRecDepth 100000 in
theorem mx_ok154 : ∀ q ∈ mx_t154, ∀ en ∈ q.2, mx_gd 154 en := mx_gt_s mx_LLok11 mx_KLok11 mx_JLok11 mx_ARok (by decide +kernel)
def mx_t155 : List (Nat × List mx_En) := [(20, [(0, .iload_n 1, 1, 0, 0, 0, 0, 0), (1, .invokestatic 356, 3, 161, 1, 0, 0, 0), (4, .ifCond .eq 10, 3, 14, 0, 0, 0, 0), (7, .iload_n 2, 1, 0, 0, 0, 0, 0), (8, .invokestatic 428, 3, 162, 1, 0, 0, 0), (11, .ifCond .ne 5, 3, 16, 0, 0, 0, 0), (14, .iconst (-1), 1, 0, 0, 0, -1, 0), (15, .ireturn, 1, 0, 0, 0, 0, 0), (16, .aload_n 0, 1, 0, 0, 0, 0, 0), (17, .getfield 93, 3, 11, 13, 0, 0, 0)]),
  (40, [(20, .getfield 469, 3, 8, 0, 0, 0, 0), (23, .iload_n 1, 1, 0, 0, 0, 0, 0), (24, .iaload, 1, 0, 0, 0, 0, 0), (25, .bipush (-2), 2, 0, 0, 0, -2, 0), (27, .if_icmp .ne 6, 3, 33, 0, 0, 0, 0), (30, .bipush (-11), 2, 0, 0, 0, -11, 0), (32, .ireturn, 1, 0, 0, 0, 0, 0), (33, .aload_n 0, 1, 0, 0, 0, 0, 0), (34, .getfield 93, 3, 11, 13, 0, 0, 0), (37, .getfield 481, 3, 8, 2, 0, 0, 0)]),
  (56, [(40, .iload_n 1, 1, 0, 0, 0, 0, 0), (41, .iaload, 1, 0, 0, 0, 0, 0), (42, .istore_n 3, 1, 0, 0, 0, 0, 0), (43, .aload_n 0, 1, 0, 0, 0, 0, 0), (44, .getfield 93, 3, 11, 13, 0, 0, 0), (47, .getfield 469, 3, 8, 0, 0, 0, 0), (50, .iload_n 1, 1, 0, 0, 0, 0, 0), (51, .iaload, 1, 0, 0, 0, 0, 0), (52, .iconst (-1), 1, 0, 0, 0, -1, 0), (53, .if_icmp .ne 11, 3, 64, 0, 0, 0, 0)]),
  (75, [(56, .aload_n 0, 1, 0, 0, 0, 0, 0), (57, .iload_n 3, 1, 0, 0, 0, 0, 0), (58, .invokevirtual 440, 3, 163, 1, 0, 0, 0), (61, .ifCond .ne 6, 3, 67, 0, 0, 0, 0), (64, .bipush (-12), 2, 0, 0, 0, -12, 0), (66, .ireturn, 1, 0, 0, 0, 0, 0), (67, .aload_n 0, 1, 0, 0, 0, 0, 0), (68, .getfield 86, 3, 11, 12, 0, 0, 0), (71, .getfield 443, 3, 4, 1, 0, 0, 0), (74, .iload_n 3, 1, 0, 0, 0, 0, 0)]),
  (95, [(75, .iaload, 1, 0, 0, 0, 0, 0), (76, .istore 4, 2, 0, 0, 0, 0, 0), (78, .iload 4, 2, 0, 0, 0, 0, 0), (80, .iload_n 2, 1, 0, 0, 0, 0, 0), (81, .invokestatic 484, 3, 38, 2, 0, 0, 0), (84, .ifCond .eq 8, 3, 92, 0, 0, 0, 0), (87, .iload 4, 2, 0, 0, 0, 0, 0), (89, .goto 5, 3, 94, 0, 0, 0, 0), (92, .bipush (-12), 2, 0, 0, 0, -12, 0), (94, .ireturn, 1, 0, 0, 0, 0, 0)])]
set_option maxRecDepth 100000 in
theorem mx_ok155 : ∀ q ∈ mx_t155, ∀ en ∈ q.2, mx_gd 155 en := mx_gt_s mx_LLok11 mx_KLok11 mx_JLok11 mx_ARok (by decide +kernel)
def mx_t156 : List (Nat × List mx_En) := [(54, [(0, .iload_n 1, 1, 0, 0, 0, 0, 0), (1, .tableswitch 84 0 5 #[39, 44, 52, 60, 68, 76], 39, 0, 0, 0, 0, 0), (40, .aload_n 0, 1, 0, 0, 0, 0, 0), (41, .getfield 22, 3, 11, 2, 0, 0, 0), (44, .ireturn, 1, 0, 0, 0, 0, 0), (45, .aload_n 0, 1, 0, 0, 0, 0, 0), (46, .getfield 86, 3, 11, 12, 0, 0, 0), (49, .getfield 431, 3, 4, 0, 0, 0, 0), (52, .ireturn, 1, 0, 0, 0, 0, 0), (53, .aload_n 0, 1, 0, 0, 0, 0, 0)]),
  (76, [(54, .getfield 10, 3, 11, 0, 0, 0, 0), (57, .getfield 101, 3, 9, 1, 0, 0, 0), (60, .ireturn, 1, 0, 0, 0, 0, 0), (61, .aload_n 0, 1, 0, 0, 0, 0, 0), (62, .getfield 79, 3, 11, 11, 0, 0, 0), (65, .getfield 413, 3, 2, 0, 0, 0, 0), (68, .ireturn, 1, 0, 0, 0, 0, 0), (69, .aload_n 0, 1, 0, 0, 0, 0, 0), (70, .getfield 86, 3, 11, 12, 0, 0, 0), (73, .getfield 437, 3, 4, 3, 0, 0, 0)]),
  (87, [(76, .ireturn, 1, 0, 0, 0, 0, 0), (77, .aload_n 0, 1, 0, 0, 0, 0, 0), (78, .getfield 65, 3, 11, 9, 0, 0, 0), (81, .getfield 341, 3, 0, 2, 0, 0, 0), (84, .ireturn, 1, 0, 0, 0, 0, 0), (85, .iconst (-1), 1, 0, 0, 0, -1, 0), (86, .ireturn, 1, 0, 0, 0, 0, 0)])]
set_option maxRecDepth 100000 in
theorem mx_ok156 : ∀ q ∈ mx_t156, ∀ en ∈ q.2, mx_gd 156 en := mx_gt_s mx_LLok11 mx_KLok11 mx_JLok11 mx_ARok (by decide +kernel)
def mx_t157 : List (Nat × List mx_En) := [(16, [(0, .iload_n 0, 1, 0, 0, 0, 0, 0), (1, .iload_n 1, 1, 0, 0, 0, 0, 0), (2, .if_icmp .lt 12, 3, 14, 0, 0, 0, 0), (5, .iload_n 0, 1, 0, 0, 0, 0, 0), (6, .iload_n 2, 1, 0, 0, 0, 0, 0), (7, .if_icmp .gt 7, 3, 14, 0, 0, 0, 0), (10, .iconst 1, 1, 0, 0, 0, 1, 0), (11, .goto 4, 3, 15, 0, 0, 0, 0), (14, .iconst 0, 1, 0, 0, 0, 0, 0), (15, .ireturn, 1, 0, 0, 0, 0, 0)])]
set_option maxRecDepth 100000 in
theorem mx_ok157 : ∀ q ∈ mx_t157, ∀ en ∈ q.2, mx_gd 157 en := mx_gt_s mx_LLok11 mx_KLok11 mx_JLok11 mx_ARok (by decide +kernel)
def mx_t158 : List (Nat × List mx_En) := [(19, [(0, .iload_n 0, 1, 0, 0, 0, 0, 0), (1, .iconst 1, 1, 0, 0, 0, 1, 0), (2, .sipush 999, 3, 0, 0, 0, 999, 0), (5, .invokestatic 97, 3, 157, 3, 0, 0, 0), (8, .ifCond .eq 14, 3, 22, 0, 0, 0, 0), (11, .iload_n 0, 1, 0, 0, 0, 0, 0), (12, .bipush 10, 2, 0, 0, 0, 10, 0), (14, .irem, 1, 0, 0, 0, 0, 0), (15, .ifCond .eq 7, 3, 22, 0, 0, 0, 0), (18, .iconst 1, 1, 0, 0, 0, 1, 0)]),
  (24, [(19, .goto 4, 3, 23, 0, 0, 0, 0), (22, .iconst 0, 1, 0, 0, 0, 0, 0), (23, .ireturn, 1, 0, 0, 0, 0, 0)])]
set_option maxRecDepth 100000 in
theorem mx_ok158 : ∀ q ∈ mx_t158, ∀ en ∈ q.2, mx_gd 158 en := mx_gt_s mx_LLok11 mx_KLok11 mx_JLok11 mx_ARok (by decide +kernel)
def mx_t159 : List (Nat × List mx_En) := [(9, [(0, .iload_n 0, 1, 0, 0, 0, 0, 0), (1, .bipush (-99), 2, 0, 0, 0, -99, 0), (3, .bipush 99, 2, 0, 0, 0, 99, 0), (5, .invokestatic 97, 3, 157, 3, 0, 0, 0), (8, .ireturn, 1, 0, 0, 0, 0, 0)])]
set_option maxRecDepth 100000 in
theorem mx_ok159 : ∀ q ∈ mx_t159, ∀ en ∈ q.2, mx_gd 159 en := mx_gt_s mx_LLok11 mx_KLok11 mx_JLok11 mx_ARok (by decide +kernel)
def mx_t160 : List (Nat × List mx_En) := [(7, [(0, .iload_n 0, 1, 0, 0, 0, 0, 0), (1, .iconst 0, 1, 0, 0, 0, 0, 0), (2, .iconst 3, 1, 0, 0, 0, 3, 0), (3, .invokestatic 97, 3, 157, 3, 0, 0, 0), (6, .ireturn, 1, 0, 0, 0, 0, 0)])]
set_option maxRecDepth 100000 in
theorem mx_ok160 : ∀ q ∈ mx_t160, ∀ en ∈ q.2, mx_gd 160 en := mx_gt_s mx_LLok11 mx_KLok11 mx_JLok11 mx_ARok (by decide +kernel)
def mx_t161 : List (Nat × List mx_En) := [(7, [(0, .iload_n 0, 1, 0, 0, 0, 0, 0), (1, .iconst 0, 1, 0, 0, 0, 0, 0), (2, .iconst 5, 1, 0, 0, 0, 5, 0), (3, .invokestatic 97, 3, 157, 3, 0, 0, 0), (6, .ireturn, 1, 0, 0, 0, 0, 0)])]
set_option maxRecDepth 100000 in
theorem mx_ok161 : ∀ q ∈ mx_t161, ∀ en ∈ q.2, mx_gd 161 en := mx_gt_s mx_LLok11 mx_KLok11 mx_JLok11 mx_ARok (by decide +kernel)
def mx_t162 : List (Nat × List mx_En) := [(7, [(0, .iload_n 0, 1, 0, 0, 0, 0, 0), (1, .iconst 0, 1, 0, 0, 0, 0, 0), (2, .iconst 5, 1, 0, 0, 0, 5, 0), (3, .invokestatic 97, 3, 157, 3, 0, 0, 0), (6, .ireturn, 1, 0, 0, 0, 0, 0)])]
set_option maxRecDepth 100000 in
theorem mx_ok162 : ∀ q ∈ mx_t162, ∀ en ∈ q.2, mx_gd 162 en := mx_gt_s mx_LLok11 mx_KLok11 mx_JLok11 mx_ARok (by decide +kernel)
def mx_t163 : List (Nat × List mx_En) := [(15, [(0, .iload_n 1, 1, 0, 0, 0, 0, 0), (1, .iconst 0, 1, 0, 0, 0, 0, 0), (2, .aload_n 0, 1, 0, 0, 0, 0, 0), (3, .getfield 86, 3, 11, 12, 0, 0, 0), (6, .getfield 431, 3, 4, 0, 0, 0, 0), (9, .iconst 1, 1, 0, 0, 0, 1, 0), (10, .isub, 1, 0, 0, 0, 0, 0), (11, .invokestatic 97, 3, 157, 3, 0, 0, 0), (14, .ireturn, 1, 0, 0, 0, 0, 0)])]
set_option maxRecDepth 100000 in
theorem mx_ok163 : ∀ q ∈ mx_t163, ∀ en ∈ q.2, mx_gd 163 en := mx_gt_s mx_LLok11 mx_KLok11 mx_JLok11 mx_ARok (by decide +kernel)
def mx_t164 : List (Nat × List mx_En) := [(18, [(0, .aload_n 0, 1, 0, 0, 0, 0, 0), (1, .ifnull 21, 3, 22, 0, 0, 0, 0), (4, .iload_n 1, 1, 0, 0, 0, 0, 0), (5, .iconst 0, 1, 0, 0, 0, 0, 0), (6, .aload_n 0, 1, 0, 0, 0, 0, 0), (7, .getfield 128, 3, 7, 0, 0, 0, 0), (10, .iconst 1, 1, 0, 0, 0, 1, 0), (11, .isub, 1, 0, 0, 0, 0, 0), (12, .invokestatic 97, 3, 157, 3, 0, 0, 0), (15, .ifCond .eq 7, 3, 22, 0, 0, 0, 0)]),
  (24, [(18, .iconst 1, 1, 0, 0, 0, 1, 0), (19, .goto 4, 3, 23, 0, 0, 0, 0), (22, .iconst 0, 1, 0, 0, 0, 0, 0), (23, .ireturn, 1, 0, 0, 0, 0, 0)])]
set_option maxRecDepth 100000 in
theorem mx_ok164 : ∀ q ∈ mx_t164, ∀ en ∈ q.2, mx_gd 164 en := mx_gt_s mx_LLok11 mx_KLok11 mx_JLok11 mx_ARok (by decide +kernel)
def mx_t165 : List (Nat × List mx_En) := [(18, [(0, .aload_n 0, 1, 0, 0, 0, 0, 0), (1, .ifnull 31, 3, 32, 0, 0, 0, 0), (4, .iload_n 1, 1, 0, 0, 0, 0, 0), (5, .iconst 0, 1, 0, 0, 0, 0, 0), (6, .aload_n 0, 1, 0, 0, 0, 0, 0), (7, .invokevirtual 131, 3, 60, 0, 0, 0, 0), (10, .iconst 1, 1, 0, 0, 0, 1, 0), (11, .isub, 1, 0, 0, 0, 0, 0), (12, .invokestatic 97, 3, 157, 3, 0, 0, 0), (15, .ifCond .eq 17, 3, 32, 0, 0, 0, 0)]),
  (34, [(18, .iload_n 2, 1, 0, 0, 0, 0, 0), (19, .iconst 1, 1, 0, 0, 0, 1, 0), (20, .bipush 9, 2, 0, 0, 0, 9, 0), (22, .invokestatic 97, 3, 157, 3, 0, 0, 0), (25, .ifCond .eq 7, 3, 32, 0, 0, 0, 0), (28, .iconst 1, 1, 0, 0, 0, 1, 0), (29, .goto 4, 3, 33, 0, 0, 0, 0), (32, .iconst 0, 1, 0, 0, 0, 0, 0), (33, .ireturn, 1, 0, 0, 0, 0, 0)])]
set_option maxRecDepth 100000 in
theorem mx_ok165 : ∀ q ∈ mx_t165, ∀ en ∈ q.2, mx_gd 165 en := mx_gt_s mx_LLok11 mx_KLok11 mx_JLok11 mx_ARok (by decide +kernel)
def mx_t166 : List (Nat × List mx_En) := [(18, [(0, .iload_n 1, 1, 0, 0, 0, 0, 0), (1, .iconst 0, 1, 0, 0, 0, 0, 0), (2, .aload_n 0, 1, 0, 0, 0, 0, 0), (3, .getfield 22, 3, 11, 2, 0, 0, 0), (6, .iconst 1, 1, 0, 0, 0, 1, 0), (7, .isub, 1, 0, 0, 0, 0, 0), (8, .invokestatic 97, 3, 157, 3, 0, 0, 0), (11, .ifCond .eq 12, 3, 23, 0, 0, 0, 0), (14, .aload_n 0, 1, 0, 0, 0, 0, 0), (15, .getfield 18, 3, 11, 1, 0, 0, 0)]),
  (25, [(18, .iload_n 1, 1, 0, 0, 0, 0, 0), (19, .aaload, 1, 0, 0, 0, 0, 0), (20, .goto 4, 3, 24, 0, 0, 0, 0), (23, .aconst_null, 1, 0, 0, 0, 0, 0), (24, .areturn, 1, 0, 0, 0, 0, 0)])]
set_option maxRecDepth 100000 in
theorem mx_ok166 : ∀ q ∈ mx_t166, ∀ en ∈ q.2, mx_gd 166 en := mx_gt_s mx_LLok11 mx_KLok11 mx_JLok11 mx_ARok (by decide +kernel)
def mx_t167 : List (Nat × List mx_En) := [(24, [(0, .aload_n 0, 1, 0, 0, 0, 0, 0), (1, .getfield 51, 3, 11, 7, 0, 0, 0), (4, .getfield 247, 3, 5, 1, 0, 0, 0), (7, .ifCond .le 17, 3, 24, 0, 0, 0, 0), (10, .aload_n 0, 1, 0, 0, 0, 0, 0), (11, .aload_n 0, 1, 0, 0, 0, 0, 0), (12, .getfield 51, 3, 11, 7, 0, 0, 0), (15, .getfield 250, 3, 5, 0, 0, 0, 0), (18, .invokevirtual 123, 3, 166, 1, 0, 0, 0), (21, .goto 4, 3, 25, 0, 0, 0, 0)]),
  (26, [(24, .aconst_null, 1, 0, 0, 0, 0, 0), (25, .areturn, 1, 0, 0, 0, 0, 0)])]
set_option maxRecDepth 100000 in
theorem mx_ok167 : ∀ q ∈ mx_t167, ∀ en ∈ q.2, mx_gd 167 en := mx_gt_s mx_LLok11 mx_KLok11 mx_JLok11 mx_ARok (by decide +kernel)
def mx_t168 : List (Nat × List mx_En) := [(21, [(0, .aload_n 0, 1, 0, 0, 0, 0, 0), (1, .getfield 22, 3, 11, 2, 0, 0, 0), (4, .bipush 12, 2, 0, 0, 0, 12, 0), (6, .if_icmp .ge 18, 3, 24, 0, 0, 0, 0), (9, .aload_n 0, 1, 0, 0, 0, 0, 0), (10, .getfield 86, 3, 11, 12, 0, 0, 0), (13, .getfield 431, 3, 4, 0, 0, 0, 0), (16, .iload_n 1, 1, 0, 0, 0, 0, 0), (17, .iadd, 1, 0, 0, 0, 0, 0), (18, .sipush 200, 3, 0, 0, 0, 200, 0)]),
  (30, [(21, .if_icmp .le 7, 3, 28, 0, 0, 0, 0), (24, .iconst 1, 1, 0, 0, 0, 1, 0), (25, .goto 4, 3, 29, 0, 0, 0, 0), (28, .iconst 0, 1, 0, 0, 0, 0, 0), (29, .ireturn, 1, 0, 0, 0, 0, 0)])]
set_option maxRecDepth 100000 in
theorem mx_ok168 : ∀ q ∈ mx_t168, ∀ en ∈ q.2, mx_gd 168 en := mx_gt_s mx_LLok11 mx_KLok11 mx_JLok11 mx_ARok (by decide +kernel)
def mx_t169 : List (Nat × List mx_En) := [(18, [(0, .aload_n 0, 1, 0, 0, 0, 0, 0), (1, .getfield 27, 3, 11, 3, 0, 0, 0), (4, .aload_n 0, 1, 0, 0, 0, 0, 0), (5, .getfield 86, 3, 11, 12, 0, 0, 0), (8, .getfield 431, 3, 4, 0, 0, 0, 0), (11, .putfield 155, 3, 7, 5, 0, 0, 0), (14, .iconst 0, 1, 0, 0, 0, 0, 0), (15, .istore_n 1, 1, 0, 0, 0, 0, 0), (16, .iload_n 1, 1, 0, 0, 0, 0, 0), (17, .aload_n 0, 1, 0, 0, 0, 0, 0)]),
  (40, [(18, .getfield 27, 3, 11, 3, 0, 0, 0), (21, .getfield 112, 3, 7, 6, 0, 0, 0), (24, .if_icmp .ge 22, 3, 46, 0, 0, 0, 0), (27, .aload_n 0, 1, 0, 0, 0, 0, 0), (28, .getfield 86, 3, 11, 12, 0, 0, 0), (31, .iconst 1, 1, 0, 0, 0, 1, 0), (32, .aload_n 0, 1, 0, 0, 0, 0, 0), (33, .getfield 27, 3, 11, 3, 0, 0, 0), (36, .invokevirtual 434, 3, 37, 2, 0, 0, 0), (39, .pop, 1, 0, 0, 0, 0, 0)]),
  (60, [(40, .iinc 1 1, 3, 0, 0, 0, 1, 0), (43, .goto (-27), 3, 16, 0, 0, 0, 0), (46, .aload_n 0, 1, 0, 0, 0, 0, 0), (47, .getfield 18, 3, 11, 1, 0, 0, 0), (50, .aload_n 0, 1, 0, 0, 0, 0, 0), (51, .getfield 22, 3, 11, 2, 0, 0, 0), (54, .aload_n 0, 1, 0, 0, 0, 0, 0), (55, .getfield 27, 3, 11, 3, 0, 0, 0), (58, .aastore, 1, 0, 0, 0, 0, 0), (59, .aload_n 0, 1, 0, 0, 0, 0, 0)]),
  (80, [(60, .dup, 1, 0, 0, 0, 0, 0), (61, .getfield 22, 3, 11, 2, 0, 0, 0), (64, .iconst 1, 1, 0, 0, 0, 1, 0), (65, .iadd, 1, 0, 0, 0, 0, 0), (66, .putfield 22, 3, 11, 2, 0, 0, 0), (69, .aload_n 0, 1, 0, 0, 0, 0, 0), (70, .new 16, 3, 7, 0, 0, 0, 0), (73, .dup, 1, 0, 0, 0, 0, 0), (74, .invokespecial 26, 3, 58, 0, 1, 0, 0), (77, .putfield 27, 3, 11, 3, 0, 0, 0)]),
  (87, [(80, .aload_n 0, 1, 0, 0, 0, 0, 0), (81, .getfield 22, 3, 11, 2, 0, 0, 0), (84, .iconst 1, 1, 0, 0, 0, 1, 0), (85, .isub, 1, 0, 0, 0, 0, 0), (86, .ireturn, 1, 0, 0, 0, 0, 0)])]
set_option maxRecDepth 100000 in
theorem mx_ok169 : ∀ q ∈ mx_t169, ∀ en ∈ q.2, mx_gd 169 en := mx_gt_s mx_LLok11 mx_KLok11 mx_JLok11 mx_ARok (by decide +kernel)
def mx_t170 : List (Nat × List mx_En) := [(17, [(0, .aload_n 1, 1, 0, 0, 0, 0, 0), (1, .iload_n 2, 1, 0, 0, 0, 0, 0), (2, .iload_n 3, 1, 0, 0, 0, 0, 0), (3, .invokevirtual 487, 3, 66, 2, 0, 0, 0), (6, .istore 5, 2, 0, 0, 0, 0, 0), (8, .iload 5, 2, 0, 0, 0, 0, 0), (10, .iload 4, 2, 0, 0, 0, 0, 0), (12, .if_icmp .eq 25, 3, 37, 0, 0, 0, 0), (15, .aload_n 1, 1, 0, 0, 0, 0, 0), (16, .iload_n 2, 1, 0, 0, 0, 0, 0)]),
  (34, [(17, .iload_n 3, 1, 0, 0, 0, 0, 0), (18, .iload 4, 2, 0, 0, 0, 0, 0), (20, .invokevirtual 490, 3, 67, 3, 0, 0, 0), (23, .aload_n 0, 1, 0, 0, 0, 0, 0), (24, .getfield 79, 3, 11, 11, 0, 0, 0), (27, .aload_n 1, 1, 0, 0, 0, 0, 0), (28, .iload_n 2, 1, 0, 0, 0, 0, 0), (29, .iload_n 3, 1, 0, 0, 0, 0, 0), (30, .iload 5, 2, 0, 0, 0, 0, 0), (32, .iload 4, 2, 0, 0, 0, 0, 0)]),
  (40, [(34, .invokevirtual 492, 3, 17, 5, 0, 0, 0), (37, .iload 5, 2, 0, 0, 0, 0, 0), (39, .ireturn, 1, 0, 0, 0, 0, 0)])]
set_option maxRecDepth 100000 in
theorem mx_ok170 : ∀ q ∈ mx_t170, ∀ en ∈ q.2, mx_gd 170 en := mx_gt_s mx_LLok11 mx_KLok11 mx_JLok11 mx_ARok (by decide +kernel)
def mx_t171 : List (Nat × List mx_En) := [(17, [(0, .aload_n 0, 1, 0, 0, 0, 0, 0), (1, .getfield 34, 3, 11, 4, 0, 0, 0), (4, .aload_n 1, 1, 0, 0, 0, 0, 0), (5, .invokevirtual 179, 3, 22, 1, 0, 0, 0), (8, .aload_n 0, 1, 0, 0, 0, 0, 0), (9, .getfield 34, 3, 11, 4, 0, 0, 0), (12, .iload_n 2, 1, 0, 0, 0, 0, 0), (13, .bipush 10, 2, 0, 0, 0, 10, 0), (15, .idiv, 1, 0, 0, 0, 0, 0), (16, .iload_n 2, 1, 0, 0, 0, 0, 0)]),
  (24, [(17, .bipush 10, 2, 0, 0, 0, 10, 0), (19, .irem, 1, 0, 0, 0, 0, 0), (20, .invokevirtual 183, 3, 31, 2, 0, 0, 0), (23, .ireturn, 1, 0, 0, 0, 0, 0)])]
set_option maxRecDepth 100000 in
theorem mx_ok171 : ∀ q ∈ mx_t171, ∀ en ∈ q.2, mx_gd 171 en := mx_gt_s mx_LLok11 mx_KLok11 mx_JLok11 mx_ARok (by decide +kernel)
def mx_t172_0 : List (Nat × List mx_En) := [(20, [(0, .aload_n 0, 1, 0, 0, 0, 0, 0), (1, .invokespecial 1, 3, 1000, 0, 0, 0, 0), (4, .aload_n 0, 1, 0, 0, 0, 0, 0), (5, .bipush 13, 2, 0, 0, 0, 13, 0), (7, .newarray .int, 2, 0, 0, 0, 0, 0), (9, .putfield 7, 3, 12, 2, 0, 0, 0), (12, .aload_n 0, 1, 0, 0, 0, 0, 0), (13, .bipush 78, 2, 0, 0, 0, 78, 0), (15, .newarray .int, 2, 0, 0, 0, 0, 0), (17, .putfield 13, 3, 12, 3, 0, 0, 0)]),
  (39, [(20, .aload_n 0, 1, 0, 0, 0, 0, 0), (21, .bipush 78, 2, 0, 0, 0, 78, 0), (23, .newarray .int, 2, 0, 0, 0, 0, 0), (25, .putfield 16, 3, 12, 4, 0, 0, 0), (28, .aload_n 0, 1, 0, 0, 0, 0, 0), (29, .bipush 78, 2, 0, 0, 0, 78, 0), (31, .newarray .int, 2, 0, 0, 0, 0, 0), (33, .putfield 19, 3, 12, 5, 0, 0, 0), (36, .aload_n 0, 1, 0, 0, 0, 0, 0), (37, .bipush 78, 2, 0, 0, 0, 78, 0)]),
  (62, [(39, .newarray .boolean, 2, 0, 0, 0, 0, 0), (41, .putfield 22, 3, 12, 6, 0, 0, 0), (44, .aload_n 0, 1, 0, 0, 0, 0, 0), (45, .sipush 468, 3, 0, 0, 0, 468, 0), (48, .newarray .int, 2, 0, 0, 0, 0, 0), (50, .putfield 26, 3, 12, 7, 0, 0, 0), (53, .aload_n 0, 1, 0, 0, 0, 0, 0), (54, .sipush 468, 3, 0, 0, 0, 468, 0), (57, .newarray .int, 2, 0, 0, 0, 0, 0), (59, .putfield 29, 3, 12, 8, 0, 0, 0)]),
  (82, [(62, .aload_n 0, 1, 0, 0, 0, 0, 0), (63, .sipush 468, 3, 0, 0, 0, 468, 0), (66, .newarray .int, 2, 0, 0, 0, 0, 0), (68, .putfield 32, 3, 12, 9, 0, 0, 0), (71, .aload_n 0, 1, 0, 0, 0, 0, 0), (72, .bipush 12, 2, 0, 0, 0, 12, 0), (74, .newarray .int, 2, 0, 0, 0, 0, 0), (76, .putfield 35, 3, 12, 10, 0, 0, 0), (79, .aload_n 0, 1, 0, 0, 0, 0, 0), (80, .bipush 12, 2, 0, 0, 0, 12, 0)]),
  (105, [(82, .newarray .int, 2, 0, 0, 0, 0, 0), (84, .putfield 38, 3, 12, 11, 0, 0, 0), (87, .aload_n 0, 1, 0, 0, 0, 0, 0), (88, .sipush 200, 3, 0, 0, 0, 200, 0), (91, .newarray .int, 2, 0, 0, 0, 0, 0), (93, .putfield 41, 3, 12, 13, 0, 0, 0), (96, .aload_n 0, 1, 0, 0, 0, 0, 0), (97, .sipush 200, 3, 0, 0, 0, 200, 0), (100, .newarray .int, 2, 0, 0, 0, 0, 0), (102, .putfield 44, 3, 12, 14, 0, 0, 0)])]
set_option maxRecDepth 100000 in
theorem mx_ok172_0 : ∀ q ∈ mx_t172_0, ∀ en ∈ q.2, mx_gd 172 en := mx_gt_s mx_LLok12 mx_KLok12 mx_JLok12 mx_ARok (by decide +kernel)
def mx_t172_1 : List (Nat × List mx_En) := [(124, [(105, .aload_n 0, 1, 0, 0, 0, 0, 0), (106, .bipush 120, 2, 0, 0, 0, 120, 0), (108, .newarray .byte, 2, 0, 0, 0, 0, 0), (110, .putfield 47, 3, 12, 15, 0, 0, 0), (113, .aload_n 0, 1, 0, 0, 0, 0, 0), (114, .bipush 15, 2, 0, 0, 0, 15, 0), (116, .newarray .int, 2, 0, 0, 0, 0, 0), (118, .putfield 51, 3, 12, 20, 0, 0, 0), (121, .aload_n 0, 1, 0, 0, 0, 0, 0), (122, .bipush 15, 2, 0, 0, 0, 15, 0)]),
  (145, [(124, .newarray .int, 2, 0, 0, 0, 0, 0), (126, .putfield 54, 3, 12, 21, 0, 0, 0), (129, .aload_n 0, 1, 0, 0, 0, 0, 0), (130, .bipush 6, 2, 0, 0, 0, 6, 0), (132, .newarray .boolean, 2, 0, 0, 0, 0, 0), (134, .putfield 57, 3, 12, 22, 0, 0, 0), (137, .aload_n 0, 1, 0, 0, 0, 0, 0), (138, .bipush 6, 2, 0, 0, 0, 6, 0), (140, .newarray .boolean, 2, 0, 0, 0, 0, 0), (142, .putfield 60, 3, 12, 23, 0, 0, 0)]),
  (164, [(145, .aload_n 0, 1, 0, 0, 0, 0, 0), (146, .bipush 40, 2, 0, 0, 0, 40, 0), (148, .newarray .int, 2, 0, 0, 0, 0, 0), (150, .putfield 63, 3, 12, 26, 0, 0, 0), (153, .aload_n 0, 1, 0, 0, 0, 0, 0), (154, .bipush 40, 2, 0, 0, 0, 40, 0), (156, .newarray .int, 2, 0, 0, 0, 0, 0), (158, .putfield 66, 3, 12, 27, 0, 0, 0), (161, .aload_n 0, 1, 0, 0, 0, 0, 0), (162, .bipush 40, 2, 0, 0, 0, 40, 0)]),
  (185, [(164, .newarray .int, 2, 0, 0, 0, 0, 0), (166, .putfield 69, 3, 12, 28, 0, 0, 0), (169, .aload_n 0, 1, 0, 0, 0, 0, 0), (170, .bipush 40, 2, 0, 0, 0, 40, 0), (172, .newarray .int, 2, 0, 0, 0, 0, 0), (174, .putfield 72, 3, 12, 29, 0, 0, 0), (177, .aload_n 0, 1, 0, 0, 0, 0, 0), (178, .bipush 40, 2, 0, 0, 0, 40, 0), (180, .newarray .int, 2, 0, 0, 0, 0, 0), (182, .putfield 75, 3, 12, 30, 0, 0, 0)]),
  (204, [(185, .aload_n 0, 1, 0, 0, 0, 0, 0), (186, .bipush 6, 2, 0, 0, 0, 6, 0), (188, .newarray .int, 2, 0, 0, 0, 0, 0), (190, .putfield 78, 3, 12, 31, 0, 0, 0), (193, .aload_n 0, 1, 0, 0, 0, 0, 0), (194, .bipush 6, 2, 0, 0, 0, 6, 0), (196, .newarray .int, 2, 0, 0, 0, 0, 0), (198, .putfield 81, 3, 12, 32, 0, 0, 0), (201, .aload_n 0, 1, 0, 0, 0, 0, 0), (202, .bipush 6, 2, 0, 0, 0, 6, 0)])]
set_option maxRecDepth 100000 in
theorem mx_ok172_1 : ∀ q ∈ mx_t172_1, ∀ en ∈ q.2, mx_gd 172 en := mx_gt_s mx_LLok12 mx_KLok12 mx_JLok12 mx_ARok (by decide +kernel)
def mx_t172_2 : List (Nat × List mx_En) := [(225, [(204, .newarray .boolean, 2, 0, 0, 0, 0, 0), (206, .putfield 84, 3, 12, 33, 0, 0, 0), (209, .aload_n 0, 1, 0, 0, 0, 0, 0), (210, .bipush 36, 2, 0, 0, 0, 36, 0), (212, .newarray .int, 2, 0, 0, 0, 0, 0), (214, .putfield 87, 3, 12, 34, 0, 0, 0), (217, .aload_n 0, 1, 0, 0, 0, 0, 0), (218, .bipush 36, 2, 0, 0, 0, 36, 0), (220, .newarray .long, 2, 0, 0, 0, 0, 0), (222, .putfield 90, 3, 12, 36, 0, 0, 0)]),
  (245, [(225, .aload_n 0, 1, 0, 0, 0, 0, 0), (226, .bipush 7, 2, 0, 0, 0, 7, 0), (228, .newarray .long, 2, 0, 0, 0, 0, 0), (230, .putfield 94, 3, 12, 38, 0, 0, 0), (233, .aload_n 0, 1, 0, 0, 0, 0, 0), (234, .bipush 6, 2, 0, 0, 0, 6, 0), (236, .newarray .int, 2, 0, 0, 0, 0, 0), (238, .putfield 97, 3, 12, 39, 0, 0, 0), (241, .aload_n 0, 1, 0, 0, 0, 0, 0), (242, .sipush 4096, 3, 0, 0, 0, 4096, 0)]),
  (267, [(245, .newarray .long, 2, 0, 0, 0, 0, 0), (247, .putfield 100, 3, 12, 40, 0, 0, 0), (250, .aload_n 0, 1, 0, 0, 0, 0, 0), (251, .sipush 4096, 3, 0, 0, 0, 4096, 0), (254, .newarray .int, 2, 0, 0, 0, 0, 0), (256, .putfield 103, 3, 12, 41, 0, 0, 0), (259, .aload_n 0, 1, 0, 0, 0, 0, 0), (260, .bipush 100, 2, 0, 0, 0, 100, 0), (262, .newarray .int, 2, 0, 0, 0, 0, 0), (264, .putfield 106, 3, 12, 43, 0, 0, 0)]),
  (286, [(267, .aload_n 0, 1, 0, 0, 0, 0, 0), (268, .bipush 6, 2, 0, 0, 0, 6, 0), (270, .newarray .int, 2, 0, 0, 0, 0, 0), (272, .putfield 109, 3, 12, 44, 0, 0, 0), (275, .aload_n 0, 1, 0, 0, 0, 0, 0), (276, .bipush 6, 2, 0, 0, 0, 6, 0), (278, .newarray .int, 2, 0, 0, 0, 0, 0), (280, .putfield 112, 3, 12, 45, 0, 0, 0), (283, .aload_n 0, 1, 0, 0, 0, 0, 0), (284, .bipush 8, 2, 0, 0, 0, 8, 0)]),
  (307, [(286, .newarray .int, 2, 0, 0, 0, 0, 0), (288, .putfield 115, 3, 12, 53, 0, 0, 0), (291, .aload_n 0, 1, 0, 0, 0, 0, 0), (292, .bipush 8, 2, 0, 0, 0, 8, 0), (294, .newarray .int, 2, 0, 0, 0, 0, 0), (296, .putfield 118, 3, 12, 54, 0, 0, 0), (299, .aload_n 0, 1, 0, 0, 0, 0, 0), (300, .bipush 8, 2, 0, 0, 0, 8, 0), (302, .newarray .int, 2, 0, 0, 0, 0, 0), (304, .putfield 121, 3, 12, 55, 0, 0, 0)])]
set_option maxRecDepth 100000 in
theorem mx_ok172_2 : ∀ q ∈ mx_t172_2, ∀ en ∈ q.2, mx_gd 172 en := mx_gt_s mx_LLok12 mx_KLok12 mx_JLok12 mx_ARok (by decide +kernel)
def mx_t172_3 : List (Nat × List mx_En) := [(326, [(307, .aload_n 0, 1, 0, 0, 0, 0, 0), (308, .bipush 6, 2, 0, 0, 0, 6, 0), (310, .newarray .int, 2, 0, 0, 0, 0, 0), (312, .putfield 124, 3, 12, 57, 0, 0, 0), (315, .aload_n 0, 1, 0, 0, 0, 0, 0), (316, .bipush 6, 2, 0, 0, 0, 6, 0), (318, .newarray .int, 2, 0, 0, 0, 0, 0), (320, .putfield 127, 3, 12, 58, 0, 0, 0), (323, .aload_n 0, 1, 0, 0, 0, 0, 0), (324, .bipush 6, 2, 0, 0, 0, 6, 0)]),
  (347, [(326, .newarray .int, 2, 0, 0, 0, 0, 0), (328, .putfield 130, 3, 12, 59, 0, 0, 0), (331, .aload_n 0, 1, 0, 0, 0, 0, 0), (332, .bipush 8, 2, 0, 0, 0, 8, 0), (334, .newarray .int, 2, 0, 0, 0, 0, 0), (336, .putfield 133, 3, 12, 60, 0, 0, 0), (339, .aload_n 0, 1, 0, 0, 0, 0, 0), (340, .bipush 6, 2, 0, 0, 0, 6, 0), (342, .newarray .int, 2, 0, 0, 0, 0, 0), (344, .putfield 136, 3, 12, 66, 0, 0, 0)]),
  (363, [(347, .aload_n 0, 1, 0, 0, 0, 0, 0), (348, .sipush 600, 3, 0, 0, 0, 600, 0), (351, .newarray .int, 2, 0, 0, 0, 0, 0), (353, .putfield 139, 3, 12, 70, 0, 0, 0), (356, .aload_n 0, 1, 0, 0, 0, 0, 0), (357, .iconst 4, 1, 0, 0, 0, 4, 0), (358, .newarray .int, 2, 0, 0, 0, 0, 0), (360, .dup, 1, 0, 0, 0, 0, 0), (361, .iconst 0, 1, 0, 0, 0, 0, 0), (362, .iconst (-1), 1, 0, 0, 0, -1, 0)]),
  (373, [(363, .iastore, 1, 0, 0, 0, 0, 0), (364, .dup, 1, 0, 0, 0, 0, 0), (365, .iconst 1, 1, 0, 0, 0, 1, 0), (366, .iconst (-1), 1, 0, 0, 0, -1, 0), (367, .iastore, 1, 0, 0, 0, 0, 0), (368, .dup, 1, 0, 0, 0, 0, 0), (369, .iconst 2, 1, 0, 0, 0, 2, 0), (370, .iconst (-1), 1, 0, 0, 0, -1, 0), (371, .iastore, 1, 0, 0, 0, 0, 0), (372, .dup, 1, 0, 0, 0, 0, 0)]),
  (386, [(373, .iconst 3, 1, 0, 0, 0, 3, 0), (374, .iconst (-1), 1, 0, 0, 0, -1, 0), (375, .iastore, 1, 0, 0, 0, 0, 0), (376, .putfield 142, 3, 12, 72, 0, 0, 0), (379, .aload_n 0, 1, 0, 0, 0, 0, 0), (380, .iconst 4, 1, 0, 0, 0, 4, 0), (381, .newarray .int, 2, 0, 0, 0, 0, 0), (383, .dup, 1, 0, 0, 0, 0, 0), (384, .iconst 0, 1, 0, 0, 0, 0, 0), (385, .iconst (-1), 1, 0, 0, 0, -1, 0)])]
set_option maxRecDepth 100000 in
theorem mx_ok172_3 : ∀ q ∈ mx_t172_3, ∀ en ∈ q.2, mx_gd 172 en := mx_gt_s mx_LLok12 mx_KLok12 mx_JLok12 mx_ARok (by decide +kernel)
def mx_t172_4 : List (Nat × List mx_En) := [(396, [(386, .iastore, 1, 0, 0, 0, 0, 0), (387, .dup, 1, 0, 0, 0, 0, 0), (388, .iconst 1, 1, 0, 0, 0, 1, 0), (389, .iconst (-1), 1, 0, 0, 0, -1, 0), (390, .iastore, 1, 0, 0, 0, 0, 0), (391, .dup, 1, 0, 0, 0, 0, 0), (392, .iconst 2, 1, 0, 0, 0, 2, 0), (393, .iconst (-1), 1, 0, 0, 0, -1, 0), (394, .iastore, 1, 0, 0, 0, 0, 0), (395, .dup, 1, 0, 0, 0, 0, 0)]),
  (413, [(396, .iconst 3, 1, 0, 0, 0, 3, 0), (397, .iconst (-1), 1, 0, 0, 0, -1, 0), (398, .iastore, 1, 0, 0, 0, 0, 0), (399, .putfield 145, 3, 12, 73, 0, 0, 0), (402, .aload_n 0, 1, 0, 0, 0, 0, 0), (403, .bipush 6, 2, 0, 0, 0, 6, 0), (405, .newarray .int, 2, 0, 0, 0, 0, 0), (407, .putfield 148, 3, 12, 75, 0, 0, 0), (410, .aload_n 0, 1, 0, 0, 0, 0, 0), (411, .bipush 6, 2, 0, 0, 0, 6, 0)]),
  (435, [(413, .newarray .int, 2, 0, 0, 0, 0, 0), (415, .putfield 151, 3, 12, 76, 0, 0, 0), (418, .aload_n 0, 1, 0, 0, 0, 0, 0), (419, .bipush 6, 2, 0, 0, 0, 6, 0), (421, .newarray .int, 2, 0, 0, 0, 0, 0), (423, .putfield 154, 3, 12, 77, 0, 0, 0), (426, .aload_n 0, 1, 0, 0, 0, 0, 0), (427, .sipush 800, 3, 0, 0, 0, 800, 0), (430, .newarray .int, 2, 0, 0, 0, 0, 0), (432, .putfield 157, 3, 12, 78, 0, 0, 0)]),
  (454, [(435, .aload_n 0, 1, 0, 0, 0, 0, 0), (436, .bipush 6, 2, 0, 0, 0, 6, 0), (438, .newarray .int, 2, 0, 0, 0, 0, 0), (440, .putfield 160, 3, 12, 80, 0, 0, 0), (443, .aload_n 0, 1, 0, 0, 0, 0, 0), (444, .bipush 6, 2, 0, 0, 0, 6, 0), (446, .newarray .int, 2, 0, 0, 0, 0, 0), (448, .putfield 163, 3, 12, 81, 0, 0, 0), (451, .aload_n 0, 1, 0, 0, 0, 0, 0), (452, .bipush 6, 2, 0, 0, 0, 6, 0)]),
  (475, [(454, .newarray .int, 2, 0, 0, 0, 0, 0), (456, .putfield 166, 3, 12, 82, 0, 0, 0), (459, .aload_n 0, 1, 0, 0, 0, 0, 0), (460, .bipush 6, 2, 0, 0, 0, 6, 0), (462, .newarray .int, 2, 0, 0, 0, 0, 0), (464, .putfield 169, 3, 12, 84, 0, 0, 0), (467, .aload_n 0, 1, 0, 0, 0, 0, 0), (468, .bipush 6, 2, 0, 0, 0, 6, 0), (470, .newarray .int, 2, 0, 0, 0, 0, 0), (472, .putfield 172, 3, 12, 85, 0, 0, 0)])]
set_option maxRecDepth 100000 in
theorem mx_ok172_4 : ∀ q ∈ mx_t172_4, ∀ en ∈ q.2, mx_gd 172 en := mx_gt_s mx_LLok12 mx_KLok12 mx_JLok12 mx_ARok (by decide +kernel)
def mx_t172_5 : List (Nat × List mx_En) := [(494, [(475, .aload_n 0, 1, 0, 0, 0, 0, 0), (476, .bipush 7, 2, 0, 0, 0, 7, 0), (478, .newarray .int, 2, 0, 0, 0, 0, 0), (480, .putfield 175, 3, 12, 86, 0, 0, 0), (483, .aload_n 0, 1, 0, 0, 0, 0, 0), (484, .bipush 7, 2, 0, 0, 0, 7, 0), (486, .newarray .int, 2, 0, 0, 0, 0, 0), (488, .putfield 178, 3, 12, 87, 0, 0, 0), (491, .aload_n 0, 1, 0, 0, 0, 0, 0), (492, .bipush 24, 2, 0, 0, 0, 24, 0)]),
  (509, [(494, .newarray .int, 2, 0, 0, 0, 0, 0), (496, .putfield 181, 3, 12, 89, 0, 0, 0), (499, .aload_n 0, 1, 0, 0, 0, 0, 0), (500, .bipush 6, 2, 0, 0, 0, 6, 0), (502, .newarray .int, 2, 0, 0, 0, 0, 0), (504, .dup, 1, 0, 0, 0, 0, 0), (505, .iconst 0, 1, 0, 0, 0, 0, 0), (506, .iconst (-1), 1, 0, 0, 0, -1, 0), (507, .iastore, 1, 0, 0, 0, 0, 0), (508, .dup, 1, 0, 0, 0, 0, 0)]),
  (519, [(509, .iconst 1, 1, 0, 0, 0, 1, 0), (510, .iconst (-1), 1, 0, 0, 0, -1, 0), (511, .iastore, 1, 0, 0, 0, 0, 0), (512, .dup, 1, 0, 0, 0, 0, 0), (513, .iconst 2, 1, 0, 0, 0, 2, 0), (514, .iconst (-1), 1, 0, 0, 0, -1, 0), (515, .iastore, 1, 0, 0, 0, 0, 0), (516, .dup, 1, 0, 0, 0, 0, 0), (517, .iconst 3, 1, 0, 0, 0, 3, 0), (518, .iconst (-1), 1, 0, 0, 0, -1, 0)]),
  (531, [(519, .iastore, 1, 0, 0, 0, 0, 0), (520, .dup, 1, 0, 0, 0, 0, 0), (521, .iconst 4, 1, 0, 0, 0, 4, 0), (522, .iconst (-1), 1, 0, 0, 0, -1, 0), (523, .iastore, 1, 0, 0, 0, 0, 0), (524, .dup, 1, 0, 0, 0, 0, 0), (525, .iconst 5, 1, 0, 0, 0, 5, 0), (526, .iconst (-1), 1, 0, 0, 0, -1, 0), (527, .iastore, 1, 0, 0, 0, 0, 0), (528, .putfield 184, 3, 12, 90, 0, 0, 0)]),
  (551, [(531, .aload_n 0, 1, 0, 0, 0, 0, 0), (532, .bipush 6, 2, 0, 0, 0, 6, 0), (534, .newarray .int, 2, 0, 0, 0, 0, 0), (536, .putfield 187, 3, 12, 91, 0, 0, 0), (539, .aload_n 0, 1, 0, 0, 0, 0, 0), (540, .sipush 360, 3, 0, 0, 0, 360, 0), (543, .newarray .long, 2, 0, 0, 0, 0, 0), (545, .putfield 190, 3, 12, 92, 0, 0, 0), (548, .aload_n 0, 1, 0, 0, 0, 0, 0), (549, .bipush 60, 2, 0, 0, 0, 60, 0)])]
set_option maxRecDepth 100000 in
theorem mx_ok172_5 : ∀ q ∈ mx_t172_5, ∀ en ∈ q.2, mx_gd 172 en := mx_gt_s mx_LLok12 mx_KLok12 mx_JLok12 mx_ARok (by decide +kernel)
def mx_t172_6 : List (Nat × List mx_En) := [(557, [(551, .newarray .long, 2, 0, 0, 0, 0, 0), (553, .putfield 193, 3, 12, 93, 0, 0, 0), (556, .return_, 1, 0, 0, 0, 0, 0)])]
set_option maxRecDepth 100000 in
theorem mx_ok172_6 : ∀ q ∈ mx_t172_6, ∀ en ∈ q.2, mx_gd 172 en := mx_gt_s mx_LLok12 mx_KLok12 mx_JLok12 mx_ARok (by decide +kernel)
def mx_t172 : List (Nat × List mx_En) := mx_t172_0 ++ (mx_t172_1 ++ (mx_t172_2 ++ (mx_t172_3 ++ (mx_t172_4 ++ (mx_t172_5 ++ (mx_t172_6))))))
theorem mx_ok172 : ∀ q ∈ mx_t172, ∀ en ∈ q.2, mx_gd 172 en := (fun q h => (List.mem_append.mp h).elim (mx_ok172_0 q) ((fun q h => (List.mem_append.mp h).elim (mx_ok172_1 q) ((fun q h => (List.mem_append.mp h).elim (mx_ok172_2 q) ((fun q h => (List.mem_append.mp h).elim (mx_ok172_3 q) ((fun q h => (List.mem_append.mp h).elim (mx_ok172_4 q) ((fun q h => (List.mem_append.mp h).elim (mx_ok172_5 q) (mx_ok172_6 q)) q)) q)) q)) q)) q))
def mx_t173 : List (Nat × List mx_En) := [(16, [(0, .iload_n 0, 1, 0, 0, 0, 0, 0), (1, .iload_n 1, 1, 0, 0, 0, 0, 0), (2, .if_icmp .lt 12, 3, 14, 0, 0, 0, 0), (5, .iload_n 0, 1, 0, 0, 0, 0, 0), (6, .iload_n 2, 1, 0, 0, 0, 0, 0), (7, .if_icmp .gt 7, 3, 14, 0, 0, 0, 0), (10, .iconst 1, 1, 0, 0, 0, 1, 0), (11, .goto 4, 3, 15, 0, 0, 0, 0), (14, .iconst 0, 1, 0, 0, 0, 0, 0), (15, .ireturn, 1, 0, 0, 0, 0, 0)])]
set_option maxRecDepth 100000 in
theorem mx_ok173 : ∀ q ∈ mx_t173, ∀ en ∈ q.2, mx_gd 173 en := mx_gt_s mx_LLok12 mx_KLok12 mx_JLok12 mx_ARok (by decide +kernel)
def mx_t174 : List (Nat × List mx_En) := [(11, [(0, .iload_n 0, 1, 0, 0, 0, 0, 0), (1, .iload_n 1, 1, 0, 0, 0, 0, 0), (2, .if_icmp .ge 7, 3, 9, 0, 0, 0, 0), (5, .iload_n 0, 1, 0, 0, 0, 0, 0), (6, .goto 4, 3, 10, 0, 0, 0, 0), (9, .iload_n 1, 1, 0, 0, 0, 0, 0), (10, .ireturn, 1, 0, 0, 0, 0, 0)])]
set_option maxRecDepth 100000 in
theorem mx_ok174 : ∀ q ∈ mx_t174, ∀ en ∈ q.2, mx_gd 174 en := mx_gt_s mx_LLok12 mx_KLok12 mx_JLok12 mx_ARok (by decide +kernel)
def mx_t175 : List (Nat × List mx_En) := [(11, [(0, .iload_n 0, 1, 0, 0, 0, 0, 0), (1, .iload_n 1, 1, 0, 0, 0, 0, 0), (2, .if_icmp .le 7, 3, 9, 0, 0, 0, 0), (5, .iload_n 0, 1, 0, 0, 0, 0, 0), (6, .goto 4, 3, 10, 0, 0, 0, 0), (9, .iload_n 1, 1, 0, 0, 0, 0, 0), (10, .ireturn, 1, 0, 0, 0, 0, 0)])]
set_option maxRecDepth 100000 in
theorem mx_ok175 : ∀ q ∈ mx_t175, ∀ en ∈ q.2, mx_gd 175 en := mx_gt_s mx_LLok12 mx_KLok12 mx_JLok12 mx_ARok (by decide +kernel)
def mx_t176 : List (Nat × List mx_En) := [(11, [(0, .iload_n 0, 1, 0, 0, 0, 0, 0), (1, .ifCond .ge 8, 3, 9, 0, 0, 0, 0), (4, .iload_n 0, 1, 0, 0, 0, 0, 0), (5, .ineg, 1, 0, 0, 0, 0, 0), (6, .goto 4, 3, 10, 0, 0, 0, 0), (9, .iload_n 0, 1, 0, 0, 0, 0, 0), (10, .ireturn, 1, 0, 0, 0, 0, 0)])]
set_option maxRecDepth 100000 in
theorem mx_ok176 : ∀ q ∈ mx_t176, ∀ en ∈ q.2, mx_gd 176 en := mx_gt_s mx_LLok12 mx_KLok12 mx_JLok12 mx_ARok (by decide +kernel)
def mx_t177 : List (Nat × List mx_En) := [(12, [(0, .iload_n 1, 1, 0, 0, 0, 0, 0), (1, .iconst 0, 1, 0, 0, 0, 0, 0), (2, .aload_n 0, 1, 0, 0, 0, 0, 0), (3, .getfield 200, 3, 12, 1, 0, 0, 0), (6, .iconst 1, 1, 0, 0, 0, 1, 0), (7, .isub, 1, 0, 0, 0, 0, 0), (8, .invokestatic 203, 3, 173, 3, 0, 0, 0), (11, .ireturn, 1, 0, 0, 0, 0, 0)])]
set_option maxRecDepth 100000 in
theorem mx_ok177 : ∀ q ∈ mx_t177, ∀ en ∈ q.2, mx_gd 177 en := mx_gt_s mx_LLok12 mx_KLok12 mx_JLok12 mx_ARok (by decide +kernel)
def mx_t178 : List (Nat × List mx_En) := [(14, [(0, .iload_n 2, 1, 0, 0, 0, 0, 0), (1, .iconst 0, 1, 0, 0, 0, 0, 0), (2, .aload_n 0, 1, 0, 0, 0, 0, 0), (3, .getfield 7, 3, 12, 2, 0, 0, 0), (6, .iload_n 1, 1, 0, 0, 0, 0, 0), (7, .iaload, 1, 0, 0, 0, 0, 0), (8, .iconst 1, 1, 0, 0, 0, 1, 0), (9, .isub, 1, 0, 0, 0, 0, 0), (10, .invokestatic 203, 3, 173, 3, 0, 0, 0), (13, .ireturn, 1, 0, 0, 0, 0, 0)])]
set_option maxRecDepth 100000 in
theorem mx_ok178 : ∀ q ∈ mx_t178, ∀ en ∈ q.2, mx_gd 178 en := mx_gt_s mx_LLok12 mx_KLok12 mx_JLok12 mx_ARok (by decide +kernel)
def mx_t179 : List (Nat × List mx_En) := [(12, [(0, .bipush 36, 2, 0, 0, 0, 36, 0), (2, .iload_n 0, 1, 0, 0, 0, 0, 0), (3, .imul, 1, 0, 0, 0, 0, 0), (4, .bipush 6, 2, 0, 0, 0, 6, 0), (6, .iload_n 1, 1, 0, 0, 0, 0, 0), (7, .imul, 1, 0, 0, 0, 0, 0), (8, .iadd, 1, 0, 0, 0, 0, 0), (9, .iload_n 2, 1, 0, 0, 0, 0, 0), (10, .iadd, 1, 0, 0, 0, 0, 0), (11, .ireturn, 1, 0, 0, 0, 0, 0)])]
set_option maxRecDepth 100000 in
theorem mx_ok179 : ∀ q ∈ mx_t179, ∀ en ∈ q.2, mx_gd 179 en := mx_gt_s mx_LLok12 mx_KLok12 mx_JLok12 mx_ARok (by decide +kernel)
def mx_t180 : List (Nat × List mx_En) := [(18, [(0, .aload_n 0, 1, 0, 0, 0, 0, 0), (1, .getfield 32, 3, 12, 9, 0, 0, 0), (4, .iload_n 1, 1, 0, 0, 0, 0, 0), (5, .iload_n 2, 1, 0, 0, 0, 0, 0), (6, .iload_n 3, 1, 0, 0, 0, 0, 0), (7, .invokestatic 207, 3, 179, 3, 0, 0, 0), (10, .iaload, 1, 0, 0, 0, 0, 0), (11, .ifCond .le 7, 3, 18, 0, 0, 0, 0), (14, .iconst 1, 1, 0, 0, 0, 1, 0), (15, .goto 4, 3, 19, 0, 0, 0, 0)]),
  (20, [(18, .iconst 0, 1, 0, 0, 0, 0, 0), (19, .ireturn, 1, 0, 0, 0, 0, 0)])]
set_option maxRecDepth 100000 in
theorem mx_ok180 : ∀ q ∈ mx_t180, ∀ en ∈ q.2, mx_gd 180 en := mx_gt_s mx_LLok12 mx_KLok12 mx_JLok12 mx_ARok (by decide +kernel)
def mx_t181 : List (Nat × List mx_En) := [(17, [(0, .iconst 0, 1, 0, 0, 0, 0, 0), (1, .istore 7, 2, 0, 0, 0, 0, 0), (3, .iload 7, 2, 0, 0, 0, 0, 0), (5, .iconst 2, 1, 0, 0, 0, 2, 0), (6, .if_icmp .ge 60, 3, 66, 0, 0, 0, 0), (9, .iload 7, 2, 0, 0, 0, 0, 0), (11, .ifCond .ne 12, 3, 23, 0, 0, 0, 0), (14, .iload_n 1, 1, 0, 0, 0, 0, 0), (15, .iload_n 2, 1, 0, 0, 0, 0, 0), (16, .iload_n 3, 1, 0, 0, 0, 0, 0)]),
  (37, [(17, .invokestatic 207, 3, 179, 3, 0, 0, 0), (20, .goto 9, 3, 29, 0, 0, 0, 0), (23, .iload_n 1, 1, 0, 0, 0, 0, 0), (24, .iload_n 3, 1, 0, 0, 0, 0, 0), (25, .iload_n 2, 1, 0, 0, 0, 0, 0), (26, .invokestatic 207, 3, 179, 3, 0, 0, 0), (29, .istore 8, 2, 0, 0, 0, 0, 0), (31, .aload_n 0, 1, 0, 0, 0, 0, 0), (32, .getfield 32, 3, 12, 9, 0, 0, 0), (35, .iload 8, 2, 0, 0, 0, 0, 0)]),
  (52, [(37, .iload 4, 2, 0, 0, 0, 0, 0), (39, .iconst 1, 1, 0, 0, 0, 1, 0), (40, .iadd, 1, 0, 0, 0, 0, 0), (41, .iastore, 1, 0, 0, 0, 0, 0), (42, .aload_n 0, 1, 0, 0, 0, 0, 0), (43, .getfield 26, 3, 12, 7, 0, 0, 0), (46, .iload 8, 2, 0, 0, 0, 0, 0), (48, .iload 5, 2, 0, 0, 0, 0, 0), (50, .iastore, 1, 0, 0, 0, 0, 0), (51, .aload_n 0, 1, 0, 0, 0, 0, 0)]),
  (67, [(52, .getfield 29, 3, 12, 8, 0, 0, 0), (55, .iload 8, 2, 0, 0, 0, 0, 0), (57, .iload 6, 2, 0, 0, 0, 0, 0), (59, .iastore, 1, 0, 0, 0, 0, 0), (60, .iinc 7 1, 3, 0, 0, 0, 1, 0), (63, .goto (-60), 3, 3, 0, 0, 0, 0), (66, .return_, 1, 0, 0, 0, 0, 0)])]
set_option maxRecDepth 100000 in
theorem mx_ok181 : ∀ q ∈ mx_t181, ∀ en ∈ q.2, mx_gd 181 en := mx_gt_s mx_LLok12 mx_KLok12 mx_JLok12 mx_ARok (by decide +kernel)
def mx_t182 : List (Nat × List mx_En) := [(15, [(0, .aload_n 0, 1, 0, 0, 0, 0, 0), (1, .getfield 7, 3, 12, 2, 0, 0, 0), (4, .iload_n 1, 1, 0, 0, 0, 0, 0), (5, .iconst 0, 1, 0, 0, 0, 0, 0), (6, .iastore, 1, 0, 0, 0, 0, 0), (7, .iconst 0, 1, 0, 0, 0, 0, 0), (8, .istore_n 2, 1, 0, 0, 0, 0, 0), (9, .iload_n 2, 1, 0, 0, 0, 0, 0), (10, .bipush 6, 2, 0, 0, 0, 6, 0), (12, .if_icmp .ge 57, 3, 69, 0, 0, 0, 0)]),
  (28, [(15, .aload_n 0, 1, 0, 0, 0, 0, 0), (16, .getfield 13, 3, 12, 3, 0, 0, 0), (19, .bipush 6, 2, 0, 0, 0, 6, 0), (21, .iload_n 1, 1, 0, 0, 0, 0, 0), (22, .imul, 1, 0, 0, 0, 0, 0), (23, .iload_n 2, 1, 0, 0, 0, 0, 0), (24, .iadd, 1, 0, 0, 0, 0, 0), (25, .iconst 0, 1, 0, 0, 0, 0, 0), (26, .iastore, 1, 0, 0, 0, 0, 0), (27, .aload_n 0, 1, 0, 0, 0, 0, 0)]),
  (43, [(28, .getfield 16, 3, 12, 4, 0, 0, 0), (31, .bipush 6, 2, 0, 0, 0, 6, 0), (33, .iload_n 1, 1, 0, 0, 0, 0, 0), (34, .imul, 1, 0, 0, 0, 0, 0), (35, .iload_n 2, 1, 0, 0, 0, 0, 0), (36, .iadd, 1, 0, 0, 0, 0, 0), (37, .iconst 0, 1, 0, 0, 0, 0, 0), (38, .iastore, 1, 0, 0, 0, 0, 0), (39, .aload_n 0, 1, 0, 0, 0, 0, 0), (40, .getfield 19, 3, 12, 5, 0, 0, 0)]),
  (57, [(43, .bipush 6, 2, 0, 0, 0, 6, 0), (45, .iload_n 1, 1, 0, 0, 0, 0, 0), (46, .imul, 1, 0, 0, 0, 0, 0), (47, .iload_n 2, 1, 0, 0, 0, 0, 0), (48, .iadd, 1, 0, 0, 0, 0, 0), (49, .iconst 0, 1, 0, 0, 0, 0, 0), (50, .iastore, 1, 0, 0, 0, 0, 0), (51, .aload_n 0, 1, 0, 0, 0, 0, 0), (52, .getfield 22, 3, 12, 6, 0, 0, 0), (55, .bipush 6, 2, 0, 0, 0, 6, 0)]),
  (72, [(57, .iload_n 1, 1, 0, 0, 0, 0, 0), (58, .imul, 1, 0, 0, 0, 0, 0), (59, .iload_n 2, 1, 0, 0, 0, 0, 0), (60, .iadd, 1, 0, 0, 0, 0, 0), (61, .iconst 0, 1, 0, 0, 0, 0, 0), (62, .bastore, 1, 0, 0, 0, 0, 0), (63, .iinc 2 1, 3, 0, 0, 0, 1, 0), (66, .goto (-57), 3, 9, 0, 0, 0, 0), (69, .bipush 36, 2, 0, 0, 0, 36, 0), (71, .iload_n 1, 1, 0, 0, 0, 0, 0)]),
  (86, [(72, .imul, 1, 0, 0, 0, 0, 0), (73, .istore_n 2, 1, 0, 0, 0, 0, 0), (74, .iload_n 2, 1, 0, 0, 0, 0, 0), (75, .bipush 36, 2, 0, 0, 0, 36, 0), (77, .iload_n 1, 1, 0, 0, 0, 0, 0), (78, .imul, 1, 0, 0, 0, 0, 0), (79, .bipush 36, 2, 0, 0, 0, 36, 0), (81, .iadd, 1, 0, 0, 0, 0, 0), (82, .if_icmp .ge 30, 3, 112, 0, 0, 0, 0), (85, .aload_n 0, 1, 0, 0, 0, 0, 0)]),
  (100, [(86, .getfield 32, 3, 12, 9, 0, 0, 0), (89, .iload_n 2, 1, 0, 0, 0, 0, 0), (90, .iconst 0, 1, 0, 0, 0, 0, 0), (91, .iastore, 1, 0, 0, 0, 0, 0), (92, .aload_n 0, 1, 0, 0, 0, 0, 0), (93, .getfield 26, 3, 12, 7, 0, 0, 0), (96, .iload_n 2, 1, 0, 0, 0, 0, 0), (97, .iconst 0, 1, 0, 0, 0, 0, 0), (98, .iastore, 1, 0, 0, 0, 0, 0), (99, .aload_n 0, 1, 0, 0, 0, 0, 0)]),
  (113, [(100, .getfield 29, 3, 12, 8, 0, 0, 0), (103, .iload_n 2, 1, 0, 0, 0, 0, 0), (104, .iconst 0, 1, 0, 0, 0, 0, 0), (105, .iastore, 1, 0, 0, 0, 0, 0), (106, .iinc 2 1, 3, 0, 0, 0, 1, 0), (109, .goto (-35), 3, 74, 0, 0, 0, 0), (112, .return_, 1, 0, 0, 0, 0, 0)])]
set_option maxRecDepth 100000 in
theorem mx_ok182 : ∀ q ∈ mx_t182, ∀ en ∈ q.2, mx_gd 182 en := mx_gt_s mx_LLok12 mx_KLok12 mx_JLok12 mx_ARok (by decide +kernel)
def mx_t183 : List (Nat × List mx_En) := [(13, [(0, .iconst 0, 1, 0, 0, 0, 0, 0), (1, .istore_n 2, 1, 0, 0, 0, 0, 0), (2, .iconst 0, 1, 0, 0, 0, 0, 0), (3, .istore_n 3, 1, 0, 0, 0, 0, 0), (4, .iload_n 3, 1, 0, 0, 0, 0, 0), (5, .bipush 6, 2, 0, 0, 0, 6, 0), (7, .if_icmp .ge 46, 3, 53, 0, 0, 0, 0), (10, .iload_n 3, 1, 0, 0, 0, 0, 0), (11, .iconst 1, 1, 0, 0, 0, 1, 0), (12, .iadd, 1, 0, 0, 0, 0, 0)]),
  (31, [(13, .istore 4, 2, 0, 0, 0, 0, 0), (15, .iload 4, 2, 0, 0, 0, 0, 0), (17, .bipush 6, 2, 0, 0, 0, 6, 0), (19, .if_icmp .ge 28, 3, 47, 0, 0, 0, 0), (22, .iload_n 2, 1, 0, 0, 0, 0, 0), (23, .aload_n 0, 1, 0, 0, 0, 0, 0), (24, .iload_n 1, 1, 0, 0, 0, 0, 0), (25, .iload_n 3, 1, 0, 0, 0, 0, 0), (26, .iload 4, 2, 0, 0, 0, 0, 0), (28, .invokevirtual 211, 3, 180, 3, 0, 0, 0)]),
  (53, [(31, .ifCond .eq 7, 3, 38, 0, 0, 0, 0), (34, .iconst 1, 1, 0, 0, 0, 1, 0), (35, .goto 4, 3, 39, 0, 0, 0, 0), (38, .iconst 0, 1, 0, 0, 0, 0, 0), (39, .iadd, 1, 0, 0, 0, 0, 0), (40, .istore_n 2, 1, 0, 0, 0, 0, 0), (41, .iinc 4 1, 3, 0, 0, 0, 1, 0), (44, .goto (-29), 3, 15, 0, 0, 0, 0), (47, .iinc 3 1, 3, 0, 0, 0, 1, 0), (50, .goto (-46), 3, 4, 0, 0, 0, 0)]),
  (55, [(53, .iload_n 2, 1, 0, 0, 0, 0, 0), (54, .ireturn, 1, 0, 0, 0, 0, 0)])]
set_option maxRecDepth 100000 in
theorem mx_ok183 : ∀ q ∈ mx_t183, ∀ en ∈ q.2, mx_gd 183 en := mx_gt_s mx_LLok12 mx_KLok12 mx_JLok12 mx_ARok (by decide +kernel)
def mx_t184 : List (Nat × List mx_En) := [(16, [(0, .iload_n 1, 1, 0, 0, 0, 0, 0), (1, .iconst 1, 1, 0, 0, 0, 1, 0), (2, .iconst 4, 1, 0, 0, 0, 4, 0), (3, .invokestatic 203, 3, 173, 3, 0, 0, 0), (6, .ifCond .ne 5, 3, 11, 0, 0, 0, 0), (9, .iconst (-1), 1, 0, 0, 0, -1, 0), (10, .ireturn, 1, 0, 0, 0, 0, 0), (11, .aload_n 0, 1, 0, 0, 0, 0, 0), (12, .getfield 214, 3, 12, 16, 0, 0, 0), (15, .iload_n 1, 1, 0, 0, 0, 0, 0)]),
  (32, [(16, .iadd, 1, 0, 0, 0, 0, 0), (17, .bipush 120, 2, 0, 0, 0, 120, 0), (19, .if_icmp .le 6, 3, 25, 0, 0, 0, 0), (22, .bipush (-3), 2, 0, 0, 0, -3, 0), (24, .ireturn, 1, 0, 0, 0, 0, 0), (25, .iconst 0, 1, 0, 0, 0, 0, 0), (26, .istore_n 3, 1, 0, 0, 0, 0, 0), (27, .iload_n 3, 1, 0, 0, 0, 0, 0), (28, .iload_n 1, 1, 0, 0, 0, 0, 0), (29, .if_icmp .ge 35, 3, 64, 0, 0, 0, 0)]),
  (47, [(32, .aload_n 0, 1, 0, 0, 0, 0, 0), (33, .getfield 47, 3, 12, 15, 0, 0, 0), (36, .aload_n 0, 1, 0, 0, 0, 0, 0), (37, .getfield 214, 3, 12, 16, 0, 0, 0), (40, .iload_n 2, 1, 0, 0, 0, 0, 0), (41, .bipush 8, 2, 0, 0, 0, 8, 0), (43, .iload_n 3, 1, 0, 0, 0, 0, 0), (44, .imul, 1, 0, 0, 0, 0, 0), (45, .ishr, 1, 0, 0, 0, 0, 0), (46, .i2b, 1, 0, 0, 0, 0, 0)]),
  (65, [(47, .bastore, 1, 0, 0, 0, 0, 0), (48, .aload_n 0, 1, 0, 0, 0, 0, 0), (49, .dup, 1, 0, 0, 0, 0, 0), (50, .getfield 214, 3, 12, 16, 0, 0, 0), (53, .iconst 1, 1, 0, 0, 0, 1, 0), (54, .iadd, 1, 0, 0, 0, 0, 0), (55, .putfield 214, 3, 12, 16, 0, 0, 0), (58, .iinc 3 1, 3, 0, 0, 0, 1, 0), (61, .goto (-34), 3, 27, 0, 0, 0, 0), (64, .aload_n 0, 1, 0, 0, 0, 0, 0)]),
  (69, [(65, .getfield 214, 3, 12, 16, 0, 0, 0), (68, .ireturn, 1, 0, 0, 0, 0, 0)])]
set_option maxRecDepth 100000 in
theorem mx_ok184 : ∀ q ∈ mx_t184, ∀ en ∈ q.2, mx_gd 184 en := mx_gt_s mx_LLok12 mx_KLok12 mx_JLok12 mx_ARok (by decide +kernel)
end
section
def mx_t185 : List (Nat × List mx_En) := [(20, [(0, .aload_n 0, 1, 0, 0, 0, 0, 0), (1, .getfield 217, 3, 12, 17, 0, 0, 0), (4, .aload_n 0, 1, 0, 0, 0, 0, 0), (5, .getfield 214, 3, 12, 16, 0, 0, 0), (8, .if_icmp .ge 15, 3, 23, 0, 0, 0, 0), (11, .aload_n 0, 1, 0, 0, 0, 0, 0), (12, .getfield 47, 3, 12, 15, 0, 0, 0), (15, .aload_n 0, 1, 0, 0, 0, 0, 0), (16, .getfield 217, 3, 12, 17, 0, 0, 0), (19, .baload, 1, 0, 0, 0, 0, 0)]),
  (25, [(20, .goto 4, 3, 24, 0, 0, 0, 0), (23, .iconst (-1), 1, 0, 0, 0, -1, 0), (24, .ireturn, 1, 0, 0, 0, 0, 0)])]
set_option maxRecDepth 100000 in
theorem mx_ok185 : ∀ q ∈ mx_t185, ∀ en ∈ q.2, mx_gd 185 en := mx_gt_s mx_LLok12 mx_KLok12 mx_JLok12 mx_ARok (by decide +kernel)
def mx_t186 : List (Nat × List mx_En) := [(16, [(0, .aload_n 0, 1, 0, 0, 0, 0, 0), (1, .getfield 220, 3, 12, 18, 0, 0, 0), (4, .ifCond .ge 11, 3, 15, 0, 0, 0, 0), (7, .aload_n 0, 1, 0, 0, 0, 0, 0), (8, .aload_n 0, 1, 0, 0, 0, 0, 0), (9, .getfield 217, 3, 12, 17, 0, 0, 0), (12, .putfield 220, 3, 12, 18, 0, 0, 0), (15, .return_, 1, 0, 0, 0, 0, 0)])]
set_option maxRecDepth 100000 in
theorem mx_ok186 : ∀ q ∈ mx_t186, ∀ en ∈ q.2, mx_gd 186 en := mx_gt_s mx_LLok12 mx_KLok12 mx_JLok12 mx_ARok (by decide +kernel)
def mx_t187 : List (Nat × List mx_En) := [(12, [(0, .aload_n 0, 1, 0, 0, 0, 0, 0), (1, .invokevirtual 223, 3, 185, 0, 0, 0, 0), (4, .bipush 49, 2, 0, 0, 0, 49, 0), (6, .bipush 57, 2, 0, 0, 0, 57, 0), (8, .invokestatic 203, 3, 173, 3, 0, 0, 0), (11, .ireturn, 1, 0, 0, 0, 0, 0)])]
set_option maxRecDepth 100000 in
theorem mx_ok187 : ∀ q ∈ mx_t187, ∀ en ∈ q.2, mx_gd 187 en := mx_gt_s mx_LLok12 mx_KLok12 mx_JLok12 mx_ARok (by decide +kernel)
def mx_t188 : List (Nat × List mx_En) := [(19, [(0, .aload_n 0, 1, 0, 0, 0, 0, 0), (1, .invokevirtual 227, 3, 187, 0, 0, 0, 0), (4, .ifCond .ne 9, 3, 13, 0, 0, 0, 0), (7, .aload_n 0, 1, 0, 0, 0, 0, 0), (8, .invokevirtual 231, 3, 186, 0, 0, 0, 0), (11, .iconst 0, 1, 0, 0, 0, 0, 0), (12, .ireturn, 1, 0, 0, 0, 0, 0), (13, .aload_n 0, 1, 0, 0, 0, 0, 0), (14, .invokevirtual 223, 3, 185, 0, 0, 0, 0), (17, .bipush 48, 2, 0, 0, 0, 48, 0)]),
  (33, [(19, .isub, 1, 0, 0, 0, 0, 0), (20, .istore_n 1, 1, 0, 0, 0, 0, 0), (21, .aload_n 0, 1, 0, 0, 0, 0, 0), (22, .dup, 1, 0, 0, 0, 0, 0), (23, .getfield 217, 3, 12, 17, 0, 0, 0), (26, .iconst 1, 1, 0, 0, 0, 1, 0), (27, .iadd, 1, 0, 0, 0, 0, 0), (28, .putfield 217, 3, 12, 17, 0, 0, 0), (31, .iload_n 1, 1, 0, 0, 0, 0, 0), (32, .ireturn, 1, 0, 0, 0, 0, 0)])]
set_option maxRecDepth 100000 in
theorem mx_ok188 : ∀ q ∈ mx_t188, ∀ en ∈ q.2, mx_gd 188 en := mx_gt_s mx_LLok12 mx_KLok12 mx_JLok12 mx_ARok (by decide +kernel)
def mx_t189 : List (Nat × List mx_En) := [(17, [(0, .aload_n 0, 1, 0, 0, 0, 0, 0), (1, .invokevirtual 223, 3, 185, 0, 0, 0, 0), (4, .bipush 97, 2, 0, 0, 0, 97, 0), (6, .isub, 1, 0, 0, 0, 0, 0), (7, .istore_n 1, 1, 0, 0, 0, 0, 0), (8, .aload_n 0, 1, 0, 0, 0, 0, 0), (9, .aload_n 0, 1, 0, 0, 0, 0, 0), (10, .getfield 200, 3, 12, 1, 0, 0, 0), (13, .iload_n 1, 1, 0, 0, 0, 0, 0), (14, .invokevirtual 234, 3, 178, 2, 0, 0, 0)]),
  (26, [(17, .ifCond .eq 7, 3, 24, 0, 0, 0, 0), (20, .iload_n 1, 1, 0, 0, 0, 0, 0), (21, .goto 4, 3, 25, 0, 0, 0, 0), (24, .iconst (-1), 1, 0, 0, 0, -1, 0), (25, .ireturn, 1, 0, 0, 0, 0, 0)])]
set_option maxRecDepth 100000 in
theorem mx_ok189 : ∀ q ∈ mx_t189, ∀ en ∈ q.2, mx_gd 189 en := mx_gt_s mx_LLok12 mx_KLok12 mx_JLok12 mx_ARok (by decide +kernel)
def mx_t190 : List (Nat × List mx_En) := [(16, [(0, .aload_n 0, 1, 0, 0, 0, 0, 0), (1, .invokevirtual 238, 3, 189, 0, 0, 0, 0), (4, .istore_n 1, 1, 0, 0, 0, 0, 0), (5, .iload_n 1, 1, 0, 0, 0, 0, 0), (6, .ifCond .ge 8, 3, 14, 0, 0, 0, 0), (9, .aload_n 0, 1, 0, 0, 0, 0, 0), (10, .invokevirtual 231, 3, 186, 0, 0, 0, 0), (13, .return_, 1, 0, 0, 0, 0, 0), (14, .aload_n 0, 1, 0, 0, 0, 0, 0), (15, .dup, 1, 0, 0, 0, 0, 0)]),
  (34, [(16, .getfield 217, 3, 12, 17, 0, 0, 0), (19, .iconst 1, 1, 0, 0, 0, 1, 0), (20, .iadd, 1, 0, 0, 0, 0, 0), (21, .putfield 217, 3, 12, 17, 0, 0, 0), (24, .aload_n 0, 1, 0, 0, 0, 0, 0), (25, .invokevirtual 238, 3, 189, 0, 0, 0, 0), (28, .istore_n 2, 1, 0, 0, 0, 0, 0), (29, .iload_n 2, 1, 0, 0, 0, 0, 0), (30, .ifCond .lt 21, 3, 51, 0, 0, 0, 0), (33, .iload_n 2, 1, 0, 0, 0, 0, 0)]),
  (52, [(34, .iload_n 1, 1, 0, 0, 0, 0, 0), (35, .if_icmp .eq 16, 3, 51, 0, 0, 0, 0), (38, .aload_n 0, 1, 0, 0, 0, 0, 0), (39, .aload_n 0, 1, 0, 0, 0, 0, 0), (40, .getfield 200, 3, 12, 1, 0, 0, 0), (43, .iload_n 1, 1, 0, 0, 0, 0, 0), (44, .iload_n 2, 1, 0, 0, 0, 0, 0), (45, .invokevirtual 211, 3, 180, 3, 0, 0, 0), (48, .ifCond .eq 8, 3, 56, 0, 0, 0, 0), (51, .aload_n 0, 1, 0, 0, 0, 0, 0)]),
  (70, [(52, .invokevirtual 231, 3, 186, 0, 0, 0, 0), (55, .return_, 1, 0, 0, 0, 0, 0), (56, .aload_n 0, 1, 0, 0, 0, 0, 0), (57, .dup, 1, 0, 0, 0, 0, 0), (58, .getfield 217, 3, 12, 17, 0, 0, 0), (61, .iconst 1, 1, 0, 0, 0, 1, 0), (62, .iadd, 1, 0, 0, 0, 0, 0), (63, .putfield 217, 3, 12, 17, 0, 0, 0), (66, .aload_n 0, 1, 0, 0, 0, 0, 0), (67, .invokevirtual 241, 3, 188, 0, 0, 0, 0)]),
  (86, [(70, .istore_n 3, 1, 0, 0, 0, 0, 0), (71, .aload_n 0, 1, 0, 0, 0, 0, 0), (72, .getfield 220, 3, 12, 18, 0, 0, 0), (75, .ifCond .lt 4, 3, 79, 0, 0, 0, 0), (78, .return_, 1, 0, 0, 0, 0, 0), (79, .aload_n 0, 1, 0, 0, 0, 0, 0), (80, .aload_n 0, 1, 0, 0, 0, 0, 0), (81, .getfield 200, 3, 12, 1, 0, 0, 0), (84, .iload_n 1, 1, 0, 0, 0, 0, 0), (85, .iload_n 2, 1, 0, 0, 0, 0, 0)]),
  (102, [(86, .iconst 0, 1, 0, 0, 0, 0, 0), (87, .iload_n 3, 1, 0, 0, 0, 0, 0), (88, .iconst 0, 1, 0, 0, 0, 0, 0), (89, .invokevirtual 244, 3, 181, 6, 0, 0, 0), (92, .aload_n 0, 1, 0, 0, 0, 0, 0), (93, .getfield 51, 3, 12, 20, 0, 0, 0), (96, .aload_n 0, 1, 0, 0, 0, 0, 0), (97, .getfield 248, 3, 12, 19, 0, 0, 0), (100, .iload_n 1, 1, 0, 0, 0, 0, 0), (101, .iastore, 1, 0, 0, 0, 0, 0)]),
  (118, [(102, .aload_n 0, 1, 0, 0, 0, 0, 0), (103, .getfield 54, 3, 12, 21, 0, 0, 0), (106, .aload_n 0, 1, 0, 0, 0, 0, 0), (107, .getfield 248, 3, 12, 19, 0, 0, 0), (110, .iload_n 2, 1, 0, 0, 0, 0, 0), (111, .iastore, 1, 0, 0, 0, 0, 0), (112, .aload_n 0, 1, 0, 0, 0, 0, 0), (113, .dup, 1, 0, 0, 0, 0, 0), (114, .getfield 248, 3, 12, 19, 0, 0, 0), (117, .iconst 1, 1, 0, 0, 0, 1, 0)]),
  (123, [(118, .iadd, 1, 0, 0, 0, 0, 0), (119, .putfield 248, 3, 12, 19, 0, 0, 0), (122, .return_, 1, 0, 0, 0, 0, 0)])]
set_option maxRecDepth 100000 in
theorem mx_ok190 : ∀ q ∈ mx_t190, ∀ en ∈ q.2, mx_gd 190 en := mx_gt_s mx_LLok12 mx_KLok12 mx_JLok12 mx_ARok (by decide +kernel)
def mx_t191_0 : List (Nat × List mx_En) := [(18, [(0, .aload_n 0, 1, 0, 0, 0, 0, 0), (1, .invokevirtual 223, 3, 185, 0, 0, 0, 0), (4, .istore_n 1, 1, 0, 0, 0, 0, 0), (5, .iload_n 1, 1, 0, 0, 0, 0, 0), (6, .bipush 112, 2, 0, 0, 0, 112, 0), (8, .if_icmp .eq 26, 3, 34, 0, 0, 0, 0), (11, .iload_n 1, 1, 0, 0, 0, 0, 0), (12, .bipush 115, 2, 0, 0, 0, 115, 0), (14, .if_icmp .eq 20, 3, 34, 0, 0, 0, 0), (17, .iload_n 1, 1, 0, 0, 0, 0, 0)]),
  (36, [(18, .bipush 104, 2, 0, 0, 0, 104, 0), (20, .if_icmp .eq 14, 3, 34, 0, 0, 0, 0), (23, .iload_n 1, 1, 0, 0, 0, 0, 0), (24, .bipush 119, 2, 0, 0, 0, 119, 0), (26, .if_icmp .eq 8, 3, 34, 0, 0, 0, 0), (29, .aload_n 0, 1, 0, 0, 0, 0, 0), (30, .invokevirtual 231, 3, 186, 0, 0, 0, 0), (33, .return_, 1, 0, 0, 0, 0, 0), (34, .aload_n 0, 1, 0, 0, 0, 0, 0), (35, .dup, 1, 0, 0, 0, 0, 0)]),
  (55, [(36, .getfield 217, 3, 12, 17, 0, 0, 0), (39, .iconst 1, 1, 0, 0, 0, 1, 0), (40, .iadd, 1, 0, 0, 0, 0, 0), (41, .putfield 217, 3, 12, 17, 0, 0, 0), (44, .iload_n 1, 1, 0, 0, 0, 0, 0), (45, .bipush 112, 2, 0, 0, 0, 112, 0), (47, .if_icmp .ne 8, 3, 55, 0, 0, 0, 0), (50, .aload_n 0, 1, 0, 0, 0, 0, 0), (51, .invokevirtual 251, 3, 190, 0, 0, 0, 0), (54, .return_, 1, 0, 0, 0, 0, 0)]),
  (74, [(55, .aload_n 0, 1, 0, 0, 0, 0, 0), (56, .invokevirtual 238, 3, 189, 0, 0, 0, 0), (59, .istore_n 2, 1, 0, 0, 0, 0, 0), (60, .iload_n 2, 1, 0, 0, 0, 0, 0), (61, .ifCond .lt 60, 3, 121, 0, 0, 0, 0), (64, .iload_n 1, 1, 0, 0, 0, 0, 0), (65, .bipush 115, 2, 0, 0, 0, 115, 0), (67, .if_icmp .ne 15, 3, 82, 0, 0, 0, 0), (70, .aload_n 0, 1, 0, 0, 0, 0, 0), (71, .getfield 57, 3, 12, 22, 0, 0, 0)]),
  (93, [(74, .iload_n 2, 1, 0, 0, 0, 0, 0), (75, .baload, 1, 0, 0, 0, 0, 0), (76, .ifCond .eq 45, 3, 121, 0, 0, 0, 0), (79, .goto 38, 3, 117, 0, 0, 0, 0), (82, .iload_n 1, 1, 0, 0, 0, 0, 0), (83, .bipush 119, 2, 0, 0, 0, 119, 0), (85, .if_icmp .ne 15, 3, 100, 0, 0, 0, 0), (88, .aload_n 0, 1, 0, 0, 0, 0, 0), (89, .getfield 60, 3, 12, 23, 0, 0, 0), (92, .iload_n 2, 1, 0, 0, 0, 0, 0)])]
set_option maxRecDepth 100000 in
theorem mx_ok191_0 : ∀ q ∈ mx_t191_0, ∀ en ∈ q.2, mx_gd 191 en := mx_gt_s mx_LLok12 mx_KLok12 mx_JLok12 mx_ARok (by decide +kernel)
def mx_t191_1 : List (Nat × List mx_En) := [(112, [(93, .baload, 1, 0, 0, 0, 0, 0), (94, .ifCond .eq 27, 3, 121, 0, 0, 0, 0), (97, .goto 20, 3, 117, 0, 0, 0, 0), (100, .aload_n 0, 1, 0, 0, 0, 0, 0), (101, .getfield 22, 3, 12, 6, 0, 0, 0), (104, .bipush 6, 2, 0, 0, 0, 6, 0), (106, .aload_n 0, 1, 0, 0, 0, 0, 0), (107, .getfield 200, 3, 12, 1, 0, 0, 0), (110, .imul, 1, 0, 0, 0, 0, 0), (111, .iload_n 2, 1, 0, 0, 0, 0, 0)]),
  (128, [(112, .iadd, 1, 0, 0, 0, 0, 0), (113, .baload, 1, 0, 0, 0, 0, 0), (114, .ifCond .eq 7, 3, 121, 0, 0, 0, 0), (117, .iconst 1, 1, 0, 0, 0, 1, 0), (118, .goto 4, 3, 122, 0, 0, 0, 0), (121, .iconst 0, 1, 0, 0, 0, 0, 0), (122, .istore_n 3, 1, 0, 0, 0, 0, 0), (123, .iload_n 2, 1, 0, 0, 0, 0, 0), (124, .ifCond .lt 7, 3, 131, 0, 0, 0, 0), (127, .iload_n 3, 1, 0, 0, 0, 0, 0)]),
  (146, [(128, .ifCond .eq 8, 3, 136, 0, 0, 0, 0), (131, .aload_n 0, 1, 0, 0, 0, 0, 0), (132, .invokevirtual 231, 3, 186, 0, 0, 0, 0), (135, .return_, 1, 0, 0, 0, 0, 0), (136, .aload_n 0, 1, 0, 0, 0, 0, 0), (137, .dup, 1, 0, 0, 0, 0, 0), (138, .getfield 217, 3, 12, 17, 0, 0, 0), (141, .iconst 1, 1, 0, 0, 0, 1, 0), (142, .iadd, 1, 0, 0, 0, 0, 0), (143, .putfield 217, 3, 12, 17, 0, 0, 0)]),
  (163, [(146, .bipush 6, 2, 0, 0, 0, 6, 0), (148, .aload_n 0, 1, 0, 0, 0, 0, 0), (149, .getfield 200, 3, 12, 1, 0, 0, 0), (152, .imul, 1, 0, 0, 0, 0, 0), (153, .iload_n 2, 1, 0, 0, 0, 0, 0), (154, .iadd, 1, 0, 0, 0, 0, 0), (155, .istore 4, 2, 0, 0, 0, 0, 0), (157, .iload_n 1, 1, 0, 0, 0, 0, 0), (158, .bipush 104, 2, 0, 0, 0, 104, 0), (160, .if_icmp .ne 12, 3, 172, 0, 0, 0, 0)]),
  (179, [(163, .aload_n 0, 1, 0, 0, 0, 0, 0), (164, .getfield 22, 3, 12, 6, 0, 0, 0), (167, .iload 4, 2, 0, 0, 0, 0, 0), (169, .iconst 1, 1, 0, 0, 0, 1, 0), (170, .bastore, 1, 0, 0, 0, 0, 0), (171, .return_, 1, 0, 0, 0, 0, 0), (172, .aload_n 0, 1, 0, 0, 0, 0, 0), (173, .invokevirtual 241, 3, 188, 0, 0, 0, 0), (176, .istore 5, 2, 0, 0, 0, 0, 0), (178, .aload_n 0, 1, 0, 0, 0, 0, 0)])]
set_option maxRecDepth 100000 in
theorem mx_ok191_1 : ∀ q ∈ mx_t191_1, ∀ en ∈ q.2, mx_gd 191 en := mx_gt_s mx_LLok12 mx_KLok12 mx_JLok12 mx_ARok (by decide +kernel)
def mx_t191_2 : List (Nat × List mx_En) := [(200, [(179, .getfield 220, 3, 12, 18, 0, 0, 0), (182, .ifCond .lt 4, 3, 186, 0, 0, 0, 0), (185, .return_, 1, 0, 0, 0, 0, 0), (186, .iload_n 1, 1, 0, 0, 0, 0, 0), (187, .bipush 115, 2, 0, 0, 0, 115, 0), (189, .if_icmp .ne 22, 3, 211, 0, 0, 0, 0), (192, .aload_n 0, 1, 0, 0, 0, 0, 0), (193, .getfield 16, 3, 12, 4, 0, 0, 0), (196, .iload 4, 2, 0, 0, 0, 0, 0), (198, .iload 5, 2, 0, 0, 0, 0, 0)]),
  (217, [(200, .iastore, 1, 0, 0, 0, 0, 0), (201, .aload_n 0, 1, 0, 0, 0, 0, 0), (202, .getfield 57, 3, 12, 22, 0, 0, 0), (205, .iload_n 2, 1, 0, 0, 0, 0, 0), (206, .iconst 1, 1, 0, 0, 0, 1, 0), (207, .bastore, 1, 0, 0, 0, 0, 0), (208, .goto 19, 3, 227, 0, 0, 0, 0), (211, .aload_n 0, 1, 0, 0, 0, 0, 0), (212, .getfield 19, 3, 12, 5, 0, 0, 0), (215, .iload 4, 2, 0, 0, 0, 0, 0)]),
  (228, [(217, .iload 5, 2, 0, 0, 0, 0, 0), (219, .iastore, 1, 0, 0, 0, 0, 0), (220, .aload_n 0, 1, 0, 0, 0, 0, 0), (221, .getfield 60, 3, 12, 23, 0, 0, 0), (224, .iload_n 2, 1, 0, 0, 0, 0, 0), (225, .iconst 1, 1, 0, 0, 0, 1, 0), (226, .bastore, 1, 0, 0, 0, 0, 0), (227, .return_, 1, 0, 0, 0, 0, 0)])]
set_option maxRecDepth 100000 in
theorem mx_ok191_2 : ∀ q ∈ mx_t191_2, ∀ en ∈ q.2, mx_gd 191 en := mx_gt_s mx_LLok12 mx_KLok12 mx_JLok12 mx_ARok (by decide +kernel)
def mx_t191 : List (Nat × List mx_En) := mx_t191_0 ++ (mx_t191_1 ++ (mx_t191_2))
theorem mx_ok191 : ∀ q ∈ mx_t191, ∀ en ∈ q.2, mx_gd 191 en := (fun q h => (List.mem_append.mp h).elim (mx_ok191_0 q) ((fun q h => (List.mem_append.mp h).elim (mx_ok191_1 q) (mx_ok191_2 q)) q))
def mx_t192 : List (Nat × List mx_En) := [(16, [(0, .aload_n 0, 1, 0, 0, 0, 0, 0), (1, .iconst 0, 1, 0, 0, 0, 0, 0), (2, .putfield 217, 3, 12, 17, 0, 0, 0), (5, .aload_n 0, 1, 0, 0, 0, 0, 0), (6, .iconst (-1), 1, 0, 0, 0, -1, 0), (7, .putfield 220, 3, 12, 18, 0, 0, 0), (10, .aload_n 0, 1, 0, 0, 0, 0, 0), (11, .iconst 0, 1, 0, 0, 0, 0, 0), (12, .putfield 248, 3, 12, 19, 0, 0, 0), (15, .aload_n 0, 1, 0, 0, 0, 0, 0)]),
  (35, [(16, .aload_n 0, 1, 0, 0, 0, 0, 0), (17, .getfield 200, 3, 12, 1, 0, 0, 0), (20, .invokevirtual 254, 3, 182, 1, 0, 0, 0), (23, .iconst 0, 1, 0, 0, 0, 0, 0), (24, .istore_n 1, 1, 0, 0, 0, 0, 0), (25, .iload_n 1, 1, 0, 0, 0, 0, 0), (26, .bipush 6, 2, 0, 0, 0, 6, 0), (28, .if_icmp .ge 23, 3, 51, 0, 0, 0, 0), (31, .aload_n 0, 1, 0, 0, 0, 0, 0), (32, .getfield 57, 3, 12, 22, 0, 0, 0)]),
  (51, [(35, .iload_n 1, 1, 0, 0, 0, 0, 0), (36, .iconst 0, 1, 0, 0, 0, 0, 0), (37, .bastore, 1, 0, 0, 0, 0, 0), (38, .aload_n 0, 1, 0, 0, 0, 0, 0), (39, .getfield 60, 3, 12, 23, 0, 0, 0), (42, .iload_n 1, 1, 0, 0, 0, 0, 0), (43, .iconst 0, 1, 0, 0, 0, 0, 0), (44, .bastore, 1, 0, 0, 0, 0, 0), (45, .iinc 1 1, 3, 0, 0, 0, 1, 0), (48, .goto (-23), 3, 25, 0, 0, 0, 0)]),
  (70, [(51, .aload_n 0, 1, 0, 0, 0, 0, 0), (52, .invokevirtual 223, 3, 185, 0, 0, 0, 0), (55, .bipush 99, 2, 0, 0, 0, 99, 0), (57, .if_icmp .eq 8, 3, 65, 0, 0, 0, 0), (60, .aload_n 0, 1, 0, 0, 0, 0, 0), (61, .invokevirtual 231, 3, 186, 0, 0, 0, 0), (64, .return_, 1, 0, 0, 0, 0, 0), (65, .aload_n 0, 1, 0, 0, 0, 0, 0), (66, .dup, 1, 0, 0, 0, 0, 0), (67, .getfield 217, 3, 12, 17, 0, 0, 0)]),
  (89, [(70, .iconst 1, 1, 0, 0, 0, 1, 0), (71, .iadd, 1, 0, 0, 0, 0, 0), (72, .putfield 217, 3, 12, 17, 0, 0, 0), (75, .aload_n 0, 1, 0, 0, 0, 0, 0), (76, .getfield 7, 3, 12, 2, 0, 0, 0), (79, .aload_n 0, 1, 0, 0, 0, 0, 0), (80, .getfield 200, 3, 12, 1, 0, 0, 0), (83, .iaload, 1, 0, 0, 0, 0, 0), (84, .bipush 6, 2, 0, 0, 0, 6, 0), (86, .if_icmp .ge 52, 3, 138, 0, 0, 0, 0)]),
  (108, [(89, .aload_n 0, 1, 0, 0, 0, 0, 0), (90, .invokevirtual 227, 3, 187, 0, 0, 0, 0), (93, .ifCond .eq 45, 3, 138, 0, 0, 0, 0), (96, .aload_n 0, 1, 0, 0, 0, 0, 0), (97, .getfield 13, 3, 12, 3, 0, 0, 0), (100, .bipush 6, 2, 0, 0, 0, 6, 0), (102, .aload_n 0, 1, 0, 0, 0, 0, 0), (103, .getfield 200, 3, 12, 1, 0, 0, 0), (106, .imul, 1, 0, 0, 0, 0, 0), (107, .aload_n 0, 1, 0, 0, 0, 0, 0)]),
  (126, [(108, .getfield 7, 3, 12, 2, 0, 0, 0), (111, .aload_n 0, 1, 0, 0, 0, 0, 0), (112, .getfield 200, 3, 12, 1, 0, 0, 0), (115, .iaload, 1, 0, 0, 0, 0, 0), (116, .iadd, 1, 0, 0, 0, 0, 0), (117, .aload_n 0, 1, 0, 0, 0, 0, 0), (118, .invokevirtual 241, 3, 188, 0, 0, 0, 0), (121, .iastore, 1, 0, 0, 0, 0, 0), (122, .aload_n 0, 1, 0, 0, 0, 0, 0), (123, .getfield 7, 3, 12, 2, 0, 0, 0)]),
  (142, [(126, .aload_n 0, 1, 0, 0, 0, 0, 0), (127, .getfield 200, 3, 12, 1, 0, 0, 0), (130, .dup2, 1, 0, 0, 0, 0, 0), (131, .iaload, 1, 0, 0, 0, 0, 0), (132, .iconst 1, 1, 0, 0, 0, 1, 0), (133, .iadd, 1, 0, 0, 0, 0, 0), (134, .iastore, 1, 0, 0, 0, 0, 0), (135, .goto (-60), 3, 75, 0, 0, 0, 0), (138, .aload_n 0, 1, 0, 0, 0, 0, 0), (139, .getfield 7, 3, 12, 2, 0, 0, 0)]),
  (162, [(142, .aload_n 0, 1, 0, 0, 0, 0, 0), (143, .getfield 200, 3, 12, 1, 0, 0, 0), (146, .iaload, 1, 0, 0, 0, 0, 0), (147, .ifCond .ne 7, 3, 154, 0, 0, 0, 0), (150, .aload_n 0, 1, 0, 0, 0, 0, 0), (151, .invokevirtual 231, 3, 186, 0, 0, 0, 0), (154, .aload_n 0, 1, 0, 0, 0, 0, 0), (155, .getfield 220, 3, 12, 18, 0, 0, 0), (158, .ifCond .ge 29, 3, 187, 0, 0, 0, 0), (161, .aload_n 0, 1, 0, 0, 0, 0, 0)]),
  (181, [(162, .invokevirtual 223, 3, 185, 0, 0, 0, 0), (165, .bipush 59, 2, 0, 0, 0, 59, 0), (167, .if_icmp .ne 20, 3, 187, 0, 0, 0, 0), (170, .aload_n 0, 1, 0, 0, 0, 0, 0), (171, .dup, 1, 0, 0, 0, 0, 0), (172, .getfield 217, 3, 12, 17, 0, 0, 0), (175, .iconst 1, 1, 0, 0, 0, 1, 0), (176, .iadd, 1, 0, 0, 0, 0, 0), (177, .putfield 217, 3, 12, 17, 0, 0, 0), (180, .aload_n 0, 1, 0, 0, 0, 0, 0)]),
  (205, [(181, .invokevirtual 258, 3, 191, 0, 0, 0, 0), (184, .goto (-30), 3, 154, 0, 0, 0, 0), (187, .aload_n 0, 1, 0, 0, 0, 0, 0), (188, .getfield 220, 3, 12, 18, 0, 0, 0), (191, .ifCond .ge 18, 3, 209, 0, 0, 0, 0), (194, .aload_n 0, 1, 0, 0, 0, 0, 0), (195, .getfield 217, 3, 12, 17, 0, 0, 0), (198, .aload_n 0, 1, 0, 0, 0, 0, 0), (199, .getfield 214, 3, 12, 16, 0, 0, 0), (202, .if_icmp .ge 7, 3, 209, 0, 0, 0, 0)]),
  (210, [(205, .aload_n 0, 1, 0, 0, 0, 0, 0), (206, .invokevirtual 231, 3, 186, 0, 0, 0, 0), (209, .return_, 1, 0, 0, 0, 0, 0)])]
set_option maxRecDepth 100000 in
theorem mx_ok192 : ∀ q ∈ mx_t192, ∀ en ∈ q.2, mx_gd 192 en := mx_gt_s mx_LLok12 mx_KLok12 mx_JLok12 mx_ARok (by decide +kernel)
def mx_t193 : List (Nat × List mx_En) := [(18, [(0, .aload_n 0, 1, 0, 0, 0, 0, 0), (1, .getfield 41, 3, 12, 13, 0, 0, 0), (4, .aload_n 0, 1, 0, 0, 0, 0, 0), (5, .getfield 261, 3, 12, 12, 0, 0, 0), (8, .iconst 1, 1, 0, 0, 0, 1, 0), (9, .iastore, 1, 0, 0, 0, 0, 0), (10, .aload_n 0, 1, 0, 0, 0, 0, 0), (11, .getfield 44, 3, 12, 14, 0, 0, 0), (14, .aload_n 0, 1, 0, 0, 0, 0, 0), (15, .getfield 261, 3, 12, 12, 0, 0, 0)]),
  (30, [(18, .iload_n 1, 1, 0, 0, 0, 0, 0), (19, .iload_n 2, 1, 0, 0, 0, 0, 0), (20, .iload_n 3, 1, 0, 0, 0, 0, 0), (21, .invokestatic 207, 3, 179, 3, 0, 0, 0), (24, .iconst 1, 1, 0, 0, 0, 1, 0), (25, .iadd, 1, 0, 0, 0, 0, 0), (26, .iastore, 1, 0, 0, 0, 0, 0), (27, .aload_n 0, 1, 0, 0, 0, 0, 0), (28, .iload_n 1, 1, 0, 0, 0, 0, 0), (29, .iload_n 2, 1, 0, 0, 0, 0, 0)]),
  (46, [(30, .iload_n 3, 1, 0, 0, 0, 0, 0), (31, .aload_n 0, 1, 0, 0, 0, 0, 0), (32, .getfield 261, 3, 12, 12, 0, 0, 0), (35, .aload_n 0, 1, 0, 0, 0, 0, 0), (36, .getfield 26, 3, 12, 7, 0, 0, 0), (39, .iload_n 1, 1, 0, 0, 0, 0, 0), (40, .iload_n 2, 1, 0, 0, 0, 0, 0), (41, .iload_n 3, 1, 0, 0, 0, 0, 0), (42, .invokestatic 207, 3, 179, 3, 0, 0, 0), (45, .iaload, 1, 0, 0, 0, 0, 0)]),
  (62, [(46, .aload_n 0, 1, 0, 0, 0, 0, 0), (47, .getfield 29, 3, 12, 8, 0, 0, 0), (50, .iload_n 1, 1, 0, 0, 0, 0, 0), (51, .iload_n 2, 1, 0, 0, 0, 0, 0), (52, .iload_n 3, 1, 0, 0, 0, 0, 0), (53, .invokestatic 207, 3, 179, 3, 0, 0, 0), (56, .iaload, 1, 0, 0, 0, 0, 0), (57, .invokevirtual 244, 3, 181, 6, 0, 0, 0), (60, .aload_n 0, 1, 0, 0, 0, 0, 0), (61, .dup, 1, 0, 0, 0, 0, 0)]),
  (71, [(62, .getfield 261, 3, 12, 12, 0, 0, 0), (65, .iconst 1, 1, 0, 0, 0, 1, 0), (66, .iadd, 1, 0, 0, 0, 0, 0), (67, .putfield 261, 3, 12, 12, 0, 0, 0), (70, .return_, 1, 0, 0, 0, 0, 0)])]
set_option maxRecDepth 100000 in
theorem mx_ok193 : ∀ q ∈ mx_t193, ∀ en ∈ q.2, mx_gd 193 en := mx_gt_s mx_LLok12 mx_KLok12 mx_JLok12 mx_ARok (by decide +kernel)
def mx_t194 : List (Nat × List mx_En) := [(20, [(0, .aload_n 0, 1, 0, 0, 0, 0, 0), (1, .getfield 200, 3, 12, 1, 0, 0, 0), (4, .bipush 12, 2, 0, 0, 0, 12, 0), (6, .if_icmp .ne 6, 3, 12, 0, 0, 0, 0), (9, .bipush (-3), 2, 0, 0, 0, -3, 0), (11, .ireturn, 1, 0, 0, 0, 0, 0), (12, .aload_n 0, 1, 0, 0, 0, 0, 0), (13, .invokevirtual 264, 3, 192, 0, 0, 0, 0), (16, .aload_n 0, 1, 0, 0, 0, 0, 0), (17, .getfield 220, 3, 12, 18, 0, 0, 0)]),
  (37, [(20, .ifCond .lt 16, 3, 36, 0, 0, 0, 0), (23, .aload_n 0, 1, 0, 0, 0, 0, 0), (24, .iconst 0, 1, 0, 0, 0, 0, 0), (25, .putfield 214, 3, 12, 16, 0, 0, 0), (28, .bipush (-100), 2, 0, 0, 0, -100, 0), (30, .aload_n 0, 1, 0, 0, 0, 0, 0), (31, .getfield 220, 3, 12, 18, 0, 0, 0), (34, .isub, 1, 0, 0, 0, 0, 0), (35, .ireturn, 1, 0, 0, 0, 0, 0), (36, .aload_n 0, 1, 0, 0, 0, 0, 0)]),
  (56, [(37, .getfield 261, 3, 12, 12, 0, 0, 0), (40, .aload_n 0, 1, 0, 0, 0, 0, 0), (41, .getfield 248, 3, 12, 19, 0, 0, 0), (44, .iadd, 1, 0, 0, 0, 0, 0), (45, .sipush 200, 3, 0, 0, 0, 200, 0), (48, .if_icmp .le 6, 3, 54, 0, 0, 0, 0), (51, .bipush (-3), 2, 0, 0, 0, -3, 0), (53, .ireturn, 1, 0, 0, 0, 0, 0), (54, .aload_n 0, 1, 0, 0, 0, 0, 0), (55, .iconst 0, 1, 0, 0, 0, 0, 0)]),
  (74, [(56, .putfield 214, 3, 12, 16, 0, 0, 0), (59, .iconst 0, 1, 0, 0, 0, 0, 0), (60, .istore_n 1, 1, 0, 0, 0, 0, 0), (61, .iload_n 1, 1, 0, 0, 0, 0, 0), (62, .aload_n 0, 1, 0, 0, 0, 0, 0), (63, .getfield 248, 3, 12, 19, 0, 0, 0), (66, .if_icmp .ge 29, 3, 95, 0, 0, 0, 0), (69, .aload_n 0, 1, 0, 0, 0, 0, 0), (70, .aload_n 0, 1, 0, 0, 0, 0, 0), (71, .getfield 200, 3, 12, 1, 0, 0, 0)]),
  (92, [(74, .aload_n 0, 1, 0, 0, 0, 0, 0), (75, .getfield 51, 3, 12, 20, 0, 0, 0), (78, .iload_n 1, 1, 0, 0, 0, 0, 0), (79, .iaload, 1, 0, 0, 0, 0, 0), (80, .aload_n 0, 1, 0, 0, 0, 0, 0), (81, .getfield 54, 3, 12, 21, 0, 0, 0), (84, .iload_n 1, 1, 0, 0, 0, 0, 0), (85, .iaload, 1, 0, 0, 0, 0, 0), (86, .invokevirtual 267, 3, 193, 3, 0, 0, 0), (89, .iinc 1 1, 3, 0, 0, 0, 1, 0)]),
  (110, [(92, .goto (-31), 3, 61, 0, 0, 0, 0), (95, .aload_n 0, 1, 0, 0, 0, 0, 0), (96, .getfield 35, 3, 12, 10, 0, 0, 0), (99, .aload_n 0, 1, 0, 0, 0, 0, 0), (100, .getfield 200, 3, 12, 1, 0, 0, 0), (103, .iconst (-1), 1, 0, 0, 0, -1, 0), (104, .iastore, 1, 0, 0, 0, 0, 0), (105, .aload_n 0, 1, 0, 0, 0, 0, 0), (106, .dup, 1, 0, 0, 0, 0, 0), (107, .getfield 200, 3, 12, 1, 0, 0, 0)]),
  (122, [(110, .iconst 1, 1, 0, 0, 0, 1, 0), (111, .iadd, 1, 0, 0, 0, 0, 0), (112, .putfield 200, 3, 12, 1, 0, 0, 0), (115, .aload_n 0, 1, 0, 0, 0, 0, 0), (116, .getfield 200, 3, 12, 1, 0, 0, 0), (119, .iconst 1, 1, 0, 0, 0, 1, 0), (120, .isub, 1, 0, 0, 0, 0, 0), (121, .ireturn, 1, 0, 0, 0, 0, 0)])]
set_option maxRecDepth 100000 in
theorem mx_ok194 : ∀ q ∈ mx_t194, ∀ en ∈ q.2, mx_gd 194 en := mx_gt_s mx_LLok12 mx_KLok12 mx_JLok12 mx_ARok (by decide +kernel)
def mx_t195 : List (Nat × List mx_En) := [(14, [(0, .iconst 0, 1, 0, 0, 0, 0, 0), (1, .istore_n 2, 1, 0, 0, 0, 0, 0), (2, .iconst 0, 1, 0, 0, 0, 0, 0), (3, .istore_n 3, 1, 0, 0, 0, 0, 0), (4, .iload_n 3, 1, 0, 0, 0, 0, 0), (5, .aload_n 0, 1, 0, 0, 0, 0, 0), (6, .getfield 7, 3, 12, 2, 0, 0, 0), (9, .iload_n 1, 1, 0, 0, 0, 0, 0), (10, .iaload, 1, 0, 0, 0, 0, 0), (11, .if_icmp .ge 31, 3, 42, 0, 0, 0, 0)]),
  (29, [(14, .iload_n 2, 1, 0, 0, 0, 0, 0), (15, .aload_n 0, 1, 0, 0, 0, 0, 0), (16, .getfield 22, 3, 12, 6, 0, 0, 0), (19, .bipush 6, 2, 0, 0, 0, 6, 0), (21, .iload_n 1, 1, 0, 0, 0, 0, 0), (22, .imul, 1, 0, 0, 0, 0, 0), (23, .iload_n 3, 1, 0, 0, 0, 0, 0), (24, .iadd, 1, 0, 0, 0, 0, 0), (25, .baload, 1, 0, 0, 0, 0, 0), (26, .ifCond .eq 7, 3, 33, 0, 0, 0, 0)]),
  (44, [(29, .iconst 0, 1, 0, 0, 0, 0, 0), (30, .goto 4, 3, 34, 0, 0, 0, 0), (33, .iconst 1, 1, 0, 0, 0, 1, 0), (34, .iadd, 1, 0, 0, 0, 0, 0), (35, .istore_n 2, 1, 0, 0, 0, 0, 0), (36, .iinc 3 1, 3, 0, 0, 0, 1, 0), (39, .goto (-35), 3, 4, 0, 0, 0, 0), (42, .iload_n 2, 1, 0, 0, 0, 0, 0), (43, .ireturn, 1, 0, 0, 0, 0, 0)])]
set_option maxRecDepth 100000 in
theorem mx_ok195 : ∀ q ∈ mx_t195, ∀ en ∈ q.2, mx_gd 195 en := mx_gt_s mx_LLok12 mx_KLok12 mx_JLok12 mx_ARok (by decide +kernel)
def mx_t196 : List (Nat × List mx_En) := [(19, [(0, .aload_n 0, 1, 0, 0, 0, 0, 0), (1, .iload_n 1, 1, 0, 0, 0, 0, 0), (2, .invokevirtual 271, 3, 177, 1, 0, 0, 0), (5, .ifCond .eq 7, 3, 12, 0, 0, 0, 0), (8, .iload_n 2, 1, 0, 0, 0, 0, 0), (9, .ifCond .ge 7, 3, 16, 0, 0, 0, 0), (12, .ldc_w 275, 3, 0, 0, 0, -2000000000, 0), (15, .ireturn, 1, 0, 0, 0, 0, 0), (16, .iload_n 2, 1, 0, 0, 0, 0, 0), (17, .bipush 10, 2, 0, 0, 0, 10, 0)]),
  (37, [(19, .if_icmp .ge 46, 3, 65, 0, 0, 0, 0), (22, .iload_n 2, 1, 0, 0, 0, 0, 0), (23, .ifCond .ne 12, 3, 35, 0, 0, 0, 0), (26, .aload_n 0, 1, 0, 0, 0, 0, 0), (27, .getfield 7, 3, 12, 2, 0, 0, 0), (30, .iload_n 1, 1, 0, 0, 0, 0, 0), (31, .iaload, 1, 0, 0, 0, 0, 0), (32, .goto 32, 3, 64, 0, 0, 0, 0), (35, .iload_n 2, 1, 0, 0, 0, 0, 0), (36, .iconst 1, 1, 0, 0, 0, 1, 0)]),
  (55, [(37, .if_icmp .ne 11, 3, 48, 0, 0, 0, 0), (40, .aload_n 0, 1, 0, 0, 0, 0, 0), (41, .iload_n 1, 1, 0, 0, 0, 0, 0), (42, .invokevirtual 276, 3, 183, 1, 0, 0, 0), (45, .goto 19, 3, 64, 0, 0, 0, 0), (48, .iload_n 2, 1, 0, 0, 0, 0, 0), (49, .iconst 2, 1, 0, 0, 0, 2, 0), (50, .if_icmp .ne 11, 3, 61, 0, 0, 0, 0), (53, .aload_n 0, 1, 0, 0, 0, 0, 0), (54, .iload_n 1, 1, 0, 0, 0, 0, 0)]),
  (74, [(55, .invokevirtual 280, 3, 195, 1, 0, 0, 0), (58, .goto 6, 3, 64, 0, 0, 0, 0), (61, .ldc_w 275, 3, 0, 0, 0, -2000000000, 0), (64, .ireturn, 1, 0, 0, 0, 0, 0), (65, .aload_n 0, 1, 0, 0, 0, 0, 0), (66, .iload_n 1, 1, 0, 0, 0, 0, 0), (67, .iload_n 2, 1, 0, 0, 0, 0, 0), (68, .bipush 10, 2, 0, 0, 0, 10, 0), (70, .irem, 1, 0, 0, 0, 0, 0), (71, .invokevirtual 234, 3, 178, 2, 0, 0, 0)]),
  (90, [(74, .ifCond .ne 7, 3, 81, 0, 0, 0, 0), (77, .ldc_w 275, 3, 0, 0, 0, -2000000000, 0), (80, .ireturn, 1, 0, 0, 0, 0, 0), (81, .bipush 6, 2, 0, 0, 0, 6, 0), (83, .iload_n 1, 1, 0, 0, 0, 0, 0), (84, .imul, 1, 0, 0, 0, 0, 0), (85, .iload_n 2, 1, 0, 0, 0, 0, 0), (86, .bipush 10, 2, 0, 0, 0, 10, 0), (88, .irem, 1, 0, 0, 0, 0, 0), (89, .iadd, 1, 0, 0, 0, 0, 0)]),
  (107, [(90, .istore_n 3, 1, 0, 0, 0, 0, 0), (91, .iload_n 2, 1, 0, 0, 0, 0, 0), (92, .bipush 20, 2, 0, 0, 0, 20, 0), (94, .if_icmp .ge 12, 3, 106, 0, 0, 0, 0), (97, .aload_n 0, 1, 0, 0, 0, 0, 0), (98, .getfield 13, 3, 12, 3, 0, 0, 0), (101, .iload_n 3, 1, 0, 0, 0, 0, 0), (102, .iaload, 1, 0, 0, 0, 0, 0), (103, .goto 59, 3, 162, 0, 0, 0, 0), (106, .iload_n 2, 1, 0, 0, 0, 0, 0)]),
  (127, [(107, .bipush 30, 2, 0, 0, 0, 30, 0), (109, .if_icmp .ge 12, 3, 121, 0, 0, 0, 0), (112, .aload_n 0, 1, 0, 0, 0, 0, 0), (113, .getfield 16, 3, 12, 4, 0, 0, 0), (116, .iload_n 3, 1, 0, 0, 0, 0, 0), (117, .iaload, 1, 0, 0, 0, 0, 0), (118, .goto 44, 3, 162, 0, 0, 0, 0), (121, .iload_n 2, 1, 0, 0, 0, 0, 0), (122, .bipush 40, 2, 0, 0, 0, 40, 0), (124, .if_icmp .ge 12, 3, 136, 0, 0, 0, 0)]),
  (146, [(127, .aload_n 0, 1, 0, 0, 0, 0, 0), (128, .getfield 19, 3, 12, 5, 0, 0, 0), (131, .iload_n 3, 1, 0, 0, 0, 0, 0), (132, .iaload, 1, 0, 0, 0, 0, 0), (133, .goto 29, 3, 162, 0, 0, 0, 0), (136, .iload_n 2, 1, 0, 0, 0, 0, 0), (137, .bipush 50, 2, 0, 0, 0, 50, 0), (139, .if_icmp .ge 20, 3, 159, 0, 0, 0, 0), (142, .aload_n 0, 1, 0, 0, 0, 0, 0), (143, .getfield 22, 3, 12, 6, 0, 0, 0)]),
  (163, [(146, .iload_n 3, 1, 0, 0, 0, 0, 0), (147, .baload, 1, 0, 0, 0, 0, 0), (148, .ifCond .eq 7, 3, 155, 0, 0, 0, 0), (151, .iconst 1, 1, 0, 0, 0, 1, 0), (152, .goto 10, 3, 162, 0, 0, 0, 0), (155, .iconst 0, 1, 0, 0, 0, 0, 0), (156, .goto 6, 3, 162, 0, 0, 0, 0), (159, .ldc_w 275, 3, 0, 0, 0, -2000000000, 0), (162, .ireturn, 1, 0, 0, 0, 0, 0)])]
set_option maxRecDepth 100000 in
theorem mx_ok196 : ∀ q ∈ mx_t196, ∀ en ∈ q.2, mx_gd 196 en := mx_gt_s mx_LLok12 mx_KLok12 mx_JLok12 mx_ARok (by decide +kernel)
def mx_t197 : List (Nat × List mx_En) := [(18, [(0, .aload_n 0, 1, 0, 0, 0, 0, 0), (1, .iload_n 1, 1, 0, 0, 0, 0, 0), (2, .invokevirtual 271, 3, 177, 1, 0, 0, 0), (5, .ifCond .eq 31, 3, 36, 0, 0, 0, 0), (8, .aload_n 0, 1, 0, 0, 0, 0, 0), (9, .iload_n 1, 1, 0, 0, 0, 0, 0), (10, .iload_n 2, 1, 0, 0, 0, 0, 0), (11, .invokevirtual 234, 3, 178, 2, 0, 0, 0), (14, .ifCond .eq 22, 3, 36, 0, 0, 0, 0), (17, .aload_n 0, 1, 0, 0, 0, 0, 0)]),
  (37, [(18, .iload_n 1, 1, 0, 0, 0, 0, 0), (19, .iload_n 3, 1, 0, 0, 0, 0, 0), (20, .invokevirtual 234, 3, 178, 2, 0, 0, 0), (23, .ifCond .eq 13, 3, 36, 0, 0, 0, 0), (26, .iload 4, 2, 0, 0, 0, 0, 0), (28, .iconst 0, 1, 0, 0, 0, 0, 0), (29, .iconst 2, 1, 0, 0, 0, 2, 0), (30, .invokestatic 203, 3, 173, 3, 0, 0, 0), (33, .ifCond .ne 5, 3, 38, 0, 0, 0, 0), (36, .iconst (-1), 1, 0, 0, 0, -1, 0)]),
  (53, [(37, .ireturn, 1, 0, 0, 0, 0, 0), (38, .iload_n 2, 1, 0, 0, 0, 0, 0), (39, .iload_n 3, 1, 0, 0, 0, 0, 0), (40, .if_icmp .eq 13, 3, 53, 0, 0, 0, 0), (43, .aload_n 0, 1, 0, 0, 0, 0, 0), (44, .iload_n 1, 1, 0, 0, 0, 0, 0), (45, .iload_n 2, 1, 0, 0, 0, 0, 0), (46, .iload_n 3, 1, 0, 0, 0, 0, 0), (47, .invokevirtual 211, 3, 180, 3, 0, 0, 0), (50, .ifCond .ne 6, 3, 56, 0, 0, 0, 0)]),
  (70, [(53, .bipush (-2), 2, 0, 0, 0, -2, 0), (55, .ireturn, 1, 0, 0, 0, 0, 0), (56, .iload_n 1, 1, 0, 0, 0, 0, 0), (57, .iload_n 2, 1, 0, 0, 0, 0, 0), (58, .iload_n 3, 1, 0, 0, 0, 0, 0), (59, .invokestatic 207, 3, 179, 3, 0, 0, 0), (62, .istore 5, 2, 0, 0, 0, 0, 0), (64, .iload 4, 2, 0, 0, 0, 0, 0), (66, .ifCond .ne 15, 3, 81, 0, 0, 0, 0), (69, .aload_n 0, 1, 0, 0, 0, 0, 0)]),
  (88, [(70, .getfield 32, 3, 12, 9, 0, 0, 0), (73, .iload 5, 2, 0, 0, 0, 0, 0), (75, .iaload, 1, 0, 0, 0, 0, 0), (76, .iconst 1, 1, 0, 0, 0, 1, 0), (77, .isub, 1, 0, 0, 0, 0, 0), (78, .goto 26, 3, 104, 0, 0, 0, 0), (81, .iload 4, 2, 0, 0, 0, 0, 0), (83, .iconst 1, 1, 0, 0, 0, 1, 0), (84, .if_icmp .ne 13, 3, 97, 0, 0, 0, 0), (87, .aload_n 0, 1, 0, 0, 0, 0, 0)]),
  (105, [(88, .getfield 26, 3, 12, 7, 0, 0, 0), (91, .iload 5, 2, 0, 0, 0, 0, 0), (93, .iaload, 1, 0, 0, 0, 0, 0), (94, .goto 10, 3, 104, 0, 0, 0, 0), (97, .aload_n 0, 1, 0, 0, 0, 0, 0), (98, .getfield 29, 3, 12, 8, 0, 0, 0), (101, .iload 5, 2, 0, 0, 0, 0, 0), (103, .iaload, 1, 0, 0, 0, 0, 0), (104, .ireturn, 1, 0, 0, 0, 0, 0)])]
set_option maxRecDepth 100000 in
theorem mx_ok197 : ∀ q ∈ mx_t197, ∀ en ∈ q.2, mx_gd 197 en := mx_gt_s mx_LLok12 mx_KLok12 mx_JLok12 mx_ARok (by decide +kernel)
def mx_t198 : List (Nat × List mx_En) := [(19, [(0, .aload_n 0, 1, 0, 0, 0, 0, 0), (1, .iconst 0, 1, 0, 0, 0, 0, 0), (2, .putfield 283, 3, 12, 25, 0, 0, 0), (5, .aload_n 0, 1, 0, 0, 0, 0, 0), (6, .getfield 286, 3, 12, 24, 0, 0, 0), (9, .bipush 40, 2, 0, 0, 0, 40, 0), (11, .if_icmp .ne 109, 3, 120, 0, 0, 0, 0), (14, .iconst 1, 1, 0, 0, 0, 1, 0), (15, .istore 6, 2, 0, 0, 0, 0, 0), (17, .iload 6, 2, 0, 0, 0, 0, 0)]),
  (38, [(19, .bipush 40, 2, 0, 0, 0, 40, 0), (21, .if_icmp .ge 89, 3, 110, 0, 0, 0, 0), (24, .aload_n 0, 1, 0, 0, 0, 0, 0), (25, .getfield 63, 3, 12, 26, 0, 0, 0), (28, .iload 6, 2, 0, 0, 0, 0, 0), (30, .iconst 1, 1, 0, 0, 0, 1, 0), (31, .isub, 1, 0, 0, 0, 0, 0), (32, .aload_n 0, 1, 0, 0, 0, 0, 0), (33, .getfield 63, 3, 12, 26, 0, 0, 0), (36, .iload 6, 2, 0, 0, 0, 0, 0)]),
  (54, [(38, .iaload, 1, 0, 0, 0, 0, 0), (39, .iastore, 1, 0, 0, 0, 0, 0), (40, .aload_n 0, 1, 0, 0, 0, 0, 0), (41, .getfield 66, 3, 12, 27, 0, 0, 0), (44, .iload 6, 2, 0, 0, 0, 0, 0), (46, .iconst 1, 1, 0, 0, 0, 1, 0), (47, .isub, 1, 0, 0, 0, 0, 0), (48, .aload_n 0, 1, 0, 0, 0, 0, 0), (49, .getfield 66, 3, 12, 27, 0, 0, 0), (52, .iload 6, 2, 0, 0, 0, 0, 0)]),
  (70, [(54, .iaload, 1, 0, 0, 0, 0, 0), (55, .iastore, 1, 0, 0, 0, 0, 0), (56, .aload_n 0, 1, 0, 0, 0, 0, 0), (57, .getfield 69, 3, 12, 28, 0, 0, 0), (60, .iload 6, 2, 0, 0, 0, 0, 0), (62, .iconst 1, 1, 0, 0, 0, 1, 0), (63, .isub, 1, 0, 0, 0, 0, 0), (64, .aload_n 0, 1, 0, 0, 0, 0, 0), (65, .getfield 69, 3, 12, 28, 0, 0, 0), (68, .iload 6, 2, 0, 0, 0, 0, 0)]),
  (86, [(70, .iaload, 1, 0, 0, 0, 0, 0), (71, .iastore, 1, 0, 0, 0, 0, 0), (72, .aload_n 0, 1, 0, 0, 0, 0, 0), (73, .getfield 72, 3, 12, 29, 0, 0, 0), (76, .iload 6, 2, 0, 0, 0, 0, 0), (78, .iconst 1, 1, 0, 0, 0, 1, 0), (79, .isub, 1, 0, 0, 0, 0, 0), (80, .aload_n 0, 1, 0, 0, 0, 0, 0), (81, .getfield 72, 3, 12, 29, 0, 0, 0), (84, .iload 6, 2, 0, 0, 0, 0, 0)]),
  (102, [(86, .iaload, 1, 0, 0, 0, 0, 0), (87, .iastore, 1, 0, 0, 0, 0, 0), (88, .aload_n 0, 1, 0, 0, 0, 0, 0), (89, .getfield 75, 3, 12, 30, 0, 0, 0), (92, .iload 6, 2, 0, 0, 0, 0, 0), (94, .iconst 1, 1, 0, 0, 0, 1, 0), (95, .isub, 1, 0, 0, 0, 0, 0), (96, .aload_n 0, 1, 0, 0, 0, 0, 0), (97, .getfield 75, 3, 12, 30, 0, 0, 0), (100, .iload 6, 2, 0, 0, 0, 0, 0)]),
  (120, [(102, .iaload, 1, 0, 0, 0, 0, 0), (103, .iastore, 1, 0, 0, 0, 0, 0), (104, .iinc 6 1, 3, 0, 0, 0, 1, 0), (107, .goto (-90), 3, 17, 0, 0, 0, 0), (110, .aload_n 0, 1, 0, 0, 0, 0, 0), (111, .dup, 1, 0, 0, 0, 0, 0), (112, .getfield 286, 3, 12, 24, 0, 0, 0), (115, .iconst 1, 1, 0, 0, 0, 1, 0), (116, .isub, 1, 0, 0, 0, 0, 0), (117, .putfield 286, 3, 12, 24, 0, 0, 0)]),
  (138, [(120, .aload_n 0, 1, 0, 0, 0, 0, 0), (121, .getfield 63, 3, 12, 26, 0, 0, 0), (124, .aload_n 0, 1, 0, 0, 0, 0, 0), (125, .getfield 286, 3, 12, 24, 0, 0, 0), (128, .iload_n 1, 1, 0, 0, 0, 0, 0), (129, .iastore, 1, 0, 0, 0, 0, 0), (130, .aload_n 0, 1, 0, 0, 0, 0, 0), (131, .getfield 66, 3, 12, 27, 0, 0, 0), (134, .aload_n 0, 1, 0, 0, 0, 0, 0), (135, .getfield 286, 3, 12, 24, 0, 0, 0)]),
  (154, [(138, .iload_n 2, 1, 0, 0, 0, 0, 0), (139, .iastore, 1, 0, 0, 0, 0, 0), (140, .aload_n 0, 1, 0, 0, 0, 0, 0), (141, .getfield 69, 3, 12, 28, 0, 0, 0), (144, .aload_n 0, 1, 0, 0, 0, 0, 0), (145, .getfield 286, 3, 12, 24, 0, 0, 0), (148, .iload_n 3, 1, 0, 0, 0, 0, 0), (149, .iastore, 1, 0, 0, 0, 0, 0), (150, .aload_n 0, 1, 0, 0, 0, 0, 0), (151, .getfield 72, 3, 12, 29, 0, 0, 0)]),
  (172, [(154, .aload_n 0, 1, 0, 0, 0, 0, 0), (155, .getfield 286, 3, 12, 24, 0, 0, 0), (158, .iload 4, 2, 0, 0, 0, 0, 0), (160, .iastore, 1, 0, 0, 0, 0, 0), (161, .aload_n 0, 1, 0, 0, 0, 0, 0), (162, .getfield 75, 3, 12, 30, 0, 0, 0), (165, .aload_n 0, 1, 0, 0, 0, 0, 0), (166, .getfield 286, 3, 12, 24, 0, 0, 0), (169, .iload 5, 2, 0, 0, 0, 0, 0), (171, .iastore, 1, 0, 0, 0, 0, 0)]),
  (183, [(172, .aload_n 0, 1, 0, 0, 0, 0, 0), (173, .dup, 1, 0, 0, 0, 0, 0), (174, .getfield 286, 3, 12, 24, 0, 0, 0), (177, .iconst 1, 1, 0, 0, 0, 1, 0), (178, .iadd, 1, 0, 0, 0, 0, 0), (179, .putfield 286, 3, 12, 24, 0, 0, 0), (182, .return_, 1, 0, 0, 0, 0, 0)])]
set_option maxRecDepth 100000 in
theorem mx_ok198 : ∀ q ∈ mx_t198, ∀ en ∈ q.2, mx_gd 198 en := mx_gt_s mx_LLok12 mx_KLok12 mx_JLok12 mx_ARok (by decide +kernel)
def mx_t199 : List (Nat × List mx_En) := [(15, [(0, .iload_n 1, 1, 0, 0, 0, 0, 0), (1, .bipush 36, 2, 0, 0, 0, 36, 0), (3, .idiv, 1, 0, 0, 0, 0, 0), (4, .istore 4, 2, 0, 0, 0, 0, 0), (6, .iload_n 1, 1, 0, 0, 0, 0, 0), (7, .bipush 6, 2, 0, 0, 0, 6, 0), (9, .idiv, 1, 0, 0, 0, 0, 0), (10, .bipush 6, 2, 0, 0, 0, 6, 0), (12, .irem, 1, 0, 0, 0, 0, 0), (13, .istore 5, 2, 0, 0, 0, 0, 0)]),
  (32, [(15, .iload_n 1, 1, 0, 0, 0, 0, 0), (16, .bipush 6, 2, 0, 0, 0, 6, 0), (18, .irem, 1, 0, 0, 0, 0, 0), (19, .istore 6, 2, 0, 0, 0, 0, 0), (21, .aload_n 0, 1, 0, 0, 0, 0, 0), (22, .iload 4, 2, 0, 0, 0, 0, 0), (24, .iload 5, 2, 0, 0, 0, 0, 0), (26, .iload 6, 2, 0, 0, 0, 0, 0), (28, .aload_n 0, 1, 0, 0, 0, 0, 0), (29, .getfield 32, 3, 12, 9, 0, 0, 0)]),
  (42, [(32, .iload_n 1, 1, 0, 0, 0, 0, 0), (33, .iaload, 1, 0, 0, 0, 0, 0), (34, .iconst 1, 1, 0, 0, 0, 1, 0), (35, .isub, 1, 0, 0, 0, 0, 0), (36, .iload_n 2, 1, 0, 0, 0, 0, 0), (37, .iload_n 3, 1, 0, 0, 0, 0, 0), (38, .invokevirtual 244, 3, 181, 6, 0, 0, 0), (41, .return_, 1, 0, 0, 0, 0, 0)])]
set_option maxRecDepth 100000 in
theorem mx_ok199 : ∀ q ∈ mx_t199, ∀ en ∈ q.2, mx_gd 199 en := mx_gt_s mx_LLok12 mx_KLok12 mx_JLok12 mx_ARok (by decide +kernel)
def mx_t200 : List (Nat × List mx_En) := [(50, [(0, .iload_n 1, 1, 0, 0, 0, 0, 0), (1, .tableswitch 100 0 4 #[35, 45, 55, 74, 89], 35, 0, 0, 0, 0, 0), (36, .aload_n 0, 1, 0, 0, 0, 0, 0), (37, .getfield 16, 3, 12, 4, 0, 0, 0), (40, .iload_n 2, 1, 0, 0, 0, 0, 0), (41, .iload_n 3, 1, 0, 0, 0, 0, 0), (42, .iastore, 1, 0, 0, 0, 0, 0), (43, .goto 65, 3, 108, 0, 0, 0, 0), (46, .aload_n 0, 1, 0, 0, 0, 0, 0), (47, .getfield 19, 3, 12, 5, 0, 0, 0)]),
  (66, [(50, .iload_n 2, 1, 0, 0, 0, 0, 0), (51, .iload_n 3, 1, 0, 0, 0, 0, 0), (52, .iastore, 1, 0, 0, 0, 0, 0), (53, .goto 55, 3, 108, 0, 0, 0, 0), (56, .aload_n 0, 1, 0, 0, 0, 0, 0), (57, .getfield 22, 3, 12, 6, 0, 0, 0), (60, .iload_n 2, 1, 0, 0, 0, 0, 0), (61, .iload_n 3, 1, 0, 0, 0, 0, 0), (62, .iconst 1, 1, 0, 0, 0, 1, 0), (63, .if_icmp .ne 7, 3, 70, 0, 0, 0, 0)]),
  (82, [(66, .iconst 1, 1, 0, 0, 0, 1, 0), (67, .goto 4, 3, 71, 0, 0, 0, 0), (70, .iconst 0, 1, 0, 0, 0, 0, 0), (71, .bastore, 1, 0, 0, 0, 0, 0), (72, .goto 36, 3, 108, 0, 0, 0, 0), (75, .aload_n 0, 1, 0, 0, 0, 0, 0), (76, .iload_n 2, 1, 0, 0, 0, 0, 0), (77, .aload_n 0, 1, 0, 0, 0, 0, 0), (78, .getfield 26, 3, 12, 7, 0, 0, 0), (81, .iload_n 2, 1, 0, 0, 0, 0, 0)]),
  (101, [(82, .iaload, 1, 0, 0, 0, 0, 0), (83, .iload_n 3, 1, 0, 0, 0, 0, 0), (84, .invokevirtual 289, 3, 199, 3, 0, 0, 0), (87, .goto 21, 3, 108, 0, 0, 0, 0), (90, .aload_n 0, 1, 0, 0, 0, 0, 0), (91, .iload_n 2, 1, 0, 0, 0, 0, 0), (92, .iload_n 3, 1, 0, 0, 0, 0, 0), (93, .iload 4, 2, 0, 0, 0, 0, 0), (95, .invokevirtual 289, 3, 199, 3, 0, 0, 0), (98, .goto 10, 3, 108, 0, 0, 0, 0)]),
  (109, [(101, .aload_n 0, 1, 0, 0, 0, 0, 0), (102, .getfield 13, 3, 12, 3, 0, 0, 0), (105, .iload_n 2, 1, 0, 0, 0, 0, 0), (106, .iload_n 3, 1, 0, 0, 0, 0, 0), (107, .iastore, 1, 0, 0, 0, 0, 0), (108, .return_, 1, 0, 0, 0, 0, 0)])]
set_option maxRecDepth 100000 in
theorem mx_ok200 : ∀ q ∈ mx_t200, ∀ en ∈ q.2, mx_gd 200 en := mx_gt_s mx_LLok12 mx_KLok12 mx_JLok12 mx_ARok (by decide +kernel)
def mx_t201 : List (Nat × List mx_En) := [(18, [(0, .aload_n 0, 1, 0, 0, 0, 0, 0), (1, .iload_n 1, 1, 0, 0, 0, 0, 0), (2, .invokevirtual 271, 3, 177, 1, 0, 0, 0), (5, .ifCond .eq 41, 3, 46, 0, 0, 0, 0), (8, .aload_n 0, 1, 0, 0, 0, 0, 0), (9, .iload_n 1, 1, 0, 0, 0, 0, 0), (10, .iload_n 2, 1, 0, 0, 0, 0, 0), (11, .invokevirtual 234, 3, 178, 2, 0, 0, 0), (14, .ifCond .eq 32, 3, 46, 0, 0, 0, 0), (17, .iload_n 3, 1, 0, 0, 0, 0, 0)]),
  (35, [(18, .iconst 0, 1, 0, 0, 0, 0, 0), (19, .iconst 2, 1, 0, 0, 0, 2, 0), (20, .invokestatic 203, 3, 173, 3, 0, 0, 0), (23, .ifCond .eq 23, 3, 46, 0, 0, 0, 0), (26, .iload 4, 2, 0, 0, 0, 0, 0), (28, .iconst 0, 1, 0, 0, 0, 0, 0), (29, .iload_n 3, 1, 0, 0, 0, 0, 0), (30, .iconst 2, 1, 0, 0, 0, 2, 0), (31, .if_icmp .ne 7, 3, 38, 0, 0, 0, 0), (34, .iconst 1, 1, 0, 0, 0, 1, 0)]),
  (53, [(35, .goto 5, 3, 40, 0, 0, 0, 0), (38, .bipush 9, 2, 0, 0, 0, 9, 0), (40, .invokestatic 203, 3, 173, 3, 0, 0, 0), (43, .ifCond .ne 5, 3, 48, 0, 0, 0, 0), (46, .iconst (-1), 1, 0, 0, 0, -1, 0), (47, .ireturn, 1, 0, 0, 0, 0, 0), (48, .bipush 6, 2, 0, 0, 0, 6, 0), (50, .iload_n 1, 1, 0, 0, 0, 0, 0), (51, .imul, 1, 0, 0, 0, 0, 0), (52, .iload_n 2, 1, 0, 0, 0, 0, 0)]),
  (71, [(53, .iadd, 1, 0, 0, 0, 0, 0), (54, .istore 5, 2, 0, 0, 0, 0, 0), (56, .iload_n 3, 1, 0, 0, 0, 0, 0), (57, .ifCond .ne 13, 3, 70, 0, 0, 0, 0), (60, .aload_n 0, 1, 0, 0, 0, 0, 0), (61, .getfield 16, 3, 12, 4, 0, 0, 0), (64, .iload 5, 2, 0, 0, 0, 0, 0), (66, .iaload, 1, 0, 0, 0, 0, 0), (67, .goto 33, 3, 100, 0, 0, 0, 0), (70, .iload_n 3, 1, 0, 0, 0, 0, 0)]),
  (91, [(71, .iconst 1, 1, 0, 0, 0, 1, 0), (72, .if_icmp .ne 13, 3, 85, 0, 0, 0, 0), (75, .aload_n 0, 1, 0, 0, 0, 0, 0), (76, .getfield 19, 3, 12, 5, 0, 0, 0), (79, .iload 5, 2, 0, 0, 0, 0, 0), (81, .iaload, 1, 0, 0, 0, 0, 0), (82, .goto 18, 3, 100, 0, 0, 0, 0), (85, .aload_n 0, 1, 0, 0, 0, 0, 0), (86, .getfield 22, 3, 12, 6, 0, 0, 0), (89, .iload 5, 2, 0, 0, 0, 0, 0)]),
  (111, [(91, .baload, 1, 0, 0, 0, 0, 0), (92, .ifCond .eq 7, 3, 99, 0, 0, 0, 0), (95, .iconst 1, 1, 0, 0, 0, 1, 0), (96, .goto 4, 3, 100, 0, 0, 0, 0), (99, .iconst 0, 1, 0, 0, 0, 0, 0), (100, .istore 6, 2, 0, 0, 0, 0, 0), (102, .iload 6, 2, 0, 0, 0, 0, 0), (104, .iload 4, 2, 0, 0, 0, 0, 0), (106, .if_icmp .ne 6, 3, 112, 0, 0, 0, 0), (109, .iload 6, 2, 0, 0, 0, 0, 0)]),
  (126, [(111, .ireturn, 1, 0, 0, 0, 0, 0), (112, .aload_n 0, 1, 0, 0, 0, 0, 0), (113, .iload_n 3, 1, 0, 0, 0, 0, 0), (114, .iload 5, 2, 0, 0, 0, 0, 0), (116, .iload 6, 2, 0, 0, 0, 0, 0), (118, .iload 4, 2, 0, 0, 0, 0, 0), (120, .iconst 0, 1, 0, 0, 0, 0, 0), (121, .invokevirtual 292, 3, 198, 5, 0, 0, 0), (124, .aload_n 0, 1, 0, 0, 0, 0, 0), (125, .iload_n 3, 1, 0, 0, 0, 0, 0)]),
  (137, [(126, .iload 5, 2, 0, 0, 0, 0, 0), (128, .iload 4, 2, 0, 0, 0, 0, 0), (130, .iconst 0, 1, 0, 0, 0, 0, 0), (131, .invokevirtual 296, 3, 200, 4, 0, 0, 0), (134, .iload 6, 2, 0, 0, 0, 0, 0), (136, .ireturn, 1, 0, 0, 0, 0, 0)])]
set_option maxRecDepth 100000 in
theorem mx_ok201 : ∀ q ∈ mx_t201, ∀ en ∈ q.2, mx_gd 201 en := mx_gt_s mx_LLok12 mx_KLok12 mx_JLok12 mx_ARok (by decide +kernel)
def mx_t202 : List (Nat × List mx_En) := [(18, [(0, .aload_n 0, 1, 0, 0, 0, 0, 0), (1, .iload_n 1, 1, 0, 0, 0, 0, 0), (2, .invokevirtual 271, 3, 177, 1, 0, 0, 0), (5, .ifCond .eq 21, 3, 26, 0, 0, 0, 0), (8, .aload_n 0, 1, 0, 0, 0, 0, 0), (9, .iload_n 1, 1, 0, 0, 0, 0, 0), (10, .iload_n 2, 1, 0, 0, 0, 0, 0), (11, .invokevirtual 234, 3, 178, 2, 0, 0, 0), (14, .ifCond .eq 12, 3, 26, 0, 0, 0, 0), (17, .aload_n 0, 1, 0, 0, 0, 0, 0)]),
  (34, [(18, .iload_n 1, 1, 0, 0, 0, 0, 0), (19, .iload_n 3, 1, 0, 0, 0, 0, 0), (20, .invokevirtual 234, 3, 178, 2, 0, 0, 0), (23, .ifCond .ne 5, 3, 28, 0, 0, 0, 0), (26, .iconst (-1), 1, 0, 0, 0, -1, 0), (27, .ireturn, 1, 0, 0, 0, 0, 0), (28, .iload_n 2, 1, 0, 0, 0, 0, 0), (29, .iload_n 3, 1, 0, 0, 0, 0, 0), (30, .if_icmp .eq 13, 3, 43, 0, 0, 0, 0), (33, .aload_n 0, 1, 0, 0, 0, 0, 0)]),
  (54, [(34, .iload_n 1, 1, 0, 0, 0, 0, 0), (35, .iload_n 2, 1, 0, 0, 0, 0, 0), (36, .iload_n 3, 1, 0, 0, 0, 0, 0), (37, .invokevirtual 211, 3, 180, 3, 0, 0, 0), (40, .ifCond .ne 21, 3, 61, 0, 0, 0, 0), (43, .iload 4, 2, 0, 0, 0, 0, 0), (45, .iconst 0, 1, 0, 0, 0, 0, 0), (46, .bipush 9, 2, 0, 0, 0, 9, 0), (48, .invokestatic 203, 3, 173, 3, 0, 0, 0), (51, .ifCond .eq 8, 3, 59, 0, 0, 0, 0)]),
  (71, [(54, .bipush (-2), 2, 0, 0, 0, -2, 0), (56, .goto 4, 3, 60, 0, 0, 0, 0), (59, .iconst (-1), 1, 0, 0, 0, -1, 0), (60, .ireturn, 1, 0, 0, 0, 0, 0), (61, .iload_n 1, 1, 0, 0, 0, 0, 0), (62, .iload_n 2, 1, 0, 0, 0, 0, 0), (63, .iload_n 3, 1, 0, 0, 0, 0, 0), (64, .invokestatic 207, 3, 179, 3, 0, 0, 0), (67, .istore 5, 2, 0, 0, 0, 0, 0), (69, .iload 4, 2, 0, 0, 0, 0, 0)]),
  (88, [(71, .iconst 0, 1, 0, 0, 0, 0, 0), (72, .aload_n 0, 1, 0, 0, 0, 0, 0), (73, .getfield 26, 3, 12, 7, 0, 0, 0), (76, .iload 5, 2, 0, 0, 0, 0, 0), (78, .iaload, 1, 0, 0, 0, 0, 0), (79, .invokestatic 203, 3, 173, 3, 0, 0, 0), (82, .ifCond .ne 5, 3, 87, 0, 0, 0, 0), (85, .iconst (-1), 1, 0, 0, 0, -1, 0), (86, .ireturn, 1, 0, 0, 0, 0, 0), (87, .aload_n 0, 1, 0, 0, 0, 0, 0)]),
  (107, [(88, .getfield 29, 3, 12, 8, 0, 0, 0), (91, .iload 5, 2, 0, 0, 0, 0, 0), (93, .iaload, 1, 0, 0, 0, 0, 0), (94, .istore 6, 2, 0, 0, 0, 0, 0), (96, .iload 6, 2, 0, 0, 0, 0, 0), (98, .iload 4, 2, 0, 0, 0, 0, 0), (100, .if_icmp .ne 6, 3, 106, 0, 0, 0, 0), (103, .iload 6, 2, 0, 0, 0, 0, 0), (105, .ireturn, 1, 0, 0, 0, 0, 0), (106, .aload_n 0, 1, 0, 0, 0, 0, 0)]),
  (124, [(107, .iconst 3, 1, 0, 0, 0, 3, 0), (108, .iload 5, 2, 0, 0, 0, 0, 0), (110, .iload 6, 2, 0, 0, 0, 0, 0), (112, .iload 4, 2, 0, 0, 0, 0, 0), (114, .iconst 0, 1, 0, 0, 0, 0, 0), (115, .invokevirtual 292, 3, 198, 5, 0, 0, 0), (118, .aload_n 0, 1, 0, 0, 0, 0, 0), (119, .iconst 3, 1, 0, 0, 0, 3, 0), (120, .iload 5, 2, 0, 0, 0, 0, 0), (122, .iload 4, 2, 0, 0, 0, 0, 0)]),
  (131, [(124, .iconst 0, 1, 0, 0, 0, 0, 0), (125, .invokevirtual 296, 3, 200, 4, 0, 0, 0), (128, .iload 6, 2, 0, 0, 0, 0, 0), (130, .ireturn, 1, 0, 0, 0, 0, 0)])]
set_option maxRecDepth 100000 in
theorem mx_ok202 : ∀ q ∈ mx_t202, ∀ en ∈ q.2, mx_gd 202 en := mx_gt_s mx_LLok12 mx_KLok12 mx_JLok12 mx_ARok (by decide +kernel)
def mx_t203_0 : List (Nat × List mx_En) := [(18, [(0, .aload_n 0, 1, 0, 0, 0, 0, 0), (1, .iload_n 1, 1, 0, 0, 0, 0, 0), (2, .invokevirtual 271, 3, 177, 1, 0, 0, 0), (5, .ifCond .eq 26, 3, 31, 0, 0, 0, 0), (8, .aload_n 0, 1, 0, 0, 0, 0, 0), (9, .iload_n 1, 1, 0, 0, 0, 0, 0), (10, .iload_n 2, 1, 0, 0, 0, 0, 0), (11, .invokevirtual 234, 3, 178, 2, 0, 0, 0), (14, .ifCond .eq 17, 3, 31, 0, 0, 0, 0), (17, .iload_n 3, 1, 0, 0, 0, 0, 0)]),
  (34, [(18, .iconst (-1), 1, 0, 0, 0, -1, 0), (19, .if_icmp .eq 14, 3, 33, 0, 0, 0, 0), (22, .aload_n 0, 1, 0, 0, 0, 0, 0), (23, .iload_n 1, 1, 0, 0, 0, 0, 0), (24, .iload_n 3, 1, 0, 0, 0, 0, 0), (25, .invokevirtual 234, 3, 178, 2, 0, 0, 0), (28, .ifCond .ne 5, 3, 33, 0, 0, 0, 0), (31, .iconst (-1), 1, 0, 0, 0, -1, 0), (32, .ireturn, 1, 0, 0, 0, 0, 0), (33, .iload_n 3, 1, 0, 0, 0, 0, 0)]),
  (50, [(34, .iconst (-1), 1, 0, 0, 0, -1, 0), (35, .if_icmp .ne 68, 3, 103, 0, 0, 0, 0), (38, .bipush 6, 2, 0, 0, 0, 6, 0), (40, .iload_n 1, 1, 0, 0, 0, 0, 0), (41, .imul, 1, 0, 0, 0, 0, 0), (42, .iload_n 2, 1, 0, 0, 0, 0, 0), (43, .iadd, 1, 0, 0, 0, 0, 0), (44, .istore 4, 2, 0, 0, 0, 0, 0), (46, .aload_n 0, 1, 0, 0, 0, 0, 0), (47, .getfield 13, 3, 12, 3, 0, 0, 0)]),
  (65, [(50, .iload 4, 2, 0, 0, 0, 0, 0), (52, .iaload, 1, 0, 0, 0, 0, 0), (53, .iconst 1, 1, 0, 0, 0, 1, 0), (54, .if_icmp .ne 6, 3, 60, 0, 0, 0, 0), (57, .bipush (-4), 2, 0, 0, 0, -4, 0), (59, .ireturn, 1, 0, 0, 0, 0, 0), (60, .aload_n 0, 1, 0, 0, 0, 0, 0), (61, .iconst 5, 1, 0, 0, 0, 5, 0), (62, .iload 4, 2, 0, 0, 0, 0, 0), (64, .aload_n 0, 1, 0, 0, 0, 0, 0)]),
  (81, [(65, .getfield 13, 3, 12, 3, 0, 0, 0), (68, .iload 4, 2, 0, 0, 0, 0, 0), (70, .iaload, 1, 0, 0, 0, 0, 0), (71, .aload_n 0, 1, 0, 0, 0, 0, 0), (72, .getfield 13, 3, 12, 3, 0, 0, 0), (75, .iload 4, 2, 0, 0, 0, 0, 0), (77, .iaload, 1, 0, 0, 0, 0, 0), (78, .iconst 1, 1, 0, 0, 0, 1, 0), (79, .isub, 1, 0, 0, 0, 0, 0), (80, .iconst 0, 1, 0, 0, 0, 0, 0)])]
set_option maxRecDepth 100000 in
theorem mx_ok203_0 : ∀ q ∈ mx_t203_0, ∀ en ∈ q.2, mx_gd 203 en := mx_gt_s mx_LLok12 mx_KLok12 mx_JLok12 mx_ARok (by decide +kernel)
def mx_t203_1 : List (Nat × List mx_En) := [(96, [(81, .invokevirtual 292, 3, 198, 5, 0, 0, 0), (84, .aload_n 0, 1, 0, 0, 0, 0, 0), (85, .getfield 13, 3, 12, 3, 0, 0, 0), (88, .iload 4, 2, 0, 0, 0, 0, 0), (90, .dup2, 1, 0, 0, 0, 0, 0), (91, .iaload, 1, 0, 0, 0, 0, 0), (92, .iconst 1, 1, 0, 0, 0, 1, 0), (93, .isub, 1, 0, 0, 0, 0, 0), (94, .iastore, 1, 0, 0, 0, 0, 0), (95, .aload_n 0, 1, 0, 0, 0, 0, 0)]),
  (111, [(96, .getfield 13, 3, 12, 3, 0, 0, 0), (99, .iload 4, 2, 0, 0, 0, 0, 0), (101, .iaload, 1, 0, 0, 0, 0, 0), (102, .ireturn, 1, 0, 0, 0, 0, 0), (103, .iload_n 2, 1, 0, 0, 0, 0, 0), (104, .iload_n 3, 1, 0, 0, 0, 0, 0), (105, .if_icmp .eq 13, 3, 118, 0, 0, 0, 0), (108, .aload_n 0, 1, 0, 0, 0, 0, 0), (109, .iload_n 1, 1, 0, 0, 0, 0, 0), (110, .iload_n 2, 1, 0, 0, 0, 0, 0)]),
  (129, [(111, .iload_n 3, 1, 0, 0, 0, 0, 0), (112, .invokevirtual 211, 3, 180, 3, 0, 0, 0), (115, .ifCond .ne 6, 3, 121, 0, 0, 0, 0), (118, .bipush (-2), 2, 0, 0, 0, -2, 0), (120, .ireturn, 1, 0, 0, 0, 0, 0), (121, .iload_n 1, 1, 0, 0, 0, 0, 0), (122, .iload_n 2, 1, 0, 0, 0, 0, 0), (123, .iload_n 3, 1, 0, 0, 0, 0, 0), (124, .invokestatic 207, 3, 179, 3, 0, 0, 0), (127, .istore 4, 2, 0, 0, 0, 0, 0)]),
  (145, [(129, .aload_n 0, 1, 0, 0, 0, 0, 0), (130, .getfield 26, 3, 12, 7, 0, 0, 0), (133, .iload 4, 2, 0, 0, 0, 0, 0), (135, .iaload, 1, 0, 0, 0, 0, 0), (136, .iconst 1, 1, 0, 0, 0, 1, 0), (137, .if_icmp .ne 6, 3, 143, 0, 0, 0, 0), (140, .bipush (-4), 2, 0, 0, 0, -4, 0), (142, .ireturn, 1, 0, 0, 0, 0, 0), (143, .aload_n 0, 1, 0, 0, 0, 0, 0), (144, .iconst 4, 1, 0, 0, 0, 4, 0)]),
  (162, [(145, .iload 4, 2, 0, 0, 0, 0, 0), (147, .aload_n 0, 1, 0, 0, 0, 0, 0), (148, .getfield 26, 3, 12, 7, 0, 0, 0), (151, .iload 4, 2, 0, 0, 0, 0, 0), (153, .iaload, 1, 0, 0, 0, 0, 0), (154, .aload_n 0, 1, 0, 0, 0, 0, 0), (155, .getfield 26, 3, 12, 7, 0, 0, 0), (158, .iload 4, 2, 0, 0, 0, 0, 0), (160, .iaload, 1, 0, 0, 0, 0, 0), (161, .iconst 1, 1, 0, 0, 0, 1, 0)])]
set_option maxRecDepth 100000 in
theorem mx_ok203_1 : ∀ q ∈ mx_t203_1, ∀ en ∈ q.2, mx_gd 203 en := mx_gt_s mx_LLok12 mx_KLok12 mx_JLok12 mx_ARok (by decide +kernel)
def mx_t203_2 : List (Nat × List mx_En) := [(180, [(162, .isub, 1, 0, 0, 0, 0, 0), (163, .aload_n 0, 1, 0, 0, 0, 0, 0), (164, .getfield 29, 3, 12, 8, 0, 0, 0), (167, .iload 4, 2, 0, 0, 0, 0, 0), (169, .iaload, 1, 0, 0, 0, 0, 0), (170, .invokevirtual 292, 3, 198, 5, 0, 0, 0), (173, .aload_n 0, 1, 0, 0, 0, 0, 0), (174, .iload 4, 2, 0, 0, 0, 0, 0), (176, .aload_n 0, 1, 0, 0, 0, 0, 0), (177, .getfield 26, 3, 12, 7, 0, 0, 0)]),
  (196, [(180, .iload 4, 2, 0, 0, 0, 0, 0), (182, .iaload, 1, 0, 0, 0, 0, 0), (183, .iconst 1, 1, 0, 0, 0, 1, 0), (184, .isub, 1, 0, 0, 0, 0, 0), (185, .aload_n 0, 1, 0, 0, 0, 0, 0), (186, .getfield 29, 3, 12, 8, 0, 0, 0), (189, .iload 4, 2, 0, 0, 0, 0, 0), (191, .iaload, 1, 0, 0, 0, 0, 0), (192, .aload_n 0, 1, 0, 0, 0, 0, 0), (193, .getfield 26, 3, 12, 7, 0, 0, 0)]),
  (214, [(196, .iload 4, 2, 0, 0, 0, 0, 0), (198, .iaload, 1, 0, 0, 0, 0, 0), (199, .iconst 1, 1, 0, 0, 0, 1, 0), (200, .isub, 1, 0, 0, 0, 0, 0), (201, .invokestatic 300, 3, 174, 2, 0, 0, 0), (204, .invokevirtual 289, 3, 199, 3, 0, 0, 0), (207, .aload_n 0, 1, 0, 0, 0, 0, 0), (208, .getfield 26, 3, 12, 7, 0, 0, 0), (211, .iload 4, 2, 0, 0, 0, 0, 0), (213, .iaload, 1, 0, 0, 0, 0, 0)]),
  (215, [(214, .ireturn, 1, 0, 0, 0, 0, 0)])]
set_option maxRecDepth 100000 in
theorem mx_ok203_2 : ∀ q ∈ mx_t203_2, ∀ en ∈ q.2, mx_gd 203 en := mx_gt_s mx_LLok12 mx_KLok12 mx_JLok12 mx_ARok (by decide +kernel)
def mx_t203 : List (Nat × List mx_En) := mx_t203_0 ++ (mx_t203_1 ++ (mx_t203_2))
theorem mx_ok203 : ∀ q ∈ mx_t203, ∀ en ∈ q.2, mx_gd 203 en := (fun q h => (List.mem_append.mp h).elim (mx_ok203_0 q) ((fun q h => (List.mem_append.mp h).elim (mx_ok203_1 q) (mx_ok203_2 q)) q))
def mx_t204 : List (Nat × List mx_En) := [(17, [(0, .aload_n 0, 1, 0, 0, 0, 0, 0), (1, .getfield 286, 3, 12, 24, 0, 0, 0), (4, .ifCond .ne 6, 3, 10, 0, 0, 0, 0), (7, .bipush (-4), 2, 0, 0, 0, -4, 0), (9, .ireturn, 1, 0, 0, 0, 0, 0), (10, .aload_n 0, 1, 0, 0, 0, 0, 0), (11, .dup, 1, 0, 0, 0, 0, 0), (12, .getfield 286, 3, 12, 24, 0, 0, 0), (15, .iconst 1, 1, 0, 0, 0, 1, 0), (16, .isub, 1, 0, 0, 0, 0, 0)]),
  (35, [(17, .putfield 286, 3, 12, 24, 0, 0, 0), (20, .aload_n 0, 1, 0, 0, 0, 0, 0), (21, .dup, 1, 0, 0, 0, 0, 0), (22, .getfield 283, 3, 12, 25, 0, 0, 0), (25, .iconst 1, 1, 0, 0, 0, 1, 0), (26, .iadd, 1, 0, 0, 0, 0, 0), (27, .putfield 283, 3, 12, 25, 0, 0, 0), (30, .aload_n 0, 1, 0, 0, 0, 0, 0), (31, .aload_n 0, 1, 0, 0, 0, 0, 0), (32, .getfield 63, 3, 12, 26, 0, 0, 0)]),
  (53, [(35, .aload_n 0, 1, 0, 0, 0, 0, 0), (36, .getfield 286, 3, 12, 24, 0, 0, 0), (39, .iaload, 1, 0, 0, 0, 0, 0), (40, .aload_n 0, 1, 0, 0, 0, 0, 0), (41, .getfield 66, 3, 12, 27, 0, 0, 0), (44, .aload_n 0, 1, 0, 0, 0, 0, 0), (45, .getfield 286, 3, 12, 24, 0, 0, 0), (48, .iaload, 1, 0, 0, 0, 0, 0), (49, .aload_n 0, 1, 0, 0, 0, 0, 0), (50, .getfield 69, 3, 12, 28, 0, 0, 0)]),
  (71, [(53, .aload_n 0, 1, 0, 0, 0, 0, 0), (54, .getfield 286, 3, 12, 24, 0, 0, 0), (57, .iaload, 1, 0, 0, 0, 0, 0), (58, .aload_n 0, 1, 0, 0, 0, 0, 0), (59, .getfield 75, 3, 12, 30, 0, 0, 0), (62, .aload_n 0, 1, 0, 0, 0, 0, 0), (63, .getfield 286, 3, 12, 24, 0, 0, 0), (66, .iaload, 1, 0, 0, 0, 0, 0), (67, .invokevirtual 296, 3, 200, 4, 0, 0, 0), (70, .aload_n 0, 1, 0, 0, 0, 0, 0)]),
  (75, [(71, .getfield 286, 3, 12, 24, 0, 0, 0), (74, .ireturn, 1, 0, 0, 0, 0, 0)])]
set_option maxRecDepth 100000 in
theorem mx_ok204 : ∀ q ∈ mx_t204, ∀ en ∈ q.2, mx_gd 204 en := mx_gt_s mx_LLok12 mx_KLok12 mx_JLok12 mx_ARok (by decide +kernel)
def mx_t205 : List (Nat × List mx_En) := [(19, [(0, .aload_n 0, 1, 0, 0, 0, 0, 0), (1, .getfield 283, 3, 12, 25, 0, 0, 0), (4, .ifCond .ne 6, 3, 10, 0, 0, 0, 0), (7, .bipush (-4), 2, 0, 0, 0, -4, 0), (9, .ireturn, 1, 0, 0, 0, 0, 0), (10, .aload_n 0, 1, 0, 0, 0, 0, 0), (11, .aload_n 0, 1, 0, 0, 0, 0, 0), (12, .getfield 63, 3, 12, 26, 0, 0, 0), (15, .aload_n 0, 1, 0, 0, 0, 0, 0), (16, .getfield 286, 3, 12, 24, 0, 0, 0)]),
  (37, [(19, .iaload, 1, 0, 0, 0, 0, 0), (20, .aload_n 0, 1, 0, 0, 0, 0, 0), (21, .getfield 66, 3, 12, 27, 0, 0, 0), (24, .aload_n 0, 1, 0, 0, 0, 0, 0), (25, .getfield 286, 3, 12, 24, 0, 0, 0), (28, .iaload, 1, 0, 0, 0, 0, 0), (29, .aload_n 0, 1, 0, 0, 0, 0, 0), (30, .getfield 72, 3, 12, 29, 0, 0, 0), (33, .aload_n 0, 1, 0, 0, 0, 0, 0), (34, .getfield 286, 3, 12, 24, 0, 0, 0)]),
  (55, [(37, .iaload, 1, 0, 0, 0, 0, 0), (38, .aload_n 0, 1, 0, 0, 0, 0, 0), (39, .getfield 75, 3, 12, 30, 0, 0, 0), (42, .aload_n 0, 1, 0, 0, 0, 0, 0), (43, .getfield 286, 3, 12, 24, 0, 0, 0), (46, .iaload, 1, 0, 0, 0, 0, 0), (47, .aload_n 0, 1, 0, 0, 0, 0, 0), (48, .getfield 72, 3, 12, 29, 0, 0, 0), (51, .aload_n 0, 1, 0, 0, 0, 0, 0), (52, .getfield 286, 3, 12, 24, 0, 0, 0)]),
  (73, [(55, .iaload, 1, 0, 0, 0, 0, 0), (56, .invokestatic 300, 3, 174, 2, 0, 0, 0), (59, .invokevirtual 296, 3, 200, 4, 0, 0, 0), (62, .aload_n 0, 1, 0, 0, 0, 0, 0), (63, .dup, 1, 0, 0, 0, 0, 0), (64, .getfield 286, 3, 12, 24, 0, 0, 0), (67, .iconst 1, 1, 0, 0, 0, 1, 0), (68, .iadd, 1, 0, 0, 0, 0, 0), (69, .putfield 286, 3, 12, 24, 0, 0, 0), (72, .aload_n 0, 1, 0, 0, 0, 0, 0)]),
  (87, [(73, .dup, 1, 0, 0, 0, 0, 0), (74, .getfield 283, 3, 12, 25, 0, 0, 0), (77, .iconst 1, 1, 0, 0, 0, 1, 0), (78, .isub, 1, 0, 0, 0, 0, 0), (79, .putfield 283, 3, 12, 25, 0, 0, 0), (82, .aload_n 0, 1, 0, 0, 0, 0, 0), (83, .getfield 283, 3, 12, 25, 0, 0, 0), (86, .ireturn, 1, 0, 0, 0, 0, 0)])]
set_option maxRecDepth 100000 in
theorem mx_ok205 : ∀ q ∈ mx_t205, ∀ en ∈ q.2, mx_gd 205 en := mx_gt_s mx_LLok12 mx_KLok12 mx_JLok12 mx_ARok (by decide +kernel)
def mx_t206_0 : List (Nat × List mx_En) := [(16, [(0, .bipush 7, 2, 0, 0, 0, 7, 0), (2, .istore_n 1, 1, 0, 0, 0, 0, 0), (3, .iconst 0, 1, 0, 0, 0, 0, 0), (4, .istore_n 2, 1, 0, 0, 0, 0, 0), (5, .iload_n 2, 1, 0, 0, 0, 0, 0), (6, .aload_n 0, 1, 0, 0, 0, 0, 0), (7, .getfield 200, 3, 12, 1, 0, 0, 0), (10, .if_icmp .ge 204, 3, 214, 0, 0, 0, 0), (13, .bipush 6, 2, 0, 0, 0, 6, 0), (15, .iload_n 2, 1, 0, 0, 0, 0, 0)]),
  (29, [(16, .imul, 1, 0, 0, 0, 0, 0), (17, .istore_n 3, 1, 0, 0, 0, 0, 0), (18, .iload_n 3, 1, 0, 0, 0, 0, 0), (19, .bipush 6, 2, 0, 0, 0, 6, 0), (21, .iload_n 2, 1, 0, 0, 0, 0, 0), (22, .imul, 1, 0, 0, 0, 0, 0), (23, .aload_n 0, 1, 0, 0, 0, 0, 0), (24, .getfield 7, 3, 12, 2, 0, 0, 0), (27, .iload_n 2, 1, 0, 0, 0, 0, 0), (28, .iaload, 1, 0, 0, 0, 0, 0)]),
  (44, [(29, .iadd, 1, 0, 0, 0, 0, 0), (30, .if_icmp .ge 65, 3, 95, 0, 0, 0, 0), (33, .iload_n 1, 1, 0, 0, 0, 0, 0), (34, .bipush 31, 2, 0, 0, 0, 31, 0), (36, .imul, 1, 0, 0, 0, 0, 0), (37, .aload_n 0, 1, 0, 0, 0, 0, 0), (38, .getfield 13, 3, 12, 3, 0, 0, 0), (41, .iload_n 3, 1, 0, 0, 0, 0, 0), (42, .iaload, 1, 0, 0, 0, 0, 0), (43, .iadd, 1, 0, 0, 0, 0, 0)]),
  (57, [(44, .istore_n 1, 1, 0, 0, 0, 0, 0), (45, .iload_n 1, 1, 0, 0, 0, 0, 0), (46, .bipush 31, 2, 0, 0, 0, 31, 0), (48, .imul, 1, 0, 0, 0, 0, 0), (49, .aload_n 0, 1, 0, 0, 0, 0, 0), (50, .getfield 16, 3, 12, 4, 0, 0, 0), (53, .iload_n 3, 1, 0, 0, 0, 0, 0), (54, .iaload, 1, 0, 0, 0, 0, 0), (55, .iadd, 1, 0, 0, 0, 0, 0), (56, .istore_n 1, 1, 0, 0, 0, 0, 0)]),
  (70, [(57, .iload_n 1, 1, 0, 0, 0, 0, 0), (58, .bipush 31, 2, 0, 0, 0, 31, 0), (60, .imul, 1, 0, 0, 0, 0, 0), (61, .aload_n 0, 1, 0, 0, 0, 0, 0), (62, .getfield 19, 3, 12, 5, 0, 0, 0), (65, .iload_n 3, 1, 0, 0, 0, 0, 0), (66, .iaload, 1, 0, 0, 0, 0, 0), (67, .iadd, 1, 0, 0, 0, 0, 0), (68, .istore_n 1, 1, 0, 0, 0, 0, 0), (69, .iload_n 1, 1, 0, 0, 0, 0, 0)])]
set_option maxRecDepth 100000 in
theorem mx_ok206_0 : ∀ q ∈ mx_t206_0, ∀ en ∈ q.2, mx_gd 206 en := mx_gt_s mx_LLok12 mx_KLok12 mx_JLok12 mx_ARok (by decide +kernel)
def mx_t206_1 : List (Nat × List mx_En) := [(87, [(70, .bipush 31, 2, 0, 0, 0, 31, 0), (72, .imul, 1, 0, 0, 0, 0, 0), (73, .aload_n 0, 1, 0, 0, 0, 0, 0), (74, .getfield 22, 3, 12, 6, 0, 0, 0), (77, .iload_n 3, 1, 0, 0, 0, 0, 0), (78, .baload, 1, 0, 0, 0, 0, 0), (79, .ifCond .eq 7, 3, 86, 0, 0, 0, 0), (82, .iconst 1, 1, 0, 0, 0, 1, 0), (83, .goto 4, 3, 87, 0, 0, 0, 0), (86, .iconst 0, 1, 0, 0, 0, 0, 0)]),
  (105, [(87, .iadd, 1, 0, 0, 0, 0, 0), (88, .istore_n 1, 1, 0, 0, 0, 0, 0), (89, .iinc 3 1, 3, 0, 0, 0, 1, 0), (92, .goto (-74), 3, 18, 0, 0, 0, 0), (95, .iconst 0, 1, 0, 0, 0, 0, 0), (96, .istore_n 3, 1, 0, 0, 0, 0, 0), (97, .iload_n 3, 1, 0, 0, 0, 0, 0), (98, .aload_n 0, 1, 0, 0, 0, 0, 0), (99, .getfield 261, 3, 12, 12, 0, 0, 0), (102, .if_icmp .ge 106, 3, 208, 0, 0, 0, 0)]),
  (122, [(105, .aload_n 0, 1, 0, 0, 0, 0, 0), (106, .getfield 44, 3, 12, 14, 0, 0, 0), (109, .iload_n 3, 1, 0, 0, 0, 0, 0), (110, .iaload, 1, 0, 0, 0, 0, 0), (111, .iconst 1, 1, 0, 0, 0, 1, 0), (112, .isub, 1, 0, 0, 0, 0, 0), (113, .istore 4, 2, 0, 0, 0, 0, 0), (115, .iload 4, 2, 0, 0, 0, 0, 0), (117, .ifCond .lt 85, 3, 202, 0, 0, 0, 0), (120, .iload 4, 2, 0, 0, 0, 0, 0)]),
  (140, [(122, .bipush 36, 2, 0, 0, 0, 36, 0), (124, .idiv, 1, 0, 0, 0, 0, 0), (125, .iload_n 2, 1, 0, 0, 0, 0, 0), (126, .if_icmp .eq 6, 3, 132, 0, 0, 0, 0), (129, .goto 73, 3, 202, 0, 0, 0, 0), (132, .iload_n 1, 1, 0, 0, 0, 0, 0), (133, .bipush 31, 2, 0, 0, 0, 31, 0), (135, .imul, 1, 0, 0, 0, 0, 0), (136, .iload 4, 2, 0, 0, 0, 0, 0), (138, .bipush 6, 2, 0, 0, 0, 6, 0)]),
  (155, [(140, .idiv, 1, 0, 0, 0, 0, 0), (141, .bipush 6, 2, 0, 0, 0, 6, 0), (143, .irem, 1, 0, 0, 0, 0, 0), (144, .iload 4, 2, 0, 0, 0, 0, 0), (146, .bipush 6, 2, 0, 0, 0, 6, 0), (148, .irem, 1, 0, 0, 0, 0, 0), (149, .invokestatic 300, 3, 174, 2, 0, 0, 0), (152, .iadd, 1, 0, 0, 0, 0, 0), (153, .istore_n 1, 1, 0, 0, 0, 0, 0), (154, .iload_n 1, 1, 0, 0, 0, 0, 0)])]
set_option maxRecDepth 100000 in
theorem mx_ok206_1 : ∀ q ∈ mx_t206_1, ∀ en ∈ q.2, mx_gd 206 en := mx_gt_s mx_LLok12 mx_KLok12 mx_JLok12 mx_ARok (by decide +kernel)
def mx_t206_2 : List (Nat × List mx_En) := [(171, [(155, .bipush 31, 2, 0, 0, 0, 31, 0), (157, .imul, 1, 0, 0, 0, 0, 0), (158, .iload 4, 2, 0, 0, 0, 0, 0), (160, .bipush 6, 2, 0, 0, 0, 6, 0), (162, .idiv, 1, 0, 0, 0, 0, 0), (163, .bipush 6, 2, 0, 0, 0, 6, 0), (165, .irem, 1, 0, 0, 0, 0, 0), (166, .iload 4, 2, 0, 0, 0, 0, 0), (168, .bipush 6, 2, 0, 0, 0, 6, 0), (170, .irem, 1, 0, 0, 0, 0, 0)]),
  (187, [(171, .invokestatic 304, 3, 175, 2, 0, 0, 0), (174, .iadd, 1, 0, 0, 0, 0, 0), (175, .istore_n 1, 1, 0, 0, 0, 0, 0), (176, .iload_n 1, 1, 0, 0, 0, 0, 0), (177, .bipush 31, 2, 0, 0, 0, 31, 0), (179, .imul, 1, 0, 0, 0, 0, 0), (180, .aload_n 0, 1, 0, 0, 0, 0, 0), (181, .getfield 26, 3, 12, 7, 0, 0, 0), (184, .iload 4, 2, 0, 0, 0, 0, 0), (186, .iaload, 1, 0, 0, 0, 0, 0)]),
  (201, [(187, .iadd, 1, 0, 0, 0, 0, 0), (188, .istore_n 1, 1, 0, 0, 0, 0, 0), (189, .iload_n 1, 1, 0, 0, 0, 0, 0), (190, .bipush 31, 2, 0, 0, 0, 31, 0), (192, .imul, 1, 0, 0, 0, 0, 0), (193, .aload_n 0, 1, 0, 0, 0, 0, 0), (194, .getfield 29, 3, 12, 8, 0, 0, 0), (197, .iload 4, 2, 0, 0, 0, 0, 0), (199, .iaload, 1, 0, 0, 0, 0, 0), (200, .iadd, 1, 0, 0, 0, 0, 0)]),
  (216, [(201, .istore_n 1, 1, 0, 0, 0, 0, 0), (202, .iinc 3 1, 3, 0, 0, 0, 1, 0), (205, .goto (-108), 3, 97, 0, 0, 0, 0), (208, .iinc 2 1, 3, 0, 0, 0, 1, 0), (211, .goto (-206), 3, 5, 0, 0, 0, 0), (214, .iload_n 1, 1, 0, 0, 0, 0, 0), (215, .ireturn, 1, 0, 0, 0, 0, 0)])]
set_option maxRecDepth 100000 in
theorem mx_ok206_2 : ∀ q ∈ mx_t206_2, ∀ en ∈ q.2, mx_gd 206 en := mx_gt_s mx_LLok12 mx_KLok12 mx_JLok12 mx_ARok (by decide +kernel)
def mx_t206 : List (Nat × List mx_En) := mx_t206_0 ++ (mx_t206_1 ++ (mx_t206_2))
theorem mx_ok206 : ∀ q ∈ mx_t206, ∀ en ∈ q.2, mx_gd 206 en := (fun q h => (List.mem_append.mp h).elim (mx_ok206_0 q) ((fun q h => (List.mem_append.mp h).elim (mx_ok206_1 q) (mx_ok206_2 q)) q))
def mx_t207 : List (Nat × List mx_En) := [(16, [(0, .iload_n 0, 1, 0, 0, 0, 0, 0), (1, .iload_n 1, 1, 0, 0, 0, 0, 0), (2, .iadd, 1, 0, 0, 0, 0, 0), (3, .bipush 9, 2, 0, 0, 0, 9, 0), (5, .if_icmp .le 8, 3, 13, 0, 0, 0, 0), (8, .bipush 9, 2, 0, 0, 0, 9, 0), (10, .goto 6, 3, 16, 0, 0, 0, 0), (13, .iload_n 0, 1, 0, 0, 0, 0, 0), (14, .iload_n 1, 1, 0, 0, 0, 0, 0), (15, .iadd, 1, 0, 0, 0, 0, 0)]),
  (17, [(16, .ireturn, 1, 0, 0, 0, 0, 0)])]
set_option maxRecDepth 100000 in
theorem mx_ok207 : ∀ q ∈ mx_t207, ∀ en ∈ q.2, mx_gd 207 en := mx_gt_s mx_LLok12 mx_KLok12 mx_JLok12 mx_ARok (by decide +kernel)
def mx_t208 : List (Nat × List mx_En) := [(14, [(0, .aload_n 0, 1, 0, 0, 0, 0, 0), (1, .aload_n 0, 1, 0, 0, 0, 0, 0), (2, .getfield 7, 3, 12, 2, 0, 0, 0), (5, .iload_n 1, 1, 0, 0, 0, 0, 0), (6, .iaload, 1, 0, 0, 0, 0, 0), (7, .putfield 307, 3, 12, 35, 0, 0, 0), (10, .iconst 0, 1, 0, 0, 0, 0, 0), (11, .istore_n 2, 1, 0, 0, 0, 0, 0), (12, .iload_n 2, 1, 0, 0, 0, 0, 0), (13, .aload_n 0, 1, 0, 0, 0, 0, 0)]),
  (33, [(14, .getfield 307, 3, 12, 35, 0, 0, 0), (17, .if_icmp .ge 138, 3, 155, 0, 0, 0, 0), (20, .aload_n 0, 1, 0, 0, 0, 0, 0), (21, .getfield 78, 3, 12, 31, 0, 0, 0), (24, .iload_n 2, 1, 0, 0, 0, 0, 0), (25, .aload_n 0, 1, 0, 0, 0, 0, 0), (26, .getfield 13, 3, 12, 3, 0, 0, 0), (29, .bipush 6, 2, 0, 0, 0, 6, 0), (31, .iload_n 1, 1, 0, 0, 0, 0, 0), (32, .imul, 1, 0, 0, 0, 0, 0)]),
  (46, [(33, .iload_n 2, 1, 0, 0, 0, 0, 0), (34, .iadd, 1, 0, 0, 0, 0, 0), (35, .iaload, 1, 0, 0, 0, 0, 0), (36, .aload_n 0, 1, 0, 0, 0, 0, 0), (37, .getfield 19, 3, 12, 5, 0, 0, 0), (40, .bipush 6, 2, 0, 0, 0, 6, 0), (42, .iload_n 1, 1, 0, 0, 0, 0, 0), (43, .imul, 1, 0, 0, 0, 0, 0), (44, .iload_n 2, 1, 0, 0, 0, 0, 0), (45, .iadd, 1, 0, 0, 0, 0, 0)]),
  (63, [(46, .iaload, 1, 0, 0, 0, 0, 0), (47, .invokestatic 310, 3, 207, 2, 0, 0, 0), (50, .iastore, 1, 0, 0, 0, 0, 0), (51, .aload_n 0, 1, 0, 0, 0, 0, 0), (52, .getfield 81, 3, 12, 32, 0, 0, 0), (55, .iload_n 2, 1, 0, 0, 0, 0, 0), (56, .aload_n 0, 1, 0, 0, 0, 0, 0), (57, .getfield 16, 3, 12, 4, 0, 0, 0), (60, .bipush 6, 2, 0, 0, 0, 6, 0), (62, .iload_n 1, 1, 0, 0, 0, 0, 0)]),
  (77, [(63, .imul, 1, 0, 0, 0, 0, 0), (64, .iload_n 2, 1, 0, 0, 0, 0, 0), (65, .iadd, 1, 0, 0, 0, 0, 0), (66, .iaload, 1, 0, 0, 0, 0, 0), (67, .iastore, 1, 0, 0, 0, 0, 0), (68, .aload_n 0, 1, 0, 0, 0, 0, 0), (69, .getfield 84, 3, 12, 33, 0, 0, 0), (72, .iload_n 2, 1, 0, 0, 0, 0, 0), (73, .aload_n 0, 1, 0, 0, 0, 0, 0), (74, .getfield 22, 3, 12, 6, 0, 0, 0)]),
  (88, [(77, .bipush 6, 2, 0, 0, 0, 6, 0), (79, .iload_n 1, 1, 0, 0, 0, 0, 0), (80, .imul, 1, 0, 0, 0, 0, 0), (81, .iload_n 2, 1, 0, 0, 0, 0, 0), (82, .iadd, 1, 0, 0, 0, 0, 0), (83, .baload, 1, 0, 0, 0, 0, 0), (84, .bastore, 1, 0, 0, 0, 0, 0), (85, .iconst 0, 1, 0, 0, 0, 0, 0), (86, .istore_n 3, 1, 0, 0, 0, 0, 0), (87, .iload_n 3, 1, 0, 0, 0, 0, 0)]),
  (105, [(88, .aload_n 0, 1, 0, 0, 0, 0, 0), (89, .getfield 307, 3, 12, 35, 0, 0, 0), (92, .if_icmp .ge 57, 3, 149, 0, 0, 0, 0), (95, .aload_n 0, 1, 0, 0, 0, 0, 0), (96, .getfield 87, 3, 12, 34, 0, 0, 0), (99, .bipush 6, 2, 0, 0, 0, 6, 0), (101, .iload_n 2, 1, 0, 0, 0, 0, 0), (102, .imul, 1, 0, 0, 0, 0, 0), (103, .iload_n 3, 1, 0, 0, 0, 0, 0), (104, .iadd, 1, 0, 0, 0, 0, 0)]),
  (121, [(105, .aload_n 0, 1, 0, 0, 0, 0, 0), (106, .iload_n 1, 1, 0, 0, 0, 0, 0), (107, .iload_n 2, 1, 0, 0, 0, 0, 0), (108, .iload_n 3, 1, 0, 0, 0, 0, 0), (109, .invokevirtual 211, 3, 180, 3, 0, 0, 0), (112, .ifCond .eq 29, 3, 141, 0, 0, 0, 0), (115, .aload_n 0, 1, 0, 0, 0, 0, 0), (116, .getfield 26, 3, 12, 7, 0, 0, 0), (119, .iload_n 1, 1, 0, 0, 0, 0, 0), (120, .iload_n 2, 1, 0, 0, 0, 0, 0)]),
  (137, [(121, .iload_n 3, 1, 0, 0, 0, 0, 0), (122, .invokestatic 207, 3, 179, 3, 0, 0, 0), (125, .iaload, 1, 0, 0, 0, 0, 0), (126, .aload_n 0, 1, 0, 0, 0, 0, 0), (127, .getfield 29, 3, 12, 8, 0, 0, 0), (130, .iload_n 1, 1, 0, 0, 0, 0, 0), (131, .iload_n 2, 1, 0, 0, 0, 0, 0), (132, .iload_n 3, 1, 0, 0, 0, 0, 0), (133, .invokestatic 207, 3, 179, 3, 0, 0, 0), (136, .iaload, 1, 0, 0, 0, 0, 0)]),
  (156, [(137, .isub, 1, 0, 0, 0, 0, 0), (138, .goto 4, 3, 142, 0, 0, 0, 0), (141, .iconst 0, 1, 0, 0, 0, 0, 0), (142, .iastore, 1, 0, 0, 0, 0, 0), (143, .iinc 3 1, 3, 0, 0, 0, 1, 0), (146, .goto (-59), 3, 87, 0, 0, 0, 0), (149, .iinc 2 1, 3, 0, 0, 0, 1, 0), (152, .goto (-140), 3, 12, 0, 0, 0, 0), (155, .return_, 1, 0, 0, 0, 0, 0)])]
set_option maxRecDepth 100000 in
theorem mx_ok208 : ∀ q ∈ mx_t208, ∀ en ∈ q.2, mx_gd 208 en := mx_gt_s mx_LLok12 mx_KLok12 mx_JLok12 mx_ARok (by decide +kernel)
def mx_t209_0 : List (Nat × List mx_En) := [(16, [(0, .aload_n 0, 1, 0, 0, 0, 0, 0), (1, .dup, 1, 0, 0, 0, 0, 0), (2, .getfield 313, 3, 12, 42, 0, 0, 0), (5, .iconst 1, 1, 0, 0, 0, 1, 0), (6, .iadd, 1, 0, 0, 0, 0, 0), (7, .putfield 313, 3, 12, 42, 0, 0, 0), (10, .aload_n 0, 1, 0, 0, 0, 0, 0), (11, .iconst 0, 1, 0, 0, 0, 0, 0), (12, .putfield 316, 3, 12, 37, 0, 0, 0), (15, .iconst 0, 1, 0, 0, 0, 0, 0)]),
  (34, [(16, .istore_n 3, 1, 0, 0, 0, 0, 0), (17, .iload_n 3, 1, 0, 0, 0, 0, 0), (18, .aload_n 0, 1, 0, 0, 0, 0, 0), (19, .getfield 307, 3, 12, 35, 0, 0, 0), (22, .if_icmp .ge 41, 3, 63, 0, 0, 0, 0), (25, .aload_n 0, 1, 0, 0, 0, 0, 0), (26, .getfield 84, 3, 12, 33, 0, 0, 0), (29, .iload_n 3, 1, 0, 0, 0, 0, 0), (30, .baload, 1, 0, 0, 0, 0, 0), (31, .ifCond .eq 6, 3, 37, 0, 0, 0, 0)]),
  (52, [(34, .goto 23, 3, 57, 0, 0, 0, 0), (37, .aload_n 0, 1, 0, 0, 0, 0, 0), (38, .getfield 97, 3, 12, 39, 0, 0, 0), (41, .aload_n 0, 1, 0, 0, 0, 0, 0), (42, .getfield 316, 3, 12, 37, 0, 0, 0), (45, .iload_n 3, 1, 0, 0, 0, 0, 0), (46, .iastore, 1, 0, 0, 0, 0, 0), (47, .aload_n 0, 1, 0, 0, 0, 0, 0), (48, .dup, 1, 0, 0, 0, 0, 0), (49, .getfield 316, 3, 12, 37, 0, 0, 0)]),
  (70, [(52, .iconst 1, 1, 0, 0, 0, 1, 0), (53, .iadd, 1, 0, 0, 0, 0, 0), (54, .putfield 316, 3, 12, 37, 0, 0, 0), (57, .iinc 3 1, 3, 0, 0, 0, 1, 0), (60, .goto (-43), 3, 17, 0, 0, 0, 0), (63, .iconst 0, 1, 0, 0, 0, 0, 0), (64, .istore_n 3, 1, 0, 0, 0, 0, 0), (65, .iload_n 3, 1, 0, 0, 0, 0, 0), (66, .aload_n 0, 1, 0, 0, 0, 0, 0), (67, .getfield 316, 3, 12, 37, 0, 0, 0)]),
  (88, [(70, .if_icmp .ge 142, 3, 212, 0, 0, 0, 0), (73, .aload_n 0, 1, 0, 0, 0, 0, 0), (74, .getfield 97, 3, 12, 39, 0, 0, 0), (77, .iload_n 3, 1, 0, 0, 0, 0, 0), (78, .iaload, 1, 0, 0, 0, 0, 0), (79, .istore 4, 2, 0, 0, 0, 0, 0), (81, .aload_n 0, 1, 0, 0, 0, 0, 0), (82, .getfield 81, 3, 12, 32, 0, 0, 0), (85, .iload 4, 2, 0, 0, 0, 0, 0), (87, .iaload, 1, 0, 0, 0, 0, 0)])]
set_option maxRecDepth 100000 in
theorem mx_ok209_0 : ∀ q ∈ mx_t209_0, ∀ en ∈ q.2, mx_gd 209 en := mx_gt_s mx_LLok12 mx_KLok12 mx_JLok12 mx_ARok (by decide +kernel)
def mx_t209_1 : List (Nat × List mx_En) := [(108, [(88, .istore 5, 2, 0, 0, 0, 0, 0), (90, .iconst 0, 1, 0, 0, 0, 0, 0), (91, .istore 6, 2, 0, 0, 0, 0, 0), (93, .iload 6, 2, 0, 0, 0, 0, 0), (95, .aload_n 0, 1, 0, 0, 0, 0, 0), (96, .getfield 307, 3, 12, 35, 0, 0, 0), (99, .if_icmp .ge 27, 3, 126, 0, 0, 0, 0), (102, .iload 5, 2, 0, 0, 0, 0, 0), (104, .aload_n 0, 1, 0, 0, 0, 0, 0), (105, .getfield 87, 3, 12, 34, 0, 0, 0)]),
  (126, [(108, .bipush 6, 2, 0, 0, 0, 6, 0), (110, .iload 4, 2, 0, 0, 0, 0, 0), (112, .imul, 1, 0, 0, 0, 0, 0), (113, .iload 6, 2, 0, 0, 0, 0, 0), (115, .iadd, 1, 0, 0, 0, 0, 0), (116, .iaload, 1, 0, 0, 0, 0, 0), (117, .iadd, 1, 0, 0, 0, 0, 0), (118, .istore 5, 2, 0, 0, 0, 0, 0), (120, .iinc 6 1, 3, 0, 0, 0, 1, 0), (123, .goto (-30), 3, 93, 0, 0, 0, 0)]),
  (145, [(126, .iconst 0, 1, 0, 0, 0, 0, 0), (127, .istore 6, 2, 0, 0, 0, 0, 0), (129, .iload 6, 2, 0, 0, 0, 0, 0), (131, .aload_n 0, 1, 0, 0, 0, 0, 0), (132, .getfield 316, 3, 12, 37, 0, 0, 0), (135, .if_icmp .ge 71, 3, 206, 0, 0, 0, 0), (138, .aload_n 0, 1, 0, 0, 0, 0, 0), (139, .getfield 90, 3, 12, 36, 0, 0, 0), (142, .bipush 6, 2, 0, 0, 0, 6, 0), (144, .iload_n 3, 1, 0, 0, 0, 0, 0)]),
  (160, [(145, .imul, 1, 0, 0, 0, 0, 0), (146, .iload 6, 2, 0, 0, 0, 0, 0), (148, .iadd, 1, 0, 0, 0, 0, 0), (149, .iload_n 3, 1, 0, 0, 0, 0, 0), (150, .iload 6, 2, 0, 0, 0, 0, 0), (152, .if_icmp .ne 24, 3, 176, 0, 0, 0, 0), (155, .iload_n 2, 1, 0, 0, 0, 0, 0), (156, .i2l, 1, 0, 0, 0, 0, 0), (157, .iload 5, 2, 0, 0, 0, 0, 0), (159, .i2l, 1, 0, 0, 0, 0, 0)]),
  (173, [(160, .lmul, 1, 0, 0, 0, 0, 0), (161, .iload_n 1, 1, 0, 0, 0, 0, 0), (162, .i2l, 1, 0, 0, 0, 0, 0), (163, .aload_n 0, 1, 0, 0, 0, 0, 0), (164, .getfield 78, 3, 12, 31, 0, 0, 0), (167, .iload 4, 2, 0, 0, 0, 0, 0), (169, .iaload, 1, 0, 0, 0, 0, 0), (170, .i2l, 1, 0, 0, 0, 0, 0), (171, .lmul, 1, 0, 0, 0, 0, 0), (172, .lsub, 1, 0, 0, 0, 0, 0)])]
set_option maxRecDepth 100000 in
theorem mx_ok209_1 : ∀ q ∈ mx_t209_1, ∀ en ∈ q.2, mx_gd 209 en := mx_gt_s mx_LLok12 mx_KLok12 mx_JLok12 mx_ARok (by decide +kernel)
def mx_t209_2 : List (Nat × List mx_En) := [(189, [(173, .goto 26, 3, 199, 0, 0, 0, 0), (176, .iload_n 2, 1, 0, 0, 0, 0, 0), (177, .i2l, 1, 0, 0, 0, 0, 0), (178, .lneg, 1, 0, 0, 0, 0, 0), (179, .aload_n 0, 1, 0, 0, 0, 0, 0), (180, .getfield 87, 3, 12, 34, 0, 0, 0), (183, .bipush 6, 2, 0, 0, 0, 6, 0), (185, .iload 4, 2, 0, 0, 0, 0, 0), (187, .imul, 1, 0, 0, 0, 0, 0), (188, .aload_n 0, 1, 0, 0, 0, 0, 0)]),
  (206, [(189, .getfield 97, 3, 12, 39, 0, 0, 0), (192, .iload 6, 2, 0, 0, 0, 0, 0), (194, .iaload, 1, 0, 0, 0, 0, 0), (195, .iadd, 1, 0, 0, 0, 0, 0), (196, .iaload, 1, 0, 0, 0, 0, 0), (197, .i2l, 1, 0, 0, 0, 0, 0), (198, .lmul, 1, 0, 0, 0, 0, 0), (199, .lastore, 1, 0, 0, 0, 0, 0), (200, .iinc 6 1, 3, 0, 0, 0, 1, 0), (203, .goto (-74), 3, 129, 0, 0, 0, 0)]),
  (213, [(206, .iinc 3 1, 3, 0, 0, 0, 1, 0), (209, .goto (-144), 3, 65, 0, 0, 0, 0), (212, .return_, 1, 0, 0, 0, 0, 0)])]
set_option maxRecDepth 100000 in
theorem mx_ok209_2 : ∀ q ∈ mx_t209_2, ∀ en ∈ q.2, mx_gd 209 en := mx_gt_s mx_LLok12 mx_KLok12 mx_JLok12 mx_ARok (by decide +kernel)
def mx_t209 : List (Nat × List mx_En) := mx_t209_0 ++ (mx_t209_1 ++ (mx_t209_2))
theorem mx_ok209 : ∀ q ∈ mx_t209, ∀ en ∈ q.2, mx_gd 209 en := (fun q h => (List.mem_append.mp h).elim (mx_ok209_0 q) ((fun q h => (List.mem_append.mp h).elim (mx_ok209_1 q) (mx_ok209_2 q)) q))
def mx_t210 : List (Nat × List mx_En) := [(13, [(0, .iload_n 1, 1, 0, 0, 0, 0, 0), (1, .ifCond .ne 5, 3, 6, 0, 0, 0, 0), (4, .lconst 1, 1, 0, 0, 0, 0, 1), (5, .lreturn, 1, 0, 0, 0, 0, 0), (6, .bipush 64, 2, 0, 0, 0, 64, 0), (8, .iload_n 1, 1, 0, 0, 0, 0, 0), (9, .imul, 1, 0, 0, 0, 0, 0), (10, .iload_n 2, 1, 0, 0, 0, 0, 0), (11, .iadd, 1, 0, 0, 0, 0, 0), (12, .istore_n 3, 1, 0, 0, 0, 0, 0)]),
  (31, [(13, .aload_n 0, 1, 0, 0, 0, 0, 0), (14, .getfield 103, 3, 12, 41, 0, 0, 0), (17, .iload_n 3, 1, 0, 0, 0, 0, 0), (18, .iaload, 1, 0, 0, 0, 0, 0), (19, .aload_n 0, 1, 0, 0, 0, 0, 0), (20, .getfield 313, 3, 12, 42, 0, 0, 0), (23, .if_icmp .ne 10, 3, 33, 0, 0, 0, 0), (26, .aload_n 0, 1, 0, 0, 0, 0, 0), (27, .getfield 100, 3, 12, 40, 0, 0, 0), (30, .iload_n 3, 1, 0, 0, 0, 0, 0)]),
  (45, [(31, .laload, 1, 0, 0, 0, 0, 0), (32, .lreturn, 1, 0, 0, 0, 0, 0), (33, .iconst 0, 1, 0, 0, 0, 0, 0), (34, .istore 4, 2, 0, 0, 0, 0, 0), (36, .iload_n 1, 1, 0, 0, 0, 0, 0), (37, .iload 4, 2, 0, 0, 0, 0, 0), (39, .ishr, 1, 0, 0, 0, 0, 0), (40, .iconst 1, 1, 0, 0, 0, 1, 0), (41, .iand, 1, 0, 0, 0, 0, 0), (42, .ifCond .ne 9, 3, 51, 0, 0, 0, 0)]),
  (63, [(45, .iinc 4 1, 3, 0, 0, 0, 1, 0), (48, .goto (-12), 3, 36, 0, 0, 0, 0), (51, .lconst 0, 1, 0, 0, 0, 0, 0), (52, .lstore 5, 2, 0, 0, 0, 0, 0), (54, .iconst 0, 1, 0, 0, 0, 0, 0), (55, .istore 7, 2, 0, 0, 0, 0, 0), (57, .iconst 0, 1, 0, 0, 0, 0, 0), (58, .istore 8, 2, 0, 0, 0, 0, 0), (60, .iload 8, 2, 0, 0, 0, 0, 0), (62, .aload_n 0, 1, 0, 0, 0, 0, 0)]),
  (82, [(63, .getfield 316, 3, 12, 37, 0, 0, 0), (66, .if_icmp .ge 105, 3, 171, 0, 0, 0, 0), (69, .iload_n 2, 1, 0, 0, 0, 0, 0), (70, .iload 8, 2, 0, 0, 0, 0, 0), (72, .ishr, 1, 0, 0, 0, 0, 0), (73, .iconst 1, 1, 0, 0, 0, 1, 0), (74, .iand, 1, 0, 0, 0, 0, 0), (75, .ifCond .ne 6, 3, 81, 0, 0, 0, 0), (78, .goto 87, 3, 165, 0, 0, 0, 0), (81, .aload_n 0, 1, 0, 0, 0, 0, 0)]),
  (99, [(82, .getfield 90, 3, 12, 36, 0, 0, 0), (85, .bipush 6, 2, 0, 0, 0, 6, 0), (87, .iload 4, 2, 0, 0, 0, 0, 0), (89, .imul, 1, 0, 0, 0, 0, 0), (90, .iload 8, 2, 0, 0, 0, 0, 0), (92, .iadd, 1, 0, 0, 0, 0, 0), (93, .laload, 1, 0, 0, 0, 0, 0), (94, .lconst 0, 1, 0, 0, 0, 0, 0), (95, .lcmp, 1, 0, 0, 0, 0, 0), (96, .ifCond .eq 57, 3, 153, 0, 0, 0, 0)]),
  (114, [(99, .aload_n 0, 1, 0, 0, 0, 0, 0), (100, .getfield 90, 3, 12, 36, 0, 0, 0), (103, .bipush 6, 2, 0, 0, 0, 6, 0), (105, .iload 4, 2, 0, 0, 0, 0, 0), (107, .imul, 1, 0, 0, 0, 0, 0), (108, .iload 8, 2, 0, 0, 0, 0, 0), (110, .iadd, 1, 0, 0, 0, 0, 0), (111, .laload, 1, 0, 0, 0, 0, 0), (112, .aload_n 0, 1, 0, 0, 0, 0, 0), (113, .iload_n 1, 1, 0, 0, 0, 0, 0)]),
  (126, [(114, .iconst 1, 1, 0, 0, 0, 1, 0), (115, .iload 4, 2, 0, 0, 0, 0, 0), (117, .ishl, 1, 0, 0, 0, 0, 0), (118, .iconst (-1), 1, 0, 0, 0, -1, 0), (119, .ixor, 1, 0, 0, 0, 0, 0), (120, .iand, 1, 0, 0, 0, 0, 0), (121, .iload_n 2, 1, 0, 0, 0, 0, 0), (122, .iconst 1, 1, 0, 0, 0, 1, 0), (123, .iload 8, 2, 0, 0, 0, 0, 0), (125, .ishl, 1, 0, 0, 0, 0, 0)]),
  (144, [(126, .iconst (-1), 1, 0, 0, 0, -1, 0), (127, .ixor, 1, 0, 0, 0, 0, 0), (128, .iand, 1, 0, 0, 0, 0, 0), (129, .invokevirtual 319, 3, 210, 2, 0, 0, 0), (132, .lmul, 1, 0, 0, 0, 0, 0), (133, .lstore 9, 2, 0, 0, 0, 0, 0), (135, .lload 5, 2, 0, 0, 0, 0, 0), (137, .iload 7, 2, 0, 0, 0, 0, 0), (139, .ifCond .eq 9, 3, 148, 0, 0, 0, 0), (142, .lload 9, 2, 0, 0, 0, 0, 0)]),
  (163, [(144, .lneg, 1, 0, 0, 0, 0, 0), (145, .goto 5, 3, 150, 0, 0, 0, 0), (148, .lload 9, 2, 0, 0, 0, 0, 0), (150, .ladd, 1, 0, 0, 0, 0, 0), (151, .lstore 5, 2, 0, 0, 0, 0, 0), (153, .iload 7, 2, 0, 0, 0, 0, 0), (155, .ifCond .ne 7, 3, 162, 0, 0, 0, 0), (158, .iconst 1, 1, 0, 0, 0, 1, 0), (159, .goto 4, 3, 163, 0, 0, 0, 0), (162, .iconst 0, 1, 0, 0, 0, 0, 0)]),
  (182, [(163, .istore 7, 2, 0, 0, 0, 0, 0), (165, .iinc 8 1, 3, 0, 0, 0, 1, 0), (168, .goto (-108), 3, 60, 0, 0, 0, 0), (171, .aload_n 0, 1, 0, 0, 0, 0, 0), (172, .getfield 103, 3, 12, 41, 0, 0, 0), (175, .iload_n 3, 1, 0, 0, 0, 0, 0), (176, .aload_n 0, 1, 0, 0, 0, 0, 0), (177, .getfield 313, 3, 12, 42, 0, 0, 0), (180, .iastore, 1, 0, 0, 0, 0, 0), (181, .aload_n 0, 1, 0, 0, 0, 0, 0)]),
  (192, [(182, .getfield 100, 3, 12, 40, 0, 0, 0), (185, .iload_n 3, 1, 0, 0, 0, 0, 0), (186, .lload 5, 2, 0, 0, 0, 0, 0), (188, .lastore, 1, 0, 0, 0, 0, 0), (189, .lload 5, 2, 0, 0, 0, 0, 0), (191, .lreturn, 1, 0, 0, 0, 0, 0)])]
set_option maxRecDepth 100000 in
theorem mx_ok210 : ∀ q ∈ mx_t210, ∀ en ∈ q.2, mx_gd 210 en := mx_gt_s mx_LLok12 mx_KLok12 mx_JLok12 mx_ARok (by decide +kernel)
def mx_t211 : List (Nat × List mx_En) := [(14, [(0, .iconst 0, 1, 0, 0, 0, 0, 0), (1, .istore_n 1, 1, 0, 0, 0, 0, 0), (2, .iload_n 0, 1, 0, 0, 0, 0, 0), (3, .istore_n 2, 1, 0, 0, 0, 0, 0), (4, .iload_n 2, 1, 0, 0, 0, 0, 0), (5, .ifCond .eq 15, 3, 20, 0, 0, 0, 0), (8, .iinc 1 1, 3, 0, 0, 0, 1, 0), (11, .iload_n 2, 1, 0, 0, 0, 0, 0), (12, .iload_n 2, 1, 0, 0, 0, 0, 0), (13, .iconst 1, 1, 0, 0, 0, 1, 0)]),
  (22, [(14, .isub, 1, 0, 0, 0, 0, 0), (15, .iand, 1, 0, 0, 0, 0, 0), (16, .istore_n 2, 1, 0, 0, 0, 0, 0), (17, .goto (-13), 3, 4, 0, 0, 0, 0), (20, .iload_n 1, 1, 0, 0, 0, 0, 0), (21, .ireturn, 1, 0, 0, 0, 0, 0)])]
set_option maxRecDepth 100000 in
theorem mx_ok211 : ∀ q ∈ mx_t211, ∀ en ∈ q.2, mx_gd 211 en := mx_gt_s mx_LLok12 mx_KLok12 mx_JLok12 mx_ARok (by decide +kernel)
def mx_t212 : List (Nat × List mx_En) := [(16, [(0, .aload_n 0, 1, 0, 0, 0, 0, 0), (1, .iload_n 1, 1, 0, 0, 0, 0, 0), (2, .iload_n 2, 1, 0, 0, 0, 0, 0), (3, .invokevirtual 323, 3, 209, 2, 0, 0, 0), (6, .iconst 0, 1, 0, 0, 0, 0, 0), (7, .istore_n 3, 1, 0, 0, 0, 0, 0), (8, .iload_n 3, 1, 0, 0, 0, 0, 0), (9, .aload_n 0, 1, 0, 0, 0, 0, 0), (10, .getfield 316, 3, 12, 37, 0, 0, 0), (13, .if_icmp .gt 16, 3, 29, 0, 0, 0, 0)]),
  (32, [(16, .aload_n 0, 1, 0, 0, 0, 0, 0), (17, .getfield 94, 3, 12, 38, 0, 0, 0), (20, .iload_n 3, 1, 0, 0, 0, 0, 0), (21, .lconst 0, 1, 0, 0, 0, 0, 0), (22, .lastore, 1, 0, 0, 0, 0, 0), (23, .iinc 3 1, 3, 0, 0, 0, 1, 0), (26, .goto (-18), 3, 8, 0, 0, 0, 0), (29, .iconst 0, 1, 0, 0, 0, 0, 0), (30, .istore_n 3, 1, 0, 0, 0, 0, 0), (31, .iload_n 3, 1, 0, 0, 0, 0, 0)]),
  (50, [(32, .iconst 1, 1, 0, 0, 0, 1, 0), (33, .aload_n 0, 1, 0, 0, 0, 0, 0), (34, .getfield 316, 3, 12, 37, 0, 0, 0), (37, .ishl, 1, 0, 0, 0, 0, 0), (38, .if_icmp .ge 27, 3, 65, 0, 0, 0, 0), (41, .aload_n 0, 1, 0, 0, 0, 0, 0), (42, .getfield 94, 3, 12, 38, 0, 0, 0), (45, .iload_n 3, 1, 0, 0, 0, 0, 0), (46, .invokestatic 327, 3, 211, 1, 0, 0, 0), (49, .dup2, 1, 0, 0, 0, 0, 0)]),
  (66, [(50, .laload, 1, 0, 0, 0, 0, 0), (51, .aload_n 0, 1, 0, 0, 0, 0, 0), (52, .iload_n 3, 1, 0, 0, 0, 0, 0), (53, .iload_n 3, 1, 0, 0, 0, 0, 0), (54, .invokevirtual 319, 3, 210, 2, 0, 0, 0), (57, .ladd, 1, 0, 0, 0, 0, 0), (58, .lastore, 1, 0, 0, 0, 0, 0), (59, .iinc 3 1, 3, 0, 0, 0, 1, 0), (62, .goto (-31), 3, 31, 0, 0, 0, 0), (65, .return_, 1, 0, 0, 0, 0, 0)])]
set_option maxRecDepth 100000 in
theorem mx_ok212 : ∀ q ∈ mx_t212, ∀ en ∈ q.2, mx_gd 212 en := mx_gt_s mx_LLok12 mx_KLok12 mx_JLok12 mx_ARok (by decide +kernel)
def mx_t213 : List (Nat × List mx_En) := [(14, [(0, .aload_n 0, 1, 0, 0, 0, 0, 0), (1, .iload_n 1, 1, 0, 0, 0, 0, 0), (2, .iload_n 2, 1, 0, 0, 0, 0, 0), (3, .invokevirtual 330, 3, 212, 2, 0, 0, 0), (6, .iconst 0, 1, 0, 0, 0, 0, 0), (7, .istore_n 3, 1, 0, 0, 0, 0, 0), (8, .iconst 1, 1, 0, 0, 0, 1, 0), (9, .istore 4, 2, 0, 0, 0, 0, 0), (11, .iconst 1, 1, 0, 0, 0, 1, 0), (12, .istore 5, 2, 0, 0, 0, 0, 0)]),
  (32, [(14, .iload 5, 2, 0, 0, 0, 0, 0), (16, .aload_n 0, 1, 0, 0, 0, 0, 0), (17, .getfield 316, 3, 12, 37, 0, 0, 0), (20, .if_icmp .gt 61, 3, 81, 0, 0, 0, 0), (23, .aload_n 0, 1, 0, 0, 0, 0, 0), (24, .getfield 94, 3, 12, 38, 0, 0, 0), (27, .iload 5, 2, 0, 0, 0, 0, 0), (29, .laload, 1, 0, 0, 0, 0, 0), (30, .lconst 0, 1, 0, 0, 0, 0, 0), (31, .lcmp, 1, 0, 0, 0, 0, 0)]),
  (51, [(32, .ifCond .eq 43, 3, 75, 0, 0, 0, 0), (35, .aload_n 0, 1, 0, 0, 0, 0, 0), (36, .getfield 94, 3, 12, 38, 0, 0, 0), (39, .iload 5, 2, 0, 0, 0, 0, 0), (41, .laload, 1, 0, 0, 0, 0, 0), (42, .lconst 0, 1, 0, 0, 0, 0, 0), (43, .lcmp, 1, 0, 0, 0, 0, 0), (44, .ifCond .le 7, 3, 51, 0, 0, 0, 0), (47, .iconst 1, 1, 0, 0, 0, 1, 0), (48, .goto 4, 3, 52, 0, 0, 0, 0)]),
  (72, [(51, .iconst 0, 1, 0, 0, 0, 0, 0), (52, .iload 4, 2, 0, 0, 0, 0, 0), (54, .if_icmp .ne 6, 3, 60, 0, 0, 0, 0), (57, .goto 18, 3, 75, 0, 0, 0, 0), (60, .iload 4, 2, 0, 0, 0, 0, 0), (62, .ifCond .ne 7, 3, 69, 0, 0, 0, 0), (65, .iconst 1, 1, 0, 0, 0, 1, 0), (66, .goto 4, 3, 70, 0, 0, 0, 0), (69, .iconst 0, 1, 0, 0, 0, 0, 0), (70, .istore 4, 2, 0, 0, 0, 0, 0)]),
  (83, [(72, .iinc 3 1, 3, 0, 0, 0, 1, 0), (75, .iinc 5 1, 3, 0, 0, 0, 1, 0), (78, .goto (-64), 3, 14, 0, 0, 0, 0), (81, .iload_n 3, 1, 0, 0, 0, 0, 0), (82, .ireturn, 1, 0, 0, 0, 0, 0)])]
set_option maxRecDepth 100000 in
theorem mx_ok213 : ∀ q ∈ mx_t213, ∀ en ∈ q.2, mx_gd 213 en := mx_gt_s mx_LLok12 mx_KLok12 mx_JLok12 mx_ARok (by decide +kernel)
def mx_t214 : List (Nat × List mx_En) := [(16, [(0, .aload_n 0, 1, 0, 0, 0, 0, 0), (1, .iload_n 1, 1, 0, 0, 0, 0, 0), (2, .iload_n 2, 1, 0, 0, 0, 0, 0), (3, .invokevirtual 330, 3, 212, 2, 0, 0, 0), (6, .iconst 0, 1, 0, 0, 0, 0, 0), (7, .istore_n 3, 1, 0, 0, 0, 0, 0), (8, .aload_n 0, 1, 0, 0, 0, 0, 0), (9, .getfield 316, 3, 12, 37, 0, 0, 0), (12, .istore 4, 2, 0, 0, 0, 0, 0), (14, .iload 4, 2, 0, 0, 0, 0, 0)]),
  (37, [(16, .ifCond .le 24, 3, 40, 0, 0, 0, 0), (19, .aload_n 0, 1, 0, 0, 0, 0, 0), (20, .getfield 94, 3, 12, 38, 0, 0, 0), (23, .iload 4, 2, 0, 0, 0, 0, 0), (25, .laload, 1, 0, 0, 0, 0, 0), (26, .lconst 0, 1, 0, 0, 0, 0, 0), (27, .lcmp, 1, 0, 0, 0, 0, 0), (28, .ifCond .ne 12, 3, 40, 0, 0, 0, 0), (31, .iinc 3 1, 3, 0, 0, 0, 1, 0), (34, .iinc 4 (-1), 3, 0, 0, 0, -1, 0)]),
  (42, [(37, .goto (-23), 3, 14, 0, 0, 0, 0), (40, .iload_n 3, 1, 0, 0, 0, 0, 0), (41, .ireturn, 1, 0, 0, 0, 0, 0)])]
set_option maxRecDepth 100000 in
theorem mx_ok214 : ∀ q ∈ mx_t214, ∀ en ∈ q.2, mx_gd 214 en := mx_gt_s mx_LLok12 mx_KLok12 mx_JLok12 mx_ARok (by decide +kernel)
def mx_t215 : List (Nat × List mx_En) := [(19, [(0, .iload_n 0, 1, 0, 0, 0, 0, 0), (1, .iconst 0, 1, 0, 0, 0, 0, 0), (2, .sipush 999, 3, 0, 0, 0, 999, 0), (5, .invokestatic 203, 3, 173, 3, 0, 0, 0), (8, .ifCond .eq 14, 3, 22, 0, 0, 0, 0), (11, .iload_n 0, 1, 0, 0, 0, 0, 0), (12, .bipush 10, 2, 0, 0, 0, 10, 0), (14, .irem, 1, 0, 0, 0, 0, 0), (15, .ifCond .le 7, 3, 22, 0, 0, 0, 0), (18, .iconst 1, 1, 0, 0, 0, 1, 0)]),
  (24, [(19, .goto 4, 3, 23, 0, 0, 0, 0), (22, .iconst 0, 1, 0, 0, 0, 0, 0), (23, .ireturn, 1, 0, 0, 0, 0, 0)])]
set_option maxRecDepth 100000 in
theorem mx_ok215 : ∀ q ∈ mx_t215, ∀ en ∈ q.2, mx_gd 215 en := mx_gt_s mx_LLok12 mx_KLok12 mx_JLok12 mx_ARok (by decide +kernel)
def mx_t216 : List (Nat × List mx_En) := [(18, [(0, .aload_n 0, 1, 0, 0, 0, 0, 0), (1, .iload_n 1, 1, 0, 0, 0, 0, 0), (2, .invokevirtual 271, 3, 177, 1, 0, 0, 0), (5, .ifCond .eq 19, 3, 24, 0, 0, 0, 0), (8, .iload_n 2, 1, 0, 0, 0, 0, 0), (9, .invokestatic 333, 3, 215, 1, 0, 0, 0), (12, .ifCond .eq 12, 3, 24, 0, 0, 0, 0), (15, .iload_n 3, 1, 0, 0, 0, 0, 0), (16, .iconst 0, 1, 0, 0, 0, 0, 0), (17, .iconst 1, 1, 0, 0, 0, 1, 0)]),
  (36, [(18, .invokestatic 203, 3, 173, 3, 0, 0, 0), (21, .ifCond .ne 5, 3, 26, 0, 0, 0, 0), (24, .iconst (-1), 1, 0, 0, 0, -1, 0), (25, .ireturn, 1, 0, 0, 0, 0, 0), (26, .aload_n 0, 1, 0, 0, 0, 0, 0), (27, .iload_n 1, 1, 0, 0, 0, 0, 0), (28, .invokevirtual 336, 3, 208, 1, 0, 0, 0), (31, .iload_n 3, 1, 0, 0, 0, 0, 0), (32, .ifCond .ne 18, 3, 50, 0, 0, 0, 0), (35, .aload_n 0, 1, 0, 0, 0, 0, 0)]),
  (52, [(36, .iload_n 2, 1, 0, 0, 0, 0, 0), (37, .bipush 10, 2, 0, 0, 0, 10, 0), (39, .idiv, 1, 0, 0, 0, 0, 0), (40, .iload_n 2, 1, 0, 0, 0, 0, 0), (41, .bipush 10, 2, 0, 0, 0, 10, 0), (43, .irem, 1, 0, 0, 0, 0, 0), (44, .invokevirtual 339, 3, 213, 2, 0, 0, 0), (47, .goto 15, 3, 62, 0, 0, 0, 0), (50, .aload_n 0, 1, 0, 0, 0, 0, 0), (51, .iload_n 2, 1, 0, 0, 0, 0, 0)]),
  (63, [(52, .bipush 10, 2, 0, 0, 0, 10, 0), (54, .idiv, 1, 0, 0, 0, 0, 0), (55, .iload_n 2, 1, 0, 0, 0, 0, 0), (56, .bipush 10, 2, 0, 0, 0, 10, 0), (58, .irem, 1, 0, 0, 0, 0, 0), (59, .invokevirtual 342, 3, 214, 2, 0, 0, 0), (62, .ireturn, 1, 0, 0, 0, 0, 0)])]
set_option maxRecDepth 100000 in
theorem mx_ok216 : ∀ q ∈ mx_t216, ∀ en ∈ q.2, mx_gd 216 en := mx_gt_s mx_LLok12 mx_KLok12 mx_JLok12 mx_ARok (by decide +kernel)
def mx_t217 : List (Nat × List mx_En) := [(18, [(0, .aload_n 0, 1, 0, 0, 0, 0, 0), (1, .iload_n 1, 1, 0, 0, 0, 0, 0), (2, .invokevirtual 271, 3, 177, 1, 0, 0, 0), (5, .ifCond .eq 23, 3, 28, 0, 0, 0, 0), (8, .iload_n 2, 1, 0, 0, 0, 0, 0), (9, .invokestatic 333, 3, 215, 1, 0, 0, 0), (12, .ifCond .eq 16, 3, 28, 0, 0, 0, 0), (15, .iload_n 3, 1, 0, 0, 0, 0, 0), (16, .iconst 0, 1, 0, 0, 0, 0, 0), (17, .aload_n 0, 1, 0, 0, 0, 0, 0)]),
  (38, [(18, .iload_n 1, 1, 0, 0, 0, 0, 0), (19, .invokevirtual 280, 3, 195, 1, 0, 0, 0), (22, .invokestatic 203, 3, 173, 3, 0, 0, 0), (25, .ifCond .ne 7, 3, 32, 0, 0, 0, 0), (28, .ldc2_w 347, 3, 0, 0, 0, 0, -9223372036854775808), (31, .lreturn, 1, 0, 0, 0, 0, 0), (32, .aload_n 0, 1, 0, 0, 0, 0, 0), (33, .iload_n 1, 1, 0, 0, 0, 0, 0), (34, .invokevirtual 336, 3, 208, 1, 0, 0, 0), (37, .aload_n 0, 1, 0, 0, 0, 0, 0)]),
  (54, [(38, .iload_n 2, 1, 0, 0, 0, 0, 0), (39, .bipush 10, 2, 0, 0, 0, 10, 0), (41, .idiv, 1, 0, 0, 0, 0, 0), (42, .iload_n 2, 1, 0, 0, 0, 0, 0), (43, .bipush 10, 2, 0, 0, 0, 10, 0), (45, .irem, 1, 0, 0, 0, 0, 0), (46, .invokevirtual 330, 3, 212, 2, 0, 0, 0), (49, .aload_n 0, 1, 0, 0, 0, 0, 0), (50, .getfield 94, 3, 12, 38, 0, 0, 0), (53, .iload_n 3, 1, 0, 0, 0, 0, 0)]),
  (56, [(54, .laload, 1, 0, 0, 0, 0, 0), (55, .lreturn, 1, 0, 0, 0, 0, 0)])]
set_option maxRecDepth 100000 in
theorem mx_ok217 : ∀ q ∈ mx_t217, ∀ en ∈ q.2, mx_gd 217 en := mx_gt_s mx_LLok12 mx_KLok12 mx_JLok12 mx_ARok (by decide +kernel)
def mx_t218 : List (Nat × List mx_En) := [(15, [(0, .iconst 0, 1, 0, 0, 0, 0, 0), (1, .istore_n 1, 1, 0, 0, 0, 0, 0), (2, .iload_n 1, 1, 0, 0, 0, 0, 0), (3, .bipush 100, 2, 0, 0, 0, 100, 0), (5, .if_icmp .ge 16, 3, 21, 0, 0, 0, 0), (8, .aload_n 0, 1, 0, 0, 0, 0, 0), (9, .getfield 106, 3, 12, 43, 0, 0, 0), (12, .iload_n 1, 1, 0, 0, 0, 0, 0), (13, .iconst 0, 1, 0, 0, 0, 0, 0), (14, .iastore, 1, 0, 0, 0, 0, 0)]),
  (22, [(15, .iinc 1 1, 3, 0, 0, 0, 1, 0), (18, .goto (-16), 3, 2, 0, 0, 0, 0), (21, .return_, 1, 0, 0, 0, 0, 0)])]
set_option maxRecDepth 100000 in
theorem mx_ok218 : ∀ q ∈ mx_t218, ∀ en ∈ q.2, mx_gd 218 en := mx_gt_s mx_LLok12 mx_KLok12 mx_JLok12 mx_ARok (by decide +kernel)
def mx_t219 : List (Nat × List mx_En) := [(15, [(0, .iconst 0, 1, 0, 0, 0, 0, 0), (1, .istore_n 3, 1, 0, 0, 0, 0, 0), (2, .bipush 100, 2, 0, 0, 0, 100, 0), (4, .istore 4, 2, 0, 0, 0, 0, 0), (6, .iload 4, 2, 0, 0, 0, 0, 0), (8, .iload_n 3, 1, 0, 0, 0, 0, 0), (9, .isub, 1, 0, 0, 0, 0, 0), (10, .iconst 1, 1, 0, 0, 0, 1, 0), (11, .if_icmp .le 63, 3, 74, 0, 0, 0, 0), (14, .iload_n 3, 1, 0, 0, 0, 0, 0)]),
  (32, [(15, .iload 4, 2, 0, 0, 0, 0, 0), (17, .iadd, 1, 0, 0, 0, 0, 0), (18, .iconst 2, 1, 0, 0, 0, 2, 0), (19, .idiv, 1, 0, 0, 0, 0, 0), (20, .istore 5, 2, 0, 0, 0, 0, 0), (22, .aload_n 0, 1, 0, 0, 0, 0, 0), (23, .getfield 106, 3, 12, 43, 0, 0, 0), (26, .iload 5, 2, 0, 0, 0, 0, 0), (28, .iaload, 1, 0, 0, 0, 0, 0), (29, .ifCond .ne 19, 3, 48, 0, 0, 0, 0)]),
  (48, [(32, .aload_n 0, 1, 0, 0, 0, 0, 0), (33, .getfield 106, 3, 12, 43, 0, 0, 0), (36, .iload 5, 2, 0, 0, 0, 0, 0), (38, .iconst 1, 1, 0, 0, 0, 1, 0), (39, .aload_n 0, 1, 0, 0, 0, 0, 0), (40, .iload 5, 2, 0, 0, 0, 0, 0), (42, .iload_n 2, 1, 0, 0, 0, 0, 0), (43, .invokevirtual 339, 3, 213, 2, 0, 0, 0), (46, .iadd, 1, 0, 0, 0, 0, 0), (47, .iastore, 1, 0, 0, 0, 0, 0)]),
  (64, [(48, .aload_n 0, 1, 0, 0, 0, 0, 0), (49, .getfield 106, 3, 12, 43, 0, 0, 0), (52, .iload 5, 2, 0, 0, 0, 0, 0), (54, .iaload, 1, 0, 0, 0, 0, 0), (55, .iconst 1, 1, 0, 0, 0, 1, 0), (56, .isub, 1, 0, 0, 0, 0, 0), (57, .iload_n 1, 1, 0, 0, 0, 0, 0), (58, .if_icmp .gt 9, 3, 67, 0, 0, 0, 0), (61, .iload 5, 2, 0, 0, 0, 0, 0), (63, .istore_n 3, 1, 0, 0, 0, 0, 0)]),
  (76, [(64, .goto 7, 3, 71, 0, 0, 0, 0), (67, .iload 5, 2, 0, 0, 0, 0, 0), (69, .istore 4, 2, 0, 0, 0, 0, 0), (71, .goto (-65), 3, 6, 0, 0, 0, 0), (74, .iload_n 3, 1, 0, 0, 0, 0, 0), (75, .ireturn, 1, 0, 0, 0, 0, 0)])]
set_option maxRecDepth 100000 in
theorem mx_ok219 : ∀ q ∈ mx_t219, ∀ en ∈ q.2, mx_gd 219 en := mx_gt_s mx_LLok12 mx_KLok12 mx_JLok12 mx_ARok (by decide +kernel)
def mx_t220 : List (Nat × List mx_En) := [(11, [(0, .aload_n 0, 1, 0, 0, 0, 0, 0), (1, .invokevirtual 349, 3, 218, 0, 0, 0, 0), (4, .aload_n 0, 1, 0, 0, 0, 0, 0), (5, .iload_n 1, 1, 0, 0, 0, 0, 0), (6, .iload_n 2, 1, 0, 0, 0, 0, 0), (7, .invokevirtual 352, 3, 219, 2, 0, 0, 0), (10, .ireturn, 1, 0, 0, 0, 0, 0)])]
set_option maxRecDepth 100000 in
theorem mx_ok220 : ∀ q ∈ mx_t220, ∀ en ∈ q.2, mx_gd 220 en := mx_gt_s mx_LLok12 mx_KLok12 mx_JLok12 mx_ARok (by decide +kernel)
def mx_t221 : List (Nat × List mx_En) := [(16, [(0, .aload_n 0, 1, 0, 0, 0, 0, 0), (1, .iload_n 1, 1, 0, 0, 0, 0, 0), (2, .invokevirtual 271, 3, 177, 1, 0, 0, 0), (5, .ifCond .eq 28, 3, 33, 0, 0, 0, 0), (8, .iload_n 2, 1, 0, 0, 0, 0, 0), (9, .iconst 0, 1, 0, 0, 0, 0, 0), (10, .aload_n 0, 1, 0, 0, 0, 0, 0), (11, .iload_n 1, 1, 0, 0, 0, 0, 0), (12, .invokevirtual 280, 3, 195, 1, 0, 0, 0), (15, .iconst 1, 1, 0, 0, 0, 1, 0)]),
  (35, [(16, .isub, 1, 0, 0, 0, 0, 0), (17, .invokestatic 203, 3, 173, 3, 0, 0, 0), (20, .ifCond .eq 13, 3, 33, 0, 0, 0, 0), (23, .iload_n 3, 1, 0, 0, 0, 0, 0), (24, .iconst 1, 1, 0, 0, 0, 1, 0), (25, .bipush 9, 2, 0, 0, 0, 9, 0), (27, .invokestatic 203, 3, 173, 3, 0, 0, 0), (30, .ifCond .ne 5, 3, 35, 0, 0, 0, 0), (33, .iconst (-1), 1, 0, 0, 0, -1, 0), (34, .ireturn, 1, 0, 0, 0, 0, 0)]),
  (47, [(35, .aload_n 0, 1, 0, 0, 0, 0, 0), (36, .iload_n 1, 1, 0, 0, 0, 0, 0), (37, .invokevirtual 336, 3, 208, 1, 0, 0, 0), (40, .aload_n 0, 1, 0, 0, 0, 0, 0), (41, .iload_n 2, 1, 0, 0, 0, 0, 0), (42, .iload_n 3, 1, 0, 0, 0, 0, 0), (43, .invokevirtual 355, 3, 220, 2, 0, 0, 0), (46, .ireturn, 1, 0, 0, 0, 0, 0)])]
set_option maxRecDepth 100000 in
theorem mx_ok221 : ∀ q ∈ mx_t221, ∀ en ∈ q.2, mx_gd 221 en := mx_gt_s mx_LLok12 mx_KLok12 mx_JLok12 mx_ARok (by decide +kernel)
def mx_t222 : List (Nat × List mx_En) := [(18, [(0, .aload_n 0, 1, 0, 0, 0, 0, 0), (1, .iload_n 1, 1, 0, 0, 0, 0, 0), (2, .invokevirtual 271, 3, 177, 1, 0, 0, 0), (5, .ifCond .eq 33, 3, 38, 0, 0, 0, 0), (8, .aload_n 0, 1, 0, 0, 0, 0, 0), (9, .iload_n 1, 1, 0, 0, 0, 0, 0), (10, .iload_n 2, 1, 0, 0, 0, 0, 0), (11, .invokevirtual 234, 3, 178, 2, 0, 0, 0), (14, .ifCond .eq 24, 3, 38, 0, 0, 0, 0), (17, .aload_n 0, 1, 0, 0, 0, 0, 0)]),
  (35, [(18, .getfield 22, 3, 12, 6, 0, 0, 0), (21, .bipush 6, 2, 0, 0, 0, 6, 0), (23, .iload_n 1, 1, 0, 0, 0, 0, 0), (24, .imul, 1, 0, 0, 0, 0, 0), (25, .iload_n 2, 1, 0, 0, 0, 0, 0), (26, .iadd, 1, 0, 0, 0, 0, 0), (27, .baload, 1, 0, 0, 0, 0, 0), (28, .ifCond .ne 10, 3, 38, 0, 0, 0, 0), (31, .iload_n 3, 1, 0, 0, 0, 0, 0), (32, .invokestatic 333, 3, 215, 1, 0, 0, 0)]),
  (50, [(35, .ifCond .ne 5, 3, 40, 0, 0, 0, 0), (38, .iconst (-1), 1, 0, 0, 0, -1, 0), (39, .ireturn, 1, 0, 0, 0, 0, 0), (40, .aload_n 0, 1, 0, 0, 0, 0, 0), (41, .iload_n 1, 1, 0, 0, 0, 0, 0), (42, .invokevirtual 336, 3, 208, 1, 0, 0, 0), (45, .aload_n 0, 1, 0, 0, 0, 0, 0), (46, .iload_n 3, 1, 0, 0, 0, 0, 0), (47, .bipush 10, 2, 0, 0, 0, 10, 0), (49, .idiv, 1, 0, 0, 0, 0, 0)]),
  (66, [(50, .iload_n 3, 1, 0, 0, 0, 0, 0), (51, .bipush 10, 2, 0, 0, 0, 10, 0), (53, .irem, 1, 0, 0, 0, 0, 0), (54, .invokevirtual 342, 3, 214, 2, 0, 0, 0), (57, .istore 4, 2, 0, 0, 0, 0, 0), (59, .aload_n 0, 1, 0, 0, 0, 0, 0), (60, .getfield 84, 3, 12, 33, 0, 0, 0), (63, .iload_n 2, 1, 0, 0, 0, 0, 0), (64, .iconst 1, 1, 0, 0, 0, 1, 0), (65, .bastore, 1, 0, 0, 0, 0, 0)]),
  (83, [(66, .iload 4, 2, 0, 0, 0, 0, 0), (68, .ifCond .le 24, 3, 92, 0, 0, 0, 0), (71, .aload_n 0, 1, 0, 0, 0, 0, 0), (72, .iload_n 3, 1, 0, 0, 0, 0, 0), (73, .bipush 10, 2, 0, 0, 0, 10, 0), (75, .idiv, 1, 0, 0, 0, 0, 0), (76, .iload_n 3, 1, 0, 0, 0, 0, 0), (77, .bipush 10, 2, 0, 0, 0, 10, 0), (79, .irem, 1, 0, 0, 0, 0, 0), (80, .invokevirtual 342, 3, 214, 2, 0, 0, 0)]),
  (94, [(83, .iload 4, 2, 0, 0, 0, 0, 0), (85, .if_icmp .lt 7, 3, 92, 0, 0, 0, 0), (88, .iconst 1, 1, 0, 0, 0, 1, 0), (89, .goto 4, 3, 93, 0, 0, 0, 0), (92, .iconst 0, 1, 0, 0, 0, 0, 0), (93, .ireturn, 1, 0, 0, 0, 0, 0)])]
set_option maxRecDepth 100000 in
theorem mx_ok222 : ∀ q ∈ mx_t222, ∀ en ∈ q.2, mx_gd 222 en := mx_gt_s mx_LLok12 mx_KLok12 mx_JLok12 mx_ARok (by decide +kernel)
def mx_t223_0 : List (Nat × List mx_En) := [(16, [(0, .aload_n 0, 1, 0, 0, 0, 0, 0), (1, .iload_n 1, 1, 0, 0, 0, 0, 0), (2, .invokevirtual 271, 3, 177, 1, 0, 0, 0), (5, .ifCond .eq 54, 3, 59, 0, 0, 0, 0), (8, .iload_n 2, 1, 0, 0, 0, 0, 0), (9, .iconst 0, 1, 0, 0, 0, 0, 0), (10, .aload_n 0, 1, 0, 0, 0, 0, 0), (11, .iload_n 1, 1, 0, 0, 0, 0, 0), (12, .invokevirtual 280, 3, 195, 1, 0, 0, 0), (15, .iconst 1, 1, 0, 0, 0, 1, 0)]),
  (38, [(16, .isub, 1, 0, 0, 0, 0, 0), (17, .invokestatic 203, 3, 173, 3, 0, 0, 0), (20, .ifCond .eq 39, 3, 59, 0, 0, 0, 0), (23, .iload_n 3, 1, 0, 0, 0, 0, 0), (24, .iconst 1, 1, 0, 0, 0, 1, 0), (25, .bipush 9, 2, 0, 0, 0, 9, 0), (27, .invokestatic 203, 3, 173, 3, 0, 0, 0), (30, .ifCond .eq 29, 3, 59, 0, 0, 0, 0), (33, .iload 4, 2, 0, 0, 0, 0, 0), (35, .ifCond .lt 24, 3, 59, 0, 0, 0, 0)]),
  (56, [(38, .aload_n 0, 1, 0, 0, 0, 0, 0), (39, .iload_n 1, 1, 0, 0, 0, 0, 0), (40, .iload 4, 2, 0, 0, 0, 0, 0), (42, .bipush 10, 2, 0, 0, 0, 10, 0), (44, .idiv, 1, 0, 0, 0, 0, 0), (45, .invokevirtual 234, 3, 178, 2, 0, 0, 0), (48, .ifCond .eq 11, 3, 59, 0, 0, 0, 0), (51, .iload 4, 2, 0, 0, 0, 0, 0), (53, .bipush 10, 2, 0, 0, 0, 10, 0), (55, .irem, 1, 0, 0, 0, 0, 0)]),
  (74, [(56, .ifCond .ne 5, 3, 61, 0, 0, 0, 0), (59, .iconst (-1), 1, 0, 0, 0, -1, 0), (60, .ireturn, 1, 0, 0, 0, 0, 0), (61, .iload 4, 2, 0, 0, 0, 0, 0), (63, .bipush 10, 2, 0, 0, 0, 10, 0), (65, .idiv, 1, 0, 0, 0, 0, 0), (66, .istore 5, 2, 0, 0, 0, 0, 0), (68, .aload_n 0, 1, 0, 0, 0, 0, 0), (69, .getfield 22, 3, 12, 6, 0, 0, 0), (72, .bipush 6, 2, 0, 0, 0, 6, 0)]),
  (90, [(74, .iload_n 1, 1, 0, 0, 0, 0, 0), (75, .imul, 1, 0, 0, 0, 0, 0), (76, .iload 5, 2, 0, 0, 0, 0, 0), (78, .iadd, 1, 0, 0, 0, 0, 0), (79, .baload, 1, 0, 0, 0, 0, 0), (80, .ifCond .ne 18, 3, 98, 0, 0, 0, 0), (83, .aload_n 0, 1, 0, 0, 0, 0, 0), (84, .getfield 19, 3, 12, 5, 0, 0, 0), (87, .bipush 6, 2, 0, 0, 0, 6, 0), (89, .iload_n 1, 1, 0, 0, 0, 0, 0)])]
set_option maxRecDepth 100000 in
theorem mx_ok223_0 : ∀ q ∈ mx_t223_0, ∀ en ∈ q.2, mx_gd 223 en := mx_gt_s mx_LLok12 mx_KLok12 mx_JLok12 mx_ARok (by decide +kernel)
def mx_t223_1 : List (Nat × List mx_En) := [(106, [(90, .imul, 1, 0, 0, 0, 0, 0), (91, .iload 5, 2, 0, 0, 0, 0, 0), (93, .iadd, 1, 0, 0, 0, 0, 0), (94, .iaload, 1, 0, 0, 0, 0, 0), (95, .ifCond .le 6, 3, 101, 0, 0, 0, 0), (98, .bipush (-4), 2, 0, 0, 0, -4, 0), (100, .ireturn, 1, 0, 0, 0, 0, 0), (101, .aload_n 0, 1, 0, 0, 0, 0, 0), (102, .iload_n 1, 1, 0, 0, 0, 0, 0), (103, .invokevirtual 336, 3, 208, 1, 0, 0, 0)]),
  (124, [(106, .aload_n 0, 1, 0, 0, 0, 0, 0), (107, .invokevirtual 349, 3, 218, 0, 0, 0, 0), (110, .aload_n 0, 1, 0, 0, 0, 0, 0), (111, .iload_n 1, 1, 0, 0, 0, 0, 0), (112, .invokevirtual 280, 3, 195, 1, 0, 0, 0), (115, .istore 6, 2, 0, 0, 0, 0, 0), (117, .iconst 0, 1, 0, 0, 0, 0, 0), (118, .istore 7, 2, 0, 0, 0, 0, 0), (120, .iload 7, 2, 0, 0, 0, 0, 0), (122, .iload 6, 2, 0, 0, 0, 0, 0)]),
  (144, [(124, .if_icmp .ge 23, 3, 147, 0, 0, 0, 0), (127, .aload_n 0, 1, 0, 0, 0, 0, 0), (128, .getfield 109, 3, 12, 44, 0, 0, 0), (131, .iload 7, 2, 0, 0, 0, 0, 0), (133, .aload_n 0, 1, 0, 0, 0, 0, 0), (134, .iload 7, 2, 0, 0, 0, 0, 0), (136, .iload_n 3, 1, 0, 0, 0, 0, 0), (137, .invokevirtual 352, 3, 219, 2, 0, 0, 0), (140, .iastore, 1, 0, 0, 0, 0, 0), (141, .iinc 7 1, 3, 0, 0, 0, 1, 0)]),
  (163, [(144, .goto (-24), 3, 120, 0, 0, 0, 0), (147, .aload_n 0, 1, 0, 0, 0, 0, 0), (148, .getfield 78, 3, 12, 31, 0, 0, 0), (151, .iload 5, 2, 0, 0, 0, 0, 0), (153, .aload_n 0, 1, 0, 0, 0, 0, 0), (154, .getfield 13, 3, 12, 3, 0, 0, 0), (157, .bipush 6, 2, 0, 0, 0, 6, 0), (159, .iload_n 1, 1, 0, 0, 0, 0, 0), (160, .imul, 1, 0, 0, 0, 0, 0), (161, .iload 5, 2, 0, 0, 0, 0, 0)]),
  (179, [(163, .iadd, 1, 0, 0, 0, 0, 0), (164, .iaload, 1, 0, 0, 0, 0, 0), (165, .iload 4, 2, 0, 0, 0, 0, 0), (167, .bipush 10, 2, 0, 0, 0, 10, 0), (169, .irem, 1, 0, 0, 0, 0, 0), (170, .invokestatic 310, 3, 207, 2, 0, 0, 0), (173, .iastore, 1, 0, 0, 0, 0, 0), (174, .aload_n 0, 1, 0, 0, 0, 0, 0), (175, .invokevirtual 349, 3, 218, 0, 0, 0, 0), (178, .iconst 0, 1, 0, 0, 0, 0, 0)])]
set_option maxRecDepth 100000 in
theorem mx_ok223_1 : ∀ q ∈ mx_t223_1, ∀ en ∈ q.2, mx_gd 223 en := mx_gt_s mx_LLok12 mx_KLok12 mx_JLok12 mx_ARok (by decide +kernel)
def mx_t223_2 : List (Nat × List mx_En) := [(199, [(179, .istore 7, 2, 0, 0, 0, 0, 0), (181, .iconst 0, 1, 0, 0, 0, 0, 0), (182, .istore 8, 2, 0, 0, 0, 0, 0), (184, .iload 8, 2, 0, 0, 0, 0, 0), (186, .iload 6, 2, 0, 0, 0, 0, 0), (188, .if_icmp .ge 52, 3, 240, 0, 0, 0, 0), (191, .iload 7, 2, 0, 0, 0, 0, 0), (193, .aload_n 0, 1, 0, 0, 0, 0, 0), (194, .getfield 109, 3, 12, 44, 0, 0, 0), (197, .iload 8, 2, 0, 0, 0, 0, 0)]),
  (216, [(199, .iaload, 1, 0, 0, 0, 0, 0), (200, .aload_n 0, 1, 0, 0, 0, 0, 0), (201, .getfield 109, 3, 12, 44, 0, 0, 0), (204, .iload_n 2, 1, 0, 0, 0, 0, 0), (205, .iaload, 1, 0, 0, 0, 0, 0), (206, .if_icmp .ne 24, 3, 230, 0, 0, 0, 0), (209, .aload_n 0, 1, 0, 0, 0, 0, 0), (210, .iload 8, 2, 0, 0, 0, 0, 0), (212, .iload_n 3, 1, 0, 0, 0, 0, 0), (213, .invokevirtual 352, 3, 219, 2, 0, 0, 0)]),
  (234, [(216, .aload_n 0, 1, 0, 0, 0, 0, 0), (217, .getfield 109, 3, 12, 44, 0, 0, 0), (220, .iload 8, 2, 0, 0, 0, 0, 0), (222, .iaload, 1, 0, 0, 0, 0, 0), (223, .if_icmp .eq 7, 3, 230, 0, 0, 0, 0), (226, .iconst 1, 1, 0, 0, 0, 1, 0), (227, .goto 4, 3, 231, 0, 0, 0, 0), (230, .iconst 0, 1, 0, 0, 0, 0, 0), (231, .iadd, 1, 0, 0, 0, 0, 0), (232, .istore 7, 2, 0, 0, 0, 0, 0)]),
  (243, [(234, .iinc 8 1, 3, 0, 0, 0, 1, 0), (237, .goto (-53), 3, 184, 0, 0, 0, 0), (240, .iload 7, 2, 0, 0, 0, 0, 0), (242, .ireturn, 1, 0, 0, 0, 0, 0)])]
set_option maxRecDepth 100000 in
theorem mx_ok223_2 : ∀ q ∈ mx_t223_2, ∀ en ∈ q.2, mx_gd 223 en := mx_gt_s mx_LLok12 mx_KLok12 mx_JLok12 mx_ARok (by decide +kernel)
def mx_t223 : List (Nat × List mx_En) := mx_t223_0 ++ (mx_t223_1 ++ (mx_t223_2))
theorem mx_ok223 : ∀ q ∈ mx_t223, ∀ en ∈ q.2, mx_gd 223 en := (fun q h => (List.mem_append.mp h).elim (mx_ok223_0 q) ((fun q h => (List.mem_append.mp h).elim (mx_ok223_1 q) (mx_ok223_2 q)) q))
def mx_t224_0 : List (Nat × List mx_En) := [(16, [(0, .aload_n 0, 1, 0, 0, 0, 0, 0), (1, .iload_n 1, 1, 0, 0, 0, 0, 0), (2, .invokevirtual 271, 3, 177, 1, 0, 0, 0), (5, .ifCond .eq 49, 3, 54, 0, 0, 0, 0), (8, .iload_n 2, 1, 0, 0, 0, 0, 0), (9, .iconst 0, 1, 0, 0, 0, 0, 0), (10, .aload_n 0, 1, 0, 0, 0, 0, 0), (11, .iload_n 1, 1, 0, 0, 0, 0, 0), (12, .invokevirtual 280, 3, 195, 1, 0, 0, 0), (15, .iconst 1, 1, 0, 0, 0, 1, 0)]),
  (36, [(16, .isub, 1, 0, 0, 0, 0, 0), (17, .invokestatic 203, 3, 173, 3, 0, 0, 0), (20, .ifCond .eq 34, 3, 54, 0, 0, 0, 0), (23, .iload_n 3, 1, 0, 0, 0, 0, 0), (24, .iconst 1, 1, 0, 0, 0, 1, 0), (25, .bipush 9, 2, 0, 0, 0, 9, 0), (27, .invokestatic 203, 3, 173, 3, 0, 0, 0), (30, .ifCond .eq 24, 3, 54, 0, 0, 0, 0), (33, .iload 4, 2, 0, 0, 0, 0, 0), (35, .iconst 0, 1, 0, 0, 0, 0, 0)]),
  (56, [(36, .bipush 8, 2, 0, 0, 0, 8, 0), (38, .invokestatic 203, 3, 173, 3, 0, 0, 0), (41, .ifCond .eq 13, 3, 54, 0, 0, 0, 0), (44, .iload 5, 2, 0, 0, 0, 0, 0), (46, .iconst 0, 1, 0, 0, 0, 0, 0), (47, .iconst 1, 1, 0, 0, 0, 1, 0), (48, .invokestatic 203, 3, 173, 3, 0, 0, 0), (51, .ifCond .ne 5, 3, 56, 0, 0, 0, 0), (54, .iconst (-1), 1, 0, 0, 0, -1, 0), (55, .ireturn, 1, 0, 0, 0, 0, 0)]),
  (74, [(56, .aload_n 0, 1, 0, 0, 0, 0, 0), (57, .iload_n 1, 1, 0, 0, 0, 0, 0), (58, .invokevirtual 336, 3, 208, 1, 0, 0, 0), (61, .iconst 0, 1, 0, 0, 0, 0, 0), (62, .istore 6, 2, 0, 0, 0, 0, 0), (64, .iload 6, 2, 0, 0, 0, 0, 0), (66, .aload_n 0, 1, 0, 0, 0, 0, 0), (67, .getfield 307, 3, 12, 35, 0, 0, 0), (70, .if_icmp .ge 205, 3, 275, 0, 0, 0, 0), (73, .aload_n 0, 1, 0, 0, 0, 0, 0)]),
  (92, [(74, .getfield 13, 3, 12, 3, 0, 0, 0), (77, .bipush 6, 2, 0, 0, 0, 6, 0), (79, .iload_n 1, 1, 0, 0, 0, 0, 0), (80, .imul, 1, 0, 0, 0, 0, 0), (81, .iload 6, 2, 0, 0, 0, 0, 0), (83, .iadd, 1, 0, 0, 0, 0, 0), (84, .iaload, 1, 0, 0, 0, 0, 0), (85, .iload 5, 2, 0, 0, 0, 0, 0), (87, .ifCond .ne 8, 3, 95, 0, 0, 0, 0), (90, .iload 4, 2, 0, 0, 0, 0, 0)])]
set_option maxRecDepth 100000 in
theorem mx_ok224_0 : ∀ q ∈ mx_t224_0, ∀ en ∈ q.2, mx_gd 224 en := mx_gt_s mx_LLok12 mx_KLok12 mx_JLok12 mx_ARok (by decide +kernel)
def mx_t224_1 : List (Nat × List mx_En) := [(110, [(92, .goto 6, 3, 98, 0, 0, 0, 0), (95, .iload 4, 2, 0, 0, 0, 0, 0), (97, .ineg, 1, 0, 0, 0, 0, 0), (98, .iadd, 1, 0, 0, 0, 0, 0), (99, .istore 7, 2, 0, 0, 0, 0, 0), (101, .aload_n 0, 1, 0, 0, 0, 0, 0), (102, .getfield 78, 3, 12, 31, 0, 0, 0), (105, .iload 6, 2, 0, 0, 0, 0, 0), (107, .iload 7, 2, 0, 0, 0, 0, 0), (109, .iconst 1, 1, 0, 0, 0, 1, 0)]),
  (132, [(110, .if_icmp .ge 7, 3, 117, 0, 0, 0, 0), (113, .iconst 1, 1, 0, 0, 0, 1, 0), (114, .goto 17, 3, 131, 0, 0, 0, 0), (117, .iload 7, 2, 0, 0, 0, 0, 0), (119, .bipush 9, 2, 0, 0, 0, 9, 0), (121, .if_icmp .le 8, 3, 129, 0, 0, 0, 0), (124, .bipush 9, 2, 0, 0, 0, 9, 0), (126, .goto 5, 3, 131, 0, 0, 0, 0), (129, .iload 7, 2, 0, 0, 0, 0, 0), (131, .aload_n 0, 1, 0, 0, 0, 0, 0)]),
  (148, [(132, .getfield 19, 3, 12, 5, 0, 0, 0), (135, .bipush 6, 2, 0, 0, 0, 6, 0), (137, .iload_n 1, 1, 0, 0, 0, 0, 0), (138, .imul, 1, 0, 0, 0, 0, 0), (139, .iload 6, 2, 0, 0, 0, 0, 0), (141, .iadd, 1, 0, 0, 0, 0, 0), (142, .iaload, 1, 0, 0, 0, 0, 0), (143, .invokestatic 310, 3, 207, 2, 0, 0, 0), (146, .iastore, 1, 0, 0, 0, 0, 0), (147, .iconst 0, 1, 0, 0, 0, 0, 0)]),
  (168, [(148, .istore 8, 2, 0, 0, 0, 0, 0), (150, .iload 8, 2, 0, 0, 0, 0, 0), (152, .aload_n 0, 1, 0, 0, 0, 0, 0), (153, .getfield 307, 3, 12, 35, 0, 0, 0), (156, .if_icmp .ge 113, 3, 269, 0, 0, 0, 0), (159, .aload_n 0, 1, 0, 0, 0, 0, 0), (160, .iload_n 1, 1, 0, 0, 0, 0, 0), (161, .iload 6, 2, 0, 0, 0, 0, 0), (163, .iload 8, 2, 0, 0, 0, 0, 0), (165, .invokevirtual 211, 3, 180, 3, 0, 0, 0)]),
  (189, [(168, .ifCond .ne 6, 3, 174, 0, 0, 0, 0), (171, .goto 92, 3, 263, 0, 0, 0, 0), (174, .aload_n 0, 1, 0, 0, 0, 0, 0), (175, .getfield 26, 3, 12, 7, 0, 0, 0), (178, .iload_n 1, 1, 0, 0, 0, 0, 0), (179, .iload 6, 2, 0, 0, 0, 0, 0), (181, .iload 8, 2, 0, 0, 0, 0, 0), (183, .invokestatic 207, 3, 179, 3, 0, 0, 0), (186, .iaload, 1, 0, 0, 0, 0, 0), (187, .iload 5, 2, 0, 0, 0, 0, 0)])]
set_option maxRecDepth 100000 in
theorem mx_ok224_1 : ∀ q ∈ mx_t224_1, ∀ en ∈ q.2, mx_gd 224 en := mx_gt_s mx_LLok12 mx_KLok12 mx_JLok12 mx_ARok (by decide +kernel)
def mx_t224_2 : List (Nat × List mx_En) := [(209, [(189, .ifCond .ne 9, 3, 198, 0, 0, 0, 0), (192, .iload 4, 2, 0, 0, 0, 0, 0), (194, .ineg, 1, 0, 0, 0, 0, 0), (195, .goto 5, 3, 200, 0, 0, 0, 0), (198, .iload 4, 2, 0, 0, 0, 0, 0), (200, .iadd, 1, 0, 0, 0, 0, 0), (201, .istore 9, 2, 0, 0, 0, 0, 0), (203, .iload 9, 2, 0, 0, 0, 0, 0), (205, .iconst 1, 1, 0, 0, 0, 1, 0), (206, .if_icmp .ge 7, 3, 213, 0, 0, 0, 0)]),
  (230, [(209, .iconst 1, 1, 0, 0, 0, 1, 0), (210, .goto 17, 3, 227, 0, 0, 0, 0), (213, .iload 9, 2, 0, 0, 0, 0, 0), (215, .bipush 9, 2, 0, 0, 0, 9, 0), (217, .if_icmp .le 8, 3, 225, 0, 0, 0, 0), (220, .bipush 9, 2, 0, 0, 0, 9, 0), (222, .goto 5, 3, 227, 0, 0, 0, 0), (225, .iload 9, 2, 0, 0, 0, 0, 0), (227, .istore 9, 2, 0, 0, 0, 0, 0), (229, .aload_n 0, 1, 0, 0, 0, 0, 0)]),
  (249, [(230, .getfield 87, 3, 12, 34, 0, 0, 0), (233, .bipush 6, 2, 0, 0, 0, 6, 0), (235, .iload 6, 2, 0, 0, 0, 0, 0), (237, .imul, 1, 0, 0, 0, 0, 0), (238, .iload 8, 2, 0, 0, 0, 0, 0), (240, .iadd, 1, 0, 0, 0, 0, 0), (241, .iload 9, 2, 0, 0, 0, 0, 0), (243, .iload 9, 2, 0, 0, 0, 0, 0), (245, .aload_n 0, 1, 0, 0, 0, 0, 0), (246, .getfield 29, 3, 12, 8, 0, 0, 0)]),
  (269, [(249, .iload_n 1, 1, 0, 0, 0, 0, 0), (250, .iload 6, 2, 0, 0, 0, 0, 0), (252, .iload 8, 2, 0, 0, 0, 0, 0), (254, .invokestatic 207, 3, 179, 3, 0, 0, 0), (257, .iaload, 1, 0, 0, 0, 0, 0), (258, .invokestatic 300, 3, 174, 2, 0, 0, 0), (261, .isub, 1, 0, 0, 0, 0, 0), (262, .iastore, 1, 0, 0, 0, 0, 0), (263, .iinc 8 1, 3, 0, 0, 0, 1, 0), (266, .goto (-116), 3, 150, 0, 0, 0, 0)]),
  (282, [(269, .iinc 6 1, 3, 0, 0, 0, 1, 0), (272, .goto (-208), 3, 64, 0, 0, 0, 0), (275, .aload_n 0, 1, 0, 0, 0, 0, 0), (276, .iload_n 2, 1, 0, 0, 0, 0, 0), (277, .iload_n 3, 1, 0, 0, 0, 0, 0), (278, .invokevirtual 355, 3, 220, 2, 0, 0, 0), (281, .ireturn, 1, 0, 0, 0, 0, 0)])]
set_option maxRecDepth 100000 in
theorem mx_ok224_2 : ∀ q ∈ mx_t224_2, ∀ en ∈ q.2, mx_gd 224 en := mx_gt_s mx_LLok12 mx_KLok12 mx_JLok12 mx_ARok (by decide +kernel)
def mx_t224 : List (Nat × List mx_En) := mx_t224_0 ++ (mx_t224_1 ++ (mx_t224_2))
theorem mx_ok224 : ∀ q ∈ mx_t224, ∀ en ∈ q.2, mx_gd 224 en := (fun q h => (List.mem_append.mp h).elim (mx_ok224_0 q) ((fun q h => (List.mem_append.mp h).elim (mx_ok224_1 q) (mx_ok224_2 q)) q))
end
section
def mx_t225 : List (Nat × List mx_En) := [(13, [(0, .aload_n 0, 1, 0, 0, 0, 0, 0), (1, .getfield 87, 3, 12, 34, 0, 0, 0), (4, .bipush 6, 2, 0, 0, 0, 6, 0), (6, .iload_n 1, 1, 0, 0, 0, 0, 0), (7, .imul, 1, 0, 0, 0, 0, 0), (8, .iload_n 2, 1, 0, 0, 0, 0, 0), (9, .iadd, 1, 0, 0, 0, 0, 0), (10, .iload_n 3, 1, 0, 0, 0, 0, 0), (11, .iastore, 1, 0, 0, 0, 0, 0), (12, .aload_n 0, 1, 0, 0, 0, 0, 0)]),
  (25, [(13, .getfield 87, 3, 12, 34, 0, 0, 0), (16, .bipush 6, 2, 0, 0, 0, 6, 0), (18, .iload_n 2, 1, 0, 0, 0, 0, 0), (19, .imul, 1, 0, 0, 0, 0, 0), (20, .iload_n 1, 1, 0, 0, 0, 0, 0), (21, .iadd, 1, 0, 0, 0, 0, 0), (22, .iload_n 3, 1, 0, 0, 0, 0, 0), (23, .iastore, 1, 0, 0, 0, 0, 0), (24, .return_, 1, 0, 0, 0, 0, 0)])]
set_option maxRecDepth 100000 in
theorem mx_ok225 : ∀ q ∈ mx_t225, ∀ en ∈ q.2, mx_gd 225 en := mx_gt_s mx_LLok12 mx_KLok12 mx_JLok12 mx_ARok (by decide +kernel)
def mx_t226 : List (Nat × List mx_En) := [(16, [(0, .aload_n 0, 1, 0, 0, 0, 0, 0), (1, .iload_n 1, 1, 0, 0, 0, 0, 0), (2, .invokevirtual 271, 3, 177, 1, 0, 0, 0), (5, .ifCond .eq 38, 3, 43, 0, 0, 0, 0), (8, .iload_n 2, 1, 0, 0, 0, 0, 0), (9, .iconst 0, 1, 0, 0, 0, 0, 0), (10, .aload_n 0, 1, 0, 0, 0, 0, 0), (11, .iload_n 1, 1, 0, 0, 0, 0, 0), (12, .invokevirtual 280, 3, 195, 1, 0, 0, 0), (15, .iconst 1, 1, 0, 0, 0, 1, 0)]),
  (36, [(16, .isub, 1, 0, 0, 0, 0, 0), (17, .invokestatic 203, 3, 173, 3, 0, 0, 0), (20, .ifCond .eq 23, 3, 43, 0, 0, 0, 0), (23, .iload_n 3, 1, 0, 0, 0, 0, 0), (24, .iconst 1, 1, 0, 0, 0, 1, 0), (25, .bipush 9, 2, 0, 0, 0, 9, 0), (27, .invokestatic 203, 3, 173, 3, 0, 0, 0), (30, .ifCond .eq 13, 3, 43, 0, 0, 0, 0), (33, .iload 4, 2, 0, 0, 0, 0, 0), (35, .iconst 0, 1, 0, 0, 0, 0, 0)]),
  (52, [(36, .iconst 1, 1, 0, 0, 0, 1, 0), (37, .invokestatic 203, 3, 173, 3, 0, 0, 0), (40, .ifCond .ne 5, 3, 45, 0, 0, 0, 0), (43, .iconst (-1), 1, 0, 0, 0, -1, 0), (44, .ireturn, 1, 0, 0, 0, 0, 0), (45, .aload_n 0, 1, 0, 0, 0, 0, 0), (46, .iload_n 1, 1, 0, 0, 0, 0, 0), (47, .invokevirtual 336, 3, 208, 1, 0, 0, 0), (50, .aload_n 0, 1, 0, 0, 0, 0, 0), (51, .iload_n 2, 1, 0, 0, 0, 0, 0)]),
  (70, [(52, .iload_n 3, 1, 0, 0, 0, 0, 0), (53, .invokevirtual 355, 3, 220, 2, 0, 0, 0), (56, .istore 5, 2, 0, 0, 0, 0, 0), (58, .bipush (-2), 2, 0, 0, 0, -2, 0), (60, .istore 6, 2, 0, 0, 0, 0, 0), (62, .iconst 0, 1, 0, 0, 0, 0, 0), (63, .istore 7, 2, 0, 0, 0, 0, 0), (65, .iconst 0, 1, 0, 0, 0, 0, 0), (66, .istore 8, 2, 0, 0, 0, 0, 0), (68, .iload 8, 2, 0, 0, 0, 0, 0)]),
  (88, [(70, .aload_n 0, 1, 0, 0, 0, 0, 0), (71, .getfield 261, 3, 12, 12, 0, 0, 0), (74, .if_icmp .ge 122, 3, 196, 0, 0, 0, 0), (77, .aload_n 0, 1, 0, 0, 0, 0, 0), (78, .getfield 44, 3, 12, 14, 0, 0, 0), (81, .iload 8, 2, 0, 0, 0, 0, 0), (83, .iaload, 1, 0, 0, 0, 0, 0), (84, .iconst 1, 1, 0, 0, 0, 1, 0), (85, .isub, 1, 0, 0, 0, 0, 0), (86, .istore 9, 2, 0, 0, 0, 0, 0)]),
  (109, [(88, .iload 9, 2, 0, 0, 0, 0, 0), (90, .ifCond .lt 100, 3, 190, 0, 0, 0, 0), (93, .iload 9, 2, 0, 0, 0, 0, 0), (95, .bipush 36, 2, 0, 0, 0, 36, 0), (97, .idiv, 1, 0, 0, 0, 0, 0), (98, .iload_n 1, 1, 0, 0, 0, 0, 0), (99, .if_icmp .eq 6, 3, 105, 0, 0, 0, 0), (102, .goto 88, 3, 190, 0, 0, 0, 0), (105, .iload 9, 2, 0, 0, 0, 0, 0), (107, .bipush 6, 2, 0, 0, 0, 6, 0)]),
  (126, [(109, .idiv, 1, 0, 0, 0, 0, 0), (110, .bipush 6, 2, 0, 0, 0, 6, 0), (112, .irem, 1, 0, 0, 0, 0, 0), (113, .istore 10, 2, 0, 0, 0, 0, 0), (115, .iload 9, 2, 0, 0, 0, 0, 0), (117, .bipush 6, 2, 0, 0, 0, 6, 0), (119, .irem, 1, 0, 0, 0, 0, 0), (120, .istore 11, 2, 0, 0, 0, 0, 0), (122, .aload_n 0, 1, 0, 0, 0, 0, 0), (123, .getfield 87, 3, 12, 34, 0, 0, 0)]),
  (142, [(126, .bipush 6, 2, 0, 0, 0, 6, 0), (128, .iload 10, 2, 0, 0, 0, 0, 0), (130, .imul, 1, 0, 0, 0, 0, 0), (131, .iload 11, 2, 0, 0, 0, 0, 0), (133, .iadd, 1, 0, 0, 0, 0, 0), (134, .iaload, 1, 0, 0, 0, 0, 0), (135, .istore 12, 2, 0, 0, 0, 0, 0), (137, .aload_n 0, 1, 0, 0, 0, 0, 0), (138, .iload 10, 2, 0, 0, 0, 0, 0), (140, .iload 11, 2, 0, 0, 0, 0, 0)]),
  (158, [(142, .iconst 0, 1, 0, 0, 0, 0, 0), (143, .invokevirtual 358, 3, 225, 3, 0, 0, 0), (146, .iload 5, 2, 0, 0, 0, 0, 0), (148, .aload_n 0, 1, 0, 0, 0, 0, 0), (149, .iload_n 2, 1, 0, 0, 0, 0, 0), (150, .iload_n 3, 1, 0, 0, 0, 0, 0), (151, .invokevirtual 355, 3, 220, 2, 0, 0, 0), (154, .isub, 1, 0, 0, 0, 0, 0), (155, .istore 13, 2, 0, 0, 0, 0, 0), (157, .aload_n 0, 1, 0, 0, 0, 0, 0)]),
  (182, [(158, .iload 10, 2, 0, 0, 0, 0, 0), (160, .iload 11, 2, 0, 0, 0, 0, 0), (162, .iload 12, 2, 0, 0, 0, 0, 0), (164, .invokevirtual 358, 3, 225, 3, 0, 0, 0), (167, .iload 6, 2, 0, 0, 0, 0, 0), (169, .ifCond .lt 13, 3, 182, 0, 0, 0, 0), (172, .iload 13, 2, 0, 0, 0, 0, 0), (174, .iload 7, 2, 0, 0, 0, 0, 0), (176, .if_icmp .gt 6, 3, 182, 0, 0, 0, 0), (179, .goto 11, 3, 190, 0, 0, 0, 0)]),
  (206, [(182, .iload 8, 2, 0, 0, 0, 0, 0), (184, .istore 6, 2, 0, 0, 0, 0, 0), (186, .iload 13, 2, 0, 0, 0, 0, 0), (188, .istore 7, 2, 0, 0, 0, 0, 0), (190, .iinc 8 1, 3, 0, 0, 0, 1, 0), (193, .goto (-125), 3, 68, 0, 0, 0, 0), (196, .iload 4, 2, 0, 0, 0, 0, 0), (198, .ifCond .ne 8, 3, 206, 0, 0, 0, 0), (201, .iload 6, 2, 0, 0, 0, 0, 0), (203, .goto 5, 3, 208, 0, 0, 0, 0)]),
  (209, [(206, .iload 7, 2, 0, 0, 0, 0, 0), (208, .ireturn, 1, 0, 0, 0, 0, 0)])]
set_option maxRecDepth 100000 in
theorem mx_ok226 : ∀ q ∈ mx_t226, ∀ en ∈ q.2, mx_gd 226 en := mx_gt_s mx_LLok12 mx_KLok12 mx_JLok12 mx_ARok (by decide +kernel)
def mx_t227 : List (Nat × List mx_En) := [(14, [(0, .bipush 6, 2, 0, 0, 0, 6, 0), (2, .iload_n 1, 1, 0, 0, 0, 0, 0), (3, .imul, 1, 0, 0, 0, 0, 0), (4, .iload_n 2, 1, 0, 0, 0, 0, 0), (5, .iadd, 1, 0, 0, 0, 0, 0), (6, .istore 5, 2, 0, 0, 0, 0, 0), (8, .bipush 6, 2, 0, 0, 0, 6, 0), (10, .iload_n 3, 1, 0, 0, 0, 0, 0), (11, .imul, 1, 0, 0, 0, 0, 0), (12, .iload 4, 2, 0, 0, 0, 0, 0)]),
  (31, [(14, .iadd, 1, 0, 0, 0, 0, 0), (15, .istore 6, 2, 0, 0, 0, 0, 0), (17, .aload_n 0, 1, 0, 0, 0, 0, 0), (18, .getfield 13, 3, 12, 3, 0, 0, 0), (21, .iload 5, 2, 0, 0, 0, 0, 0), (23, .iaload, 1, 0, 0, 0, 0, 0), (24, .aload_n 0, 1, 0, 0, 0, 0, 0), (25, .getfield 13, 3, 12, 3, 0, 0, 0), (28, .iload 6, 2, 0, 0, 0, 0, 0), (30, .iaload, 1, 0, 0, 0, 0, 0)]),
  (51, [(31, .if_icmp .ne 58, 3, 89, 0, 0, 0, 0), (34, .aload_n 0, 1, 0, 0, 0, 0, 0), (35, .getfield 16, 3, 12, 4, 0, 0, 0), (38, .iload 5, 2, 0, 0, 0, 0, 0), (40, .iaload, 1, 0, 0, 0, 0, 0), (41, .aload_n 0, 1, 0, 0, 0, 0, 0), (42, .getfield 16, 3, 12, 4, 0, 0, 0), (45, .iload 6, 2, 0, 0, 0, 0, 0), (47, .iaload, 1, 0, 0, 0, 0, 0), (48, .if_icmp .ne 41, 3, 89, 0, 0, 0, 0)]),
  (69, [(51, .aload_n 0, 1, 0, 0, 0, 0, 0), (52, .getfield 19, 3, 12, 5, 0, 0, 0), (55, .iload 5, 2, 0, 0, 0, 0, 0), (57, .iaload, 1, 0, 0, 0, 0, 0), (58, .aload_n 0, 1, 0, 0, 0, 0, 0), (59, .getfield 19, 3, 12, 5, 0, 0, 0), (62, .iload 6, 2, 0, 0, 0, 0, 0), (64, .iaload, 1, 0, 0, 0, 0, 0), (65, .if_icmp .ne 24, 3, 89, 0, 0, 0, 0), (68, .aload_n 0, 1, 0, 0, 0, 0, 0)]),
  (89, [(69, .getfield 22, 3, 12, 6, 0, 0, 0), (72, .iload 5, 2, 0, 0, 0, 0, 0), (74, .baload, 1, 0, 0, 0, 0, 0), (75, .aload_n 0, 1, 0, 0, 0, 0, 0), (76, .getfield 22, 3, 12, 6, 0, 0, 0), (79, .iload 6, 2, 0, 0, 0, 0, 0), (81, .baload, 1, 0, 0, 0, 0, 0), (82, .if_icmp .ne 7, 3, 89, 0, 0, 0, 0), (85, .iconst 1, 1, 0, 0, 0, 1, 0), (86, .goto 4, 3, 90, 0, 0, 0, 0)]),
  (91, [(89, .iconst 0, 1, 0, 0, 0, 0, 0), (90, .ireturn, 1, 0, 0, 0, 0, 0)])]
set_option maxRecDepth 100000 in
theorem mx_ok227 : ∀ q ∈ mx_t227, ∀ en ∈ q.2, mx_gd 227 en := mx_gt_s mx_LLok12 mx_KLok12 mx_JLok12 mx_ARok (by decide +kernel)
def mx_t228 : List (Nat × List mx_En) := [(16, [(0, .aload_n 0, 1, 0, 0, 0, 0, 0), (1, .iload_n 1, 1, 0, 0, 0, 0, 0), (2, .iload_n 2, 1, 0, 0, 0, 0, 0), (3, .iload_n 3, 1, 0, 0, 0, 0, 0), (4, .invokevirtual 211, 3, 180, 3, 0, 0, 0), (7, .ifCond .eq 29, 3, 36, 0, 0, 0, 0), (10, .aload_n 0, 1, 0, 0, 0, 0, 0), (11, .getfield 26, 3, 12, 7, 0, 0, 0), (14, .iload_n 1, 1, 0, 0, 0, 0, 0), (15, .iload_n 2, 1, 0, 0, 0, 0, 0)]),
  (32, [(16, .iload_n 3, 1, 0, 0, 0, 0, 0), (17, .invokestatic 207, 3, 179, 3, 0, 0, 0), (20, .iaload, 1, 0, 0, 0, 0, 0), (21, .aload_n 0, 1, 0, 0, 0, 0, 0), (22, .getfield 29, 3, 12, 8, 0, 0, 0), (25, .iload_n 1, 1, 0, 0, 0, 0, 0), (26, .iload_n 2, 1, 0, 0, 0, 0, 0), (27, .iload_n 3, 1, 0, 0, 0, 0, 0), (28, .invokestatic 207, 3, 179, 3, 0, 0, 0), (31, .iaload, 1, 0, 0, 0, 0, 0)]),
  (38, [(32, .isub, 1, 0, 0, 0, 0, 0), (33, .goto 4, 3, 37, 0, 0, 0, 0), (36, .iconst 0, 1, 0, 0, 0, 0, 0), (37, .ireturn, 1, 0, 0, 0, 0, 0)])]
set_option maxRecDepth 100000 in
theorem mx_ok228 : ∀ q ∈ mx_t228, ∀ en ∈ q.2, mx_gd 228 en := mx_gt_s mx_LLok12 mx_KLok12 mx_JLok12 mx_ARok (by decide +kernel)
def mx_t229_0 : List (Nat × List mx_En) := [(16, [(0, .iload_n 3, 1, 0, 0, 0, 0, 0), (1, .aload_n 0, 1, 0, 0, 0, 0, 0), (2, .getfield 7, 3, 12, 2, 0, 0, 0), (5, .iload_n 1, 1, 0, 0, 0, 0, 0), (6, .iaload, 1, 0, 0, 0, 0, 0), (7, .if_icmp .ne 85, 3, 92, 0, 0, 0, 0), (10, .aload_n 0, 1, 0, 0, 0, 0, 0), (11, .dup, 1, 0, 0, 0, 0, 0), (12, .getfield 361, 3, 12, 46, 0, 0, 0), (15, .iconst 1, 1, 0, 0, 0, 1, 0)]),
  (34, [(16, .iadd, 1, 0, 0, 0, 0, 0), (17, .putfield 361, 3, 12, 46, 0, 0, 0), (20, .aload_n 0, 1, 0, 0, 0, 0, 0), (21, .dup, 1, 0, 0, 0, 0, 0), (22, .getfield 364, 3, 12, 47, 0, 0, 0), (25, .iconst 1, 1, 0, 0, 0, 1, 0), (26, .aload_n 0, 1, 0, 0, 0, 0, 0), (27, .getfield 112, 3, 12, 45, 0, 0, 0), (30, .aload_n 0, 1, 0, 0, 0, 0, 0), (31, .getfield 367, 3, 12, 48, 0, 0, 0)]),
  (52, [(34, .iaload, 1, 0, 0, 0, 0, 0), (35, .ishl, 1, 0, 0, 0, 0, 0), (36, .ior, 1, 0, 0, 0, 0, 0), (37, .putfield 364, 3, 12, 47, 0, 0, 0), (40, .aload_n 0, 1, 0, 0, 0, 0, 0), (41, .getfield 370, 3, 12, 49, 0, 0, 0), (44, .ifCond .ne 47, 3, 91, 0, 0, 0, 0), (47, .aload_n 0, 1, 0, 0, 0, 0, 0), (48, .iconst 0, 1, 0, 0, 0, 0, 0), (49, .putfield 374, 3, 12, 50, 0, 0, 0)]),
  (69, [(52, .iconst 0, 1, 0, 0, 0, 0, 0), (53, .istore 5, 2, 0, 0, 0, 0, 0), (55, .iload 5, 2, 0, 0, 0, 0, 0), (57, .iload_n 3, 1, 0, 0, 0, 0, 0), (58, .if_icmp .ge 28, 3, 86, 0, 0, 0, 0), (61, .aload_n 0, 1, 0, 0, 0, 0, 0), (62, .bipush 10, 2, 0, 0, 0, 10, 0), (64, .aload_n 0, 1, 0, 0, 0, 0, 0), (65, .getfield 374, 3, 12, 50, 0, 0, 0), (68, .imul, 1, 0, 0, 0, 0, 0)]),
  (88, [(69, .aload_n 0, 1, 0, 0, 0, 0, 0), (70, .getfield 112, 3, 12, 45, 0, 0, 0), (73, .iload 5, 2, 0, 0, 0, 0, 0), (75, .iaload, 1, 0, 0, 0, 0, 0), (76, .iadd, 1, 0, 0, 0, 0, 0), (77, .putfield 374, 3, 12, 50, 0, 0, 0), (80, .iinc 5 1, 3, 0, 0, 0, 1, 0), (83, .goto (-28), 3, 55, 0, 0, 0, 0), (86, .aload_n 0, 1, 0, 0, 0, 0, 0), (87, .iconst 1, 1, 0, 0, 0, 1, 0)])]
set_option maxRecDepth 100000 in
theorem mx_ok229_0 : ∀ q ∈ mx_t229_0, ∀ en ∈ q.2, mx_gd 229 en := mx_gt_s mx_LLok12 mx_KLok12 mx_JLok12 mx_ARok (by decide +kernel)
def mx_t229_1 : List (Nat × List mx_En) := [(106, [(88, .putfield 370, 3, 12, 49, 0, 0, 0), (91, .return_, 1, 0, 0, 0, 0, 0), (92, .iconst 0, 1, 0, 0, 0, 0, 0), (93, .istore 5, 2, 0, 0, 0, 0, 0), (95, .iload 5, 2, 0, 0, 0, 0, 0), (97, .aload_n 0, 1, 0, 0, 0, 0, 0), (98, .getfield 7, 3, 12, 2, 0, 0, 0), (101, .iload_n 1, 1, 0, 0, 0, 0, 0), (102, .iaload, 1, 0, 0, 0, 0, 0), (103, .if_icmp .ge 122, 3, 225, 0, 0, 0, 0)]),
  (120, [(106, .iload 4, 2, 0, 0, 0, 0, 0), (108, .iload 5, 2, 0, 0, 0, 0, 0), (110, .ishr, 1, 0, 0, 0, 0, 0), (111, .iconst 1, 1, 0, 0, 0, 1, 0), (112, .iand, 1, 0, 0, 0, 0, 0), (113, .iconst 1, 1, 0, 0, 0, 1, 0), (114, .if_icmp .eq 105, 3, 219, 0, 0, 0, 0), (117, .aload_n 0, 1, 0, 0, 0, 0, 0), (118, .iload_n 1, 1, 0, 0, 0, 0, 0), (119, .iload_n 3, 1, 0, 0, 0, 0, 0)]),
  (140, [(120, .iload_n 2, 1, 0, 0, 0, 0, 0), (121, .iload 5, 2, 0, 0, 0, 0, 0), (123, .invokevirtual 377, 3, 227, 4, 0, 0, 0), (126, .ifCond .ne 6, 3, 132, 0, 0, 0, 0), (129, .goto 90, 3, 219, 0, 0, 0, 0), (132, .iconst 1, 1, 0, 0, 0, 1, 0), (133, .istore 6, 2, 0, 0, 0, 0, 0), (135, .iconst 0, 1, 0, 0, 0, 0, 0), (136, .istore 7, 2, 0, 0, 0, 0, 0), (138, .iload 7, 2, 0, 0, 0, 0, 0)]),
  (158, [(140, .iload_n 3, 1, 0, 0, 0, 0, 0), (141, .if_icmp .ge 46, 3, 187, 0, 0, 0, 0), (144, .iload 6, 2, 0, 0, 0, 0, 0), (146, .ifCond .eq 41, 3, 187, 0, 0, 0, 0), (149, .aload_n 0, 1, 0, 0, 0, 0, 0), (150, .iload_n 1, 1, 0, 0, 0, 0, 0), (151, .iload 7, 2, 0, 0, 0, 0, 0), (153, .iload_n 3, 1, 0, 0, 0, 0, 0), (154, .invokevirtual 381, 3, 228, 3, 0, 0, 0), (157, .aload_n 0, 1, 0, 0, 0, 0, 0)]),
  (178, [(158, .iload_n 2, 1, 0, 0, 0, 0, 0), (159, .aload_n 0, 1, 0, 0, 0, 0, 0), (160, .getfield 112, 3, 12, 45, 0, 0, 0), (163, .iload 7, 2, 0, 0, 0, 0, 0), (165, .iaload, 1, 0, 0, 0, 0, 0), (166, .iload 5, 2, 0, 0, 0, 0, 0), (168, .invokevirtual 381, 3, 228, 3, 0, 0, 0), (171, .if_icmp .ne 7, 3, 178, 0, 0, 0, 0), (174, .iconst 1, 1, 0, 0, 0, 1, 0), (175, .goto 4, 3, 179, 0, 0, 0, 0)])]
set_option maxRecDepth 100000 in
theorem mx_ok229_1 : ∀ q ∈ mx_t229_1, ∀ en ∈ q.2, mx_gd 229 en := mx_gt_s mx_LLok12 mx_KLok12 mx_JLok12 mx_ARok (by decide +kernel)
def mx_t229_2 : List (Nat × List mx_En) := [(200, [(178, .iconst 0, 1, 0, 0, 0, 0, 0), (179, .istore 6, 2, 0, 0, 0, 0, 0), (181, .iinc 7 1, 3, 0, 0, 0, 1, 0), (184, .goto (-46), 3, 138, 0, 0, 0, 0), (187, .iload 6, 2, 0, 0, 0, 0, 0), (189, .ifCond .ne 6, 3, 195, 0, 0, 0, 0), (192, .goto 27, 3, 219, 0, 0, 0, 0), (195, .aload_n 0, 1, 0, 0, 0, 0, 0), (196, .getfield 112, 3, 12, 45, 0, 0, 0), (199, .iload_n 3, 1, 0, 0, 0, 0, 0)]),
  (212, [(200, .iload 5, 2, 0, 0, 0, 0, 0), (202, .iastore, 1, 0, 0, 0, 0, 0), (203, .aload_n 0, 1, 0, 0, 0, 0, 0), (204, .iload_n 1, 1, 0, 0, 0, 0, 0), (205, .iload_n 2, 1, 0, 0, 0, 0, 0), (206, .iload_n 3, 1, 0, 0, 0, 0, 0), (207, .iconst 1, 1, 0, 0, 0, 1, 0), (208, .iadd, 1, 0, 0, 0, 0, 0), (209, .iload 4, 2, 0, 0, 0, 0, 0), (211, .iconst 1, 1, 0, 0, 0, 1, 0)]),
  (226, [(212, .iload 5, 2, 0, 0, 0, 0, 0), (214, .ishl, 1, 0, 0, 0, 0, 0), (215, .ior, 1, 0, 0, 0, 0, 0), (216, .invokevirtual 384, 3, 229, 4, 0, 0, 0), (219, .iinc 5 1, 3, 0, 0, 0, 1, 0), (222, .goto (-127), 3, 95, 0, 0, 0, 0), (225, .return_, 1, 0, 0, 0, 0, 0)])]
set_option maxRecDepth 100000 in
theorem mx_ok229_2 : ∀ q ∈ mx_t229_2, ∀ en ∈ q.2, mx_gd 229 en := mx_gt_s mx_LLok12 mx_KLok12 mx_JLok12 mx_ARok (by decide +kernel)
def mx_t229 : List (Nat × List mx_En) := mx_t229_0 ++ (mx_t229_1 ++ (mx_t229_2))
theorem mx_ok229 : ∀ q ∈ mx_t229, ∀ en ∈ q.2, mx_gd 229 en := (fun q h => (List.mem_append.mp h).elim (mx_ok229_0 q) ((fun q h => (List.mem_append.mp h).elim (mx_ok229_1 q) (mx_ok229_2 q)) q))
def mx_t230 : List (Nat × List mx_En) := [(16, [(0, .aload_n 0, 1, 0, 0, 0, 0, 0), (1, .iconst 0, 1, 0, 0, 0, 0, 0), (2, .putfield 361, 3, 12, 46, 0, 0, 0), (5, .aload_n 0, 1, 0, 0, 0, 0, 0), (6, .iconst 0, 1, 0, 0, 0, 0, 0), (7, .putfield 364, 3, 12, 47, 0, 0, 0), (10, .aload_n 0, 1, 0, 0, 0, 0, 0), (11, .iload_n 3, 1, 0, 0, 0, 0, 0), (12, .putfield 367, 3, 12, 48, 0, 0, 0), (15, .aload_n 0, 1, 0, 0, 0, 0, 0)]),
  (29, [(16, .iconst 0, 1, 0, 0, 0, 0, 0), (17, .putfield 370, 3, 12, 49, 0, 0, 0), (20, .aload_n 0, 1, 0, 0, 0, 0, 0), (21, .iload_n 1, 1, 0, 0, 0, 0, 0), (22, .iload_n 2, 1, 0, 0, 0, 0, 0), (23, .iconst 0, 1, 0, 0, 0, 0, 0), (24, .iconst 0, 1, 0, 0, 0, 0, 0), (25, .invokevirtual 384, 3, 229, 4, 0, 0, 0), (28, .return_, 1, 0, 0, 0, 0, 0)])]
set_option maxRecDepth 100000 in
theorem mx_ok230 : ∀ q ∈ mx_t230, ∀ en ∈ q.2, mx_gd 230 en := mx_gt_s mx_LLok12 mx_KLok12 mx_JLok12 mx_ARok (by decide +kernel)
def mx_t231 : List (Nat × List mx_En) := [(14, [(0, .aload_n 0, 1, 0, 0, 0, 0, 0), (1, .iload_n 1, 1, 0, 0, 0, 0, 0), (2, .invokevirtual 271, 3, 177, 1, 0, 0, 0), (5, .ifCond .ne 5, 3, 10, 0, 0, 0, 0), (8, .iconst (-1), 1, 0, 0, 0, -1, 0), (9, .ireturn, 1, 0, 0, 0, 0, 0), (10, .aload_n 0, 1, 0, 0, 0, 0, 0), (11, .iload_n 1, 1, 0, 0, 0, 0, 0), (12, .iload_n 1, 1, 0, 0, 0, 0, 0), (13, .iconst 0, 1, 0, 0, 0, 0, 0)]),
  (22, [(14, .invokevirtual 387, 3, 230, 3, 0, 0, 0), (17, .aload_n 0, 1, 0, 0, 0, 0, 0), (18, .getfield 361, 3, 12, 46, 0, 0, 0), (21, .ireturn, 1, 0, 0, 0, 0, 0)])]
set_option maxRecDepth 100000 in
theorem mx_ok231 : ∀ q ∈ mx_t231, ∀ en ∈ q.2, mx_gd 231 en := mx_gt_s mx_LLok12 mx_KLok12 mx_JLok12 mx_ARok (by decide +kernel)
def mx_t232 : List (Nat × List mx_En) := [(18, [(0, .aload_n 0, 1, 0, 0, 0, 0, 0), (1, .iload_n 1, 1, 0, 0, 0, 0, 0), (2, .invokevirtual 271, 3, 177, 1, 0, 0, 0), (5, .ifCond .eq 12, 3, 17, 0, 0, 0, 0), (8, .aload_n 0, 1, 0, 0, 0, 0, 0), (9, .iload_n 1, 1, 0, 0, 0, 0, 0), (10, .iload_n 2, 1, 0, 0, 0, 0, 0), (11, .invokevirtual 234, 3, 178, 2, 0, 0, 0), (14, .ifCond .ne 5, 3, 19, 0, 0, 0, 0), (17, .iconst (-1), 1, 0, 0, 0, -1, 0)]),
  (31, [(18, .ireturn, 1, 0, 0, 0, 0, 0), (19, .aload_n 0, 1, 0, 0, 0, 0, 0), (20, .iload_n 1, 1, 0, 0, 0, 0, 0), (21, .iload_n 1, 1, 0, 0, 0, 0, 0), (22, .iload_n 2, 1, 0, 0, 0, 0, 0), (23, .invokevirtual 387, 3, 230, 3, 0, 0, 0), (26, .aload_n 0, 1, 0, 0, 0, 0, 0), (27, .getfield 364, 3, 12, 47, 0, 0, 0), (30, .ireturn, 1, 0, 0, 0, 0, 0)])]
set_option maxRecDepth 100000 in
theorem mx_ok232 : ∀ q ∈ mx_t232, ∀ en ∈ q.2, mx_gd 232 en := mx_gt_s mx_LLok12 mx_KLok12 mx_JLok12 mx_ARok (by decide +kernel)
def mx_t233 : List (Nat × List mx_En) := [(17, [(0, .aload_n 0, 1, 0, 0, 0, 0, 0), (1, .getfield 7, 3, 12, 2, 0, 0, 0), (4, .iload_n 1, 1, 0, 0, 0, 0, 0), (5, .iaload, 1, 0, 0, 0, 0, 0), (6, .aload_n 0, 1, 0, 0, 0, 0, 0), (7, .getfield 7, 3, 12, 2, 0, 0, 0), (10, .iload_n 2, 1, 0, 0, 0, 0, 0), (11, .iaload, 1, 0, 0, 0, 0, 0), (12, .if_icmp .eq 6, 3, 18, 0, 0, 0, 0), (15, .bipush (-2), 2, 0, 0, 0, -2, 0)]),
  (33, [(17, .ireturn, 1, 0, 0, 0, 0, 0), (18, .aload_n 0, 1, 0, 0, 0, 0, 0), (19, .iload_n 1, 1, 0, 0, 0, 0, 0), (20, .iload_n 2, 1, 0, 0, 0, 0, 0), (21, .iconst 0, 1, 0, 0, 0, 0, 0), (22, .invokevirtual 387, 3, 230, 3, 0, 0, 0), (25, .aload_n 0, 1, 0, 0, 0, 0, 0), (26, .getfield 370, 3, 12, 49, 0, 0, 0), (29, .ifCond .eq 10, 3, 39, 0, 0, 0, 0), (32, .aload_n 0, 1, 0, 0, 0, 0, 0)]),
  (42, [(33, .getfield 374, 3, 12, 50, 0, 0, 0), (36, .goto 5, 3, 41, 0, 0, 0, 0), (39, .bipush (-2), 2, 0, 0, 0, -2, 0), (41, .ireturn, 1, 0, 0, 0, 0, 0)])]
set_option maxRecDepth 100000 in
theorem mx_ok233 : ∀ q ∈ mx_t233, ∀ en ∈ q.2, mx_gd 233 en := mx_gt_s mx_LLok12 mx_KLok12 mx_JLok12 mx_ARok (by decide +kernel)
def mx_t234 : List (Nat × List mx_En) := [(18, [(0, .aload_n 0, 1, 0, 0, 0, 0, 0), (1, .iload_n 1, 1, 0, 0, 0, 0, 0), (2, .invokevirtual 271, 3, 177, 1, 0, 0, 0), (5, .ifCond .eq 20, 3, 25, 0, 0, 0, 0), (8, .aload_n 0, 1, 0, 0, 0, 0, 0), (9, .iload_n 2, 1, 0, 0, 0, 0, 0), (10, .invokevirtual 271, 3, 177, 1, 0, 0, 0), (13, .ifCond .eq 12, 3, 25, 0, 0, 0, 0), (16, .aload_n 0, 1, 0, 0, 0, 0, 0), (17, .iload_n 1, 1, 0, 0, 0, 0, 0)]),
  (27, [(18, .iload_n 2, 1, 0, 0, 0, 0, 0), (19, .invokevirtual 390, 3, 233, 2, 0, 0, 0), (22, .goto 4, 3, 26, 0, 0, 0, 0), (25, .iconst (-1), 1, 0, 0, 0, -1, 0), (26, .ireturn, 1, 0, 0, 0, 0, 0)])]
set_option maxRecDepth 100000 in
theorem mx_ok234 : ∀ q ∈ mx_t234, ∀ en ∈ q.2, mx_gd 234 en := mx_gt_s mx_LLok12 mx_KLok12 mx_JLok12 mx_ARok (by decide +kernel)
def mx_t235 : List (Nat × List mx_En) := [(14, [(0, .lconst 1, 1, 0, 0, 0, 0, 1), (1, .lstore_n 2, 1, 0, 0, 0, 0, 0), (2, .bipush 6, 2, 0, 0, 0, 6, 0), (4, .iload_n 1, 1, 0, 0, 0, 0, 0), (5, .imul, 1, 0, 0, 0, 0, 0), (6, .istore 4, 2, 0, 0, 0, 0, 0), (8, .iload 4, 2, 0, 0, 0, 0, 0), (10, .bipush 6, 2, 0, 0, 0, 6, 0), (12, .iload_n 1, 1, 0, 0, 0, 0, 0), (13, .imul, 1, 0, 0, 0, 0, 0)]),
  (31, [(14, .aload_n 0, 1, 0, 0, 0, 0, 0), (15, .getfield 7, 3, 12, 2, 0, 0, 0), (18, .iload_n 1, 1, 0, 0, 0, 0, 0), (19, .iaload, 1, 0, 0, 0, 0, 0), (20, .iadd, 1, 0, 0, 0, 0, 0), (21, .if_icmp .ge 40, 3, 61, 0, 0, 0, 0), (24, .aload_n 0, 1, 0, 0, 0, 0, 0), (25, .getfield 22, 3, 12, 6, 0, 0, 0), (28, .iload 4, 2, 0, 0, 0, 0, 0), (30, .baload, 1, 0, 0, 0, 0, 0)]),
  (49, [(31, .ifCond .ne 24, 3, 55, 0, 0, 0, 0), (34, .lload_n 2, 1, 0, 0, 0, 0, 0), (35, .aload_n 0, 1, 0, 0, 0, 0, 0), (36, .getfield 13, 3, 12, 3, 0, 0, 0), (39, .iload 4, 2, 0, 0, 0, 0, 0), (41, .iaload, 1, 0, 0, 0, 0, 0), (42, .aload_n 0, 1, 0, 0, 0, 0, 0), (43, .getfield 19, 3, 12, 5, 0, 0, 0), (46, .iload 4, 2, 0, 0, 0, 0, 0), (48, .iaload, 1, 0, 0, 0, 0, 0)]),
  (63, [(49, .invokestatic 310, 3, 207, 2, 0, 0, 0), (52, .i2l, 1, 0, 0, 0, 0, 0), (53, .lmul, 1, 0, 0, 0, 0, 0), (54, .lstore_n 2, 1, 0, 0, 0, 0, 0), (55, .iinc 4 1, 3, 0, 0, 0, 1, 0), (58, .goto (-50), 3, 8, 0, 0, 0, 0), (61, .lload_n 2, 1, 0, 0, 0, 0, 0), (62, .lreturn, 1, 0, 0, 0, 0, 0)])]
set_option maxRecDepth 100000 in
theorem mx_ok235 : ∀ q ∈ mx_t235, ∀ en ∈ q.2, mx_gd 235 en := mx_gt_s mx_LLok12 mx_KLok12 mx_JLok12 mx_ARok (by decide +kernel)
def mx_t236 : List (Nat × List mx_En) := [(16, [(0, .aload_n 0, 1, 0, 0, 0, 0, 0), (1, .iload_n 1, 1, 0, 0, 0, 0, 0), (2, .invokevirtual 336, 3, 208, 1, 0, 0, 0), (5, .aload_n 0, 1, 0, 0, 0, 0, 0), (6, .iload_n 2, 1, 0, 0, 0, 0, 0), (7, .iconst 1, 1, 0, 0, 0, 1, 0), (8, .invokevirtual 330, 3, 212, 2, 0, 0, 0), (11, .aload_n 0, 1, 0, 0, 0, 0, 0), (12, .getfield 94, 3, 12, 38, 0, 0, 0), (15, .aload_n 0, 1, 0, 0, 0, 0, 0)]),
  (21, [(16, .getfield 316, 3, 12, 37, 0, 0, 0), (19, .laload, 1, 0, 0, 0, 0, 0), (20, .lreturn, 1, 0, 0, 0, 0, 0)])]
set_option maxRecDepth 100000 in
theorem mx_ok236 : ∀ q ∈ mx_t236, ∀ en ∈ q.2, mx_gd 236 en := mx_gt_s mx_LLok12 mx_KLok12 mx_JLok12 mx_ARok (by decide +kernel)
def mx_t237 : List (Nat × List mx_En) := [(16, [(0, .aload_n 0, 1, 0, 0, 0, 0, 0), (1, .iload_n 1, 1, 0, 0, 0, 0, 0), (2, .invokevirtual 280, 3, 195, 1, 0, 0, 0), (5, .aload_n 0, 1, 0, 0, 0, 0, 0), (6, .iload_n 2, 1, 0, 0, 0, 0, 0), (7, .invokevirtual 280, 3, 195, 1, 0, 0, 0), (10, .if_icmp .eq 5, 3, 15, 0, 0, 0, 0), (13, .iconst 0, 1, 0, 0, 0, 0, 0), (14, .ireturn, 1, 0, 0, 0, 0, 0), (15, .iconst 0, 1, 0, 0, 0, 0, 0)]),
  (31, [(16, .istore_n 3, 1, 0, 0, 0, 0, 0), (17, .iload_n 3, 1, 0, 0, 0, 0, 0), (18, .bipush 7, 2, 0, 0, 0, 7, 0), (20, .if_icmp .ge 39, 3, 59, 0, 0, 0, 0), (23, .aload_n 0, 1, 0, 0, 0, 0, 0), (24, .iload_n 1, 1, 0, 0, 0, 0, 0), (25, .iload_n 3, 1, 0, 0, 0, 0, 0), (26, .invokevirtual 393, 3, 236, 2, 0, 0, 0), (29, .aload_n 0, 1, 0, 0, 0, 0, 0), (30, .iload_n 2, 1, 0, 0, 0, 0, 0)]),
  (47, [(31, .invokevirtual 396, 3, 235, 1, 0, 0, 0), (34, .lmul, 1, 0, 0, 0, 0, 0), (35, .aload_n 0, 1, 0, 0, 0, 0, 0), (36, .iload_n 2, 1, 0, 0, 0, 0, 0), (37, .iload_n 3, 1, 0, 0, 0, 0, 0), (38, .invokevirtual 393, 3, 236, 2, 0, 0, 0), (41, .aload_n 0, 1, 0, 0, 0, 0, 0), (42, .iload_n 1, 1, 0, 0, 0, 0, 0), (43, .invokevirtual 396, 3, 235, 1, 0, 0, 0), (46, .lmul, 1, 0, 0, 0, 0, 0)]),
  (61, [(47, .lcmp, 1, 0, 0, 0, 0, 0), (48, .ifCond .eq 5, 3, 53, 0, 0, 0, 0), (51, .iconst 0, 1, 0, 0, 0, 0, 0), (52, .ireturn, 1, 0, 0, 0, 0, 0), (53, .iinc 3 1, 3, 0, 0, 0, 1, 0), (56, .goto (-39), 3, 17, 0, 0, 0, 0), (59, .iconst 1, 1, 0, 0, 0, 1, 0), (60, .ireturn, 1, 0, 0, 0, 0, 0)])]
set_option maxRecDepth 100000 in
theorem mx_ok237 : ∀ q ∈ mx_t237, ∀ en ∈ q.2, mx_gd 237 en := mx_gt_s mx_LLok12 mx_KLok12 mx_JLok12 mx_ARok (by decide +kernel)
def mx_t238 : List (Nat × List mx_En) := [(18, [(0, .aload_n 0, 1, 0, 0, 0, 0, 0), (1, .iload_n 1, 1, 0, 0, 0, 0, 0), (2, .invokevirtual 271, 3, 177, 1, 0, 0, 0), (5, .ifCond .eq 20, 3, 25, 0, 0, 0, 0), (8, .aload_n 0, 1, 0, 0, 0, 0, 0), (9, .iload_n 2, 1, 0, 0, 0, 0, 0), (10, .invokevirtual 271, 3, 177, 1, 0, 0, 0), (13, .ifCond .eq 12, 3, 25, 0, 0, 0, 0), (16, .iload_n 3, 1, 0, 0, 0, 0, 0), (17, .iconst 0, 1, 0, 0, 0, 0, 0)]),
  (36, [(18, .iconst 1, 1, 0, 0, 0, 1, 0), (19, .invokestatic 203, 3, 173, 3, 0, 0, 0), (22, .ifCond .ne 5, 3, 27, 0, 0, 0, 0), (25, .iconst (-1), 1, 0, 0, 0, -1, 0), (26, .ireturn, 1, 0, 0, 0, 0, 0), (27, .aload_n 0, 1, 0, 0, 0, 0, 0), (28, .iload_n 1, 1, 0, 0, 0, 0, 0), (29, .iload_n 2, 1, 0, 0, 0, 0, 0), (30, .invokevirtual 400, 3, 237, 2, 0, 0, 0), (33, .ifCond .ne 5, 3, 38, 0, 0, 0, 0)]),
  (53, [(36, .iconst 0, 1, 0, 0, 0, 0, 0), (37, .ireturn, 1, 0, 0, 0, 0, 0), (38, .iload_n 3, 1, 0, 0, 0, 0, 0), (39, .ifCond .eq 14, 3, 53, 0, 0, 0, 0), (42, .aload_n 0, 1, 0, 0, 0, 0, 0), (43, .iload_n 1, 1, 0, 0, 0, 0, 0), (44, .iload_n 2, 1, 0, 0, 0, 0, 0), (45, .invokevirtual 390, 3, 233, 2, 0, 0, 0), (48, .bipush (-2), 2, 0, 0, 0, -2, 0), (50, .if_icmp .ne 7, 3, 57, 0, 0, 0, 0)]),
  (59, [(53, .iconst 1, 1, 0, 0, 0, 1, 0), (54, .goto 4, 3, 58, 0, 0, 0, 0), (57, .iconst 0, 1, 0, 0, 0, 0, 0), (58, .ireturn, 1, 0, 0, 0, 0, 0)])]
set_option maxRecDepth 100000 in
theorem mx_ok238 : ∀ q ∈ mx_t238, ∀ en ∈ q.2, mx_gd 238 en := mx_gt_s mx_LLok12 mx_KLok12 mx_JLok12 mx_ARok (by decide +kernel)
def mx_t239 : List (Nat × List mx_En) := [(18, [(0, .aload_n 0, 1, 0, 0, 0, 0, 0), (1, .iload_n 1, 1, 0, 0, 0, 0, 0), (2, .invokevirtual 271, 3, 177, 1, 0, 0, 0), (5, .ifCond .eq 51, 3, 56, 0, 0, 0, 0), (8, .aload_n 0, 1, 0, 0, 0, 0, 0), (9, .iload_n 1, 1, 0, 0, 0, 0, 0), (10, .iload_n 2, 1, 0, 0, 0, 0, 0), (11, .invokevirtual 234, 3, 178, 2, 0, 0, 0), (14, .ifCond .eq 42, 3, 56, 0, 0, 0, 0), (17, .iload_n 3, 1, 0, 0, 0, 0, 0)]),
  (35, [(18, .iconst (-1), 1, 0, 0, 0, -1, 0), (19, .if_icmp .eq 12, 3, 31, 0, 0, 0, 0), (22, .aload_n 0, 1, 0, 0, 0, 0, 0), (23, .iload_n 1, 1, 0, 0, 0, 0, 0), (24, .iload_n 3, 1, 0, 0, 0, 0, 0), (25, .invokevirtual 234, 3, 178, 2, 0, 0, 0), (28, .ifCond .eq 28, 3, 56, 0, 0, 0, 0), (31, .iload 4, 2, 0, 0, 0, 0, 0), (33, .iconst 1, 1, 0, 0, 0, 1, 0), (34, .iconst 3, 1, 0, 0, 0, 3, 0)]),
  (57, [(35, .invokestatic 203, 3, 173, 3, 0, 0, 0), (38, .ifCond .eq 18, 3, 56, 0, 0, 0, 0), (41, .aload_n 0, 1, 0, 0, 0, 0, 0), (42, .getfield 403, 3, 12, 51, 0, 0, 0), (45, .ifCond .le 13, 3, 58, 0, 0, 0, 0), (48, .iload_n 1, 1, 0, 0, 0, 0, 0), (49, .aload_n 0, 1, 0, 0, 0, 0, 0), (50, .getfield 406, 3, 12, 52, 0, 0, 0), (53, .if_icmp .eq 5, 3, 58, 0, 0, 0, 0), (56, .iconst (-1), 1, 0, 0, 0, -1, 0)]),
  (76, [(57, .ireturn, 1, 0, 0, 0, 0, 0), (58, .iconst 0, 1, 0, 0, 0, 0, 0), (59, .istore 5, 2, 0, 0, 0, 0, 0), (61, .iload 5, 2, 0, 0, 0, 0, 0), (63, .aload_n 0, 1, 0, 0, 0, 0, 0), (64, .getfield 403, 3, 12, 51, 0, 0, 0), (67, .if_icmp .ge 59, 3, 126, 0, 0, 0, 0), (70, .aload_n 0, 1, 0, 0, 0, 0, 0), (71, .getfield 115, 3, 12, 53, 0, 0, 0), (74, .iload 5, 2, 0, 0, 0, 0, 0)]),
  (93, [(76, .iaload, 1, 0, 0, 0, 0, 0), (77, .iload_n 2, 1, 0, 0, 0, 0, 0), (78, .if_icmp .ne 14, 3, 92, 0, 0, 0, 0), (81, .aload_n 0, 1, 0, 0, 0, 0, 0), (82, .getfield 118, 3, 12, 54, 0, 0, 0), (85, .iload 5, 2, 0, 0, 0, 0, 0), (87, .iaload, 1, 0, 0, 0, 0, 0), (88, .iload_n 3, 1, 0, 0, 0, 0, 0), (89, .if_icmp .eq 29, 3, 118, 0, 0, 0, 0), (92, .iload_n 3, 1, 0, 0, 0, 0, 0)]),
  (113, [(93, .ifCond .lt 27, 3, 120, 0, 0, 0, 0), (96, .aload_n 0, 1, 0, 0, 0, 0, 0), (97, .getfield 115, 3, 12, 53, 0, 0, 0), (100, .iload 5, 2, 0, 0, 0, 0, 0), (102, .iaload, 1, 0, 0, 0, 0, 0), (103, .iload_n 3, 1, 0, 0, 0, 0, 0), (104, .if_icmp .ne 16, 3, 120, 0, 0, 0, 0), (107, .aload_n 0, 1, 0, 0, 0, 0, 0), (108, .getfield 118, 3, 12, 54, 0, 0, 0), (111, .iload 5, 2, 0, 0, 0, 0, 0)]),
  (131, [(113, .iaload, 1, 0, 0, 0, 0, 0), (114, .iload_n 2, 1, 0, 0, 0, 0, 0), (115, .if_icmp .ne 5, 3, 120, 0, 0, 0, 0), (118, .iconst (-1), 1, 0, 0, 0, -1, 0), (119, .ireturn, 1, 0, 0, 0, 0, 0), (120, .iinc 5 1, 3, 0, 0, 0, 1, 0), (123, .goto (-62), 3, 61, 0, 0, 0, 0), (126, .iload_n 3, 1, 0, 0, 0, 0, 0), (127, .ifCond .lt 21, 3, 148, 0, 0, 0, 0), (130, .iload_n 2, 1, 0, 0, 0, 0, 0)]),
  (148, [(131, .iload_n 3, 1, 0, 0, 0, 0, 0), (132, .if_icmp .eq 13, 3, 145, 0, 0, 0, 0), (135, .aload_n 0, 1, 0, 0, 0, 0, 0), (136, .iload_n 1, 1, 0, 0, 0, 0, 0), (137, .iload_n 2, 1, 0, 0, 0, 0, 0), (138, .iload_n 3, 1, 0, 0, 0, 0, 0), (139, .invokevirtual 211, 3, 180, 3, 0, 0, 0), (142, .ifCond .ne 6, 3, 148, 0, 0, 0, 0), (145, .bipush (-2), 2, 0, 0, 0, -2, 0), (147, .ireturn, 1, 0, 0, 0, 0, 0)]),
  (166, [(148, .aload_n 0, 1, 0, 0, 0, 0, 0), (149, .getfield 403, 3, 12, 51, 0, 0, 0), (152, .bipush 6, 2, 0, 0, 0, 6, 0), (154, .if_icmp .ne 6, 3, 160, 0, 0, 0, 0), (157, .bipush (-3), 2, 0, 0, 0, -3, 0), (159, .ireturn, 1, 0, 0, 0, 0, 0), (160, .aload_n 0, 1, 0, 0, 0, 0, 0), (161, .iload_n 1, 1, 0, 0, 0, 0, 0), (162, .putfield 406, 3, 12, 52, 0, 0, 0), (165, .aload_n 0, 1, 0, 0, 0, 0, 0)]),
  (184, [(166, .getfield 115, 3, 12, 53, 0, 0, 0), (169, .aload_n 0, 1, 0, 0, 0, 0, 0), (170, .getfield 403, 3, 12, 51, 0, 0, 0), (173, .iload_n 2, 1, 0, 0, 0, 0, 0), (174, .iastore, 1, 0, 0, 0, 0, 0), (175, .aload_n 0, 1, 0, 0, 0, 0, 0), (176, .getfield 118, 3, 12, 54, 0, 0, 0), (179, .aload_n 0, 1, 0, 0, 0, 0, 0), (180, .getfield 403, 3, 12, 51, 0, 0, 0), (183, .iload_n 3, 1, 0, 0, 0, 0, 0)]),
  (201, [(184, .iastore, 1, 0, 0, 0, 0, 0), (185, .aload_n 0, 1, 0, 0, 0, 0, 0), (186, .getfield 121, 3, 12, 55, 0, 0, 0), (189, .aload_n 0, 1, 0, 0, 0, 0, 0), (190, .getfield 403, 3, 12, 51, 0, 0, 0), (193, .iload 4, 2, 0, 0, 0, 0, 0), (195, .iastore, 1, 0, 0, 0, 0, 0), (196, .aload_n 0, 1, 0, 0, 0, 0, 0), (197, .dup, 1, 0, 0, 0, 0, 0), (198, .getfield 403, 3, 12, 51, 0, 0, 0)]),
  (211, [(201, .iconst 1, 1, 0, 0, 0, 1, 0), (202, .iadd, 1, 0, 0, 0, 0, 0), (203, .putfield 403, 3, 12, 51, 0, 0, 0), (206, .aload_n 0, 1, 0, 0, 0, 0, 0), (207, .getfield 403, 3, 12, 51, 0, 0, 0), (210, .ireturn, 1, 0, 0, 0, 0, 0)])]
set_option maxRecDepth 100000 in
theorem mx_ok239 : ∀ q ∈ mx_t239, ∀ en ∈ q.2, mx_gd 239 en := mx_gt_s mx_LLok12 mx_KLok12 mx_JLok12 mx_ARok (by decide +kernel)
def mx_t240 : List (Nat × List mx_En) := [(18, [(0, .aload_n 0, 1, 0, 0, 0, 0, 0), (1, .getfield 403, 3, 12, 51, 0, 0, 0), (4, .ifCond .ne 39, 3, 43, 0, 0, 0, 0), (7, .iload_n 1, 1, 0, 0, 0, 0, 0), (8, .iconst 0, 1, 0, 0, 0, 0, 0), (9, .iconst 5, 1, 0, 0, 0, 5, 0), (10, .invokestatic 203, 3, 173, 3, 0, 0, 0), (13, .ifCond .eq 28, 3, 41, 0, 0, 0, 0), (16, .iload_n 2, 1, 0, 0, 0, 0, 0), (17, .iconst 1, 1, 0, 0, 0, 1, 0)]),
  (41, [(18, .bipush 9, 2, 0, 0, 0, 9, 0), (20, .invokestatic 203, 3, 173, 3, 0, 0, 0), (23, .ifCond .eq 18, 3, 41, 0, 0, 0, 0), (26, .iload_n 3, 1, 0, 0, 0, 0, 0), (27, .iconst 0, 1, 0, 0, 0, 0, 0), (28, .bipush 99, 2, 0, 0, 0, 99, 0), (30, .invokestatic 203, 3, 173, 3, 0, 0, 0), (33, .ifCond .eq 8, 3, 41, 0, 0, 0, 0), (36, .bipush (-4), 2, 0, 0, 0, -4, 0), (38, .goto 4, 3, 42, 0, 0, 0, 0)]),
  (55, [(41, .iconst (-1), 1, 0, 0, 0, -1, 0), (42, .ireturn, 1, 0, 0, 0, 0, 0), (43, .iload_n 1, 1, 0, 0, 0, 0, 0), (44, .iconst 0, 1, 0, 0, 0, 0, 0), (45, .aload_n 0, 1, 0, 0, 0, 0, 0), (46, .aload_n 0, 1, 0, 0, 0, 0, 0), (47, .getfield 406, 3, 12, 52, 0, 0, 0), (50, .invokevirtual 280, 3, 195, 1, 0, 0, 0), (53, .iconst 1, 1, 0, 0, 0, 1, 0), (54, .isub, 1, 0, 0, 0, 0, 0)]),
  (75, [(55, .invokestatic 203, 3, 173, 3, 0, 0, 0), (58, .ifCond .eq 23, 3, 81, 0, 0, 0, 0), (61, .iload_n 2, 1, 0, 0, 0, 0, 0), (62, .iconst 1, 1, 0, 0, 0, 1, 0), (63, .bipush 9, 2, 0, 0, 0, 9, 0), (65, .invokestatic 203, 3, 173, 3, 0, 0, 0), (68, .ifCond .eq 13, 3, 81, 0, 0, 0, 0), (71, .iload_n 3, 1, 0, 0, 0, 0, 0), (72, .iconst 0, 1, 0, 0, 0, 0, 0), (73, .bipush 99, 2, 0, 0, 0, 99, 0)]),
  (95, [(75, .invokestatic 203, 3, 173, 3, 0, 0, 0), (78, .ifCond .ne 5, 3, 83, 0, 0, 0, 0), (81, .iconst (-1), 1, 0, 0, 0, -1, 0), (82, .ireturn, 1, 0, 0, 0, 0, 0), (83, .iconst 0, 1, 0, 0, 0, 0, 0), (84, .istore 4, 2, 0, 0, 0, 0, 0), (86, .iload 4, 2, 0, 0, 0, 0, 0), (88, .aload_n 0, 1, 0, 0, 0, 0, 0), (89, .getfield 409, 3, 12, 56, 0, 0, 0), (92, .if_icmp .ge 33, 3, 125, 0, 0, 0, 0)]),
  (113, [(95, .aload_n 0, 1, 0, 0, 0, 0, 0), (96, .getfield 124, 3, 12, 57, 0, 0, 0), (99, .iload 4, 2, 0, 0, 0, 0, 0), (101, .iaload, 1, 0, 0, 0, 0, 0), (102, .iload_n 1, 1, 0, 0, 0, 0, 0), (103, .if_icmp .ne 16, 3, 119, 0, 0, 0, 0), (106, .aload_n 0, 1, 0, 0, 0, 0, 0), (107, .getfield 127, 3, 12, 58, 0, 0, 0), (110, .iload 4, 2, 0, 0, 0, 0, 0), (112, .iaload, 1, 0, 0, 0, 0, 0)]),
  (134, [(113, .iload_n 2, 1, 0, 0, 0, 0, 0), (114, .if_icmp .ne 5, 3, 119, 0, 0, 0, 0), (117, .iconst (-1), 1, 0, 0, 0, -1, 0), (118, .ireturn, 1, 0, 0, 0, 0, 0), (119, .iinc 4 1, 3, 0, 0, 0, 1, 0), (122, .goto (-36), 3, 86, 0, 0, 0, 0), (125, .aload_n 0, 1, 0, 0, 0, 0, 0), (126, .getfield 409, 3, 12, 56, 0, 0, 0), (129, .bipush 6, 2, 0, 0, 0, 6, 0), (131, .if_icmp .ne 6, 3, 137, 0, 0, 0, 0)]),
  (151, [(134, .bipush (-3), 2, 0, 0, 0, -3, 0), (136, .ireturn, 1, 0, 0, 0, 0, 0), (137, .aload_n 0, 1, 0, 0, 0, 0, 0), (138, .getfield 124, 3, 12, 57, 0, 0, 0), (141, .aload_n 0, 1, 0, 0, 0, 0, 0), (142, .getfield 409, 3, 12, 56, 0, 0, 0), (145, .iload_n 1, 1, 0, 0, 0, 0, 0), (146, .iastore, 1, 0, 0, 0, 0, 0), (147, .aload_n 0, 1, 0, 0, 0, 0, 0), (148, .getfield 127, 3, 12, 58, 0, 0, 0)]),
  (167, [(151, .aload_n 0, 1, 0, 0, 0, 0, 0), (152, .getfield 409, 3, 12, 56, 0, 0, 0), (155, .iload_n 2, 1, 0, 0, 0, 0, 0), (156, .iastore, 1, 0, 0, 0, 0, 0), (157, .aload_n 0, 1, 0, 0, 0, 0, 0), (158, .getfield 130, 3, 12, 59, 0, 0, 0), (161, .aload_n 0, 1, 0, 0, 0, 0, 0), (162, .getfield 409, 3, 12, 56, 0, 0, 0), (165, .iload_n 3, 1, 0, 0, 0, 0, 0), (166, .iastore, 1, 0, 0, 0, 0, 0)]),
  (182, [(167, .aload_n 0, 1, 0, 0, 0, 0, 0), (168, .dup, 1, 0, 0, 0, 0, 0), (169, .getfield 409, 3, 12, 56, 0, 0, 0), (172, .iconst 1, 1, 0, 0, 0, 1, 0), (173, .iadd, 1, 0, 0, 0, 0, 0), (174, .putfield 409, 3, 12, 56, 0, 0, 0), (177, .aload_n 0, 1, 0, 0, 0, 0, 0), (178, .getfield 409, 3, 12, 56, 0, 0, 0), (181, .ireturn, 1, 0, 0, 0, 0, 0)])]
set_option maxRecDepth 100000 in
theorem mx_ok240 : ∀ q ∈ mx_t240, ∀ en ∈ q.2, mx_gd 240 en := mx_gt_s mx_LLok12 mx_KLok12 mx_JLok12 mx_ARok (by decide +kernel)
def mx_t241 : List (Nat × List mx_En) := [(17, [(0, .aload_n 0, 1, 0, 0, 0, 0, 0), (1, .getfield 406, 3, 12, 52, 0, 0, 0), (4, .istore_n 3, 1, 0, 0, 0, 0, 0), (5, .aload_n 0, 1, 0, 0, 0, 0, 0), (6, .getfield 115, 3, 12, 53, 0, 0, 0), (9, .iload_n 1, 1, 0, 0, 0, 0, 0), (10, .iaload, 1, 0, 0, 0, 0, 0), (11, .istore 4, 2, 0, 0, 0, 0, 0), (13, .aload_n 0, 1, 0, 0, 0, 0, 0), (14, .getfield 118, 3, 12, 54, 0, 0, 0)]),
  (34, [(17, .iload_n 1, 1, 0, 0, 0, 0, 0), (18, .iaload, 1, 0, 0, 0, 0, 0), (19, .istore 5, 2, 0, 0, 0, 0, 0), (21, .iload 5, 2, 0, 0, 0, 0, 0), (23, .ifCond .ge 55, 3, 78, 0, 0, 0, 0), (26, .aload_n 0, 1, 0, 0, 0, 0, 0), (27, .getfield 13, 3, 12, 3, 0, 0, 0), (30, .bipush 6, 2, 0, 0, 0, 6, 0), (32, .iload_n 3, 1, 0, 0, 0, 0, 0), (33, .imul, 1, 0, 0, 0, 0, 0)]),
  (50, [(34, .iload 4, 2, 0, 0, 0, 0, 0), (36, .iadd, 1, 0, 0, 0, 0, 0), (37, .iaload, 1, 0, 0, 0, 0, 0), (38, .iload_n 2, 1, 0, 0, 0, 0, 0), (39, .isub, 1, 0, 0, 0, 0, 0), (40, .istore 6, 2, 0, 0, 0, 0, 0), (42, .aload_n 0, 1, 0, 0, 0, 0, 0), (43, .getfield 78, 3, 12, 31, 0, 0, 0), (46, .iload 4, 2, 0, 0, 0, 0, 0), (48, .iload 6, 2, 0, 0, 0, 0, 0)]),
  (66, [(50, .aload_n 0, 1, 0, 0, 0, 0, 0), (51, .getfield 19, 3, 12, 5, 0, 0, 0), (54, .bipush 6, 2, 0, 0, 0, 6, 0), (56, .iload_n 3, 1, 0, 0, 0, 0, 0), (57, .imul, 1, 0, 0, 0, 0, 0), (58, .iload 4, 2, 0, 0, 0, 0, 0), (60, .iadd, 1, 0, 0, 0, 0, 0), (61, .iaload, 1, 0, 0, 0, 0, 0), (62, .invokestatic 310, 3, 207, 2, 0, 0, 0), (65, .iastore, 1, 0, 0, 0, 0, 0)]),
  (83, [(66, .iload 6, 2, 0, 0, 0, 0, 0), (68, .iconst 1, 1, 0, 0, 0, 1, 0), (69, .if_icmp .lt 7, 3, 76, 0, 0, 0, 0), (72, .iconst 1, 1, 0, 0, 0, 1, 0), (73, .goto 4, 3, 77, 0, 0, 0, 0), (76, .iconst 0, 1, 0, 0, 0, 0, 0), (77, .ireturn, 1, 0, 0, 0, 0, 0), (78, .aload_n 0, 1, 0, 0, 0, 0, 0), (79, .getfield 26, 3, 12, 7, 0, 0, 0), (82, .iload_n 3, 1, 0, 0, 0, 0, 0)]),
  (100, [(83, .iload 4, 2, 0, 0, 0, 0, 0), (85, .iload 5, 2, 0, 0, 0, 0, 0), (87, .invokestatic 207, 3, 179, 3, 0, 0, 0), (90, .iaload, 1, 0, 0, 0, 0, 0), (91, .iload_n 2, 1, 0, 0, 0, 0, 0), (92, .isub, 1, 0, 0, 0, 0, 0), (93, .istore 6, 2, 0, 0, 0, 0, 0), (95, .aload_n 0, 1, 0, 0, 0, 0, 0), (96, .iload 4, 2, 0, 0, 0, 0, 0), (98, .iload 5, 2, 0, 0, 0, 0, 0)]),
  (120, [(100, .iload 6, 2, 0, 0, 0, 0, 0), (102, .iload 6, 2, 0, 0, 0, 0, 0), (104, .aload_n 0, 1, 0, 0, 0, 0, 0), (105, .getfield 29, 3, 12, 8, 0, 0, 0), (108, .iload_n 3, 1, 0, 0, 0, 0, 0), (109, .iload 4, 2, 0, 0, 0, 0, 0), (111, .iload 5, 2, 0, 0, 0, 0, 0), (113, .invokestatic 207, 3, 179, 3, 0, 0, 0), (116, .iaload, 1, 0, 0, 0, 0, 0), (117, .invokestatic 300, 3, 174, 2, 0, 0, 0)]),
  (136, [(120, .isub, 1, 0, 0, 0, 0, 0), (121, .invokevirtual 358, 3, 225, 3, 0, 0, 0), (124, .iload 6, 2, 0, 0, 0, 0, 0), (126, .iconst 1, 1, 0, 0, 0, 1, 0), (127, .if_icmp .lt 7, 3, 134, 0, 0, 0, 0), (130, .iconst 1, 1, 0, 0, 0, 1, 0), (131, .goto 4, 3, 135, 0, 0, 0, 0), (134, .iconst 0, 1, 0, 0, 0, 0, 0), (135, .ireturn, 1, 0, 0, 0, 0, 0)])]
set_option maxRecDepth 100000 in
theorem mx_ok241 : ∀ q ∈ mx_t241, ∀ en ∈ q.2, mx_gd 241 en := mx_gt_s mx_LLok12 mx_KLok12 mx_JLok12 mx_ARok (by decide +kernel)
def mx_t242 : List (Nat × List mx_En) := [(16, [(0, .iload_n 1, 1, 0, 0, 0, 0, 0), (1, .iconst 0, 1, 0, 0, 0, 0, 0), (2, .aload_n 0, 1, 0, 0, 0, 0, 0), (3, .getfield 403, 3, 12, 51, 0, 0, 0), (6, .iconst 1, 1, 0, 0, 0, 1, 0), (7, .isub, 1, 0, 0, 0, 0, 0), (8, .invokestatic 203, 3, 173, 3, 0, 0, 0), (11, .ifCond .eq 31, 3, 42, 0, 0, 0, 0), (14, .iload_n 2, 1, 0, 0, 0, 0, 0), (15, .iconst 0, 1, 0, 0, 0, 0, 0)]),
  (34, [(16, .aload_n 0, 1, 0, 0, 0, 0, 0), (17, .aload_n 0, 1, 0, 0, 0, 0, 0), (18, .getfield 406, 3, 12, 52, 0, 0, 0), (21, .invokevirtual 280, 3, 195, 1, 0, 0, 0), (24, .iconst 1, 1, 0, 0, 0, 1, 0), (25, .isub, 1, 0, 0, 0, 0, 0), (26, .invokestatic 203, 3, 173, 3, 0, 0, 0), (29, .ifCond .eq 13, 3, 42, 0, 0, 0, 0), (32, .iload_n 3, 1, 0, 0, 0, 0, 0), (33, .iconst 1, 1, 0, 0, 0, 1, 0)]),
  (53, [(34, .bipush 9, 2, 0, 0, 0, 9, 0), (36, .invokestatic 203, 3, 173, 3, 0, 0, 0), (39, .ifCond .ne 5, 3, 44, 0, 0, 0, 0), (42, .iconst (-1), 1, 0, 0, 0, -1, 0), (43, .ireturn, 1, 0, 0, 0, 0, 0), (44, .aload_n 0, 1, 0, 0, 0, 0, 0), (45, .aload_n 0, 1, 0, 0, 0, 0, 0), (46, .getfield 406, 3, 12, 52, 0, 0, 0), (49, .invokevirtual 336, 3, 208, 1, 0, 0, 0), (52, .aload_n 0, 1, 0, 0, 0, 0, 0)]),
  (72, [(53, .iload_n 1, 1, 0, 0, 0, 0, 0), (54, .iconst 1, 1, 0, 0, 0, 1, 0), (55, .invokevirtual 412, 3, 241, 2, 0, 0, 0), (58, .ifCond .eq 12, 3, 70, 0, 0, 0, 0), (61, .aload_n 0, 1, 0, 0, 0, 0, 0), (62, .iload_n 2, 1, 0, 0, 0, 0, 0), (63, .iload_n 3, 1, 0, 0, 0, 0, 0), (64, .invokevirtual 355, 3, 220, 2, 0, 0, 0), (67, .goto 5, 3, 72, 0, 0, 0, 0), (70, .bipush (-4), 2, 0, 0, 0, -4, 0)]),
  (73, [(72, .ireturn, 1, 0, 0, 0, 0, 0)])]
set_option maxRecDepth 100000 in
theorem mx_ok242 : ∀ q ∈ mx_t242, ∀ en ∈ q.2, mx_gd 242 en := mx_gt_s mx_LLok12 mx_KLok12 mx_JLok12 mx_ARok (by decide +kernel)
def mx_t243 : List (Nat × List mx_En) := [(18, [(0, .aload_n 0, 1, 0, 0, 0, 0, 0), (1, .aload_n 0, 1, 0, 0, 0, 0, 0), (2, .getfield 406, 3, 12, 52, 0, 0, 0), (5, .invokevirtual 336, 3, 208, 1, 0, 0, 0), (8, .iconst 0, 1, 0, 0, 0, 0, 0), (9, .istore_n 1, 1, 0, 0, 0, 0, 0), (10, .iload_n 1, 1, 0, 0, 0, 0, 0), (11, .aload_n 0, 1, 0, 0, 0, 0, 0), (12, .getfield 403, 3, 12, 51, 0, 0, 0), (15, .if_icmp .ge 34, 3, 49, 0, 0, 0, 0)]),
  (34, [(18, .aload_n 0, 1, 0, 0, 0, 0, 0), (19, .getfield 133, 3, 12, 60, 0, 0, 0), (22, .iload_n 1, 1, 0, 0, 0, 0, 0), (23, .iaload, 1, 0, 0, 0, 0, 0), (24, .ifCond .le 19, 3, 43, 0, 0, 0, 0), (27, .aload_n 0, 1, 0, 0, 0, 0, 0), (28, .iload_n 1, 1, 0, 0, 0, 0, 0), (29, .aload_n 0, 1, 0, 0, 0, 0, 0), (30, .getfield 133, 3, 12, 60, 0, 0, 0), (33, .iload_n 1, 1, 0, 0, 0, 0, 0)]),
  (52, [(34, .iaload, 1, 0, 0, 0, 0, 0), (35, .invokevirtual 412, 3, 241, 2, 0, 0, 0), (38, .ifCond .ne 5, 3, 43, 0, 0, 0, 0), (41, .iconst (-1), 1, 0, 0, 0, -1, 0), (42, .ireturn, 1, 0, 0, 0, 0, 0), (43, .iinc 1 1, 3, 0, 0, 0, 1, 0), (46, .goto (-36), 3, 10, 0, 0, 0, 0), (49, .iconst 0, 1, 0, 0, 0, 0, 0), (50, .istore_n 1, 1, 0, 0, 0, 0, 0), (51, .iconst 0, 1, 0, 0, 0, 0, 0)]),
  (68, [(52, .istore_n 2, 1, 0, 0, 0, 0, 0), (53, .iconst 0, 1, 0, 0, 0, 0, 0), (54, .istore_n 3, 1, 0, 0, 0, 0, 0), (55, .iload_n 3, 1, 0, 0, 0, 0, 0), (56, .aload_n 0, 1, 0, 0, 0, 0, 0), (57, .getfield 409, 3, 12, 56, 0, 0, 0), (60, .if_icmp .ge 58, 3, 118, 0, 0, 0, 0), (63, .iload_n 3, 1, 0, 0, 0, 0, 0), (64, .ifCond .eq 13, 3, 77, 0, 0, 0, 0), (67, .aload_n 0, 1, 0, 0, 0, 0, 0)]),
  (86, [(68, .getfield 127, 3, 12, 58, 0, 0, 0), (71, .iload_n 3, 1, 0, 0, 0, 0, 0), (72, .iaload, 1, 0, 0, 0, 0, 0), (73, .iload_n 2, 1, 0, 0, 0, 0, 0), (74, .if_icmp .eq 7, 3, 81, 0, 0, 0, 0), (77, .aload_n 0, 1, 0, 0, 0, 0, 0), (78, .invokevirtual 349, 3, 218, 0, 0, 0, 0), (81, .aload_n 0, 1, 0, 0, 0, 0, 0), (82, .getfield 127, 3, 12, 58, 0, 0, 0), (85, .iload_n 3, 1, 0, 0, 0, 0, 0)]),
  (100, [(86, .iaload, 1, 0, 0, 0, 0, 0), (87, .istore_n 2, 1, 0, 0, 0, 0, 0), (88, .iload_n 1, 1, 0, 0, 0, 0, 0), (89, .aload_n 0, 1, 0, 0, 0, 0, 0), (90, .aload_n 0, 1, 0, 0, 0, 0, 0), (91, .getfield 124, 3, 12, 57, 0, 0, 0), (94, .iload_n 3, 1, 0, 0, 0, 0, 0), (95, .iaload, 1, 0, 0, 0, 0, 0), (96, .iload_n 2, 1, 0, 0, 0, 0, 0), (97, .invokevirtual 352, 3, 219, 2, 0, 0, 0)]),
  (118, [(100, .aload_n 0, 1, 0, 0, 0, 0, 0), (101, .getfield 130, 3, 12, 59, 0, 0, 0), (104, .iload_n 3, 1, 0, 0, 0, 0, 0), (105, .iaload, 1, 0, 0, 0, 0, 0), (106, .isub, 1, 0, 0, 0, 0, 0), (107, .invokestatic 415, 3, 176, 1, 0, 0, 0), (110, .iadd, 1, 0, 0, 0, 0, 0), (111, .istore_n 1, 1, 0, 0, 0, 0, 0), (112, .iinc 3 1, 3, 0, 0, 0, 1, 0), (115, .goto (-60), 3, 55, 0, 0, 0, 0)]),
  (120, [(118, .iload_n 1, 1, 0, 0, 0, 0, 0), (119, .ireturn, 1, 0, 0, 0, 0, 0)])]
set_option maxRecDepth 100000 in
theorem mx_ok243 : ∀ q ∈ mx_t243, ∀ en ∈ q.2, mx_gd 243 en := mx_gt_s mx_LLok12 mx_KLok12 mx_JLok12 mx_ARok (by decide +kernel)
def mx_t244 : List (Nat × List mx_En) := [(14, [(0, .iconst 0, 1, 0, 0, 0, 0, 0), (1, .istore_n 1, 1, 0, 0, 0, 0, 0), (2, .iconst 0, 1, 0, 0, 0, 0, 0), (3, .istore_n 2, 1, 0, 0, 0, 0, 0), (4, .iload_n 2, 1, 0, 0, 0, 0, 0), (5, .aload_n 0, 1, 0, 0, 0, 0, 0), (6, .getfield 403, 3, 12, 51, 0, 0, 0), (9, .if_icmp .ge 36, 3, 45, 0, 0, 0, 0), (12, .iconst 0, 1, 0, 0, 0, 0, 0), (13, .istore_n 3, 1, 0, 0, 0, 0, 0)]),
  (29, [(14, .iload_n 3, 1, 0, 0, 0, 0, 0), (15, .aload_n 0, 1, 0, 0, 0, 0, 0), (16, .getfield 133, 3, 12, 60, 0, 0, 0), (19, .iload_n 2, 1, 0, 0, 0, 0, 0), (20, .iaload, 1, 0, 0, 0, 0, 0), (21, .if_icmp .ge 18, 3, 39, 0, 0, 0, 0), (24, .bipush 10, 2, 0, 0, 0, 10, 0), (26, .iload_n 1, 1, 0, 0, 0, 0, 0), (27, .imul, 1, 0, 0, 0, 0, 0), (28, .iload_n 2, 1, 0, 0, 0, 0, 0)]),
  (47, [(29, .iadd, 1, 0, 0, 0, 0, 0), (30, .iconst 1, 1, 0, 0, 0, 1, 0), (31, .iadd, 1, 0, 0, 0, 0, 0), (32, .istore_n 1, 1, 0, 0, 0, 0, 0), (33, .iinc 3 1, 3, 0, 0, 0, 1, 0), (36, .goto (-22), 3, 14, 0, 0, 0, 0), (39, .iinc 2 1, 3, 0, 0, 0, 1, 0), (42, .goto (-38), 3, 4, 0, 0, 0, 0), (45, .iload_n 1, 1, 0, 0, 0, 0, 0), (46, .ireturn, 1, 0, 0, 0, 0, 0)])]
set_option maxRecDepth 100000 in
theorem mx_ok244 : ∀ q ∈ mx_t244, ∀ en ∈ q.2, mx_gd 244 en := mx_gt_s mx_LLok12 mx_KLok12 mx_JLok12 mx_ARok (by decide +kernel)
def mx_t245 : List (Nat × List mx_En) := [(18, [(0, .iload_n 1, 1, 0, 0, 0, 0, 0), (1, .aload_n 0, 1, 0, 0, 0, 0, 0), (2, .getfield 403, 3, 12, 51, 0, 0, 0), (5, .if_icmp .ne 107, 3, 112, 0, 0, 0, 0), (8, .aload_n 0, 1, 0, 0, 0, 0, 0), (9, .invokevirtual 418, 3, 243, 0, 0, 0, 0), (12, .istore_n 3, 1, 0, 0, 0, 0, 0), (13, .iload_n 3, 1, 0, 0, 0, 0, 0), (14, .ifCond .ge 4, 3, 18, 0, 0, 0, 0), (17, .return_, 1, 0, 0, 0, 0, 0)]),
  (38, [(18, .aload_n 0, 1, 0, 0, 0, 0, 0), (19, .getfield 421, 3, 12, 63, 0, 0, 0), (22, .ifCond .lt 27, 3, 49, 0, 0, 0, 0), (25, .iload_n 3, 1, 0, 0, 0, 0, 0), (26, .aload_n 0, 1, 0, 0, 0, 0, 0), (27, .getfield 421, 3, 12, 63, 0, 0, 0), (30, .if_icmp .lt 19, 3, 49, 0, 0, 0, 0), (33, .iload_n 3, 1, 0, 0, 0, 0, 0), (34, .aload_n 0, 1, 0, 0, 0, 0, 0), (35, .getfield 421, 3, 12, 63, 0, 0, 0)]),
  (56, [(38, .if_icmp .ne 21, 3, 59, 0, 0, 0, 0), (41, .iload_n 2, 1, 0, 0, 0, 0, 0), (42, .aload_n 0, 1, 0, 0, 0, 0, 0), (43, .getfield 424, 3, 12, 64, 0, 0, 0), (46, .if_icmp .ge 13, 3, 59, 0, 0, 0, 0), (49, .aload_n 0, 1, 0, 0, 0, 0, 0), (50, .iload_n 3, 1, 0, 0, 0, 0, 0), (51, .putfield 421, 3, 12, 63, 0, 0, 0), (54, .aload_n 0, 1, 0, 0, 0, 0, 0), (55, .iload_n 2, 1, 0, 0, 0, 0, 0)]),
  (78, [(56, .putfield 424, 3, 12, 64, 0, 0, 0), (59, .iload_n 3, 1, 0, 0, 0, 0, 0), (60, .ifCond .gt 37, 3, 97, 0, 0, 0, 0), (63, .aload_n 0, 1, 0, 0, 0, 0, 0), (64, .getfield 427, 3, 12, 61, 0, 0, 0), (67, .ifCond .lt 31, 3, 98, 0, 0, 0, 0), (70, .iload_n 2, 1, 0, 0, 0, 0, 0), (71, .aload_n 0, 1, 0, 0, 0, 0, 0), (72, .getfield 427, 3, 12, 61, 0, 0, 0), (75, .if_icmp .gt 22, 3, 97, 0, 0, 0, 0)]),
  (98, [(78, .iload_n 2, 1, 0, 0, 0, 0, 0), (79, .aload_n 0, 1, 0, 0, 0, 0, 0), (80, .getfield 427, 3, 12, 61, 0, 0, 0), (83, .if_icmp .ne 15, 3, 98, 0, 0, 0, 0), (86, .aload_n 0, 1, 0, 0, 0, 0, 0), (87, .invokevirtual 430, 3, 244, 0, 0, 0, 0), (90, .aload_n 0, 1, 0, 0, 0, 0, 0), (91, .getfield 433, 3, 12, 62, 0, 0, 0), (94, .if_icmp .lt 4, 3, 98, 0, 0, 0, 0), (97, .return_, 1, 0, 0, 0, 0, 0)]),
  (114, [(98, .aload_n 0, 1, 0, 0, 0, 0, 0), (99, .iload_n 2, 1, 0, 0, 0, 0, 0), (100, .putfield 427, 3, 12, 61, 0, 0, 0), (103, .aload_n 0, 1, 0, 0, 0, 0, 0), (104, .aload_n 0, 1, 0, 0, 0, 0, 0), (105, .invokevirtual 430, 3, 244, 0, 0, 0, 0), (108, .putfield 433, 3, 12, 62, 0, 0, 0), (111, .return_, 1, 0, 0, 0, 0, 0), (112, .iconst 0, 1, 0, 0, 0, 0, 0), (113, .istore_n 3, 1, 0, 0, 0, 0, 0)]),
  (128, [(114, .iload_n 3, 1, 0, 0, 0, 0, 0), (115, .aload_n 0, 1, 0, 0, 0, 0, 0), (116, .getfield 121, 3, 12, 55, 0, 0, 0), (119, .iload_n 1, 1, 0, 0, 0, 0, 0), (120, .iaload, 1, 0, 0, 0, 0, 0), (121, .if_icmp .gt 33, 3, 154, 0, 0, 0, 0), (124, .iload_n 2, 1, 0, 0, 0, 0, 0), (125, .iload_n 3, 1, 0, 0, 0, 0, 0), (126, .iadd, 1, 0, 0, 0, 0, 0), (127, .iconst 4, 1, 0, 0, 0, 4, 0)]),
  (142, [(128, .if_icmp .gt 26, 3, 154, 0, 0, 0, 0), (131, .aload_n 0, 1, 0, 0, 0, 0, 0), (132, .getfield 133, 3, 12, 60, 0, 0, 0), (135, .iload_n 1, 1, 0, 0, 0, 0, 0), (136, .iload_n 3, 1, 0, 0, 0, 0, 0), (137, .iastore, 1, 0, 0, 0, 0, 0), (138, .aload_n 0, 1, 0, 0, 0, 0, 0), (139, .iload_n 1, 1, 0, 0, 0, 0, 0), (140, .iconst 1, 1, 0, 0, 0, 1, 0), (141, .iadd, 1, 0, 0, 0, 0, 0)]),
  (160, [(142, .iload_n 2, 1, 0, 0, 0, 0, 0), (143, .iload_n 3, 1, 0, 0, 0, 0, 0), (144, .iadd, 1, 0, 0, 0, 0, 0), (145, .invokevirtual 436, 3, 245, 2, 0, 0, 0), (148, .iinc 3 1, 3, 0, 0, 0, 1, 0), (151, .goto (-37), 3, 114, 0, 0, 0, 0), (154, .aload_n 0, 1, 0, 0, 0, 0, 0), (155, .getfield 133, 3, 12, 60, 0, 0, 0), (158, .iload_n 1, 1, 0, 0, 0, 0, 0), (159, .iconst 0, 1, 0, 0, 0, 0, 0)]),
  (162, [(160, .iastore, 1, 0, 0, 0, 0, 0), (161, .return_, 1, 0, 0, 0, 0, 0)])]
set_option maxRecDepth 100000 in
theorem mx_ok245 : ∀ q ∈ mx_t245, ∀ en ∈ q.2, mx_gd 245 en := mx_gt_s mx_LLok12 mx_KLok12 mx_JLok12 mx_ARok (by decide +kernel)
def mx_t246 : List (Nat × List mx_En) := [(18, [(0, .iload_n 1, 1, 0, 0, 0, 0, 0), (1, .iconst 0, 1, 0, 0, 0, 0, 0), (2, .iconst 3, 1, 0, 0, 0, 3, 0), (3, .invokestatic 203, 3, 173, 3, 0, 0, 0), (6, .ifCond .ne 5, 3, 11, 0, 0, 0, 0), (9, .iconst (-1), 1, 0, 0, 0, -1, 0), (10, .ireturn, 1, 0, 0, 0, 0, 0), (11, .aload_n 0, 1, 0, 0, 0, 0, 0), (12, .getfield 403, 3, 12, 51, 0, 0, 0), (15, .ifCond .eq 10, 3, 25, 0, 0, 0, 0)]),
  (35, [(18, .aload_n 0, 1, 0, 0, 0, 0, 0), (19, .getfield 409, 3, 12, 56, 0, 0, 0), (22, .ifCond .ne 6, 3, 28, 0, 0, 0, 0), (25, .bipush (-4), 2, 0, 0, 0, -4, 0), (27, .ireturn, 1, 0, 0, 0, 0, 0), (28, .iconst 0, 1, 0, 0, 0, 0, 0), (29, .istore_n 2, 1, 0, 0, 0, 0, 0), (30, .iload_n 2, 1, 0, 0, 0, 0, 0), (31, .aload_n 0, 1, 0, 0, 0, 0, 0), (32, .getfield 409, 3, 12, 56, 0, 0, 0)]),
  (55, [(35, .if_icmp .ge 29, 3, 64, 0, 0, 0, 0), (38, .aload_n 0, 1, 0, 0, 0, 0, 0), (39, .getfield 124, 3, 12, 57, 0, 0, 0), (42, .iload_n 2, 1, 0, 0, 0, 0, 0), (43, .iaload, 1, 0, 0, 0, 0, 0), (44, .aload_n 0, 1, 0, 0, 0, 0, 0), (45, .aload_n 0, 1, 0, 0, 0, 0, 0), (46, .getfield 406, 3, 12, 52, 0, 0, 0), (49, .invokevirtual 280, 3, 195, 1, 0, 0, 0), (52, .if_icmp .lt 6, 3, 58, 0, 0, 0, 0)]),
  (74, [(55, .bipush (-4), 2, 0, 0, 0, -4, 0), (57, .ireturn, 1, 0, 0, 0, 0, 0), (58, .iinc 2 1, 3, 0, 0, 0, 1, 0), (61, .goto (-31), 3, 30, 0, 0, 0, 0), (64, .aload_n 0, 1, 0, 0, 0, 0, 0), (65, .iconst (-1), 1, 0, 0, 0, -1, 0), (66, .putfield 427, 3, 12, 61, 0, 0, 0), (69, .aload_n 0, 1, 0, 0, 0, 0, 0), (70, .iconst 0, 1, 0, 0, 0, 0, 0), (71, .putfield 433, 3, 12, 62, 0, 0, 0)]),
  (90, [(74, .aload_n 0, 1, 0, 0, 0, 0, 0), (75, .iconst (-1), 1, 0, 0, 0, -1, 0), (76, .putfield 421, 3, 12, 63, 0, 0, 0), (79, .aload_n 0, 1, 0, 0, 0, 0, 0), (80, .iconst 0, 1, 0, 0, 0, 0, 0), (81, .putfield 424, 3, 12, 64, 0, 0, 0), (84, .aload_n 0, 1, 0, 0, 0, 0, 0), (85, .iconst 0, 1, 0, 0, 0, 0, 0), (86, .iconst 0, 1, 0, 0, 0, 0, 0), (87, .invokevirtual 436, 3, 245, 2, 0, 0, 0)]),
  (108, [(90, .iload_n 1, 1, 0, 0, 0, 0, 0), (91, .iconst 1, 1, 0, 0, 0, 1, 0), (92, .if_icmp .le 20, 3, 112, 0, 0, 0, 0), (95, .iload_n 1, 1, 0, 0, 0, 0, 0), (96, .iconst 2, 1, 0, 0, 0, 2, 0), (97, .if_icmp .ne 10, 3, 107, 0, 0, 0, 0), (100, .aload_n 0, 1, 0, 0, 0, 0, 0), (101, .getfield 421, 3, 12, 63, 0, 0, 0), (104, .goto 7, 3, 111, 0, 0, 0, 0), (107, .aload_n 0, 1, 0, 0, 0, 0, 0)]),
  (129, [(108, .getfield 424, 3, 12, 64, 0, 0, 0), (111, .ireturn, 1, 0, 0, 0, 0, 0), (112, .aload_n 0, 1, 0, 0, 0, 0, 0), (113, .getfield 427, 3, 12, 61, 0, 0, 0), (116, .ifCond .ge 8, 3, 124, 0, 0, 0, 0), (119, .bipush (-2), 2, 0, 0, 0, -2, 0), (121, .goto 18, 3, 139, 0, 0, 0, 0), (124, .iload_n 1, 1, 0, 0, 0, 0, 0), (125, .ifCond .ne 10, 3, 135, 0, 0, 0, 0), (128, .aload_n 0, 1, 0, 0, 0, 0, 0)]),
  (140, [(129, .getfield 427, 3, 12, 61, 0, 0, 0), (132, .goto 7, 3, 139, 0, 0, 0, 0), (135, .aload_n 0, 1, 0, 0, 0, 0, 0), (136, .getfield 433, 3, 12, 62, 0, 0, 0), (139, .ireturn, 1, 0, 0, 0, 0, 0)])]
set_option maxRecDepth 100000 in
theorem mx_ok246 : ∀ q ∈ mx_t246, ∀ en ∈ q.2, mx_gd 246 en := mx_gt_s mx_LLok12 mx_KLok12 mx_JLok12 mx_ARok (by decide +kernel)
def mx_t247 : List (Nat × List mx_En) := [(16, [(0, .aload_n 0, 1, 0, 0, 0, 0, 0), (1, .getfield 403, 3, 12, 51, 0, 0, 0), (4, .istore_n 1, 1, 0, 0, 0, 0, 0), (5, .aload_n 0, 1, 0, 0, 0, 0, 0), (6, .iconst 0, 1, 0, 0, 0, 0, 0), (7, .putfield 403, 3, 12, 51, 0, 0, 0), (10, .aload_n 0, 1, 0, 0, 0, 0, 0), (11, .iconst 0, 1, 0, 0, 0, 0, 0), (12, .putfield 409, 3, 12, 56, 0, 0, 0), (15, .iload_n 1, 1, 0, 0, 0, 0, 0)]),
  (17, [(16, .ireturn, 1, 0, 0, 0, 0, 0)])]
set_option maxRecDepth 100000 in
theorem mx_ok247 : ∀ q ∈ mx_t247, ∀ en ∈ q.2, mx_gd 247 en := mx_gt_s mx_LLok12 mx_KLok12 mx_JLok12 mx_ARok (by decide +kernel)
def mx_t248 : List (Nat × List mx_En) := [(18, [(0, .iload_n 1, 1, 0, 0, 0, 0, 0), (1, .iconst 0, 1, 0, 0, 0, 0, 0), (2, .bipush 99, 2, 0, 0, 0, 99, 0), (4, .invokestatic 203, 3, 173, 3, 0, 0, 0), (7, .ifCond .ne 5, 3, 12, 0, 0, 0, 0), (10, .iconst (-1), 1, 0, 0, 0, -1, 0), (11, .ireturn, 1, 0, 0, 0, 0, 0), (12, .aload_n 0, 1, 0, 0, 0, 0, 0), (13, .getfield 439, 3, 12, 65, 0, 0, 0), (16, .bipush 6, 2, 0, 0, 0, 6, 0)]),
  (35, [(18, .if_icmp .ne 6, 3, 24, 0, 0, 0, 0), (21, .bipush (-3), 2, 0, 0, 0, -3, 0), (23, .ireturn, 1, 0, 0, 0, 0, 0), (24, .aload_n 0, 1, 0, 0, 0, 0, 0), (25, .getfield 136, 3, 12, 66, 0, 0, 0), (28, .aload_n 0, 1, 0, 0, 0, 0, 0), (29, .getfield 439, 3, 12, 65, 0, 0, 0), (32, .iload_n 1, 1, 0, 0, 0, 0, 0), (33, .iastore, 1, 0, 0, 0, 0, 0), (34, .aload_n 0, 1, 0, 0, 0, 0, 0)]),
  (49, [(35, .dup, 1, 0, 0, 0, 0, 0), (36, .getfield 439, 3, 12, 65, 0, 0, 0), (39, .iconst 1, 1, 0, 0, 0, 1, 0), (40, .iadd, 1, 0, 0, 0, 0, 0), (41, .putfield 439, 3, 12, 65, 0, 0, 0), (44, .aload_n 0, 1, 0, 0, 0, 0, 0), (45, .getfield 439, 3, 12, 65, 0, 0, 0), (48, .ireturn, 1, 0, 0, 0, 0, 0)])]
set_option maxRecDepth 100000 in
theorem mx_ok248 : ∀ q ∈ mx_t248, ∀ en ∈ q.2, mx_gd 248 en := mx_gt_s mx_LLok12 mx_KLok12 mx_JLok12 mx_ARok (by decide +kernel)
def mx_t249 : List (Nat × List mx_En) := [(12, [(0, .aload_n 0, 1, 0, 0, 0, 0, 0), (1, .getfield 439, 3, 12, 65, 0, 0, 0), (4, .istore_n 1, 1, 0, 0, 0, 0, 0), (5, .aload_n 0, 1, 0, 0, 0, 0, 0), (6, .iconst 0, 1, 0, 0, 0, 0, 0), (7, .putfield 439, 3, 12, 65, 0, 0, 0), (10, .iload_n 1, 1, 0, 0, 0, 0, 0), (11, .ireturn, 1, 0, 0, 0, 0, 0)])]
set_option maxRecDepth 100000 in
theorem mx_ok249 : ∀ q ∈ mx_t249, ∀ en ∈ q.2, mx_gd 249 en := mx_gt_s mx_LLok12 mx_KLok12 mx_JLok12 mx_ARok (by decide +kernel)
def mx_t250 : List (Nat × List mx_En) := [(19, [(0, .aload_n 0, 1, 0, 0, 0, 0, 0), (1, .invokevirtual 349, 3, 218, 0, 0, 0, 0), (4, .iconst 0, 1, 0, 0, 0, 0, 0), (5, .istore 5, 2, 0, 0, 0, 0, 0), (7, .iload 5, 2, 0, 0, 0, 0, 0), (9, .aload_n 0, 1, 0, 0, 0, 0, 0), (10, .getfield 439, 3, 12, 65, 0, 0, 0), (13, .if_icmp .ge 27, 3, 40, 0, 0, 0, 0), (16, .aload_n 0, 1, 0, 0, 0, 0, 0), (17, .iload 5, 2, 0, 0, 0, 0, 0)]),
  (40, [(19, .iload_n 2, 1, 0, 0, 0, 0, 0), (20, .invokevirtual 352, 3, 219, 2, 0, 0, 0), (23, .aload_n 0, 1, 0, 0, 0, 0, 0), (24, .getfield 136, 3, 12, 66, 0, 0, 0), (27, .iload 5, 2, 0, 0, 0, 0, 0), (29, .iaload, 1, 0, 0, 0, 0, 0), (30, .if_icmp .eq 4, 3, 34, 0, 0, 0, 0), (33, .return_, 1, 0, 0, 0, 0, 0), (34, .iinc 5 1, 3, 0, 0, 0, 1, 0), (37, .goto (-30), 3, 7, 0, 0, 0, 0)]),
  (58, [(40, .aload_n 0, 1, 0, 0, 0, 0, 0), (41, .dup, 1, 0, 0, 0, 0, 0), (42, .getfield 442, 3, 12, 67, 0, 0, 0), (45, .iconst 1, 1, 0, 0, 0, 1, 0), (46, .iadd, 1, 0, 0, 0, 0, 0), (47, .putfield 442, 3, 12, 67, 0, 0, 0), (50, .aload_n 0, 1, 0, 0, 0, 0, 0), (51, .getfield 442, 3, 12, 67, 0, 0, 0), (54, .iconst 1, 1, 0, 0, 0, 1, 0), (55, .if_icmp .ne 14, 3, 69, 0, 0, 0, 0)]),
  (77, [(58, .aload_n 0, 1, 0, 0, 0, 0, 0), (59, .iload_n 3, 1, 0, 0, 0, 0, 0), (60, .putfield 445, 3, 12, 68, 0, 0, 0), (63, .aload_n 0, 1, 0, 0, 0, 0, 0), (64, .iload 4, 2, 0, 0, 0, 0, 0), (66, .putfield 448, 3, 12, 69, 0, 0, 0), (69, .aload_n 0, 1, 0, 0, 0, 0, 0), (70, .getfield 439, 3, 12, 65, 0, 0, 0), (73, .istore 5, 2, 0, 0, 0, 0, 0), (75, .iload 5, 2, 0, 0, 0, 0, 0)]),
  (95, [(77, .aload_n 0, 1, 0, 0, 0, 0, 0), (78, .iload_n 1, 1, 0, 0, 0, 0, 0), (79, .invokevirtual 280, 3, 195, 1, 0, 0, 0), (82, .if_icmp .ge 31, 3, 113, 0, 0, 0, 0), (85, .aload_n 0, 1, 0, 0, 0, 0, 0), (86, .getfield 139, 3, 12, 70, 0, 0, 0), (89, .bipush 100, 2, 0, 0, 0, 100, 0), (91, .iload 5, 2, 0, 0, 0, 0, 0), (93, .imul, 1, 0, 0, 0, 0, 0), (94, .aload_n 0, 1, 0, 0, 0, 0, 0)]),
  (110, [(95, .iload 5, 2, 0, 0, 0, 0, 0), (97, .iload_n 2, 1, 0, 0, 0, 0, 0), (98, .invokevirtual 352, 3, 219, 2, 0, 0, 0), (101, .iadd, 1, 0, 0, 0, 0, 0), (102, .dup2, 1, 0, 0, 0, 0, 0), (103, .iaload, 1, 0, 0, 0, 0, 0), (104, .iconst 1, 1, 0, 0, 0, 1, 0), (105, .iadd, 1, 0, 0, 0, 0, 0), (106, .iastore, 1, 0, 0, 0, 0, 0), (107, .iinc 5 1, 3, 0, 0, 0, 1, 0)]),
  (114, [(110, .goto (-35), 3, 75, 0, 0, 0, 0), (113, .return_, 1, 0, 0, 0, 0, 0)])]
set_option maxRecDepth 100000 in
theorem mx_ok250 : ∀ q ∈ mx_t250, ∀ en ∈ q.2, mx_gd 250 en := mx_gt_s mx_LLok12 mx_KLok12 mx_JLok12 mx_ARok (by decide +kernel)
def mx_t251_0 : List (Nat × List mx_En) := [(18, [(0, .aload_n 0, 1, 0, 0, 0, 0, 0), (1, .iconst 0, 1, 0, 0, 0, 0, 0), (2, .putfield 442, 3, 12, 67, 0, 0, 0), (5, .iconst 0, 1, 0, 0, 0, 0, 0), (6, .istore_n 3, 1, 0, 0, 0, 0, 0), (7, .iload_n 3, 1, 0, 0, 0, 0, 0), (8, .sipush 600, 3, 0, 0, 0, 600, 0), (11, .if_icmp .ge 16, 3, 27, 0, 0, 0, 0), (14, .aload_n 0, 1, 0, 0, 0, 0, 0), (15, .getfield 139, 3, 12, 70, 0, 0, 0)]),
  (34, [(18, .iload_n 3, 1, 0, 0, 0, 0, 0), (19, .iconst 0, 1, 0, 0, 0, 0, 0), (20, .iastore, 1, 0, 0, 0, 0, 0), (21, .iinc 3 1, 3, 0, 0, 0, 1, 0), (24, .goto (-17), 3, 7, 0, 0, 0, 0), (27, .aload_n 0, 1, 0, 0, 0, 0, 0), (28, .iload_n 1, 1, 0, 0, 0, 0, 0), (29, .invokevirtual 336, 3, 208, 1, 0, 0, 0), (32, .iconst 0, 1, 0, 0, 0, 0, 0), (33, .istore_n 3, 1, 0, 0, 0, 0, 0)]),
  (54, [(34, .iload_n 3, 1, 0, 0, 0, 0, 0), (35, .aload_n 0, 1, 0, 0, 0, 0, 0), (36, .getfield 307, 3, 12, 35, 0, 0, 0), (39, .if_icmp .ge 66, 3, 105, 0, 0, 0, 0), (42, .iconst 0, 1, 0, 0, 0, 0, 0), (43, .istore 4, 2, 0, 0, 0, 0, 0), (45, .iload 4, 2, 0, 0, 0, 0, 0), (47, .aload_n 0, 1, 0, 0, 0, 0, 0), (48, .getfield 307, 3, 12, 35, 0, 0, 0), (51, .if_icmp .ge 48, 3, 99, 0, 0, 0, 0)]),
  (68, [(54, .aload_n 0, 1, 0, 0, 0, 0, 0), (55, .getfield 87, 3, 12, 34, 0, 0, 0), (58, .bipush 6, 2, 0, 0, 0, 6, 0), (60, .iload_n 3, 1, 0, 0, 0, 0, 0), (61, .imul, 1, 0, 0, 0, 0, 0), (62, .iload 4, 2, 0, 0, 0, 0, 0), (64, .iadd, 1, 0, 0, 0, 0, 0), (65, .aload_n 0, 1, 0, 0, 0, 0, 0), (66, .iload_n 1, 1, 0, 0, 0, 0, 0), (67, .iload_n 3, 1, 0, 0, 0, 0, 0)]),
  (88, [(68, .iload 4, 2, 0, 0, 0, 0, 0), (70, .invokevirtual 211, 3, 180, 3, 0, 0, 0), (73, .ifCond .eq 18, 3, 91, 0, 0, 0, 0), (76, .aload_n 0, 1, 0, 0, 0, 0, 0), (77, .getfield 26, 3, 12, 7, 0, 0, 0), (80, .iload_n 1, 1, 0, 0, 0, 0, 0), (81, .iload_n 3, 1, 0, 0, 0, 0, 0), (82, .iload 4, 2, 0, 0, 0, 0, 0), (84, .invokestatic 207, 3, 179, 3, 0, 0, 0), (87, .iaload, 1, 0, 0, 0, 0, 0)])]
set_option maxRecDepth 100000 in
theorem mx_ok251_0 : ∀ q ∈ mx_t251_0, ∀ en ∈ q.2, mx_gd 251 en := mx_gt_s mx_LLok12 mx_KLok12 mx_JLok12 mx_ARok (by decide +kernel)
def mx_t251_1 : List (Nat × List mx_En) := [(108, [(88, .goto 4, 3, 92, 0, 0, 0, 0), (91, .iconst 0, 1, 0, 0, 0, 0, 0), (92, .iastore, 1, 0, 0, 0, 0, 0), (93, .iinc 4 1, 3, 0, 0, 0, 1, 0), (96, .goto (-51), 3, 45, 0, 0, 0, 0), (99, .iinc 3 1, 3, 0, 0, 0, 1, 0), (102, .goto (-68), 3, 34, 0, 0, 0, 0), (105, .aload_n 0, 1, 0, 0, 0, 0, 0), (106, .iload_n 1, 1, 0, 0, 0, 0, 0), (107, .iload_n 2, 1, 0, 0, 0, 0, 0)]),
  (124, [(108, .iconst (-1), 1, 0, 0, 0, -1, 0), (109, .iconst 0, 1, 0, 0, 0, 0, 0), (110, .invokevirtual 451, 3, 250, 4, 0, 0, 0), (113, .iconst 0, 1, 0, 0, 0, 0, 0), (114, .istore_n 3, 1, 0, 0, 0, 0, 0), (115, .iload_n 3, 1, 0, 0, 0, 0, 0), (116, .aload_n 0, 1, 0, 0, 0, 0, 0), (117, .getfield 261, 3, 12, 12, 0, 0, 0), (120, .if_icmp .ge 117, 3, 237, 0, 0, 0, 0), (123, .aload_n 0, 1, 0, 0, 0, 0, 0)]),
  (142, [(124, .getfield 44, 3, 12, 14, 0, 0, 0), (127, .iload_n 3, 1, 0, 0, 0, 0, 0), (128, .iaload, 1, 0, 0, 0, 0, 0), (129, .iconst 1, 1, 0, 0, 0, 1, 0), (130, .isub, 1, 0, 0, 0, 0, 0), (131, .istore 4, 2, 0, 0, 0, 0, 0), (133, .iload 4, 2, 0, 0, 0, 0, 0), (135, .ifCond .lt 96, 3, 231, 0, 0, 0, 0), (138, .iload 4, 2, 0, 0, 0, 0, 0), (140, .bipush 36, 2, 0, 0, 0, 36, 0)]),
  (161, [(142, .idiv, 1, 0, 0, 0, 0, 0), (143, .iload_n 1, 1, 0, 0, 0, 0, 0), (144, .if_icmp .eq 6, 3, 150, 0, 0, 0, 0), (147, .goto 84, 3, 231, 0, 0, 0, 0), (150, .iconst 1, 1, 0, 0, 0, 1, 0), (151, .istore 5, 2, 0, 0, 0, 0, 0), (153, .iload 5, 2, 0, 0, 0, 0, 0), (155, .aload_n 0, 1, 0, 0, 0, 0, 0), (156, .getfield 26, 3, 12, 7, 0, 0, 0), (159, .iload 4, 2, 0, 0, 0, 0, 0)]),
  (178, [(161, .iaload, 1, 0, 0, 0, 0, 0), (162, .if_icmp .gt 45, 3, 207, 0, 0, 0, 0), (165, .aload_n 0, 1, 0, 0, 0, 0, 0), (166, .iload 4, 2, 0, 0, 0, 0, 0), (168, .bipush 6, 2, 0, 0, 0, 6, 0), (170, .idiv, 1, 0, 0, 0, 0, 0), (171, .bipush 6, 2, 0, 0, 0, 6, 0), (173, .irem, 1, 0, 0, 0, 0, 0), (174, .iload 4, 2, 0, 0, 0, 0, 0), (176, .bipush 6, 2, 0, 0, 0, 6, 0)])]
set_option maxRecDepth 100000 in
theorem mx_ok251_1 : ∀ q ∈ mx_t251_1, ∀ en ∈ q.2, mx_gd 251 en := mx_gt_s mx_LLok12 mx_KLok12 mx_JLok12 mx_ARok (by decide +kernel)
def mx_t251_2 : List (Nat × List mx_En) := [(194, [(178, .irem, 1, 0, 0, 0, 0, 0), (179, .aload_n 0, 1, 0, 0, 0, 0, 0), (180, .getfield 26, 3, 12, 7, 0, 0, 0), (183, .iload 4, 2, 0, 0, 0, 0, 0), (185, .iaload, 1, 0, 0, 0, 0, 0), (186, .iload 5, 2, 0, 0, 0, 0, 0), (188, .isub, 1, 0, 0, 0, 0, 0), (189, .invokevirtual 358, 3, 225, 3, 0, 0, 0), (192, .aload_n 0, 1, 0, 0, 0, 0, 0), (193, .iload_n 1, 1, 0, 0, 0, 0, 0)]),
  (213, [(194, .iload_n 2, 1, 0, 0, 0, 0, 0), (195, .iload_n 3, 1, 0, 0, 0, 0, 0), (196, .iload 5, 2, 0, 0, 0, 0, 0), (198, .invokevirtual 451, 3, 250, 4, 0, 0, 0), (201, .iinc 5 1, 3, 0, 0, 0, 1, 0), (204, .goto (-51), 3, 153, 0, 0, 0, 0), (207, .aload_n 0, 1, 0, 0, 0, 0, 0), (208, .iload 4, 2, 0, 0, 0, 0, 0), (210, .bipush 6, 2, 0, 0, 0, 6, 0), (212, .idiv, 1, 0, 0, 0, 0, 0)]),
  (231, [(213, .bipush 6, 2, 0, 0, 0, 6, 0), (215, .irem, 1, 0, 0, 0, 0, 0), (216, .iload 4, 2, 0, 0, 0, 0, 0), (218, .bipush 6, 2, 0, 0, 0, 6, 0), (220, .irem, 1, 0, 0, 0, 0, 0), (221, .aload_n 0, 1, 0, 0, 0, 0, 0), (222, .getfield 26, 3, 12, 7, 0, 0, 0), (225, .iload 4, 2, 0, 0, 0, 0, 0), (227, .iaload, 1, 0, 0, 0, 0, 0), (228, .invokevirtual 358, 3, 225, 3, 0, 0, 0)]),
  (238, [(231, .iinc 3 1, 3, 0, 0, 0, 1, 0), (234, .goto (-119), 3, 115, 0, 0, 0, 0), (237, .return_, 1, 0, 0, 0, 0, 0)])]
set_option maxRecDepth 100000 in
theorem mx_ok251_2 : ∀ q ∈ mx_t251_2, ∀ en ∈ q.2, mx_gd 251 en := mx_gt_s mx_LLok12 mx_KLok12 mx_JLok12 mx_ARok (by decide +kernel)
def mx_t251 : List (Nat × List mx_En) := mx_t251_0 ++ (mx_t251_1 ++ (mx_t251_2))
theorem mx_ok251 : ∀ q ∈ mx_t251, ∀ en ∈ q.2, mx_gd 251 en := (fun q h => (List.mem_append.mp h).elim (mx_ok251_0 q) ((fun q h => (List.mem_append.mp h).elim (mx_ok251_1 q) (mx_ok251_2 q)) q))
def mx_t252 : List (Nat × List mx_En) := [(19, [(0, .aload_n 0, 1, 0, 0, 0, 0, 0), (1, .iload_n 1, 1, 0, 0, 0, 0, 0), (2, .invokevirtual 271, 3, 177, 1, 0, 0, 0), (5, .ifCond .eq 34, 3, 39, 0, 0, 0, 0), (8, .iload_n 2, 1, 0, 0, 0, 0, 0), (9, .iconst 1, 1, 0, 0, 0, 1, 0), (10, .bipush 9, 2, 0, 0, 0, 9, 0), (12, .invokestatic 203, 3, 173, 3, 0, 0, 0), (15, .ifCond .eq 24, 3, 39, 0, 0, 0, 0), (18, .iload_n 3, 1, 0, 0, 0, 0, 0)]),
  (39, [(19, .iconst 0, 1, 0, 0, 0, 0, 0), (20, .iconst 2, 1, 0, 0, 0, 2, 0), (21, .invokestatic 203, 3, 173, 3, 0, 0, 0), (24, .ifCond .eq 15, 3, 39, 0, 0, 0, 0), (27, .aload_n 0, 1, 0, 0, 0, 0, 0), (28, .getfield 439, 3, 12, 65, 0, 0, 0), (31, .aload_n 0, 1, 0, 0, 0, 0, 0), (32, .iload_n 1, 1, 0, 0, 0, 0, 0), (33, .invokevirtual 280, 3, 195, 1, 0, 0, 0), (36, .if_icmp .le 5, 3, 41, 0, 0, 0, 0)]),
  (55, [(39, .iconst (-1), 1, 0, 0, 0, -1, 0), (40, .ireturn, 1, 0, 0, 0, 0, 0), (41, .aload_n 0, 1, 0, 0, 0, 0, 0), (42, .iload_n 1, 1, 0, 0, 0, 0, 0), (43, .iload_n 2, 1, 0, 0, 0, 0, 0), (44, .invokevirtual 454, 3, 251, 2, 0, 0, 0), (47, .iload_n 3, 1, 0, 0, 0, 0, 0), (48, .ifCond .ne 8, 3, 56, 0, 0, 0, 0), (51, .aload_n 0, 1, 0, 0, 0, 0, 0), (52, .getfield 442, 3, 12, 67, 0, 0, 0)]),
  (74, [(55, .ireturn, 1, 0, 0, 0, 0, 0), (56, .aload_n 0, 1, 0, 0, 0, 0, 0), (57, .getfield 442, 3, 12, 67, 0, 0, 0), (60, .ifCond .ne 8, 3, 68, 0, 0, 0, 0), (63, .bipush (-2), 2, 0, 0, 0, -2, 0), (65, .goto 19, 3, 84, 0, 0, 0, 0), (68, .iload_n 3, 1, 0, 0, 0, 0, 0), (69, .iconst 1, 1, 0, 0, 0, 1, 0), (70, .if_icmp .ne 10, 3, 80, 0, 0, 0, 0), (73, .aload_n 0, 1, 0, 0, 0, 0, 0)]),
  (85, [(74, .getfield 445, 3, 12, 68, 0, 0, 0), (77, .goto 7, 3, 84, 0, 0, 0, 0), (80, .aload_n 0, 1, 0, 0, 0, 0, 0), (81, .getfield 448, 3, 12, 69, 0, 0, 0), (84, .ireturn, 1, 0, 0, 0, 0, 0)])]
set_option maxRecDepth 100000 in
theorem mx_ok252 : ∀ q ∈ mx_t252, ∀ en ∈ q.2, mx_gd 252 en := mx_gt_s mx_LLok12 mx_KLok12 mx_JLok12 mx_ARok (by decide +kernel)
def mx_t253 : List (Nat × List mx_En) := [(19, [(0, .aload_n 0, 1, 0, 0, 0, 0, 0), (1, .iload_n 1, 1, 0, 0, 0, 0, 0), (2, .invokevirtual 271, 3, 177, 1, 0, 0, 0), (5, .ifCond .eq 25, 3, 30, 0, 0, 0, 0), (8, .iload_n 2, 1, 0, 0, 0, 0, 0), (9, .iconst 1, 1, 0, 0, 0, 1, 0), (10, .bipush 9, 2, 0, 0, 0, 9, 0), (12, .invokestatic 203, 3, 173, 3, 0, 0, 0), (15, .ifCond .eq 15, 3, 30, 0, 0, 0, 0), (18, .aload_n 0, 1, 0, 0, 0, 0, 0)]),
  (35, [(19, .getfield 439, 3, 12, 65, 0, 0, 0), (22, .aload_n 0, 1, 0, 0, 0, 0, 0), (23, .iload_n 1, 1, 0, 0, 0, 0, 0), (24, .invokevirtual 280, 3, 195, 1, 0, 0, 0), (27, .if_icmp .le 5, 3, 32, 0, 0, 0, 0), (30, .iconst (-1), 1, 0, 0, 0, -1, 0), (31, .ireturn, 1, 0, 0, 0, 0, 0), (32, .aload_n 0, 1, 0, 0, 0, 0, 0), (33, .iload_n 1, 1, 0, 0, 0, 0, 0), (34, .iload_n 2, 1, 0, 0, 0, 0, 0)]),
  (54, [(35, .invokevirtual 454, 3, 251, 2, 0, 0, 0), (38, .aload_n 0, 1, 0, 0, 0, 0, 0), (39, .getfield 442, 3, 12, 67, 0, 0, 0), (42, .ifCond .ne 6, 3, 48, 0, 0, 0, 0), (45, .bipush (-2), 2, 0, 0, 0, -2, 0), (47, .ireturn, 1, 0, 0, 0, 0, 0), (48, .bipush (-2), 2, 0, 0, 0, -2, 0), (50, .istore_n 3, 1, 0, 0, 0, 0, 0), (51, .iconst 0, 1, 0, 0, 0, 0, 0), (52, .istore 4, 2, 0, 0, 0, 0, 0)]),
  (73, [(54, .aload_n 0, 1, 0, 0, 0, 0, 0), (55, .getfield 439, 3, 12, 65, 0, 0, 0), (58, .istore 5, 2, 0, 0, 0, 0, 0), (60, .iload 5, 2, 0, 0, 0, 0, 0), (62, .aload_n 0, 1, 0, 0, 0, 0, 0), (63, .iload_n 1, 1, 0, 0, 0, 0, 0), (64, .invokevirtual 280, 3, 195, 1, 0, 0, 0), (67, .if_icmp .ge 69, 3, 136, 0, 0, 0, 0), (70, .iconst 0, 1, 0, 0, 0, 0, 0), (71, .istore 6, 2, 0, 0, 0, 0, 0)]),
  (93, [(73, .iconst 0, 1, 0, 0, 0, 0, 0), (74, .istore 7, 2, 0, 0, 0, 0, 0), (76, .iload 7, 2, 0, 0, 0, 0, 0), (78, .bipush 100, 2, 0, 0, 0, 100, 0), (80, .if_icmp .ge 29, 3, 109, 0, 0, 0, 0), (83, .iload 6, 2, 0, 0, 0, 0, 0), (85, .aload_n 0, 1, 0, 0, 0, 0, 0), (86, .getfield 139, 3, 12, 70, 0, 0, 0), (89, .bipush 100, 2, 0, 0, 0, 100, 0), (91, .iload 5, 2, 0, 0, 0, 0, 0)]),
  (113, [(93, .imul, 1, 0, 0, 0, 0, 0), (94, .iload 7, 2, 0, 0, 0, 0, 0), (96, .iadd, 1, 0, 0, 0, 0, 0), (97, .iaload, 1, 0, 0, 0, 0, 0), (98, .invokestatic 304, 3, 175, 2, 0, 0, 0), (101, .istore 6, 2, 0, 0, 0, 0, 0), (103, .iinc 7 1, 3, 0, 0, 0, 1, 0), (106, .goto (-30), 3, 76, 0, 0, 0, 0), (109, .iload_n 3, 1, 0, 0, 0, 0, 0), (110, .ifCond .lt 13, 3, 123, 0, 0, 0, 0)]),
  (136, [(113, .iload 6, 2, 0, 0, 0, 0, 0), (115, .iload 4, 2, 0, 0, 0, 0, 0), (117, .if_icmp .lt 6, 3, 123, 0, 0, 0, 0), (120, .goto 10, 3, 130, 0, 0, 0, 0), (123, .iload 5, 2, 0, 0, 0, 0, 0), (125, .istore_n 3, 1, 0, 0, 0, 0, 0), (126, .iload 6, 2, 0, 0, 0, 0, 0), (128, .istore 4, 2, 0, 0, 0, 0, 0), (130, .iinc 5 1, 3, 0, 0, 0, 1, 0), (133, .goto (-73), 3, 60, 0, 0, 0, 0)]),
  (138, [(136, .iload_n 3, 1, 0, 0, 0, 0, 0), (137, .ireturn, 1, 0, 0, 0, 0, 0)])]
set_option maxRecDepth 100000 in
theorem mx_ok253 : ∀ q ∈ mx_t253, ∀ en ∈ q.2, mx_gd 253 en := mx_gt_s mx_LLok12 mx_KLok12 mx_JLok12 mx_ARok (by decide +kernel)
def mx_t254 : List (Nat × List mx_En) := [(18, [(0, .iload_n 1, 1, 0, 0, 0, 0, 0), (1, .iconst 0, 1, 0, 0, 0, 0, 0), (2, .sipush 500, 3, 0, 0, 0, 500, 0), (5, .invokestatic 203, 3, 173, 3, 0, 0, 0), (8, .ifCond .ne 5, 3, 13, 0, 0, 0, 0), (11, .iconst (-1), 1, 0, 0, 0, -1, 0), (12, .ireturn, 1, 0, 0, 0, 0, 0), (13, .aload_n 0, 1, 0, 0, 0, 0, 0), (14, .getfield 457, 3, 12, 71, 0, 0, 0), (17, .istore_n 2, 1, 0, 0, 0, 0, 0)]),
  (25, [(18, .aload_n 0, 1, 0, 0, 0, 0, 0), (19, .iload_n 1, 1, 0, 0, 0, 0, 0), (20, .putfield 457, 3, 12, 71, 0, 0, 0), (23, .iload_n 2, 1, 0, 0, 0, 0, 0), (24, .ireturn, 1, 0, 0, 0, 0, 0)])]
set_option maxRecDepth 100000 in
theorem mx_ok254 : ∀ q ∈ mx_t254, ∀ en ∈ q.2, mx_gd 254 en := mx_gt_s mx_LLok12 mx_KLok12 mx_JLok12 mx_ARok (by decide +kernel)
def mx_t255 : List (Nat × List mx_En) := [(7, [(0, .iload_n 0, 1, 0, 0, 0, 0, 0), (1, .iconst 0, 1, 0, 0, 0, 0, 0), (2, .iconst 3, 1, 0, 0, 0, 3, 0), (3, .invokestatic 203, 3, 173, 3, 0, 0, 0), (6, .ireturn, 1, 0, 0, 0, 0, 0)])]
set_option maxRecDepth 100000 in
theorem mx_ok255 : ∀ q ∈ mx_t255, ∀ en ∈ q.2, mx_gd 255 en := mx_gt_s mx_LLok12 mx_KLok12 mx_JLok12 mx_ARok (by decide +kernel)
def mx_t256 : List (Nat × List mx_En) := [(20, [(0, .iload_n 1, 1, 0, 0, 0, 0, 0), (1, .invokestatic 460, 3, 255, 1, 0, 0, 0), (4, .ifCond .eq 12, 3, 16, 0, 0, 0, 0), (7, .iload_n 2, 1, 0, 0, 0, 0, 0), (8, .iconst (-1), 1, 0, 0, 0, -1, 0), (9, .iconst 5, 1, 0, 0, 0, 5, 0), (10, .invokestatic 203, 3, 173, 3, 0, 0, 0), (13, .ifCond .ne 7, 3, 20, 0, 0, 0, 0), (16, .ldc_w 275, 3, 0, 0, 0, -2000000000, 0), (19, .ireturn, 1, 0, 0, 0, 0, 0)]),
  (34, [(20, .aload_n 0, 1, 0, 0, 0, 0, 0), (21, .getfield 142, 3, 12, 72, 0, 0, 0), (24, .iload_n 1, 1, 0, 0, 0, 0, 0), (25, .iaload, 1, 0, 0, 0, 0, 0), (26, .istore_n 3, 1, 0, 0, 0, 0, 0), (27, .aload_n 0, 1, 0, 0, 0, 0, 0), (28, .getfield 142, 3, 12, 72, 0, 0, 0), (31, .iload_n 1, 1, 0, 0, 0, 0, 0), (32, .iload_n 2, 1, 0, 0, 0, 0, 0), (33, .iastore, 1, 0, 0, 0, 0, 0)]),
  (36, [(34, .iload_n 3, 1, 0, 0, 0, 0, 0), (35, .ireturn, 1, 0, 0, 0, 0, 0)])]
set_option maxRecDepth 100000 in
theorem mx_ok256 : ∀ q ∈ mx_t256, ∀ en ∈ q.2, mx_gd 256 en := mx_gt_s mx_LLok12 mx_KLok12 mx_JLok12 mx_ARok (by decide +kernel)
def mx_t257 : List (Nat × List mx_En) := [(17, [(0, .aload_n 0, 1, 0, 0, 0, 0, 0), (1, .iload_n 1, 1, 0, 0, 0, 0, 0), (2, .invokevirtual 336, 3, 208, 1, 0, 0, 0), (5, .iconst 0, 1, 0, 0, 0, 0, 0), (6, .istore_n 2, 1, 0, 0, 0, 0, 0), (7, .iload_n 2, 1, 0, 0, 0, 0, 0), (8, .bipush 6, 2, 0, 0, 0, 6, 0), (10, .if_icmp .ge 23, 3, 33, 0, 0, 0, 0), (13, .aload_n 0, 1, 0, 0, 0, 0, 0), (14, .getfield 148, 3, 12, 75, 0, 0, 0)]),
  (33, [(17, .iload_n 2, 1, 0, 0, 0, 0, 0), (18, .iconst 0, 1, 0, 0, 0, 0, 0), (19, .iastore, 1, 0, 0, 0, 0, 0), (20, .aload_n 0, 1, 0, 0, 0, 0, 0), (21, .getfield 151, 3, 12, 76, 0, 0, 0), (24, .iload_n 2, 1, 0, 0, 0, 0, 0), (25, .iconst 0, 1, 0, 0, 0, 0, 0), (26, .iastore, 1, 0, 0, 0, 0, 0), (27, .iinc 2 1, 3, 0, 0, 0, 1, 0), (30, .goto (-23), 3, 7, 0, 0, 0, 0)]),
  (47, [(33, .iconst 0, 1, 0, 0, 0, 0, 0), (34, .istore_n 2, 1, 0, 0, 0, 0, 0), (35, .iload_n 2, 1, 0, 0, 0, 0, 0), (36, .iconst 4, 1, 0, 0, 0, 4, 0), (37, .if_icmp .ge 39, 3, 76, 0, 0, 0, 0), (40, .aload_n 0, 1, 0, 0, 0, 0, 0), (41, .getfield 145, 3, 12, 73, 0, 0, 0), (44, .iload_n 2, 1, 0, 0, 0, 0, 0), (45, .aload_n 0, 1, 0, 0, 0, 0, 0), (46, .iload_n 1, 1, 0, 0, 0, 0, 0)]),
  (65, [(47, .aload_n 0, 1, 0, 0, 0, 0, 0), (48, .getfield 142, 3, 12, 72, 0, 0, 0), (51, .iload_n 2, 1, 0, 0, 0, 0, 0), (52, .iaload, 1, 0, 0, 0, 0, 0), (53, .invokevirtual 234, 3, 178, 2, 0, 0, 0), (56, .ifCond .eq 12, 3, 68, 0, 0, 0, 0), (59, .aload_n 0, 1, 0, 0, 0, 0, 0), (60, .getfield 142, 3, 12, 72, 0, 0, 0), (63, .iload_n 2, 1, 0, 0, 0, 0, 0), (64, .iaload, 1, 0, 0, 0, 0, 0)]),
  (82, [(65, .goto 4, 3, 69, 0, 0, 0, 0), (68, .iconst (-1), 1, 0, 0, 0, -1, 0), (69, .iastore, 1, 0, 0, 0, 0, 0), (70, .iinc 2 1, 3, 0, 0, 0, 1, 0), (73, .goto (-38), 3, 35, 0, 0, 0, 0), (76, .aload_n 0, 1, 0, 0, 0, 0, 0), (77, .iconst 0, 1, 0, 0, 0, 0, 0), (78, .putfield 463, 3, 12, 74, 0, 0, 0), (81, .return_, 1, 0, 0, 0, 0, 0)])]
set_option maxRecDepth 100000 in
theorem mx_ok257 : ∀ q ∈ mx_t257, ∀ en ∈ q.2, mx_gd 257 en := mx_gt_s mx_LLok12 mx_KLok12 mx_JLok12 mx_ARok (by decide +kernel)
def mx_t258_0 : List (Nat × List mx_En) := [(16, [(0, .iconst 0, 1, 0, 0, 0, 0, 0), (1, .istore_n 1, 1, 0, 0, 0, 0, 0), (2, .iload_n 1, 1, 0, 0, 0, 0, 0), (3, .aload_n 0, 1, 0, 0, 0, 0, 0), (4, .getfield 307, 3, 12, 35, 0, 0, 0), (7, .if_icmp .ge 84, 3, 91, 0, 0, 0, 0), (10, .aload_n 0, 1, 0, 0, 0, 0, 0), (11, .getfield 81, 3, 12, 32, 0, 0, 0), (14, .iload_n 1, 1, 0, 0, 0, 0, 0), (15, .iaload, 1, 0, 0, 0, 0, 0)]),
  (28, [(16, .aload_n 0, 1, 0, 0, 0, 0, 0), (17, .getfield 148, 3, 12, 75, 0, 0, 0), (20, .iload_n 1, 1, 0, 0, 0, 0, 0), (21, .iaload, 1, 0, 0, 0, 0, 0), (22, .imul, 1, 0, 0, 0, 0, 0), (23, .istore_n 2, 1, 0, 0, 0, 0, 0), (24, .iconst 0, 1, 0, 0, 0, 0, 0), (25, .istore_n 3, 1, 0, 0, 0, 0, 0), (26, .iload_n 3, 1, 0, 0, 0, 0, 0), (27, .aload_n 0, 1, 0, 0, 0, 0, 0)]),
  (45, [(28, .getfield 307, 3, 12, 35, 0, 0, 0), (31, .if_icmp .ge 37, 3, 68, 0, 0, 0, 0), (34, .iload_n 2, 1, 0, 0, 0, 0, 0), (35, .aload_n 0, 1, 0, 0, 0, 0, 0), (36, .getfield 87, 3, 12, 34, 0, 0, 0), (39, .bipush 6, 2, 0, 0, 0, 6, 0), (41, .iload_n 1, 1, 0, 0, 0, 0, 0), (42, .imul, 1, 0, 0, 0, 0, 0), (43, .iload_n 3, 1, 0, 0, 0, 0, 0), (44, .iadd, 1, 0, 0, 0, 0, 0)]),
  (59, [(45, .iaload, 1, 0, 0, 0, 0, 0), (46, .aload_n 0, 1, 0, 0, 0, 0, 0), (47, .getfield 148, 3, 12, 75, 0, 0, 0), (50, .iload_n 1, 1, 0, 0, 0, 0, 0), (51, .iaload, 1, 0, 0, 0, 0, 0), (52, .aload_n 0, 1, 0, 0, 0, 0, 0), (53, .getfield 148, 3, 12, 75, 0, 0, 0), (56, .iload_n 3, 1, 0, 0, 0, 0, 0), (57, .iaload, 1, 0, 0, 0, 0, 0), (58, .isub, 1, 0, 0, 0, 0, 0)]),
  (75, [(59, .imul, 1, 0, 0, 0, 0, 0), (60, .iadd, 1, 0, 0, 0, 0, 0), (61, .istore_n 2, 1, 0, 0, 0, 0, 0), (62, .iinc 3 1, 3, 0, 0, 0, 1, 0), (65, .goto (-39), 3, 26, 0, 0, 0, 0), (68, .aload_n 0, 1, 0, 0, 0, 0, 0), (69, .getfield 154, 3, 12, 77, 0, 0, 0), (72, .iload_n 1, 1, 0, 0, 0, 0, 0), (73, .iload_n 2, 1, 0, 0, 0, 0, 0), (74, .aload_n 0, 1, 0, 0, 0, 0, 0)])]
set_option maxRecDepth 100000 in
theorem mx_ok258_0 : ∀ q ∈ mx_t258_0, ∀ en ∈ q.2, mx_gd 258 en := mx_gt_s mx_LLok12 mx_KLok12 mx_JLok12 mx_ARok (by decide +kernel)
def mx_t258_1 : List (Nat × List mx_En) := [(92, [(75, .getfield 78, 3, 12, 31, 0, 0, 0), (78, .iload_n 1, 1, 0, 0, 0, 0, 0), (79, .iaload, 1, 0, 0, 0, 0, 0), (80, .idiv, 1, 0, 0, 0, 0, 0), (81, .bipush 8, 2, 0, 0, 0, 8, 0), (83, .idiv, 1, 0, 0, 0, 0, 0), (84, .iastore, 1, 0, 0, 0, 0, 0), (85, .iinc 1 1, 3, 0, 0, 0, 1, 0), (88, .goto (-86), 3, 2, 0, 0, 0, 0), (91, .iconst 0, 1, 0, 0, 0, 0, 0)]),
  (108, [(92, .istore_n 1, 1, 0, 0, 0, 0, 0), (93, .iconst 0, 1, 0, 0, 0, 0, 0), (94, .istore_n 2, 1, 0, 0, 0, 0, 0), (95, .iload_n 2, 1, 0, 0, 0, 0, 0), (96, .aload_n 0, 1, 0, 0, 0, 0, 0), (97, .getfield 307, 3, 12, 35, 0, 0, 0), (100, .if_icmp .ge 92, 3, 192, 0, 0, 0, 0), (103, .aload_n 0, 1, 0, 0, 0, 0, 0), (104, .getfield 84, 3, 12, 33, 0, 0, 0), (107, .iload_n 2, 1, 0, 0, 0, 0, 0)]),
  (126, [(108, .baload, 1, 0, 0, 0, 0, 0), (109, .ifCond .eq 6, 3, 115, 0, 0, 0, 0), (112, .goto 74, 3, 186, 0, 0, 0, 0), (115, .aload_n 0, 1, 0, 0, 0, 0, 0), (116, .getfield 151, 3, 12, 76, 0, 0, 0), (119, .iload_n 2, 1, 0, 0, 0, 0, 0), (120, .dup2, 1, 0, 0, 0, 0, 0), (121, .iaload, 1, 0, 0, 0, 0, 0), (122, .aload_n 0, 1, 0, 0, 0, 0, 0), (123, .getfield 154, 3, 12, 77, 0, 0, 0)]),
  (138, [(126, .iload_n 2, 1, 0, 0, 0, 0, 0), (127, .iaload, 1, 0, 0, 0, 0, 0), (128, .isub, 1, 0, 0, 0, 0, 0), (129, .iastore, 1, 0, 0, 0, 0, 0), (130, .aload_n 0, 1, 0, 0, 0, 0, 0), (131, .getfield 151, 3, 12, 76, 0, 0, 0), (134, .iload_n 2, 1, 0, 0, 0, 0, 0), (135, .dup2, 1, 0, 0, 0, 0, 0), (136, .iaload, 1, 0, 0, 0, 0, 0), (137, .aload_n 0, 1, 0, 0, 0, 0, 0)]),
  (154, [(138, .getfield 151, 3, 12, 76, 0, 0, 0), (141, .iload_n 2, 1, 0, 0, 0, 0, 0), (142, .iaload, 1, 0, 0, 0, 0, 0), (143, .aload_n 0, 1, 0, 0, 0, 0, 0), (144, .getfield 457, 3, 12, 71, 0, 0, 0), (147, .imul, 1, 0, 0, 0, 0, 0), (148, .sipush 1000, 3, 0, 0, 0, 1000, 0), (151, .idiv, 1, 0, 0, 0, 0, 0), (152, .isub, 1, 0, 0, 0, 0, 0), (153, .iastore, 1, 0, 0, 0, 0, 0)])]
set_option maxRecDepth 100000 in
theorem mx_ok258_1 : ∀ q ∈ mx_t258_1, ∀ en ∈ q.2, mx_gd 258 en := mx_gt_s mx_LLok12 mx_KLok12 mx_JLok12 mx_ARok (by decide +kernel)
def mx_t258_2 : List (Nat × List mx_En) := [(169, [(154, .aload_n 0, 1, 0, 0, 0, 0, 0), (155, .getfield 148, 3, 12, 75, 0, 0, 0), (158, .iload_n 2, 1, 0, 0, 0, 0, 0), (159, .dup2, 1, 0, 0, 0, 0, 0), (160, .iaload, 1, 0, 0, 0, 0, 0), (161, .aload_n 0, 1, 0, 0, 0, 0, 0), (162, .getfield 151, 3, 12, 76, 0, 0, 0), (165, .iload_n 2, 1, 0, 0, 0, 0, 0), (166, .iaload, 1, 0, 0, 0, 0, 0), (167, .bipush 8, 2, 0, 0, 0, 8, 0)]),
  (185, [(169, .idiv, 1, 0, 0, 0, 0, 0), (170, .iadd, 1, 0, 0, 0, 0, 0), (171, .iastore, 1, 0, 0, 0, 0, 0), (172, .iload_n 1, 1, 0, 0, 0, 0, 0), (173, .aload_n 0, 1, 0, 0, 0, 0, 0), (174, .getfield 148, 3, 12, 75, 0, 0, 0), (177, .iload_n 2, 1, 0, 0, 0, 0, 0), (178, .iaload, 1, 0, 0, 0, 0, 0), (179, .invokestatic 415, 3, 176, 1, 0, 0, 0), (182, .invokestatic 304, 3, 175, 2, 0, 0, 0)]),
  (203, [(185, .istore_n 1, 1, 0, 0, 0, 0, 0), (186, .iinc 2 1, 3, 0, 0, 0, 1, 0), (189, .goto (-94), 3, 95, 0, 0, 0, 0), (192, .iconst 0, 1, 0, 0, 0, 0, 0), (193, .istore_n 2, 1, 0, 0, 0, 0, 0), (194, .iload_n 2, 1, 0, 0, 0, 0, 0), (195, .iconst 4, 1, 0, 0, 0, 4, 0), (196, .if_icmp .ge 44, 3, 240, 0, 0, 0, 0), (199, .aload_n 0, 1, 0, 0, 0, 0, 0), (200, .getfield 145, 3, 12, 73, 0, 0, 0)]),
  (221, [(203, .iload_n 2, 1, 0, 0, 0, 0, 0), (204, .iaload, 1, 0, 0, 0, 0, 0), (205, .ifCond .lt 29, 3, 234, 0, 0, 0, 0), (208, .aload_n 0, 1, 0, 0, 0, 0, 0), (209, .getfield 157, 3, 12, 78, 0, 0, 0), (212, .sipush 200, 3, 0, 0, 0, 200, 0), (215, .iload_n 2, 1, 0, 0, 0, 0, 0), (216, .imul, 1, 0, 0, 0, 0, 0), (217, .aload_n 0, 1, 0, 0, 0, 0, 0), (218, .getfield 463, 3, 12, 74, 0, 0, 0)]),
  (237, [(221, .iadd, 1, 0, 0, 0, 0, 0), (222, .aload_n 0, 1, 0, 0, 0, 0, 0), (223, .getfield 148, 3, 12, 75, 0, 0, 0), (226, .aload_n 0, 1, 0, 0, 0, 0, 0), (227, .getfield 145, 3, 12, 73, 0, 0, 0), (230, .iload_n 2, 1, 0, 0, 0, 0, 0), (231, .iaload, 1, 0, 0, 0, 0, 0), (232, .iaload, 1, 0, 0, 0, 0, 0), (233, .iastore, 1, 0, 0, 0, 0, 0), (234, .iinc 2 1, 3, 0, 0, 0, 1, 0)])]
set_option maxRecDepth 100000 in
theorem mx_ok258_2 : ∀ q ∈ mx_t258_2, ∀ en ∈ q.2, mx_gd 258 en := mx_gt_s mx_LLok12 mx_KLok12 mx_JLok12 mx_ARok (by decide +kernel)
def mx_t258_3 : List (Nat × List mx_En) := [(252, [(237, .goto (-43), 3, 194, 0, 0, 0, 0), (240, .aload_n 0, 1, 0, 0, 0, 0, 0), (241, .dup, 1, 0, 0, 0, 0, 0), (242, .getfield 463, 3, 12, 74, 0, 0, 0), (245, .iconst 1, 1, 0, 0, 0, 1, 0), (246, .iadd, 1, 0, 0, 0, 0, 0), (247, .putfield 463, 3, 12, 74, 0, 0, 0), (250, .iload_n 1, 1, 0, 0, 0, 0, 0), (251, .ireturn, 1, 0, 0, 0, 0, 0)])]
set_option maxRecDepth 100000 in
theorem mx_ok258_3 : ∀ q ∈ mx_t258_3, ∀ en ∈ q.2, mx_gd 258 en := mx_gt_s mx_LLok12 mx_KLok12 mx_JLok12 mx_ARok (by decide +kernel)
def mx_t258 : List (Nat × List mx_En) := mx_t258_0 ++ (mx_t258_1 ++ (mx_t258_2 ++ (mx_t258_3)))
theorem mx_ok258 : ∀ q ∈ mx_t258, ∀ en ∈ q.2, mx_gd 258 en := (fun q h => (List.mem_append.mp h).elim (mx_ok258_0 q) ((fun q h => (List.mem_append.mp h).elim (mx_ok258_1 q) ((fun q h => (List.mem_append.mp h).elim (mx_ok258_2 q) (mx_ok258_3 q)) q)) q))
def mx_t259 : List (Nat × List mx_En) := [(18, [(0, .aload_n 0, 1, 0, 0, 0, 0, 0), (1, .iload_n 1, 1, 0, 0, 0, 0, 0), (2, .invokevirtual 271, 3, 177, 1, 0, 0, 0), (5, .ifCond .eq 35, 3, 40, 0, 0, 0, 0), (8, .aload_n 0, 1, 0, 0, 0, 0, 0), (9, .iload_n 1, 1, 0, 0, 0, 0, 0), (10, .iload_n 2, 1, 0, 0, 0, 0, 0), (11, .invokevirtual 234, 3, 178, 2, 0, 0, 0), (14, .ifCond .eq 26, 3, 40, 0, 0, 0, 0), (17, .iload_n 3, 1, 0, 0, 0, 0, 0)]),
  (41, [(18, .bipush (-99), 2, 0, 0, 0, -99, 0), (20, .bipush 99, 2, 0, 0, 0, 99, 0), (22, .invokestatic 203, 3, 173, 3, 0, 0, 0), (25, .ifCond .eq 15, 3, 40, 0, 0, 0, 0), (28, .iload 4, 2, 0, 0, 0, 0, 0), (30, .iconst 1, 1, 0, 0, 0, 1, 0), (31, .sipush 200, 3, 0, 0, 0, 200, 0), (34, .invokestatic 203, 3, 173, 3, 0, 0, 0), (37, .ifCond .ne 5, 3, 42, 0, 0, 0, 0), (40, .iconst (-1), 1, 0, 0, 0, -1, 0)]),
  (56, [(41, .ireturn, 1, 0, 0, 0, 0, 0), (42, .aload_n 0, 1, 0, 0, 0, 0, 0), (43, .getfield 22, 3, 12, 6, 0, 0, 0), (46, .bipush 6, 2, 0, 0, 0, 6, 0), (48, .iload_n 1, 1, 0, 0, 0, 0, 0), (49, .imul, 1, 0, 0, 0, 0, 0), (50, .iload_n 2, 1, 0, 0, 0, 0, 0), (51, .iadd, 1, 0, 0, 0, 0, 0), (52, .baload, 1, 0, 0, 0, 0, 0), (53, .ifCond .eq 6, 3, 59, 0, 0, 0, 0)]),
  (72, [(56, .bipush (-4), 2, 0, 0, 0, -4, 0), (58, .ireturn, 1, 0, 0, 0, 0, 0), (59, .aload_n 0, 1, 0, 0, 0, 0, 0), (60, .iload_n 1, 1, 0, 0, 0, 0, 0), (61, .invokevirtual 466, 3, 257, 1, 0, 0, 0), (64, .aload_n 0, 1, 0, 0, 0, 0, 0), (65, .getfield 151, 3, 12, 76, 0, 0, 0), (68, .iload_n 2, 1, 0, 0, 0, 0, 0), (69, .iload_n 3, 1, 0, 0, 0, 0, 0), (70, .bipush 64, 2, 0, 0, 0, 64, 0)]),
  (89, [(72, .imul, 1, 0, 0, 0, 0, 0), (73, .iastore, 1, 0, 0, 0, 0, 0), (74, .iconst 0, 1, 0, 0, 0, 0, 0), (75, .istore 5, 2, 0, 0, 0, 0, 0), (77, .iconst 0, 1, 0, 0, 0, 0, 0), (78, .istore 6, 2, 0, 0, 0, 0, 0), (80, .iload 6, 2, 0, 0, 0, 0, 0), (82, .iload 4, 2, 0, 0, 0, 0, 0), (84, .if_icmp .ge 20, 3, 104, 0, 0, 0, 0), (87, .iload 5, 2, 0, 0, 0, 0, 0)]),
  (107, [(89, .aload_n 0, 1, 0, 0, 0, 0, 0), (90, .invokevirtual 469, 3, 258, 0, 0, 0, 0), (93, .invokestatic 304, 3, 175, 2, 0, 0, 0), (96, .istore 5, 2, 0, 0, 0, 0, 0), (98, .iinc 6 1, 3, 0, 0, 0, 1, 0), (101, .goto (-21), 3, 80, 0, 0, 0, 0), (104, .iload 5, 2, 0, 0, 0, 0, 0), (106, .ireturn, 1, 0, 0, 0, 0, 0)])]
set_option maxRecDepth 100000 in
theorem mx_ok259 : ∀ q ∈ mx_t259, ∀ en ∈ q.2, mx_gd 259 en := mx_gt_s mx_LLok12 mx_KLok12 mx_JLok12 mx_ARok (by decide +kernel)
def mx_t260 : List (Nat × List mx_En) := [(20, [(0, .iload_n 1, 1, 0, 0, 0, 0, 0), (1, .iconst 0, 1, 0, 0, 0, 0, 0), (2, .iconst 5, 1, 0, 0, 0, 5, 0), (3, .invokestatic 203, 3, 173, 3, 0, 0, 0), (6, .ifCond .eq 24, 3, 30, 0, 0, 0, 0), (9, .iload_n 2, 1, 0, 0, 0, 0, 0), (10, .bipush (-99), 2, 0, 0, 0, -99, 0), (12, .bipush 99, 2, 0, 0, 0, 99, 0), (14, .invokestatic 203, 3, 173, 3, 0, 0, 0), (17, .ifCond .eq 13, 3, 30, 0, 0, 0, 0)]),
  (38, [(20, .iload_n 3, 1, 0, 0, 0, 0, 0), (21, .iconst 0, 1, 0, 0, 0, 0, 0), (22, .bipush 99, 2, 0, 0, 0, 99, 0), (24, .invokestatic 203, 3, 173, 3, 0, 0, 0), (27, .ifCond .ne 5, 3, 32, 0, 0, 0, 0), (30, .iconst (-1), 1, 0, 0, 0, -1, 0), (31, .ireturn, 1, 0, 0, 0, 0, 0), (32, .aload_n 0, 1, 0, 0, 0, 0, 0), (33, .getfield 472, 3, 12, 79, 0, 0, 0), (36, .bipush 6, 2, 0, 0, 0, 6, 0)]),
  (55, [(38, .if_icmp .ne 6, 3, 44, 0, 0, 0, 0), (41, .bipush (-3), 2, 0, 0, 0, -3, 0), (43, .ireturn, 1, 0, 0, 0, 0, 0), (44, .aload_n 0, 1, 0, 0, 0, 0, 0), (45, .getfield 160, 3, 12, 80, 0, 0, 0), (48, .aload_n 0, 1, 0, 0, 0, 0, 0), (49, .getfield 472, 3, 12, 79, 0, 0, 0), (52, .iload_n 1, 1, 0, 0, 0, 0, 0), (53, .iastore, 1, 0, 0, 0, 0, 0), (54, .aload_n 0, 1, 0, 0, 0, 0, 0)]),
  (73, [(55, .getfield 163, 3, 12, 81, 0, 0, 0), (58, .aload_n 0, 1, 0, 0, 0, 0, 0), (59, .getfield 472, 3, 12, 79, 0, 0, 0), (62, .iload_n 2, 1, 0, 0, 0, 0, 0), (63, .iastore, 1, 0, 0, 0, 0, 0), (64, .aload_n 0, 1, 0, 0, 0, 0, 0), (65, .getfield 166, 3, 12, 82, 0, 0, 0), (68, .aload_n 0, 1, 0, 0, 0, 0, 0), (69, .getfield 472, 3, 12, 79, 0, 0, 0), (72, .iload_n 3, 1, 0, 0, 0, 0, 0)]),
  (89, [(73, .iastore, 1, 0, 0, 0, 0, 0), (74, .aload_n 0, 1, 0, 0, 0, 0, 0), (75, .dup, 1, 0, 0, 0, 0, 0), (76, .getfield 472, 3, 12, 79, 0, 0, 0), (79, .iconst 1, 1, 0, 0, 0, 1, 0), (80, .iadd, 1, 0, 0, 0, 0, 0), (81, .putfield 472, 3, 12, 79, 0, 0, 0), (84, .aload_n 0, 1, 0, 0, 0, 0, 0), (85, .getfield 472, 3, 12, 79, 0, 0, 0), (88, .ireturn, 1, 0, 0, 0, 0, 0)])]
set_option maxRecDepth 100000 in
theorem mx_ok260 : ∀ q ∈ mx_t260, ∀ en ∈ q.2, mx_gd 260 en := mx_gt_s mx_LLok12 mx_KLok12 mx_JLok12 mx_ARok (by decide +kernel)
def mx_t261 : List (Nat × List mx_En) := [(20, [(0, .aload_n 0, 1, 0, 0, 0, 0, 0), (1, .iload_n 1, 1, 0, 0, 0, 0, 0), (2, .invokevirtual 271, 3, 177, 1, 0, 0, 0), (5, .ifCond .eq 14, 3, 19, 0, 0, 0, 0), (8, .iload_n 2, 1, 0, 0, 0, 0, 0), (9, .iconst 1, 1, 0, 0, 0, 1, 0), (10, .sipush 200, 3, 0, 0, 0, 200, 0), (13, .invokestatic 203, 3, 173, 3, 0, 0, 0), (16, .ifCond .ne 5, 3, 21, 0, 0, 0, 0), (19, .iconst (-1), 1, 0, 0, 0, -1, 0)]),
  (37, [(20, .ireturn, 1, 0, 0, 0, 0, 0), (21, .aload_n 0, 1, 0, 0, 0, 0, 0), (22, .getfield 472, 3, 12, 79, 0, 0, 0), (25, .ifCond .ne 6, 3, 31, 0, 0, 0, 0), (28, .bipush (-4), 2, 0, 0, 0, -4, 0), (30, .ireturn, 1, 0, 0, 0, 0, 0), (31, .aload_n 0, 1, 0, 0, 0, 0, 0), (32, .iload_n 1, 1, 0, 0, 0, 0, 0), (33, .invokevirtual 466, 3, 257, 1, 0, 0, 0), (36, .iconst 0, 1, 0, 0, 0, 0, 0)]),
  (53, [(37, .istore_n 3, 1, 0, 0, 0, 0, 0), (38, .iconst 0, 1, 0, 0, 0, 0, 0), (39, .istore 4, 2, 0, 0, 0, 0, 0), (41, .iload 4, 2, 0, 0, 0, 0, 0), (43, .iload_n 2, 1, 0, 0, 0, 0, 0), (44, .if_icmp .ge 102, 3, 146, 0, 0, 0, 0), (47, .iconst 0, 1, 0, 0, 0, 0, 0), (48, .istore 5, 2, 0, 0, 0, 0, 0), (50, .iload 5, 2, 0, 0, 0, 0, 0), (52, .aload_n 0, 1, 0, 0, 0, 0, 0)]),
  (75, [(53, .getfield 472, 3, 12, 79, 0, 0, 0), (56, .if_icmp .ge 75, 3, 131, 0, 0, 0, 0), (59, .aload_n 0, 1, 0, 0, 0, 0, 0), (60, .getfield 166, 3, 12, 82, 0, 0, 0), (63, .iload 5, 2, 0, 0, 0, 0, 0), (65, .iaload, 1, 0, 0, 0, 0, 0), (66, .iload 4, 2, 0, 0, 0, 0, 0), (68, .if_icmp .ne 57, 3, 125, 0, 0, 0, 0), (71, .aload_n 0, 1, 0, 0, 0, 0, 0), (72, .getfield 160, 3, 12, 80, 0, 0, 0)]),
  (95, [(75, .iload 5, 2, 0, 0, 0, 0, 0), (77, .iaload, 1, 0, 0, 0, 0, 0), (78, .aload_n 0, 1, 0, 0, 0, 0, 0), (79, .getfield 307, 3, 12, 35, 0, 0, 0), (82, .if_icmp .ge 43, 3, 125, 0, 0, 0, 0), (85, .aload_n 0, 1, 0, 0, 0, 0, 0), (86, .getfield 84, 3, 12, 33, 0, 0, 0), (89, .aload_n 0, 1, 0, 0, 0, 0, 0), (90, .getfield 160, 3, 12, 80, 0, 0, 0), (93, .iload 5, 2, 0, 0, 0, 0, 0)]),
  (112, [(95, .iaload, 1, 0, 0, 0, 0, 0), (96, .baload, 1, 0, 0, 0, 0, 0), (97, .ifCond .ne 28, 3, 125, 0, 0, 0, 0), (100, .aload_n 0, 1, 0, 0, 0, 0, 0), (101, .getfield 151, 3, 12, 76, 0, 0, 0), (104, .aload_n 0, 1, 0, 0, 0, 0, 0), (105, .getfield 160, 3, 12, 80, 0, 0, 0), (108, .iload 5, 2, 0, 0, 0, 0, 0), (110, .iaload, 1, 0, 0, 0, 0, 0), (111, .dup2, 1, 0, 0, 0, 0, 0)]),
  (128, [(112, .iaload, 1, 0, 0, 0, 0, 0), (113, .aload_n 0, 1, 0, 0, 0, 0, 0), (114, .getfield 163, 3, 12, 81, 0, 0, 0), (117, .iload 5, 2, 0, 0, 0, 0, 0), (119, .iaload, 1, 0, 0, 0, 0, 0), (120, .bipush 64, 2, 0, 0, 0, 64, 0), (122, .imul, 1, 0, 0, 0, 0, 0), (123, .iadd, 1, 0, 0, 0, 0, 0), (124, .iastore, 1, 0, 0, 0, 0, 0), (125, .iinc 5 1, 3, 0, 0, 0, 1, 0)]),
  (148, [(128, .goto (-78), 3, 50, 0, 0, 0, 0), (131, .iload_n 3, 1, 0, 0, 0, 0, 0), (132, .aload_n 0, 1, 0, 0, 0, 0, 0), (133, .invokevirtual 469, 3, 258, 0, 0, 0, 0), (136, .invokestatic 304, 3, 175, 2, 0, 0, 0), (139, .istore_n 3, 1, 0, 0, 0, 0, 0), (140, .iinc 4 1, 3, 0, 0, 0, 1, 0), (143, .goto (-102), 3, 41, 0, 0, 0, 0), (146, .aload_n 0, 1, 0, 0, 0, 0, 0), (147, .iconst 0, 1, 0, 0, 0, 0, 0)]),
  (153, [(148, .putfield 472, 3, 12, 79, 0, 0, 0), (151, .iload_n 3, 1, 0, 0, 0, 0, 0), (152, .ireturn, 1, 0, 0, 0, 0, 0)])]
set_option maxRecDepth 100000 in
theorem mx_ok261 : ∀ q ∈ mx_t261, ∀ en ∈ q.2, mx_gd 261 en := mx_gt_s mx_LLok12 mx_KLok12 mx_JLok12 mx_ARok (by decide +kernel)
def mx_t262 : List (Nat × List mx_En) := [(20, [(0, .iload_n 1, 1, 0, 0, 0, 0, 0), (1, .invokestatic 460, 3, 255, 1, 0, 0, 0), (4, .ifCond .eq 41, 3, 45, 0, 0, 0, 0), (7, .iload_n 2, 1, 0, 0, 0, 0, 0), (8, .iconst 1, 1, 0, 0, 0, 1, 0), (9, .aload_n 0, 1, 0, 0, 0, 0, 0), (10, .getfield 463, 3, 12, 74, 0, 0, 0), (13, .invokestatic 203, 3, 173, 3, 0, 0, 0), (16, .ifCond .eq 29, 3, 45, 0, 0, 0, 0), (19, .aload_n 0, 1, 0, 0, 0, 0, 0)]),
  (38, [(20, .getfield 145, 3, 12, 73, 0, 0, 0), (23, .iload_n 1, 1, 0, 0, 0, 0, 0), (24, .iaload, 1, 0, 0, 0, 0, 0), (25, .ifCond .lt 20, 3, 45, 0, 0, 0, 0), (28, .aload_n 0, 1, 0, 0, 0, 0, 0), (29, .getfield 157, 3, 12, 78, 0, 0, 0), (32, .sipush 200, 3, 0, 0, 0, 200, 0), (35, .iload_n 1, 1, 0, 0, 0, 0, 0), (36, .imul, 1, 0, 0, 0, 0, 0), (37, .iload_n 2, 1, 0, 0, 0, 0, 0)]),
  (49, [(38, .iadd, 1, 0, 0, 0, 0, 0), (39, .iconst 1, 1, 0, 0, 0, 1, 0), (40, .isub, 1, 0, 0, 0, 0, 0), (41, .iaload, 1, 0, 0, 0, 0, 0), (42, .goto 6, 3, 48, 0, 0, 0, 0), (45, .ldc_w 275, 3, 0, 0, 0, -2000000000, 0), (48, .ireturn, 1, 0, 0, 0, 0, 0)])]
set_option maxRecDepth 100000 in
theorem mx_ok262 : ∀ q ∈ mx_t262, ∀ en ∈ q.2, mx_gd 262 en := mx_gt_s mx_LLok12 mx_KLok12 mx_JLok12 mx_ARok (by decide +kernel)
def mx_t263 : List (Nat × List mx_En) := [(18, [(0, .iload_n 1, 1, 0, 0, 0, 0, 0), (1, .invokestatic 460, 3, 255, 1, 0, 0, 0), (4, .ifCond .eq 8, 3, 12, 0, 0, 0, 0), (7, .iload_n 2, 1, 0, 0, 0, 0, 0), (8, .iconst (-1), 1, 0, 0, 0, -1, 0), (9, .if_icmp .ge 5, 3, 14, 0, 0, 0, 0), (12, .iconst (-1), 1, 0, 0, 0, -1, 0), (13, .ireturn, 1, 0, 0, 0, 0, 0), (14, .aload_n 0, 1, 0, 0, 0, 0, 0), (15, .getfield 463, 3, 12, 74, 0, 0, 0)]),
  (35, [(18, .ifCond .eq 12, 3, 30, 0, 0, 0, 0), (21, .aload_n 0, 1, 0, 0, 0, 0, 0), (22, .getfield 145, 3, 12, 73, 0, 0, 0), (25, .iload_n 1, 1, 0, 0, 0, 0, 0), (26, .iaload, 1, 0, 0, 0, 0, 0), (27, .ifCond .ge 6, 3, 33, 0, 0, 0, 0), (30, .bipush (-4), 2, 0, 0, 0, -4, 0), (32, .ireturn, 1, 0, 0, 0, 0, 0), (33, .iload_n 2, 1, 0, 0, 0, 0, 0), (34, .iconst (-1), 1, 0, 0, 0, -1, 0)]),
  (53, [(35, .if_icmp .ne 46, 3, 81, 0, 0, 0, 0), (38, .iconst 0, 1, 0, 0, 0, 0, 0), (39, .istore_n 3, 1, 0, 0, 0, 0, 0), (40, .iconst 0, 1, 0, 0, 0, 0, 0), (41, .istore 4, 2, 0, 0, 0, 0, 0), (43, .iload 4, 2, 0, 0, 0, 0, 0), (45, .aload_n 0, 1, 0, 0, 0, 0, 0), (46, .getfield 463, 3, 12, 74, 0, 0, 0), (49, .if_icmp .ge 30, 3, 79, 0, 0, 0, 0), (52, .iload_n 3, 1, 0, 0, 0, 0, 0)]),
  (72, [(53, .aload_n 0, 1, 0, 0, 0, 0, 0), (54, .getfield 157, 3, 12, 78, 0, 0, 0), (57, .sipush 200, 3, 0, 0, 0, 200, 0), (60, .iload_n 1, 1, 0, 0, 0, 0, 0), (61, .imul, 1, 0, 0, 0, 0, 0), (62, .iload 4, 2, 0, 0, 0, 0, 0), (64, .iadd, 1, 0, 0, 0, 0, 0), (65, .iaload, 1, 0, 0, 0, 0, 0), (66, .invokestatic 415, 3, 176, 1, 0, 0, 0), (69, .invokestatic 304, 3, 175, 2, 0, 0, 0)]),
  (90, [(72, .istore_n 3, 1, 0, 0, 0, 0, 0), (73, .iinc 4 1, 3, 0, 0, 0, 1, 0), (76, .goto (-33), 3, 43, 0, 0, 0, 0), (79, .iload_n 3, 1, 0, 0, 0, 0, 0), (80, .ireturn, 1, 0, 0, 0, 0, 0), (81, .aload_n 0, 1, 0, 0, 0, 0, 0), (82, .getfield 463, 3, 12, 74, 0, 0, 0), (85, .istore_n 3, 1, 0, 0, 0, 0, 0), (86, .iload_n 3, 1, 0, 0, 0, 0, 0), (87, .ifCond .le 30, 3, 117, 0, 0, 0, 0)]),
  (104, [(90, .aload_n 0, 1, 0, 0, 0, 0, 0), (91, .getfield 157, 3, 12, 78, 0, 0, 0), (94, .sipush 200, 3, 0, 0, 0, 200, 0), (97, .iload_n 1, 1, 0, 0, 0, 0, 0), (98, .imul, 1, 0, 0, 0, 0, 0), (99, .iload_n 3, 1, 0, 0, 0, 0, 0), (100, .iadd, 1, 0, 0, 0, 0, 0), (101, .iconst 1, 1, 0, 0, 0, 1, 0), (102, .isub, 1, 0, 0, 0, 0, 0), (103, .iaload, 1, 0, 0, 0, 0, 0)]),
  (124, [(104, .invokestatic 415, 3, 176, 1, 0, 0, 0), (107, .iload_n 2, 1, 0, 0, 0, 0, 0), (108, .if_icmp .gt 9, 3, 117, 0, 0, 0, 0), (111, .iinc 3 (-1), 3, 0, 0, 0, -1, 0), (114, .goto (-28), 3, 86, 0, 0, 0, 0), (117, .iload_n 3, 1, 0, 0, 0, 0, 0), (118, .iconst 1, 1, 0, 0, 0, 1, 0), (119, .iadd, 1, 0, 0, 0, 0, 0), (120, .aload_n 0, 1, 0, 0, 0, 0, 0), (121, .getfield 463, 3, 12, 74, 0, 0, 0)]),
  (128, [(124, .invokestatic 300, 3, 174, 2, 0, 0, 0), (127, .ireturn, 1, 0, 0, 0, 0, 0)])]
set_option maxRecDepth 100000 in
theorem mx_ok263 : ∀ q ∈ mx_t263, ∀ en ∈ q.2, mx_gd 263 en := mx_gt_s mx_LLok12 mx_KLok12 mx_JLok12 mx_ARok (by decide +kernel)
def mx_t264 : List (Nat × List mx_En) := [(17, [(0, .aload_n 0, 1, 0, 0, 0, 0, 0), (1, .getfield 184, 3, 12, 90, 0, 0, 0), (4, .iload_n 1, 1, 0, 0, 0, 0, 0), (5, .iaload, 1, 0, 0, 0, 0, 0), (6, .bipush (-2), 2, 0, 0, 0, -2, 0), (8, .if_icmp .gt 18, 3, 26, 0, 0, 0, 0), (11, .aload_n 0, 1, 0, 0, 0, 0, 0), (12, .getfield 184, 3, 12, 90, 0, 0, 0), (15, .iload_n 1, 1, 0, 0, 0, 0, 0), (16, .iaload, 1, 0, 0, 0, 0, 0)]),
  (28, [(17, .bipush (-4), 2, 0, 0, 0, -4, 0), (19, .if_icmp .lt 7, 3, 26, 0, 0, 0, 0), (22, .iconst 1, 1, 0, 0, 0, 1, 0), (23, .goto 4, 3, 27, 0, 0, 0, 0), (26, .iconst 0, 1, 0, 0, 0, 0, 0), (27, .ireturn, 1, 0, 0, 0, 0, 0)])]
set_option maxRecDepth 100000 in
theorem mx_ok264 : ∀ q ∈ mx_t264, ∀ en ∈ q.2, mx_gd 264 en := mx_gt_s mx_LLok12 mx_KLok12 mx_JLok12 mx_ARok (by decide +kernel)
def mx_t265 : List (Nat × List mx_En) := [(23, [(0, .iload_n 0, 1, 0, 0, 0, 0, 0), (1, .ifCond .ne 8, 3, 9, 0, 0, 0, 0), (4, .bipush 127, 2, 0, 0, 0, 127, 0), (6, .goto 17, 3, 23, 0, 0, 0, 0), (9, .iload_n 0, 1, 0, 0, 0, 0, 0), (10, .iconst 1, 1, 0, 0, 0, 1, 0), (11, .if_icmp .ne 9, 3, 20, 0, 0, 0, 0), (14, .sipush 32767, 3, 0, 0, 0, 32767, 0), (17, .goto 6, 3, 23, 0, 0, 0, 0), (20, .ldc_w 475, 3, 0, 0, 0, 2147483647, 0)]),
  (24, [(23, .ireturn, 1, 0, 0, 0, 0, 0)])]
set_option maxRecDepth 100000 in
theorem mx_ok265 : ∀ q ∈ mx_t265, ∀ en ∈ q.2, mx_gd 265 en := mx_gt_s mx_LLok12 mx_KLok12 mx_JLok12 mx_ARok (by decide +kernel)
def mx_t266 : List (Nat × List mx_En) := [(22, [(0, .iload_n 1, 1, 0, 0, 0, 0, 0), (1, .invokestatic 460, 3, 255, 1, 0, 0, 0), (4, .ifCond .eq 21, 3, 25, 0, 0, 0, 0), (7, .iload_n 2, 1, 0, 0, 0, 0, 0), (8, .invokestatic 476, 3, 300, 1, 0, 0, 0), (11, .ifCond .eq 14, 3, 25, 0, 0, 0, 0), (14, .iload 4, 2, 0, 0, 0, 0, 0), (16, .iconst 1, 1, 0, 0, 0, 1, 0), (17, .bipush 60, 2, 0, 0, 0, 60, 0), (19, .invokestatic 203, 3, 173, 3, 0, 0, 0)]),
  (40, [(22, .ifCond .ne 5, 3, 27, 0, 0, 0, 0), (25, .iconst (-1), 1, 0, 0, 0, -1, 0), (26, .ireturn, 1, 0, 0, 0, 0, 0), (27, .aload_n 0, 1, 0, 0, 0, 0, 0), (28, .getfield 463, 3, 12, 74, 0, 0, 0), (31, .ifCond .eq 12, 3, 43, 0, 0, 0, 0), (34, .aload_n 0, 1, 0, 0, 0, 0, 0), (35, .getfield 145, 3, 12, 73, 0, 0, 0), (38, .iload_n 1, 1, 0, 0, 0, 0, 0), (39, .iaload, 1, 0, 0, 0, 0, 0)]),
  (58, [(40, .ifCond .ge 6, 3, 46, 0, 0, 0, 0), (43, .bipush (-4), 2, 0, 0, 0, -4, 0), (45, .ireturn, 1, 0, 0, 0, 0, 0), (46, .aload_n 0, 1, 0, 0, 0, 0, 0), (47, .getfield 184, 3, 12, 90, 0, 0, 0), (50, .iload_n 2, 1, 0, 0, 0, 0, 0), (51, .iaload, 1, 0, 0, 0, 0, 0), (52, .iconst (-1), 1, 0, 0, 0, -1, 0), (53, .if_icmp .ne 6, 3, 59, 0, 0, 0, 0), (56, .bipush (-11), 2, 0, 0, 0, -11, 0)]),
  (73, [(58, .ireturn, 1, 0, 0, 0, 0, 0), (59, .aload_n 0, 1, 0, 0, 0, 0, 0), (60, .iload_n 2, 1, 0, 0, 0, 0, 0), (61, .invokevirtual 479, 3, 264, 1, 0, 0, 0), (64, .ifCond .ne 6, 3, 70, 0, 0, 0, 0), (67, .bipush (-12), 2, 0, 0, 0, -12, 0), (69, .ireturn, 1, 0, 0, 0, 0, 0), (70, .iload_n 3, 1, 0, 0, 0, 0, 0), (71, .iconst 0, 1, 0, 0, 0, 0, 0), (72, .aload_n 0, 1, 0, 0, 0, 0, 0)]),
  (91, [(73, .getfield 187, 3, 12, 91, 0, 0, 0), (76, .iload_n 2, 1, 0, 0, 0, 0, 0), (77, .iaload, 1, 0, 0, 0, 0, 0), (78, .iconst 1, 1, 0, 0, 0, 1, 0), (79, .isub, 1, 0, 0, 0, 0, 0), (80, .invokestatic 203, 3, 173, 3, 0, 0, 0), (83, .ifCond .ne 6, 3, 89, 0, 0, 0, 0), (86, .bipush (-13), 2, 0, 0, 0, -13, 0), (88, .ireturn, 1, 0, 0, 0, 0, 0), (89, .bipush (-2), 2, 0, 0, 0, -2, 0)]),
  (108, [(91, .aload_n 0, 1, 0, 0, 0, 0, 0), (92, .getfield 184, 3, 12, 90, 0, 0, 0), (95, .iload_n 2, 1, 0, 0, 0, 0, 0), (96, .iaload, 1, 0, 0, 0, 0, 0), (97, .isub, 1, 0, 0, 0, 0, 0), (98, .invokestatic 482, 3, 265, 1, 0, 0, 0), (101, .istore 5, 2, 0, 0, 0, 0, 0), (103, .iconst 0, 1, 0, 0, 0, 0, 0), (104, .istore 6, 2, 0, 0, 0, 0, 0), (106, .iload 6, 2, 0, 0, 0, 0, 0)]),
  (127, [(108, .iload 4, 2, 0, 0, 0, 0, 0), (110, .if_icmp .ge 91, 3, 201, 0, 0, 0, 0), (113, .iload 6, 2, 0, 0, 0, 0, 0), (115, .aload_n 0, 1, 0, 0, 0, 0, 0), (116, .getfield 463, 3, 12, 74, 0, 0, 0), (119, .if_icmp .ge 82, 3, 201, 0, 0, 0, 0), (122, .iload_n 3, 1, 0, 0, 0, 0, 0), (123, .iload 6, 2, 0, 0, 0, 0, 0), (125, .iadd, 1, 0, 0, 0, 0, 0), (126, .aload_n 0, 1, 0, 0, 0, 0, 0)]),
  (146, [(127, .getfield 187, 3, 12, 91, 0, 0, 0), (130, .iload_n 2, 1, 0, 0, 0, 0, 0), (131, .iaload, 1, 0, 0, 0, 0, 0), (132, .if_icmp .ge 69, 3, 201, 0, 0, 0, 0), (135, .aload_n 0, 1, 0, 0, 0, 0, 0), (136, .getfield 157, 3, 12, 78, 0, 0, 0), (139, .sipush 200, 3, 0, 0, 0, 200, 0), (142, .iload_n 1, 1, 0, 0, 0, 0, 0), (143, .imul, 1, 0, 0, 0, 0, 0), (144, .iload 6, 2, 0, 0, 0, 0, 0)]),
  (160, [(146, .iadd, 1, 0, 0, 0, 0, 0), (147, .iaload, 1, 0, 0, 0, 0, 0), (148, .istore 7, 2, 0, 0, 0, 0, 0), (150, .aload_n 0, 1, 0, 0, 0, 0, 0), (151, .getfield 190, 3, 12, 92, 0, 0, 0), (154, .bipush 60, 2, 0, 0, 0, 60, 0), (156, .iload_n 2, 1, 0, 0, 0, 0, 0), (157, .imul, 1, 0, 0, 0, 0, 0), (158, .iload_n 3, 1, 0, 0, 0, 0, 0), (159, .iadd, 1, 0, 0, 0, 0, 0)]),
  (180, [(160, .iload 6, 2, 0, 0, 0, 0, 0), (162, .iadd, 1, 0, 0, 0, 0, 0), (163, .iload 7, 2, 0, 0, 0, 0, 0), (165, .iload 5, 2, 0, 0, 0, 0, 0), (167, .if_icmp .le 9, 3, 176, 0, 0, 0, 0), (170, .iload 5, 2, 0, 0, 0, 0, 0), (172, .i2l, 1, 0, 0, 0, 0, 0), (173, .goto 21, 3, 194, 0, 0, 0, 0), (176, .iload 7, 2, 0, 0, 0, 0, 0), (178, .iload 5, 2, 0, 0, 0, 0, 0)]),
  (198, [(180, .ineg, 1, 0, 0, 0, 0, 0), (181, .if_icmp .ge 10, 3, 191, 0, 0, 0, 0), (184, .iload 5, 2, 0, 0, 0, 0, 0), (186, .ineg, 1, 0, 0, 0, 0, 0), (187, .i2l, 1, 0, 0, 0, 0, 0), (188, .goto 6, 3, 194, 0, 0, 0, 0), (191, .iload 7, 2, 0, 0, 0, 0, 0), (193, .i2l, 1, 0, 0, 0, 0, 0), (194, .lastore, 1, 0, 0, 0, 0, 0), (195, .iinc 6 1, 3, 0, 0, 0, 1, 0)]),
  (204, [(198, .goto (-92), 3, 106, 0, 0, 0, 0), (201, .iload 6, 2, 0, 0, 0, 0, 0), (203, .ireturn, 1, 0, 0, 0, 0, 0)])]
set_option maxRecDepth 100000 in
theorem mx_ok266 : ∀ q ∈ mx_t266, ∀ en ∈ q.2, mx_gd 266 en := mx_gt_s mx_LLok12 mx_KLok12 mx_JLok12 mx_ARok (by decide +kernel)
def mx_t267 : List (Nat × List mx_En) := [(13, [(0, .aload_n 0, 1, 0, 0, 0, 0, 0), (1, .getfield 190, 3, 12, 92, 0, 0, 0), (4, .bipush 60, 2, 0, 0, 0, 60, 0), (6, .iload_n 1, 1, 0, 0, 0, 0, 0), (7, .imul, 1, 0, 0, 0, 0, 0), (8, .iload_n 2, 1, 0, 0, 0, 0, 0), (9, .iadd, 1, 0, 0, 0, 0, 0), (10, .laload, 1, 0, 0, 0, 0, 0), (11, .lstore_n 3, 1, 0, 0, 0, 0, 0), (12, .lload_n 3, 1, 0, 0, 0, 0, 0)]),
  (30, [(13, .ldc2_w 485, 3, 0, 0, 0, 0, -1), (16, .bipush (-2), 2, 0, 0, 0, -2, 0), (18, .aload_n 0, 1, 0, 0, 0, 0, 0), (19, .getfield 184, 3, 12, 90, 0, 0, 0), (22, .iload_n 1, 1, 0, 0, 0, 0, 0), (23, .iaload, 1, 0, 0, 0, 0, 0), (24, .isub, 1, 0, 0, 0, 0, 0), (25, .invokestatic 482, 3, 265, 1, 0, 0, 0), (28, .i2l, 1, 0, 0, 0, 0, 0), (29, .lsub, 1, 0, 0, 0, 0, 0)]),
  (40, [(30, .lcmp, 1, 0, 0, 0, 0, 0), (31, .ifCond .ne 7, 3, 38, 0, 0, 0, 0), (34, .lconst 0, 1, 0, 0, 0, 0, 0), (35, .goto 4, 3, 39, 0, 0, 0, 0), (38, .lload_n 3, 1, 0, 0, 0, 0, 0), (39, .lreturn, 1, 0, 0, 0, 0, 0)])]
set_option maxRecDepth 100000 in
theorem mx_ok267 : ∀ q ∈ mx_t267, ∀ en ∈ q.2, mx_gd 267 en := mx_gt_s mx_LLok12 mx_KLok12 mx_JLok12 mx_ARok (by decide +kernel)
end
section
def mx_t268 : List (Nat × List mx_En) := [(12, [(0, .iload_n 0, 1, 0, 0, 0, 0, 0), (1, .iconst 2, 1, 0, 0, 0, 2, 0), (2, .iload_n 1, 1, 0, 0, 0, 0, 0), (3, .iload_n 0, 1, 0, 0, 0, 0, 0), (4, .irem, 1, 0, 0, 0, 0, 0), (5, .imul, 1, 0, 0, 0, 0, 0), (6, .isub, 1, 0, 0, 0, 0, 0), (7, .istore_n 2, 1, 0, 0, 0, 0, 0), (8, .iload_n 2, 1, 0, 0, 0, 0, 0), (9, .ifCond .le 7, 3, 16, 0, 0, 0, 0)]),
  (26, [(12, .iconst 1, 1, 0, 0, 0, 1, 0), (13, .goto 12, 3, 25, 0, 0, 0, 0), (16, .iload_n 2, 1, 0, 0, 0, 0, 0), (17, .ifCond .ge 7, 3, 24, 0, 0, 0, 0), (20, .iconst (-1), 1, 0, 0, 0, -1, 0), (21, .goto 4, 3, 25, 0, 0, 0, 0), (24, .iconst 0, 1, 0, 0, 0, 0, 0), (25, .ireturn, 1, 0, 0, 0, 0, 0)])]
set_option maxRecDepth 100000 in
theorem mx_ok268 : ∀ q ∈ mx_t268, ∀ en ∈ q.2, mx_gd 268 en := mx_gt_s mx_LLok12 mx_KLok12 mx_JLok12 mx_ARok (by decide +kernel)
def mx_t269 : List (Nat × List mx_En) := [(15, [(0, .lconst 0, 1, 0, 0, 0, 0, 0), (1, .lstore_n 3, 1, 0, 0, 0, 0, 0), (2, .lconst 0, 1, 0, 0, 0, 0, 0), (3, .lstore 5, 2, 0, 0, 0, 0, 0), (5, .iconst 0, 1, 0, 0, 0, 0, 0), (6, .istore 7, 2, 0, 0, 0, 0, 0), (8, .iload 7, 2, 0, 0, 0, 0, 0), (10, .aload_n 0, 1, 0, 0, 0, 0, 0), (11, .getfield 187, 3, 12, 91, 0, 0, 0), (14, .iload_n 1, 1, 0, 0, 0, 0, 0)]),
  (33, [(15, .iaload, 1, 0, 0, 0, 0, 0), (16, .if_icmp .ge 51, 3, 67, 0, 0, 0, 0), (19, .lload_n 3, 1, 0, 0, 0, 0, 0), (20, .aload_n 0, 1, 0, 0, 0, 0, 0), (21, .iload_n 1, 1, 0, 0, 0, 0, 0), (22, .iload 7, 2, 0, 0, 0, 0, 0), (24, .invokevirtual 487, 3, 267, 2, 0, 0, 0), (27, .iload_n 2, 1, 0, 0, 0, 0, 0), (28, .iload 7, 2, 0, 0, 0, 0, 0), (30, .invokestatic 490, 3, 268, 2, 0, 0, 0)]),
  (47, [(33, .i2l, 1, 0, 0, 0, 0, 0), (34, .lmul, 1, 0, 0, 0, 0, 0), (35, .ladd, 1, 0, 0, 0, 0, 0), (36, .lstore_n 3, 1, 0, 0, 0, 0, 0), (37, .lload 5, 2, 0, 0, 0, 0, 0), (39, .aload_n 0, 1, 0, 0, 0, 0, 0), (40, .iload_n 1, 1, 0, 0, 0, 0, 0), (41, .iload 7, 2, 0, 0, 0, 0, 0), (43, .invokevirtual 487, 3, 267, 2, 0, 0, 0), (46, .iload_n 2, 1, 0, 0, 0, 0, 0)]),
  (61, [(47, .iload 7, 2, 0, 0, 0, 0, 0), (49, .iload_n 2, 1, 0, 0, 0, 0, 0), (50, .iconst 4, 1, 0, 0, 0, 4, 0), (51, .idiv, 1, 0, 0, 0, 0, 0), (52, .iadd, 1, 0, 0, 0, 0, 0), (53, .invokestatic 490, 3, 268, 2, 0, 0, 0), (56, .i2l, 1, 0, 0, 0, 0, 0), (57, .lmul, 1, 0, 0, 0, 0, 0), (58, .ladd, 1, 0, 0, 0, 0, 0), (59, .lstore 5, 2, 0, 0, 0, 0, 0)]),
  (79, [(61, .iinc 7 1, 3, 0, 0, 0, 1, 0), (64, .goto (-56), 3, 8, 0, 0, 0, 0), (67, .lload_n 3, 1, 0, 0, 0, 0, 0), (68, .lconst 0, 1, 0, 0, 0, 0, 0), (69, .lcmp, 1, 0, 0, 0, 0, 0), (70, .ifCond .ge 8, 3, 78, 0, 0, 0, 0), (73, .lload_n 3, 1, 0, 0, 0, 0, 0), (74, .lneg, 1, 0, 0, 0, 0, 0), (75, .goto 4, 3, 79, 0, 0, 0, 0), (78, .lload_n 3, 1, 0, 0, 0, 0, 0)]),
  (97, [(79, .lstore_n 3, 1, 0, 0, 0, 0, 0), (80, .lload 5, 2, 0, 0, 0, 0, 0), (82, .lconst 0, 1, 0, 0, 0, 0, 0), (83, .lcmp, 1, 0, 0, 0, 0, 0), (84, .ifCond .ge 9, 3, 93, 0, 0, 0, 0), (87, .lload 5, 2, 0, 0, 0, 0, 0), (89, .lneg, 1, 0, 0, 0, 0, 0), (90, .goto 5, 3, 95, 0, 0, 0, 0), (93, .lload 5, 2, 0, 0, 0, 0, 0), (95, .lstore 5, 2, 0, 0, 0, 0, 0)]),
  (115, [(97, .lload_n 3, 1, 0, 0, 0, 0, 0), (98, .lload 5, 2, 0, 0, 0, 0, 0), (100, .lcmp, 1, 0, 0, 0, 0, 0), (101, .ifCond .le 14, 3, 115, 0, 0, 0, 0), (104, .lload_n 3, 1, 0, 0, 0, 0, 0), (105, .lload 5, 2, 0, 0, 0, 0, 0), (107, .ldc2_w 493, 3, 0, 0, 0, 0, 2), (110, .ldiv, 1, 0, 0, 0, 0, 0), (111, .ladd, 1, 0, 0, 0, 0, 0), (112, .goto 11, 3, 123, 0, 0, 0, 0)]),
  (124, [(115, .lload 5, 2, 0, 0, 0, 0, 0), (117, .lload_n 3, 1, 0, 0, 0, 0, 0), (118, .ldc2_w 493, 3, 0, 0, 0, 0, 2), (121, .ldiv, 1, 0, 0, 0, 0, 0), (122, .ladd, 1, 0, 0, 0, 0, 0), (123, .lreturn, 1, 0, 0, 0, 0, 0)])]
set_option maxRecDepth 100000 in
theorem mx_ok269 : ∀ q ∈ mx_t269, ∀ en ∈ q.2, mx_gd 269 en := mx_gt_s mx_LLok12 mx_KLok12 mx_JLok12 mx_ARok (by decide +kernel)
def mx_t270 : List (Nat × List mx_En) := [(18, [(0, .iload_n 1, 1, 0, 0, 0, 0, 0), (1, .invokestatic 476, 3, 300, 1, 0, 0, 0), (4, .ifCond .ne 7, 3, 11, 0, 0, 0, 0), (7, .iconst (-1), 1, 0, 0, 0, -1, 0), (8, .goto 32, 3, 40, 0, 0, 0, 0), (11, .aload_n 0, 1, 0, 0, 0, 0, 0), (12, .getfield 184, 3, 12, 90, 0, 0, 0), (15, .iload_n 1, 1, 0, 0, 0, 0, 0), (16, .iaload, 1, 0, 0, 0, 0, 0), (17, .iconst (-1), 1, 0, 0, 0, -1, 0)]),
  (40, [(18, .if_icmp .ne 8, 3, 26, 0, 0, 0, 0), (21, .bipush (-11), 2, 0, 0, 0, -11, 0), (23, .goto 17, 3, 40, 0, 0, 0, 0), (26, .aload_n 0, 1, 0, 0, 0, 0, 0), (27, .iload_n 1, 1, 0, 0, 0, 0, 0), (28, .invokevirtual 479, 3, 264, 1, 0, 0, 0), (31, .ifCond .ne 8, 3, 39, 0, 0, 0, 0), (34, .bipush (-12), 2, 0, 0, 0, -12, 0), (36, .goto 4, 3, 40, 0, 0, 0, 0), (39, .iconst 0, 1, 0, 0, 0, 0, 0)]),
  (41, [(40, .ireturn, 1, 0, 0, 0, 0, 0)])]
set_option maxRecDepth 100000 in
theorem mx_ok270 : ∀ q ∈ mx_t270, ∀ en ∈ q.2, mx_gd 270 en := mx_gt_s mx_LLok12 mx_KLok12 mx_JLok12 mx_ARok (by decide +kernel)
def mx_t271 : List (Nat × List mx_En) := [(19, [(0, .iload_n 1, 1, 0, 0, 0, 0, 0), (1, .invokestatic 476, 3, 300, 1, 0, 0, 0), (4, .ifCond .eq 13, 3, 17, 0, 0, 0, 0), (7, .iload_n 2, 1, 0, 0, 0, 0, 0), (8, .iconst 2, 1, 0, 0, 0, 2, 0), (9, .bipush 60, 2, 0, 0, 0, 60, 0), (11, .invokestatic 203, 3, 173, 3, 0, 0, 0), (14, .ifCond .ne 5, 3, 19, 0, 0, 0, 0), (17, .iconst (-1), 1, 0, 0, 0, -1, 0), (18, .ireturn, 1, 0, 0, 0, 0, 0)]),
  (35, [(19, .aload_n 0, 1, 0, 0, 0, 0, 0), (20, .iload_n 1, 1, 0, 0, 0, 0, 0), (21, .invokevirtual 495, 3, 270, 1, 0, 0, 0), (24, .ifCond .ge 9, 3, 33, 0, 0, 0, 0), (27, .aload_n 0, 1, 0, 0, 0, 0, 0), (28, .iload_n 1, 1, 0, 0, 0, 0, 0), (29, .invokevirtual 495, 3, 270, 1, 0, 0, 0), (32, .ireturn, 1, 0, 0, 0, 0, 0), (33, .aload_n 0, 1, 0, 0, 0, 0, 0), (34, .iload_n 1, 1, 0, 0, 0, 0, 0)]),
  (55, [(35, .iload_n 2, 1, 0, 0, 0, 0, 0), (36, .invokevirtual 498, 3, 269, 2, 0, 0, 0), (39, .lstore_n 3, 1, 0, 0, 0, 0, 0), (40, .lload_n 3, 1, 0, 0, 0, 0, 0), (41, .ldc2_w 501, 3, 0, 0, 0, 0, 1999999999), (44, .lcmp, 1, 0, 0, 0, 0, 0), (45, .ifCond .le 9, 3, 54, 0, 0, 0, 0), (48, .ldc_w 503, 3, 0, 0, 0, 1999999999, 0), (51, .goto 5, 3, 56, 0, 0, 0, 0), (54, .lload_n 3, 1, 0, 0, 0, 0, 0)]),
  (57, [(55, .l2i, 1, 0, 0, 0, 0, 0), (56, .ireturn, 1, 0, 0, 0, 0, 0)])]
set_option maxRecDepth 100000 in
theorem mx_ok271 : ∀ q ∈ mx_t271, ∀ en ∈ q.2, mx_gd 271 en := mx_gt_s mx_LLok12 mx_KLok12 mx_JLok12 mx_ARok (by decide +kernel)
def mx_t272 : List (Nat × List mx_En) := [(18, [(0, .aload_n 0, 1, 0, 0, 0, 0, 0), (1, .iload_n 1, 1, 0, 0, 0, 0, 0), (2, .invokevirtual 495, 3, 270, 1, 0, 0, 0), (5, .ifCond .ge 9, 3, 14, 0, 0, 0, 0), (8, .aload_n 0, 1, 0, 0, 0, 0, 0), (9, .iload_n 1, 1, 0, 0, 0, 0, 0), (10, .invokevirtual 495, 3, 270, 1, 0, 0, 0), (13, .ireturn, 1, 0, 0, 0, 0, 0), (14, .aload_n 0, 1, 0, 0, 0, 0, 0), (15, .getfield 187, 3, 12, 91, 0, 0, 0)]),
  (31, [(18, .iload_n 1, 1, 0, 0, 0, 0, 0), (19, .iaload, 1, 0, 0, 0, 0, 0), (20, .ifCond .ne 6, 3, 26, 0, 0, 0, 0), (23, .bipush (-2), 2, 0, 0, 0, -2, 0), (25, .ireturn, 1, 0, 0, 0, 0, 0), (26, .iconst 2, 1, 0, 0, 0, 2, 0), (27, .istore_n 2, 1, 0, 0, 0, 0, 0), (28, .aload_n 0, 1, 0, 0, 0, 0, 0), (29, .iload_n 1, 1, 0, 0, 0, 0, 0), (30, .iconst 2, 1, 0, 0, 0, 2, 0)]),
  (46, [(31, .invokevirtual 498, 3, 269, 2, 0, 0, 0), (34, .aload_n 0, 1, 0, 0, 0, 0, 0), (35, .getfield 187, 3, 12, 91, 0, 0, 0), (38, .iload_n 1, 1, 0, 0, 0, 0, 0), (39, .iaload, 1, 0, 0, 0, 0, 0), (40, .i2l, 1, 0, 0, 0, 0, 0), (41, .ldiv, 1, 0, 0, 0, 0, 0), (42, .lstore_n 3, 1, 0, 0, 0, 0, 0), (43, .iconst 3, 1, 0, 0, 0, 3, 0), (44, .istore 5, 2, 0, 0, 0, 0, 0)]),
  (65, [(46, .iload 5, 2, 0, 0, 0, 0, 0), (48, .bipush 60, 2, 0, 0, 0, 60, 0), (50, .if_icmp .gt 42, 3, 92, 0, 0, 0, 0), (53, .aload_n 0, 1, 0, 0, 0, 0, 0), (54, .iload_n 1, 1, 0, 0, 0, 0, 0), (55, .iload 5, 2, 0, 0, 0, 0, 0), (57, .invokevirtual 498, 3, 269, 2, 0, 0, 0), (60, .aload_n 0, 1, 0, 0, 0, 0, 0), (61, .getfield 187, 3, 12, 91, 0, 0, 0), (64, .iload_n 1, 1, 0, 0, 0, 0, 0)]),
  (82, [(65, .iaload, 1, 0, 0, 0, 0, 0), (66, .i2l, 1, 0, 0, 0, 0, 0), (67, .ldiv, 1, 0, 0, 0, 0, 0), (68, .lstore 6, 2, 0, 0, 0, 0, 0), (70, .lload 6, 2, 0, 0, 0, 0, 0), (72, .lload_n 3, 1, 0, 0, 0, 0, 0), (73, .lcmp, 1, 0, 0, 0, 0, 0), (74, .ifCond .gt 6, 3, 80, 0, 0, 0, 0), (77, .goto 9, 3, 86, 0, 0, 0, 0), (80, .iload 5, 2, 0, 0, 0, 0, 0)]),
  (94, [(82, .istore_n 2, 1, 0, 0, 0, 0, 0), (83, .lload 6, 2, 0, 0, 0, 0, 0), (85, .lstore_n 3, 1, 0, 0, 0, 0, 0), (86, .iinc 5 1, 3, 0, 0, 0, 1, 0), (89, .goto (-43), 3, 46, 0, 0, 0, 0), (92, .iload_n 2, 1, 0, 0, 0, 0, 0), (93, .ireturn, 1, 0, 0, 0, 0, 0)])]
set_option maxRecDepth 100000 in
theorem mx_ok272 : ∀ q ∈ mx_t272, ∀ en ∈ q.2, mx_gd 272 en := mx_gt_s mx_LLok12 mx_KLok12 mx_JLok12 mx_ARok (by decide +kernel)
def mx_t273 : List (Nat × List mx_En) := [(20, [(0, .iload_n 1, 1, 0, 0, 0, 0, 0), (1, .iconst 1, 1, 0, 0, 0, 1, 0), (2, .bipush 9, 2, 0, 0, 0, 9, 0), (4, .invokestatic 203, 3, 173, 3, 0, 0, 0), (7, .ifCond .eq 13, 3, 20, 0, 0, 0, 0), (10, .iload_n 2, 1, 0, 0, 0, 0, 0), (11, .iconst 1, 1, 0, 0, 0, 1, 0), (12, .bipush 9, 2, 0, 0, 0, 9, 0), (14, .invokestatic 203, 3, 173, 3, 0, 0, 0), (17, .ifCond .ne 5, 3, 22, 0, 0, 0, 0)]),
  (38, [(20, .iconst (-1), 1, 0, 0, 0, -1, 0), (21, .ireturn, 1, 0, 0, 0, 0, 0), (22, .aload_n 0, 1, 0, 0, 0, 0, 0), (23, .getfield 504, 3, 12, 83, 0, 0, 0), (26, .bipush 6, 2, 0, 0, 0, 6, 0), (28, .if_icmp .ne 6, 3, 34, 0, 0, 0, 0), (31, .bipush (-3), 2, 0, 0, 0, -3, 0), (33, .ireturn, 1, 0, 0, 0, 0, 0), (34, .aload_n 0, 1, 0, 0, 0, 0, 0), (35, .getfield 169, 3, 12, 84, 0, 0, 0)]),
  (54, [(38, .aload_n 0, 1, 0, 0, 0, 0, 0), (39, .getfield 504, 3, 12, 83, 0, 0, 0), (42, .iload_n 1, 1, 0, 0, 0, 0, 0), (43, .iastore, 1, 0, 0, 0, 0, 0), (44, .aload_n 0, 1, 0, 0, 0, 0, 0), (45, .getfield 172, 3, 12, 85, 0, 0, 0), (48, .aload_n 0, 1, 0, 0, 0, 0, 0), (49, .getfield 504, 3, 12, 83, 0, 0, 0), (52, .iload_n 2, 1, 0, 0, 0, 0, 0), (53, .iastore, 1, 0, 0, 0, 0, 0)]),
  (69, [(54, .aload_n 0, 1, 0, 0, 0, 0, 0), (55, .dup, 1, 0, 0, 0, 0, 0), (56, .getfield 504, 3, 12, 83, 0, 0, 0), (59, .iconst 1, 1, 0, 0, 0, 1, 0), (60, .iadd, 1, 0, 0, 0, 0, 0), (61, .putfield 504, 3, 12, 83, 0, 0, 0), (64, .aload_n 0, 1, 0, 0, 0, 0, 0), (65, .getfield 504, 3, 12, 83, 0, 0, 0), (68, .ireturn, 1, 0, 0, 0, 0, 0)])]
set_option maxRecDepth 100000 in
theorem mx_ok273 : ∀ q ∈ mx_t273, ∀ en ∈ q.2, mx_gd 273 en := mx_gt_s mx_LLok12 mx_KLok12 mx_JLok12 mx_ARok (by decide +kernel)
def mx_t274 : List (Nat × List mx_En) := [(12, [(0, .aload_n 0, 1, 0, 0, 0, 0, 0), (1, .getfield 504, 3, 12, 83, 0, 0, 0), (4, .istore_n 1, 1, 0, 0, 0, 0, 0), (5, .aload_n 0, 1, 0, 0, 0, 0, 0), (6, .iconst 0, 1, 0, 0, 0, 0, 0), (7, .putfield 504, 3, 12, 83, 0, 0, 0), (10, .iload_n 1, 1, 0, 0, 0, 0, 0), (11, .ireturn, 1, 0, 0, 0, 0, 0)])]
set_option maxRecDepth 100000 in
theorem mx_ok274 : ∀ q ∈ mx_t274, ∀ en ∈ q.2, mx_gd 274 en := mx_gt_s mx_LLok12 mx_KLok12 mx_JLok12 mx_ARok (by decide +kernel)
def mx_t275 : List (Nat × List mx_En) := [(14, [(0, .aload_n 0, 1, 0, 0, 0, 0, 0), (1, .getfield 178, 3, 12, 87, 0, 0, 0), (4, .iload_n 2, 1, 0, 0, 0, 0, 0), (5, .iaload, 1, 0, 0, 0, 0, 0), (6, .aload_n 0, 1, 0, 0, 0, 0, 0), (7, .getfield 172, 3, 12, 85, 0, 0, 0), (10, .iload_n 1, 1, 0, 0, 0, 0, 0), (11, .iaload, 1, 0, 0, 0, 0, 0), (12, .imul, 1, 0, 0, 0, 0, 0), (13, .aload_n 0, 1, 0, 0, 0, 0, 0)]),
  (30, [(14, .getfield 178, 3, 12, 87, 0, 0, 0), (17, .iload_n 3, 1, 0, 0, 0, 0, 0), (18, .iaload, 1, 0, 0, 0, 0, 0), (19, .aload_n 0, 1, 0, 0, 0, 0, 0), (20, .getfield 169, 3, 12, 84, 0, 0, 0), (23, .iload_n 1, 1, 0, 0, 0, 0, 0), (24, .iaload, 1, 0, 0, 0, 0, 0), (25, .imul, 1, 0, 0, 0, 0, 0), (26, .isub, 1, 0, 0, 0, 0, 0), (27, .invokestatic 415, 3, 176, 1, 0, 0, 0)]),
  (41, [(30, .iload 4, 2, 0, 0, 0, 0, 0), (32, .if_icmp .gt 7, 3, 39, 0, 0, 0, 0), (35, .iconst 1, 1, 0, 0, 0, 1, 0), (36, .goto 4, 3, 40, 0, 0, 0, 0), (39, .iconst 0, 1, 0, 0, 0, 0, 0), (40, .ireturn, 1, 0, 0, 0, 0, 0)])]
set_option maxRecDepth 100000 in
theorem mx_ok275 : ∀ q ∈ mx_t275, ∀ en ∈ q.2, mx_gd 275 en := mx_gt_s mx_LLok12 mx_KLok12 mx_JLok12 mx_ARok (by decide +kernel)
def mx_t276 : List (Nat × List mx_En) := [(16, [(0, .iconst 0, 1, 0, 0, 0, 0, 0), (1, .istore 4, 2, 0, 0, 0, 0, 0), (3, .iconst (-1), 1, 0, 0, 0, -1, 0), (4, .istore 5, 2, 0, 0, 0, 0, 0), (6, .iconst 0, 1, 0, 0, 0, 0, 0), (7, .istore 6, 2, 0, 0, 0, 0, 0), (9, .iload 6, 2, 0, 0, 0, 0, 0), (11, .iload_n 2, 1, 0, 0, 0, 0, 0), (12, .if_icmp .ge 49, 3, 61, 0, 0, 0, 0), (15, .iload_n 1, 1, 0, 0, 0, 0, 0)]),
  (35, [(16, .iload 6, 2, 0, 0, 0, 0, 0), (18, .ishr, 1, 0, 0, 0, 0, 0), (19, .iconst 1, 1, 0, 0, 0, 1, 0), (20, .iand, 1, 0, 0, 0, 0, 0), (21, .ifCond .ne 6, 3, 27, 0, 0, 0, 0), (24, .goto 31, 3, 55, 0, 0, 0, 0), (27, .iload 5, 2, 0, 0, 0, 0, 0), (29, .ifCond .lt 22, 3, 51, 0, 0, 0, 0), (32, .aload_n 0, 1, 0, 0, 0, 0, 0), (33, .iload 4, 2, 0, 0, 0, 0, 0)]),
  (55, [(35, .iload 5, 2, 0, 0, 0, 0, 0), (37, .iload 6, 2, 0, 0, 0, 0, 0), (39, .iload_n 3, 1, 0, 0, 0, 0, 0), (40, .invokevirtual 507, 3, 275, 4, 0, 0, 0), (43, .ifCond .ne 5, 3, 48, 0, 0, 0, 0), (46, .iconst 0, 1, 0, 0, 0, 0, 0), (47, .ireturn, 1, 0, 0, 0, 0, 0), (48, .iinc 4 1, 3, 0, 0, 0, 1, 0), (51, .iload 6, 2, 0, 0, 0, 0, 0), (53, .istore 5, 2, 0, 0, 0, 0, 0)]),
  (63, [(55, .iinc 6 1, 3, 0, 0, 0, 1, 0), (58, .goto (-49), 3, 9, 0, 0, 0, 0), (61, .iconst 1, 1, 0, 0, 0, 1, 0), (62, .ireturn, 1, 0, 0, 0, 0, 0)])]
set_option maxRecDepth 100000 in
theorem mx_ok276 : ∀ q ∈ mx_t276, ∀ en ∈ q.2, mx_gd 276 en := mx_gt_s mx_LLok12 mx_KLok12 mx_JLok12 mx_ARok (by decide +kernel)
def mx_t277_0 : List (Nat × List mx_En) := [(21, [(0, .iload_n 2, 1, 0, 0, 0, 0, 0), (1, .iconst 2, 1, 0, 0, 0, 2, 0), (2, .bipush 7, 2, 0, 0, 0, 7, 0), (4, .invokestatic 203, 3, 173, 3, 0, 0, 0), (7, .ifCond .eq 36, 3, 43, 0, 0, 0, 0), (10, .iload_n 3, 1, 0, 0, 0, 0, 0), (11, .iconst 0, 1, 0, 0, 0, 0, 0), (12, .sipush 9999, 3, 0, 0, 0, 9999, 0), (15, .invokestatic 203, 3, 173, 3, 0, 0, 0), (18, .ifCond .eq 25, 3, 43, 0, 0, 0, 0)]),
  (38, [(21, .iload 4, 2, 0, 0, 0, 0, 0), (23, .iconst 0, 1, 0, 0, 0, 0, 0), (24, .iconst 1, 1, 0, 0, 0, 1, 0), (25, .invokestatic 203, 3, 173, 3, 0, 0, 0), (28, .ifCond .eq 15, 3, 43, 0, 0, 0, 0), (31, .iload_n 1, 1, 0, 0, 0, 0, 0), (32, .ifCond .lt 11, 3, 43, 0, 0, 0, 0), (35, .iload_n 1, 1, 0, 0, 0, 0, 0), (36, .iconst 4, 1, 0, 0, 0, 4, 0), (37, .iload_n 2, 1, 0, 0, 0, 0, 0)]),
  (54, [(38, .imul, 1, 0, 0, 0, 0, 0), (39, .ishr, 1, 0, 0, 0, 0, 0), (40, .ifCond .eq 5, 3, 45, 0, 0, 0, 0), (43, .iconst (-1), 1, 0, 0, 0, -1, 0), (44, .ireturn, 1, 0, 0, 0, 0, 0), (45, .iconst 0, 1, 0, 0, 0, 0, 0), (46, .istore 5, 2, 0, 0, 0, 0, 0), (48, .iload 5, 2, 0, 0, 0, 0, 0), (50, .iload_n 2, 1, 0, 0, 0, 0, 0), (51, .if_icmp .ge 49, 3, 100, 0, 0, 0, 0)]),
  (68, [(54, .iload_n 1, 1, 0, 0, 0, 0, 0), (55, .iconst 4, 1, 0, 0, 0, 4, 0), (56, .iload 5, 2, 0, 0, 0, 0, 0), (58, .imul, 1, 0, 0, 0, 0, 0), (59, .ishr, 1, 0, 0, 0, 0, 0), (60, .bipush 15, 2, 0, 0, 0, 15, 0), (62, .iand, 1, 0, 0, 0, 0, 0), (63, .istore 6, 2, 0, 0, 0, 0, 0), (65, .aload_n 0, 1, 0, 0, 0, 0, 0), (66, .iload 6, 2, 0, 0, 0, 0, 0)]),
  (89, [(68, .invokevirtual 271, 3, 177, 1, 0, 0, 0), (71, .ifCond .eq 12, 3, 83, 0, 0, 0, 0), (74, .aload_n 0, 1, 0, 0, 0, 0, 0), (75, .iload 6, 2, 0, 0, 0, 0, 0), (77, .invokevirtual 280, 3, 195, 1, 0, 0, 0), (80, .ifCond .ne 5, 3, 85, 0, 0, 0, 0), (83, .iconst (-1), 1, 0, 0, 0, -1, 0), (84, .ireturn, 1, 0, 0, 0, 0, 0), (85, .aload_n 0, 1, 0, 0, 0, 0, 0), (86, .getfield 175, 3, 12, 86, 0, 0, 0)])]
set_option maxRecDepth 100000 in
theorem mx_ok277_0 : ∀ q ∈ mx_t277_0, ∀ en ∈ q.2, mx_gd 277 en := mx_gt_s mx_LLok12 mx_KLok12 mx_JLok12 mx_ARok (by decide +kernel)
def mx_t277_1 : List (Nat × List mx_En) := [(107, [(89, .iload 5, 2, 0, 0, 0, 0, 0), (91, .iload 6, 2, 0, 0, 0, 0, 0), (93, .iastore, 1, 0, 0, 0, 0, 0), (94, .iinc 5 1, 3, 0, 0, 0, 1, 0), (97, .goto (-49), 3, 48, 0, 0, 0, 0), (100, .aload_n 0, 1, 0, 0, 0, 0, 0), (101, .getfield 504, 3, 12, 83, 0, 0, 0), (104, .iload_n 2, 1, 0, 0, 0, 0, 0), (105, .iconst 1, 1, 0, 0, 0, 1, 0), (106, .isub, 1, 0, 0, 0, 0, 0)]),
  (124, [(107, .if_icmp .ge 6, 3, 113, 0, 0, 0, 0), (110, .bipush (-4), 2, 0, 0, 0, -4, 0), (112, .ireturn, 1, 0, 0, 0, 0, 0), (113, .iconst 0, 1, 0, 0, 0, 0, 0), (114, .istore 5, 2, 0, 0, 0, 0, 0), (116, .iload 5, 2, 0, 0, 0, 0, 0), (118, .iload_n 2, 1, 0, 0, 0, 0, 0), (119, .if_icmp .ge 34, 3, 153, 0, 0, 0, 0), (122, .aload_n 0, 1, 0, 0, 0, 0, 0), (123, .aload_n 0, 1, 0, 0, 0, 0, 0)]),
  (143, [(124, .getfield 175, 3, 12, 86, 0, 0, 0), (127, .iload 5, 2, 0, 0, 0, 0, 0), (129, .iaload, 1, 0, 0, 0, 0, 0), (130, .invokevirtual 336, 3, 208, 1, 0, 0, 0), (133, .aload_n 0, 1, 0, 0, 0, 0, 0), (134, .getfield 178, 3, 12, 87, 0, 0, 0), (137, .iload 5, 2, 0, 0, 0, 0, 0), (139, .aload_n 0, 1, 0, 0, 0, 0, 0), (140, .iconst 0, 1, 0, 0, 0, 0, 0), (141, .bipush 9, 2, 0, 0, 0, 9, 0)]),
  (160, [(143, .invokevirtual 355, 3, 220, 2, 0, 0, 0), (146, .iastore, 1, 0, 0, 0, 0, 0), (147, .iinc 5 1, 3, 0, 0, 0, 1, 0), (150, .goto (-34), 3, 116, 0, 0, 0, 0), (153, .iconst 1, 1, 0, 0, 0, 1, 0), (154, .iload_n 2, 1, 0, 0, 0, 0, 0), (155, .ishl, 1, 0, 0, 0, 0, 0), (156, .iconst 1, 1, 0, 0, 0, 1, 0), (157, .isub, 1, 0, 0, 0, 0, 0), (158, .istore 5, 2, 0, 0, 0, 0, 0)]),
  (176, [(160, .iload 4, 2, 0, 0, 0, 0, 0), (162, .ifCond .ne 52, 3, 214, 0, 0, 0, 0), (165, .iconst 0, 1, 0, 0, 0, 0, 0), (166, .istore 6, 2, 0, 0, 0, 0, 0), (168, .iconst 0, 1, 0, 0, 0, 0, 0), (169, .istore 7, 2, 0, 0, 0, 0, 0), (171, .iload 7, 2, 0, 0, 0, 0, 0), (173, .iconst 1, 1, 0, 0, 0, 1, 0), (174, .iadd, 1, 0, 0, 0, 0, 0), (175, .iload_n 2, 1, 0, 0, 0, 0, 0)])]
set_option maxRecDepth 100000 in
theorem mx_ok277_1 : ∀ q ∈ mx_t277_1, ∀ en ∈ q.2, mx_gd 277 en := mx_gt_s mx_LLok12 mx_KLok12 mx_JLok12 mx_ARok (by decide +kernel)
def mx_t277_2 : List (Nat × List mx_En) := [(194, [(176, .if_icmp .ge 35, 3, 211, 0, 0, 0, 0), (179, .iload 6, 2, 0, 0, 0, 0, 0), (181, .aload_n 0, 1, 0, 0, 0, 0, 0), (182, .iload 7, 2, 0, 0, 0, 0, 0), (184, .iload 7, 2, 0, 0, 0, 0, 0), (186, .iload 7, 2, 0, 0, 0, 0, 0), (188, .iconst 1, 1, 0, 0, 0, 1, 0), (189, .iadd, 1, 0, 0, 0, 0, 0), (190, .iload_n 3, 1, 0, 0, 0, 0, 0), (191, .invokevirtual 507, 3, 275, 4, 0, 0, 0)]),
  (214, [(194, .ifCond .eq 7, 3, 201, 0, 0, 0, 0), (197, .iconst 1, 1, 0, 0, 0, 1, 0), (198, .goto 4, 3, 202, 0, 0, 0, 0), (201, .iconst 0, 1, 0, 0, 0, 0, 0), (202, .iadd, 1, 0, 0, 0, 0, 0), (203, .istore 6, 2, 0, 0, 0, 0, 0), (205, .iinc 7 1, 3, 0, 0, 0, 1, 0), (208, .goto (-37), 3, 171, 0, 0, 0, 0), (211, .iload 6, 2, 0, 0, 0, 0, 0), (213, .ireturn, 1, 0, 0, 0, 0, 0)]),
  (234, [(214, .iconst (-1), 1, 0, 0, 0, -1, 0), (215, .istore 6, 2, 0, 0, 0, 0, 0), (217, .iconst 0, 1, 0, 0, 0, 0, 0), (218, .istore 7, 2, 0, 0, 0, 0, 0), (220, .iload 7, 2, 0, 0, 0, 0, 0), (222, .iload 5, 2, 0, 0, 0, 0, 0), (224, .if_icmp .ge 47, 3, 271, 0, 0, 0, 0), (227, .iload 6, 2, 0, 0, 0, 0, 0), (229, .ifCond .lt 16, 3, 245, 0, 0, 0, 0), (232, .iload 7, 2, 0, 0, 0, 0, 0)]),
  (253, [(234, .invokestatic 327, 3, 211, 1, 0, 0, 0), (237, .iload 6, 2, 0, 0, 0, 0, 0), (239, .invokestatic 327, 3, 211, 1, 0, 0, 0), (242, .if_icmp .ge 23, 3, 265, 0, 0, 0, 0), (245, .aload_n 0, 1, 0, 0, 0, 0, 0), (246, .iload 5, 2, 0, 0, 0, 0, 0), (248, .iload 7, 2, 0, 0, 0, 0, 0), (250, .iconst (-1), 1, 0, 0, 0, -1, 0), (251, .ixor, 1, 0, 0, 0, 0, 0), (252, .iand, 1, 0, 0, 0, 0, 0)]),
  (274, [(253, .iload_n 2, 1, 0, 0, 0, 0, 0), (254, .iload_n 3, 1, 0, 0, 0, 0, 0), (255, .invokevirtual 510, 3, 276, 3, 0, 0, 0), (258, .ifCond .eq 7, 3, 265, 0, 0, 0, 0), (261, .iload 7, 2, 0, 0, 0, 0, 0), (263, .istore 6, 2, 0, 0, 0, 0, 0), (265, .iinc 7 1, 3, 0, 0, 0, 1, 0), (268, .goto (-48), 3, 220, 0, 0, 0, 0), (271, .iload 6, 2, 0, 0, 0, 0, 0), (273, .ireturn, 1, 0, 0, 0, 0, 0)])]
set_option maxRecDepth 100000 in
theorem mx_ok277_2 : ∀ q ∈ mx_t277_2, ∀ en ∈ q.2, mx_gd 277 en := mx_gt_s mx_LLok12 mx_KLok12 mx_JLok12 mx_ARok (by decide +kernel)
def mx_t277 : List (Nat × List mx_En) := mx_t277_0 ++ (mx_t277_1 ++ (mx_t277_2))
theorem mx_ok277 : ∀ q ∈ mx_t277, ∀ en ∈ q.2, mx_gd 277 en := (fun q h => (List.mem_append.mp h).elim (mx_ok277_0 q) ((fun q h => (List.mem_append.mp h).elim (mx_ok277_1 q) (mx_ok277_2 q)) q))
def mx_t278 : List (Nat × List mx_En) := [(20, [(0, .aload_n 0, 1, 0, 0, 0, 0, 0), (1, .getfield 261, 3, 12, 12, 0, 0, 0), (4, .istore 4, 2, 0, 0, 0, 0, 0), (6, .iconst 0, 1, 0, 0, 0, 0, 0), (7, .istore 5, 2, 0, 0, 0, 0, 0), (9, .iload 5, 2, 0, 0, 0, 0, 0), (11, .iload 4, 2, 0, 0, 0, 0, 0), (13, .if_icmp .ge 94, 3, 107, 0, 0, 0, 0), (16, .aload_n 0, 1, 0, 0, 0, 0, 0), (17, .getfield 44, 3, 12, 14, 0, 0, 0)]),
  (37, [(20, .iload 5, 2, 0, 0, 0, 0, 0), (22, .iaload, 1, 0, 0, 0, 0, 0), (23, .iconst 1, 1, 0, 0, 0, 1, 0), (24, .isub, 1, 0, 0, 0, 0, 0), (25, .istore 6, 2, 0, 0, 0, 0, 0), (27, .iload 6, 2, 0, 0, 0, 0, 0), (29, .ifCond .lt 72, 3, 101, 0, 0, 0, 0), (32, .iload 6, 2, 0, 0, 0, 0, 0), (34, .bipush 36, 2, 0, 0, 0, 36, 0), (36, .idiv, 1, 0, 0, 0, 0, 0)]),
  (54, [(37, .iload_n 1, 1, 0, 0, 0, 0, 0), (38, .if_icmp .eq 6, 3, 44, 0, 0, 0, 0), (41, .goto 60, 3, 101, 0, 0, 0, 0), (44, .iload 6, 2, 0, 0, 0, 0, 0), (46, .bipush 6, 2, 0, 0, 0, 6, 0), (48, .idiv, 1, 0, 0, 0, 0, 0), (49, .bipush 6, 2, 0, 0, 0, 6, 0), (51, .irem, 1, 0, 0, 0, 0, 0), (52, .iload_n 3, 1, 0, 0, 0, 0, 0), (53, .iadd, 1, 0, 0, 0, 0, 0)]),
  (69, [(54, .istore 7, 2, 0, 0, 0, 0, 0), (56, .iload 6, 2, 0, 0, 0, 0, 0), (58, .bipush 6, 2, 0, 0, 0, 6, 0), (60, .irem, 1, 0, 0, 0, 0, 0), (61, .iload_n 3, 1, 0, 0, 0, 0, 0), (62, .iadd, 1, 0, 0, 0, 0, 0), (63, .istore 8, 2, 0, 0, 0, 0, 0), (65, .aload_n 0, 1, 0, 0, 0, 0, 0), (66, .iload_n 2, 1, 0, 0, 0, 0, 0), (67, .iload 7, 2, 0, 0, 0, 0, 0)]),
  (88, [(69, .iload 8, 2, 0, 0, 0, 0, 0), (71, .aload_n 0, 1, 0, 0, 0, 0, 0), (72, .getfield 261, 3, 12, 12, 0, 0, 0), (75, .aload_n 0, 1, 0, 0, 0, 0, 0), (76, .getfield 26, 3, 12, 7, 0, 0, 0), (79, .iload 6, 2, 0, 0, 0, 0, 0), (81, .iaload, 1, 0, 0, 0, 0, 0), (82, .aload_n 0, 1, 0, 0, 0, 0, 0), (83, .getfield 29, 3, 12, 8, 0, 0, 0), (86, .iload 6, 2, 0, 0, 0, 0, 0)]),
  (108, [(88, .iaload, 1, 0, 0, 0, 0, 0), (89, .invokevirtual 244, 3, 181, 6, 0, 0, 0), (92, .aload_n 0, 1, 0, 0, 0, 0, 0), (93, .iload_n 2, 1, 0, 0, 0, 0, 0), (94, .iload 7, 2, 0, 0, 0, 0, 0), (96, .iload 8, 2, 0, 0, 0, 0, 0), (98, .invokevirtual 267, 3, 193, 3, 0, 0, 0), (101, .iinc 5 1, 3, 0, 0, 0, 1, 0), (104, .goto (-95), 3, 9, 0, 0, 0, 0), (107, .return_, 1, 0, 0, 0, 0, 0)])]
set_option maxRecDepth 100000 in
theorem mx_ok278 : ∀ q ∈ mx_t278, ∀ en ∈ q.2, mx_gd 278 en := mx_gt_s mx_LLok12 mx_KLok12 mx_JLok12 mx_ARok (by decide +kernel)
def mx_t279 : List (Nat × List mx_En) := [(17, [(0, .iconst 0, 1, 0, 0, 0, 0, 0), (1, .istore 4, 2, 0, 0, 0, 0, 0), (3, .iload 4, 2, 0, 0, 0, 0, 0), (5, .aload_n 0, 1, 0, 0, 0, 0, 0), (6, .getfield 7, 3, 12, 2, 0, 0, 0), (9, .iload_n 1, 1, 0, 0, 0, 0, 0), (10, .iaload, 1, 0, 0, 0, 0, 0), (11, .if_icmp .ge 85, 3, 96, 0, 0, 0, 0), (14, .bipush 6, 2, 0, 0, 0, 6, 0), (16, .iload_n 1, 1, 0, 0, 0, 0, 0)]),
  (31, [(17, .imul, 1, 0, 0, 0, 0, 0), (18, .iload 4, 2, 0, 0, 0, 0, 0), (20, .iadd, 1, 0, 0, 0, 0, 0), (21, .istore 5, 2, 0, 0, 0, 0, 0), (23, .bipush 6, 2, 0, 0, 0, 6, 0), (25, .iload_n 2, 1, 0, 0, 0, 0, 0), (26, .imul, 1, 0, 0, 0, 0, 0), (27, .iload_n 3, 1, 0, 0, 0, 0, 0), (28, .iadd, 1, 0, 0, 0, 0, 0), (29, .iload 4, 2, 0, 0, 0, 0, 0)]),
  (48, [(31, .iadd, 1, 0, 0, 0, 0, 0), (32, .istore 6, 2, 0, 0, 0, 0, 0), (34, .aload_n 0, 1, 0, 0, 0, 0, 0), (35, .getfield 13, 3, 12, 3, 0, 0, 0), (38, .iload 6, 2, 0, 0, 0, 0, 0), (40, .aload_n 0, 1, 0, 0, 0, 0, 0), (41, .getfield 13, 3, 12, 3, 0, 0, 0), (44, .iload 5, 2, 0, 0, 0, 0, 0), (46, .iaload, 1, 0, 0, 0, 0, 0), (47, .iastore, 1, 0, 0, 0, 0, 0)]),
  (66, [(48, .aload_n 0, 1, 0, 0, 0, 0, 0), (49, .getfield 16, 3, 12, 4, 0, 0, 0), (52, .iload 6, 2, 0, 0, 0, 0, 0), (54, .aload_n 0, 1, 0, 0, 0, 0, 0), (55, .getfield 16, 3, 12, 4, 0, 0, 0), (58, .iload 5, 2, 0, 0, 0, 0, 0), (60, .iaload, 1, 0, 0, 0, 0, 0), (61, .iastore, 1, 0, 0, 0, 0, 0), (62, .aload_n 0, 1, 0, 0, 0, 0, 0), (63, .getfield 19, 3, 12, 5, 0, 0, 0)]),
  (83, [(66, .iload 6, 2, 0, 0, 0, 0, 0), (68, .aload_n 0, 1, 0, 0, 0, 0, 0), (69, .getfield 19, 3, 12, 5, 0, 0, 0), (72, .iload 5, 2, 0, 0, 0, 0, 0), (74, .iaload, 1, 0, 0, 0, 0, 0), (75, .iastore, 1, 0, 0, 0, 0, 0), (76, .aload_n 0, 1, 0, 0, 0, 0, 0), (77, .getfield 22, 3, 12, 6, 0, 0, 0), (80, .iload 6, 2, 0, 0, 0, 0, 0), (82, .aload_n 0, 1, 0, 0, 0, 0, 0)]),
  (97, [(83, .getfield 22, 3, 12, 6, 0, 0, 0), (86, .iload 5, 2, 0, 0, 0, 0, 0), (88, .baload, 1, 0, 0, 0, 0, 0), (89, .bastore, 1, 0, 0, 0, 0, 0), (90, .iinc 4 1, 3, 0, 0, 0, 1, 0), (93, .goto (-90), 3, 3, 0, 0, 0, 0), (96, .return_, 1, 0, 0, 0, 0, 0)])]
set_option maxRecDepth 100000 in
theorem mx_ok279 : ∀ q ∈ mx_t279, ∀ en ∈ q.2, mx_gd 279 en := mx_gt_s mx_LLok12 mx_KLok12 mx_JLok12 mx_ARok (by decide +kernel)
def mx_t280_0 : List (Nat × List mx_En) := [(20, [(0, .aload_n 0, 1, 0, 0, 0, 0, 0), (1, .iload_n 1, 1, 0, 0, 0, 0, 0), (2, .invokevirtual 271, 3, 177, 1, 0, 0, 0), (5, .ifCond .eq 68, 3, 73, 0, 0, 0, 0), (8, .aload_n 0, 1, 0, 0, 0, 0, 0), (9, .iload_n 2, 1, 0, 0, 0, 0, 0), (10, .invokevirtual 271, 3, 177, 1, 0, 0, 0), (13, .ifCond .eq 60, 3, 73, 0, 0, 0, 0), (16, .iload_n 3, 1, 0, 0, 0, 0, 0), (17, .ifCond .lt 56, 3, 73, 0, 0, 0, 0)]),
  (35, [(20, .aload_n 0, 1, 0, 0, 0, 0, 0), (21, .iload_n 1, 1, 0, 0, 0, 0, 0), (22, .iload_n 3, 1, 0, 0, 0, 0, 0), (23, .bipush 10, 2, 0, 0, 0, 10, 0), (25, .idiv, 1, 0, 0, 0, 0, 0), (26, .invokevirtual 234, 3, 178, 2, 0, 0, 0), (29, .ifCond .eq 44, 3, 73, 0, 0, 0, 0), (32, .aload_n 0, 1, 0, 0, 0, 0, 0), (33, .iload_n 2, 1, 0, 0, 0, 0, 0), (34, .iload_n 3, 1, 0, 0, 0, 0, 0)]),
  (56, [(35, .bipush 10, 2, 0, 0, 0, 10, 0), (37, .irem, 1, 0, 0, 0, 0, 0), (38, .invokevirtual 234, 3, 178, 2, 0, 0, 0), (41, .ifCond .eq 32, 3, 73, 0, 0, 0, 0), (44, .iload 4, 2, 0, 0, 0, 0, 0), (46, .iconst 1, 1, 0, 0, 0, 1, 0), (47, .bipush 9, 2, 0, 0, 0, 9, 0), (49, .invokestatic 203, 3, 173, 3, 0, 0, 0), (52, .ifCond .eq 21, 3, 73, 0, 0, 0, 0), (55, .aload_n 0, 1, 0, 0, 0, 0, 0)]),
  (73, [(56, .getfield 7, 3, 12, 2, 0, 0, 0), (59, .iload_n 1, 1, 0, 0, 0, 0, 0), (60, .iaload, 1, 0, 0, 0, 0, 0), (61, .aload_n 0, 1, 0, 0, 0, 0, 0), (62, .getfield 7, 3, 12, 2, 0, 0, 0), (65, .iload_n 2, 1, 0, 0, 0, 0, 0), (66, .iaload, 1, 0, 0, 0, 0, 0), (67, .iadd, 1, 0, 0, 0, 0, 0), (68, .bipush 6, 2, 0, 0, 0, 6, 0), (70, .if_icmp .le 5, 3, 75, 0, 0, 0, 0)]),
  (90, [(73, .iconst (-1), 1, 0, 0, 0, -1, 0), (74, .ireturn, 1, 0, 0, 0, 0, 0), (75, .aload_n 0, 1, 0, 0, 0, 0, 0), (76, .getfield 200, 3, 12, 1, 0, 0, 0), (79, .bipush 12, 2, 0, 0, 0, 12, 0), (81, .if_icmp .eq 27, 3, 108, 0, 0, 0, 0), (84, .aload_n 0, 1, 0, 0, 0, 0, 0), (85, .getfield 261, 3, 12, 12, 0, 0, 0), (88, .aload_n 0, 1, 0, 0, 0, 0, 0), (89, .iload_n 1, 1, 0, 0, 0, 0, 0)])]
set_option maxRecDepth 100000 in
theorem mx_ok280_0 : ∀ q ∈ mx_t280_0, ∀ en ∈ q.2, mx_gd 280 en := mx_gt_s mx_LLok12 mx_KLok12 mx_JLok12 mx_ARok (by decide +kernel)
def mx_t280_1 : List (Nat × List mx_En) := [(108, [(90, .invokevirtual 276, 3, 183, 1, 0, 0, 0), (93, .iadd, 1, 0, 0, 0, 0, 0), (94, .aload_n 0, 1, 0, 0, 0, 0, 0), (95, .iload_n 2, 1, 0, 0, 0, 0, 0), (96, .invokevirtual 276, 3, 183, 1, 0, 0, 0), (99, .iadd, 1, 0, 0, 0, 0, 0), (100, .iconst 1, 1, 0, 0, 0, 1, 0), (101, .iadd, 1, 0, 0, 0, 0, 0), (102, .sipush 200, 3, 0, 0, 0, 200, 0), (105, .if_icmp .le 6, 3, 111, 0, 0, 0, 0)]),
  (127, [(108, .bipush (-3), 2, 0, 0, 0, -3, 0), (110, .ireturn, 1, 0, 0, 0, 0, 0), (111, .aload_n 0, 1, 0, 0, 0, 0, 0), (112, .getfield 200, 3, 12, 1, 0, 0, 0), (115, .istore 5, 2, 0, 0, 0, 0, 0), (117, .aload_n 0, 1, 0, 0, 0, 0, 0), (118, .iload 5, 2, 0, 0, 0, 0, 0), (120, .invokevirtual 254, 3, 182, 1, 0, 0, 0), (123, .aload_n 0, 1, 0, 0, 0, 0, 0), (124, .getfield 7, 3, 12, 2, 0, 0, 0)]),
  (142, [(127, .iload 5, 2, 0, 0, 0, 0, 0), (129, .aload_n 0, 1, 0, 0, 0, 0, 0), (130, .getfield 7, 3, 12, 2, 0, 0, 0), (133, .iload_n 1, 1, 0, 0, 0, 0, 0), (134, .iaload, 1, 0, 0, 0, 0, 0), (135, .aload_n 0, 1, 0, 0, 0, 0, 0), (136, .getfield 7, 3, 12, 2, 0, 0, 0), (139, .iload_n 2, 1, 0, 0, 0, 0, 0), (140, .iaload, 1, 0, 0, 0, 0, 0), (141, .iadd, 1, 0, 0, 0, 0, 0)]),
  (156, [(142, .iastore, 1, 0, 0, 0, 0, 0), (143, .aload_n 0, 1, 0, 0, 0, 0, 0), (144, .iload_n 1, 1, 0, 0, 0, 0, 0), (145, .iload 5, 2, 0, 0, 0, 0, 0), (147, .iconst 0, 1, 0, 0, 0, 0, 0), (148, .invokevirtual 513, 3, 279, 3, 0, 0, 0), (151, .aload_n 0, 1, 0, 0, 0, 0, 0), (152, .iload_n 2, 1, 0, 0, 0, 0, 0), (153, .iload 5, 2, 0, 0, 0, 0, 0), (155, .aload_n 0, 1, 0, 0, 0, 0, 0)]),
  (173, [(156, .getfield 7, 3, 12, 2, 0, 0, 0), (159, .iload_n 1, 1, 0, 0, 0, 0, 0), (160, .iaload, 1, 0, 0, 0, 0, 0), (161, .invokevirtual 513, 3, 279, 3, 0, 0, 0), (164, .aload_n 0, 1, 0, 0, 0, 0, 0), (165, .iload_n 1, 1, 0, 0, 0, 0, 0), (166, .iload 5, 2, 0, 0, 0, 0, 0), (168, .iconst 0, 1, 0, 0, 0, 0, 0), (169, .invokevirtual 516, 3, 278, 3, 0, 0, 0), (172, .aload_n 0, 1, 0, 0, 0, 0, 0)])]
set_option maxRecDepth 100000 in
theorem mx_ok280_1 : ∀ q ∈ mx_t280_1, ∀ en ∈ q.2, mx_gd 280 en := mx_gt_s mx_LLok12 mx_KLok12 mx_JLok12 mx_ARok (by decide +kernel)
def mx_t280_2 : List (Nat × List mx_En) := [(189, [(173, .iload_n 2, 1, 0, 0, 0, 0, 0), (174, .iload 5, 2, 0, 0, 0, 0, 0), (176, .aload_n 0, 1, 0, 0, 0, 0, 0), (177, .getfield 7, 3, 12, 2, 0, 0, 0), (180, .iload_n 1, 1, 0, 0, 0, 0, 0), (181, .iaload, 1, 0, 0, 0, 0, 0), (182, .invokevirtual 516, 3, 278, 3, 0, 0, 0), (185, .aload_n 0, 1, 0, 0, 0, 0, 0), (186, .iload 5, 2, 0, 0, 0, 0, 0), (188, .iload_n 3, 1, 0, 0, 0, 0, 0)]),
  (203, [(189, .bipush 10, 2, 0, 0, 0, 10, 0), (191, .idiv, 1, 0, 0, 0, 0, 0), (192, .aload_n 0, 1, 0, 0, 0, 0, 0), (193, .getfield 7, 3, 12, 2, 0, 0, 0), (196, .iload_n 1, 1, 0, 0, 0, 0, 0), (197, .iaload, 1, 0, 0, 0, 0, 0), (198, .iload_n 3, 1, 0, 0, 0, 0, 0), (199, .bipush 10, 2, 0, 0, 0, 10, 0), (201, .irem, 1, 0, 0, 0, 0, 0), (202, .iadd, 1, 0, 0, 0, 0, 0)]),
  (220, [(203, .aload_n 0, 1, 0, 0, 0, 0, 0), (204, .getfield 261, 3, 12, 12, 0, 0, 0), (207, .iload 4, 2, 0, 0, 0, 0, 0), (209, .iconst 0, 1, 0, 0, 0, 0, 0), (210, .invokevirtual 244, 3, 181, 6, 0, 0, 0), (213, .aload_n 0, 1, 0, 0, 0, 0, 0), (214, .iload 5, 2, 0, 0, 0, 0, 0), (216, .iload_n 3, 1, 0, 0, 0, 0, 0), (217, .bipush 10, 2, 0, 0, 0, 10, 0), (219, .idiv, 1, 0, 0, 0, 0, 0)]),
  (235, [(220, .aload_n 0, 1, 0, 0, 0, 0, 0), (221, .getfield 7, 3, 12, 2, 0, 0, 0), (224, .iload_n 1, 1, 0, 0, 0, 0, 0), (225, .iaload, 1, 0, 0, 0, 0, 0), (226, .iload_n 3, 1, 0, 0, 0, 0, 0), (227, .bipush 10, 2, 0, 0, 0, 10, 0), (229, .irem, 1, 0, 0, 0, 0, 0), (230, .iadd, 1, 0, 0, 0, 0, 0), (231, .invokevirtual 267, 3, 193, 3, 0, 0, 0), (234, .aload_n 0, 1, 0, 0, 0, 0, 0)]),
  (251, [(235, .getfield 35, 3, 12, 10, 0, 0, 0), (238, .iload 5, 2, 0, 0, 0, 0, 0), (240, .iload_n 1, 1, 0, 0, 0, 0, 0), (241, .iastore, 1, 0, 0, 0, 0, 0), (242, .aload_n 0, 1, 0, 0, 0, 0, 0), (243, .getfield 38, 3, 12, 11, 0, 0, 0), (246, .iload 5, 2, 0, 0, 0, 0, 0), (248, .iload_n 2, 1, 0, 0, 0, 0, 0), (249, .iastore, 1, 0, 0, 0, 0, 0), (250, .aload_n 0, 1, 0, 0, 0, 0, 0)])]
set_option maxRecDepth 100000 in
theorem mx_ok280_2 : ∀ q ∈ mx_t280_2, ∀ en ∈ q.2, mx_gd 280 en := mx_gt_s mx_LLok12 mx_KLok12 mx_JLok12 mx_ARok (by decide +kernel)
def mx_t280_3 : List (Nat × List mx_En) := [(263, [(251, .dup, 1, 0, 0, 0, 0, 0), (252, .getfield 200, 3, 12, 1, 0, 0, 0), (255, .iconst 1, 1, 0, 0, 0, 1, 0), (256, .iadd, 1, 0, 0, 0, 0, 0), (257, .putfield 200, 3, 12, 1, 0, 0, 0), (260, .iload 5, 2, 0, 0, 0, 0, 0), (262, .ireturn, 1, 0, 0, 0, 0, 0)])]
set_option maxRecDepth 100000 in
theorem mx_ok280_3 : ∀ q ∈ mx_t280_3, ∀ en ∈ q.2, mx_gd 280 en := mx_gt_s mx_LLok12 mx_KLok12 mx_JLok12 mx_ARok (by decide +kernel)
def mx_t280 : List (Nat × List mx_En) := mx_t280_0 ++ (mx_t280_1 ++ (mx_t280_2 ++ (mx_t280_3)))
theorem mx_ok280 : ∀ q ∈ mx_t280, ∀ en ∈ q.2, mx_gd 280 en := (fun q h => (List.mem_append.mp h).elim (mx_ok280_0 q) ((fun q h => (List.mem_append.mp h).elim (mx_ok280_1 q) ((fun q h => (List.mem_append.mp h).elim (mx_ok280_2 q) (mx_ok280_3 q)) q)) q))
def mx_t281 : List (Nat × List mx_En) := [(14, [(0, .aload_n 0, 1, 0, 0, 0, 0, 0), (1, .iload_n 1, 1, 0, 0, 0, 0, 0), (2, .invokevirtual 336, 3, 208, 1, 0, 0, 0), (5, .aload_n 0, 1, 0, 0, 0, 0, 0), (6, .iload_n 2, 1, 0, 0, 0, 0, 0), (7, .bipush 10, 2, 0, 0, 0, 10, 0), (9, .idiv, 1, 0, 0, 0, 0, 0), (10, .iload_n 2, 1, 0, 0, 0, 0, 0), (11, .bipush 10, 2, 0, 0, 0, 10, 0), (13, .irem, 1, 0, 0, 0, 0, 0)]),
  (18, [(14, .invokevirtual 339, 3, 213, 2, 0, 0, 0), (17, .ireturn, 1, 0, 0, 0, 0, 0)])]
set_option maxRecDepth 100000 in
theorem mx_ok281 : ∀ q ∈ mx_t281, ∀ en ∈ q.2, mx_gd 281 en := mx_gt_s mx_LLok12 mx_KLok12 mx_JLok12 mx_ARok (by decide +kernel)
def mx_t282 : List (Nat × List mx_En) := [(18, [(0, .aload_n 0, 1, 0, 0, 0, 0, 0), (1, .iload_n 1, 1, 0, 0, 0, 0, 0), (2, .invokevirtual 271, 3, 177, 1, 0, 0, 0), (5, .ifCond .eq 10, 3, 15, 0, 0, 0, 0), (8, .iload_n 2, 1, 0, 0, 0, 0, 0), (9, .invokestatic 333, 3, 215, 1, 0, 0, 0), (12, .ifCond .ne 5, 3, 17, 0, 0, 0, 0), (15, .iconst (-1), 1, 0, 0, 0, -1, 0), (16, .ireturn, 1, 0, 0, 0, 0, 0), (17, .aload_n 0, 1, 0, 0, 0, 0, 0)]),
  (35, [(18, .getfield 35, 3, 12, 10, 0, 0, 0), (21, .iload_n 1, 1, 0, 0, 0, 0, 0), (22, .iaload, 1, 0, 0, 0, 0, 0), (23, .ifCond .ge 6, 3, 29, 0, 0, 0, 0), (26, .bipush (-2), 2, 0, 0, 0, -2, 0), (28, .ireturn, 1, 0, 0, 0, 0, 0), (29, .aload_n 0, 1, 0, 0, 0, 0, 0), (30, .aload_n 0, 1, 0, 0, 0, 0, 0), (31, .getfield 35, 3, 12, 10, 0, 0, 0), (34, .iload_n 1, 1, 0, 0, 0, 0, 0)]),
  (51, [(35, .iaload, 1, 0, 0, 0, 0, 0), (36, .iload_n 2, 1, 0, 0, 0, 0, 0), (37, .invokevirtual 519, 3, 281, 2, 0, 0, 0), (40, .aload_n 0, 1, 0, 0, 0, 0, 0), (41, .aload_n 0, 1, 0, 0, 0, 0, 0), (42, .getfield 38, 3, 12, 11, 0, 0, 0), (45, .iload_n 1, 1, 0, 0, 0, 0, 0), (46, .iaload, 1, 0, 0, 0, 0, 0), (47, .iload_n 2, 1, 0, 0, 0, 0, 0), (48, .invokevirtual 519, 3, 281, 2, 0, 0, 0)]),
  (65, [(51, .iadd, 1, 0, 0, 0, 0, 0), (52, .istore_n 3, 1, 0, 0, 0, 0, 0), (53, .iload_n 3, 1, 0, 0, 0, 0, 0), (54, .aload_n 0, 1, 0, 0, 0, 0, 0), (55, .iload_n 1, 1, 0, 0, 0, 0, 0), (56, .iload_n 2, 1, 0, 0, 0, 0, 0), (57, .invokevirtual 519, 3, 281, 2, 0, 0, 0), (60, .isub, 1, 0, 0, 0, 0, 0), (61, .istore 4, 2, 0, 0, 0, 0, 0), (63, .iload 4, 2, 0, 0, 0, 0, 0)]),
  (80, [(65, .ifCond .eq 9, 3, 74, 0, 0, 0, 0), (68, .iload 4, 2, 0, 0, 0, 0, 0), (70, .iconst 1, 1, 0, 0, 0, 1, 0), (71, .if_icmp .ne 7, 3, 78, 0, 0, 0, 0), (74, .iconst 1, 1, 0, 0, 0, 1, 0), (75, .goto 4, 3, 79, 0, 0, 0, 0), (78, .iconst 0, 1, 0, 0, 0, 0, 0), (79, .ireturn, 1, 0, 0, 0, 0, 0)])]
set_option maxRecDepth 100000 in
theorem mx_ok282 : ∀ q ∈ mx_t282, ∀ en ∈ q.2, mx_gd 282 en := mx_gt_s mx_LLok12 mx_KLok12 mx_JLok12 mx_ARok (by decide +kernel)
def mx_t283 : List (Nat × List mx_En) := [(12, [(0, .iload_n 1, 1, 0, 0, 0, 0, 0), (1, .iconst 0, 1, 0, 0, 0, 0, 0), (2, .aload_n 0, 1, 0, 0, 0, 0, 0), (3, .getfield 261, 3, 12, 12, 0, 0, 0), (6, .iconst 1, 1, 0, 0, 0, 1, 0), (7, .isub, 1, 0, 0, 0, 0, 0), (8, .invokestatic 203, 3, 173, 3, 0, 0, 0), (11, .ireturn, 1, 0, 0, 0, 0, 0)])]
set_option maxRecDepth 100000 in
theorem mx_ok283 : ∀ q ∈ mx_t283, ∀ en ∈ q.2, mx_gd 283 en := mx_gt_s mx_LLok12 mx_KLok12 mx_JLok12 mx_ARok (by decide +kernel)
def mx_t284 : List (Nat × List mx_En) := [(16, [(0, .iload_n 1, 1, 0, 0, 0, 0, 0), (1, .ifCond .eq 8, 3, 9, 0, 0, 0, 0), (4, .iload_n 0, 1, 0, 0, 0, 0, 0), (5, .iload_n 1, 1, 0, 0, 0, 0, 0), (6, .if_icmp .ne 5, 3, 11, 0, 0, 0, 0), (9, .iconst 1, 1, 0, 0, 0, 1, 0), (10, .ireturn, 1, 0, 0, 0, 0, 0), (11, .iload_n 1, 1, 0, 0, 0, 0, 0), (12, .iconst 1, 1, 0, 0, 0, 1, 0), (13, .if_icmp .ne 18, 3, 31, 0, 0, 0, 0)]),
  (32, [(16, .iload_n 0, 1, 0, 0, 0, 0, 0), (17, .iconst 2, 1, 0, 0, 0, 2, 0), (18, .if_icmp .eq 23, 3, 41, 0, 0, 0, 0), (21, .iload_n 0, 1, 0, 0, 0, 0, 0), (22, .iconst 4, 1, 0, 0, 0, 4, 0), (23, .if_icmp .eq 18, 3, 41, 0, 0, 0, 0), (26, .iload_n 0, 1, 0, 0, 0, 0, 0), (27, .iconst 5, 1, 0, 0, 0, 5, 0), (28, .if_icmp .eq 13, 3, 41, 0, 0, 0, 0), (31, .iload_n 1, 1, 0, 0, 0, 0, 0)]),
  (47, [(32, .iconst 4, 1, 0, 0, 0, 4, 0), (33, .if_icmp .ne 12, 3, 45, 0, 0, 0, 0), (36, .iload_n 0, 1, 0, 0, 0, 0, 0), (37, .iconst 5, 1, 0, 0, 0, 5, 0), (38, .if_icmp .ne 7, 3, 45, 0, 0, 0, 0), (41, .iconst 1, 1, 0, 0, 0, 1, 0), (42, .goto 4, 3, 46, 0, 0, 0, 0), (45, .iconst 0, 1, 0, 0, 0, 0, 0), (46, .ireturn, 1, 0, 0, 0, 0, 0)])]
set_option maxRecDepth 100000 in
theorem mx_ok284 : ∀ q ∈ mx_t284, ∀ en ∈ q.2, mx_gd 284 en := mx_gt_s mx_LLok12 mx_KLok12 mx_JLok12 mx_ARok (by decide +kernel)
def mx_t285 : List (Nat × List mx_En) := [(18, [(0, .iload_n 1, 1, 0, 0, 0, 0, 0), (1, .iconst 0, 1, 0, 0, 0, 0, 0), (2, .iconst 5, 1, 0, 0, 0, 5, 0), (3, .invokestatic 203, 3, 173, 3, 0, 0, 0), (6, .ifCond .ne 5, 3, 11, 0, 0, 0, 0), (9, .iconst (-1), 1, 0, 0, 0, -1, 0), (10, .ireturn, 1, 0, 0, 0, 0, 0), (11, .aload_n 0, 1, 0, 0, 0, 0, 0), (12, .getfield 261, 3, 12, 12, 0, 0, 0), (15, .sipush 200, 3, 0, 0, 0, 200, 0)]),
  (35, [(18, .if_icmp .ne 6, 3, 24, 0, 0, 0, 0), (21, .bipush (-3), 2, 0, 0, 0, -3, 0), (23, .ireturn, 1, 0, 0, 0, 0, 0), (24, .aload_n 0, 1, 0, 0, 0, 0, 0), (25, .getfield 41, 3, 12, 13, 0, 0, 0), (28, .aload_n 0, 1, 0, 0, 0, 0, 0), (29, .getfield 261, 3, 12, 12, 0, 0, 0), (32, .iload_n 1, 1, 0, 0, 0, 0, 0), (33, .iastore, 1, 0, 0, 0, 0, 0), (34, .aload_n 0, 1, 0, 0, 0, 0, 0)]),
  (51, [(35, .getfield 44, 3, 12, 14, 0, 0, 0), (38, .aload_n 0, 1, 0, 0, 0, 0, 0), (39, .getfield 261, 3, 12, 12, 0, 0, 0), (42, .iconst 0, 1, 0, 0, 0, 0, 0), (43, .iastore, 1, 0, 0, 0, 0, 0), (44, .aload_n 0, 1, 0, 0, 0, 0, 0), (45, .dup, 1, 0, 0, 0, 0, 0), (46, .getfield 261, 3, 12, 12, 0, 0, 0), (49, .iconst 1, 1, 0, 0, 0, 1, 0), (50, .iadd, 1, 0, 0, 0, 0, 0)]),
  (61, [(51, .putfield 261, 3, 12, 12, 0, 0, 0), (54, .aload_n 0, 1, 0, 0, 0, 0, 0), (55, .getfield 261, 3, 12, 12, 0, 0, 0), (58, .iconst 1, 1, 0, 0, 0, 1, 0), (59, .isub, 1, 0, 0, 0, 0, 0), (60, .ireturn, 1, 0, 0, 0, 0, 0)])]
set_option maxRecDepth 100000 in
theorem mx_ok285 : ∀ q ∈ mx_t285, ∀ en ∈ q.2, mx_gd 285 en := mx_gt_s mx_LLok12 mx_KLok12 mx_JLok12 mx_ARok (by decide +kernel)
def mx_t286 : List (Nat × List mx_En) := [(19, [(0, .aload_n 0, 1, 0, 0, 0, 0, 0), (1, .getfield 522, 3, 12, 88, 0, 0, 0), (4, .bipush 24, 2, 0, 0, 0, 24, 0), (6, .if_icmp .ge 13, 3, 19, 0, 0, 0, 0), (9, .aload_n 0, 1, 0, 0, 0, 0, 0), (10, .getfield 181, 3, 12, 89, 0, 0, 0), (13, .aload_n 0, 1, 0, 0, 0, 0, 0), (14, .getfield 522, 3, 12, 88, 0, 0, 0), (17, .iload_n 1, 1, 0, 0, 0, 0, 0), (18, .iastore, 1, 0, 0, 0, 0, 0)]),
  (30, [(19, .aload_n 0, 1, 0, 0, 0, 0, 0), (20, .dup, 1, 0, 0, 0, 0, 0), (21, .getfield 522, 3, 12, 88, 0, 0, 0), (24, .iconst 1, 1, 0, 0, 0, 1, 0), (25, .iadd, 1, 0, 0, 0, 0, 0), (26, .putfield 522, 3, 12, 88, 0, 0, 0), (29, .return_, 1, 0, 0, 0, 0, 0)])]
set_option maxRecDepth 100000 in
theorem mx_ok286 : ∀ q ∈ mx_t286, ∀ en ∈ q.2, mx_gd 286 en := mx_gt_s mx_LLok12 mx_KLok12 mx_JLok12 mx_ARok (by decide +kernel)
def mx_t287 : List (Nat × List mx_En) := [(16, [(0, .aload_n 0, 1, 0, 0, 0, 0, 0), (1, .iconst 1, 1, 0, 0, 0, 1, 0), (2, .invokevirtual 525, 3, 286, 1, 0, 0, 0), (5, .iload_n 2, 1, 0, 0, 0, 0, 0), (6, .aload_n 0, 1, 0, 0, 0, 0, 0), (7, .getfield 44, 3, 12, 14, 0, 0, 0), (10, .iload_n 1, 1, 0, 0, 0, 0, 0), (11, .iaload, 1, 0, 0, 0, 0, 0), (12, .ifCond .le 19, 3, 31, 0, 0, 0, 0), (15, .aload_n 0, 1, 0, 0, 0, 0, 0)]),
  (32, [(16, .getfield 26, 3, 12, 7, 0, 0, 0), (19, .aload_n 0, 1, 0, 0, 0, 0, 0), (20, .getfield 44, 3, 12, 14, 0, 0, 0), (23, .iload_n 1, 1, 0, 0, 0, 0, 0), (24, .iaload, 1, 0, 0, 0, 0, 0), (25, .iconst 1, 1, 0, 0, 0, 1, 0), (26, .isub, 1, 0, 0, 0, 0, 0), (27, .iaload, 1, 0, 0, 0, 0, 0), (28, .goto 4, 3, 32, 0, 0, 0, 0), (31, .iconst 0, 1, 0, 0, 0, 0, 0)]),
  (34, [(32, .iadd, 1, 0, 0, 0, 0, 0), (33, .ireturn, 1, 0, 0, 0, 0, 0)])]
set_option maxRecDepth 100000 in
theorem mx_ok287 : ∀ q ∈ mx_t287, ∀ en ∈ q.2, mx_gd 287 en := mx_gt_s mx_LLok12 mx_KLok12 mx_JLok12 mx_ARok (by decide +kernel)
def mx_t288 : List (Nat × List mx_En) := [(15, [(0, .aload_n 0, 1, 0, 0, 0, 0, 0), (1, .bipush 20, 2, 0, 0, 0, 20, 0), (3, .invokevirtual 525, 3, 286, 1, 0, 0, 0), (6, .aload_n 0, 1, 0, 0, 0, 0, 0), (7, .iload_n 1, 1, 0, 0, 0, 0, 0), (8, .iload_n 2, 1, 0, 0, 0, 0, 0), (9, .invokevirtual 528, 3, 287, 2, 0, 0, 0), (12, .iconst 1, 1, 0, 0, 0, 1, 0), (13, .isub, 1, 0, 0, 0, 0, 0), (14, .ireturn, 1, 0, 0, 0, 0, 0)])]
set_option maxRecDepth 100000 in
theorem mx_ok288 : ∀ q ∈ mx_t288, ∀ en ∈ q.2, mx_gd 288 en := mx_gt_s mx_LLok12 mx_KLok12 mx_JLok12 mx_ARok (by decide +kernel)
def mx_t289 : List (Nat × List mx_En) := [(19, [(0, .aload_n 0, 1, 0, 0, 0, 0, 0), (1, .getfield 41, 3, 12, 13, 0, 0, 0), (4, .iload_n 1, 1, 0, 0, 0, 0, 0), (5, .iaload, 1, 0, 0, 0, 0, 0), (6, .iconst 4, 1, 0, 0, 0, 4, 0), (7, .invokestatic 531, 3, 284, 2, 0, 0, 0), (10, .ifCond .eq 18, 3, 28, 0, 0, 0, 0), (13, .aload_n 0, 1, 0, 0, 0, 0, 0), (14, .bipush 50, 2, 0, 0, 0, 50, 0), (16, .invokevirtual 525, 3, 286, 1, 0, 0, 0)]),
  (33, [(19, .aload_n 0, 1, 0, 0, 0, 0, 0), (20, .iload_n 1, 1, 0, 0, 0, 0, 0), (21, .iload_n 2, 1, 0, 0, 0, 0, 0), (22, .invokevirtual 534, 3, 288, 2, 0, 0, 0), (25, .iconst 3, 1, 0, 0, 0, 3, 0), (26, .ixor, 1, 0, 0, 0, 0, 0), (27, .ireturn, 1, 0, 0, 0, 0, 0), (28, .aload_n 0, 1, 0, 0, 0, 0, 0), (29, .getfield 41, 3, 12, 13, 0, 0, 0), (32, .iload_n 1, 1, 0, 0, 0, 0, 0)]),
  (51, [(33, .iaload, 1, 0, 0, 0, 0, 0), (34, .iconst 1, 1, 0, 0, 0, 1, 0), (35, .invokestatic 531, 3, 284, 2, 0, 0, 0), (38, .ifCond .eq 12, 3, 50, 0, 0, 0, 0), (41, .aload_n 0, 1, 0, 0, 0, 0, 0), (42, .iload_n 1, 1, 0, 0, 0, 0, 0), (43, .iload_n 2, 1, 0, 0, 0, 0, 0), (44, .invokevirtual 534, 3, 288, 2, 0, 0, 0), (47, .goto 9, 3, 56, 0, 0, 0, 0), (50, .aload_n 0, 1, 0, 0, 0, 0, 0)]),
  (57, [(51, .iload_n 1, 1, 0, 0, 0, 0, 0), (52, .iload_n 2, 1, 0, 0, 0, 0, 0), (53, .invokevirtual 528, 3, 287, 2, 0, 0, 0), (56, .ireturn, 1, 0, 0, 0, 0, 0)])]
set_option maxRecDepth 100000 in
theorem mx_ok289 : ∀ q ∈ mx_t289, ∀ en ∈ q.2, mx_gd 289 en := mx_gt_s mx_LLok12 mx_KLok12 mx_JLok12 mx_ARok (by decide +kernel)
def mx_t290 : List (Nat × List mx_En) := [(15, [(0, .aload_n 0, 1, 0, 0, 0, 0, 0), (1, .bipush 10, 2, 0, 0, 0, 10, 0), (3, .invokevirtual 525, 3, 286, 1, 0, 0, 0), (6, .aload_n 0, 1, 0, 0, 0, 0, 0), (7, .iload_n 1, 1, 0, 0, 0, 0, 0), (8, .iload_n 2, 1, 0, 0, 0, 0, 0), (9, .invokevirtual 537, 3, 289, 2, 0, 0, 0), (12, .iconst 2, 1, 0, 0, 0, 2, 0), (13, .imul, 1, 0, 0, 0, 0, 0), (14, .ireturn, 1, 0, 0, 0, 0, 0)])]
set_option maxRecDepth 100000 in
theorem mx_ok290 : ∀ q ∈ mx_t290, ∀ en ∈ q.2, mx_gd 290 en := mx_gt_s mx_LLok12 mx_KLok12 mx_JLok12 mx_ARok (by decide +kernel)
def mx_t291 : List (Nat × List mx_En) := [(17, [(0, .aload_n 0, 1, 0, 0, 0, 0, 0), (1, .getfield 41, 3, 12, 13, 0, 0, 0), (4, .iload_n 1, 1, 0, 0, 0, 0, 0), (5, .iaload, 1, 0, 0, 0, 0, 0), (6, .iconst 2, 1, 0, 0, 0, 2, 0), (7, .if_icmp .ne 25, 3, 32, 0, 0, 0, 0), (10, .aload_n 0, 1, 0, 0, 0, 0, 0), (11, .bipush 31, 2, 0, 0, 0, 31, 0), (13, .invokevirtual 525, 3, 286, 1, 0, 0, 0), (16, .aload_n 0, 1, 0, 0, 0, 0, 0)]),
  (31, [(17, .iload_n 1, 1, 0, 0, 0, 0, 0), (18, .iload_n 2, 1, 0, 0, 0, 0, 0), (19, .invokevirtual 540, 3, 290, 2, 0, 0, 0), (22, .istore_n 3, 1, 0, 0, 0, 0, 0), (23, .iload_n 3, 1, 0, 0, 0, 0, 0), (24, .aload_n 0, 1, 0, 0, 0, 0, 0), (25, .iload_n 1, 1, 0, 0, 0, 0, 0), (26, .iconst 2, 1, 0, 0, 0, 2, 0), (27, .invokevirtual 537, 3, 289, 2, 0, 0, 0), (30, .iadd, 1, 0, 0, 0, 0, 0)]),
  (48, [(31, .ireturn, 1, 0, 0, 0, 0, 0), (32, .aload_n 0, 1, 0, 0, 0, 0, 0), (33, .getfield 41, 3, 12, 13, 0, 0, 0), (36, .iload_n 1, 1, 0, 0, 0, 0, 0), (37, .iaload, 1, 0, 0, 0, 0, 0), (38, .iconst 3, 1, 0, 0, 0, 3, 0), (39, .if_icmp .ne 17, 3, 56, 0, 0, 0, 0), (42, .aload_n 0, 1, 0, 0, 0, 0, 0), (43, .bipush 40, 2, 0, 0, 0, 40, 0), (45, .invokevirtual 525, 3, 286, 1, 0, 0, 0)]),
  (62, [(48, .aload_n 0, 1, 0, 0, 0, 0, 0), (49, .iload_n 1, 1, 0, 0, 0, 0, 0), (50, .iload_n 2, 1, 0, 0, 0, 0, 0), (51, .invokevirtual 540, 3, 290, 2, 0, 0, 0), (54, .ineg, 1, 0, 0, 0, 0, 0), (55, .ireturn, 1, 0, 0, 0, 0, 0), (56, .aload_n 0, 1, 0, 0, 0, 0, 0), (57, .iload_n 1, 1, 0, 0, 0, 0, 0), (58, .iload_n 2, 1, 0, 0, 0, 0, 0), (59, .invokevirtual 540, 3, 290, 2, 0, 0, 0)]),
  (63, [(62, .ireturn, 1, 0, 0, 0, 0, 0)])]
set_option maxRecDepth 100000 in
theorem mx_ok291 : ∀ q ∈ mx_t291, ∀ en ∈ q.2, mx_gd 291 en := mx_gt_s mx_LLok12 mx_KLok12 mx_JLok12 mx_ARok (by decide +kernel)
def mx_t292 : List (Nat × List mx_En) := [(10, [(0, .aload_n 0, 1, 0, 0, 0, 0, 0), (1, .bipush 11, 2, 0, 0, 0, 11, 0), (3, .invokevirtual 525, 3, 286, 1, 0, 0, 0), (6, .iload_n 2, 1, 0, 0, 0, 0, 0), (7, .iload_n 1, 1, 0, 0, 0, 0, 0), (8, .ixor, 1, 0, 0, 0, 0, 0), (9, .ireturn, 1, 0, 0, 0, 0, 0)])]
set_option maxRecDepth 100000 in
theorem mx_ok292 : ∀ q ∈ mx_t292, ∀ en ∈ q.2, mx_gd 292 en := mx_gt_s mx_LLok12 mx_KLok12 mx_JLok12 mx_ARok (by decide +kernel)
def mx_t293 : List (Nat × List mx_En) := [(17, [(0, .aload_n 0, 1, 0, 0, 0, 0, 0), (1, .getfield 41, 3, 12, 13, 0, 0, 0), (4, .iload_n 1, 1, 0, 0, 0, 0, 0), (5, .iaload, 1, 0, 0, 0, 0, 0), (6, .iconst 2, 1, 0, 0, 0, 2, 0), (7, .if_icmp .ne 18, 3, 25, 0, 0, 0, 0), (10, .aload_n 0, 1, 0, 0, 0, 0, 0), (11, .bipush 30, 2, 0, 0, 0, 30, 0), (13, .invokevirtual 525, 3, 286, 1, 0, 0, 0), (16, .aload_n 0, 1, 0, 0, 0, 0, 0)]),
  (31, [(17, .iload_n 1, 1, 0, 0, 0, 0, 0), (18, .iload_n 2, 1, 0, 0, 0, 0, 0), (19, .invokevirtual 543, 3, 292, 2, 0, 0, 0), (22, .iconst 5, 1, 0, 0, 0, 5, 0), (23, .imul, 1, 0, 0, 0, 0, 0), (24, .ireturn, 1, 0, 0, 0, 0, 0), (25, .aload_n 0, 1, 0, 0, 0, 0, 0), (26, .getfield 41, 3, 12, 13, 0, 0, 0), (29, .iload_n 1, 1, 0, 0, 0, 0, 0), (30, .iaload, 1, 0, 0, 0, 0, 0)]),
  (48, [(31, .iconst 5, 1, 0, 0, 0, 5, 0), (32, .if_icmp .ne 25, 3, 57, 0, 0, 0, 0), (35, .aload_n 0, 1, 0, 0, 0, 0, 0), (36, .bipush 60, 2, 0, 0, 0, 60, 0), (38, .invokevirtual 525, 3, 286, 1, 0, 0, 0), (41, .aload_n 0, 1, 0, 0, 0, 0, 0), (42, .iload_n 1, 1, 0, 0, 0, 0, 0), (43, .iload_n 2, 1, 0, 0, 0, 0, 0), (44, .invokevirtual 543, 3, 292, 2, 0, 0, 0), (47, .istore_n 3, 1, 0, 0, 0, 0, 0)]),
  (60, [(48, .iload_n 3, 1, 0, 0, 0, 0, 0), (49, .aload_n 0, 1, 0, 0, 0, 0, 0), (50, .iload_n 1, 1, 0, 0, 0, 0, 0), (51, .iconst 1, 1, 0, 0, 0, 1, 0), (52, .invokevirtual 546, 3, 291, 2, 0, 0, 0), (55, .iadd, 1, 0, 0, 0, 0, 0), (56, .ireturn, 1, 0, 0, 0, 0, 0), (57, .aload_n 0, 1, 0, 0, 0, 0, 0), (58, .iload_n 1, 1, 0, 0, 0, 0, 0), (59, .iload_n 2, 1, 0, 0, 0, 0, 0)]),
  (64, [(60, .invokevirtual 543, 3, 292, 2, 0, 0, 0), (63, .ireturn, 1, 0, 0, 0, 0, 0)])]
set_option maxRecDepth 100000 in
theorem mx_ok293 : ∀ q ∈ mx_t293, ∀ en ∈ q.2, mx_gd 293 en := mx_gt_s mx_LLok12 mx_KLok12 mx_JLok12 mx_ARok (by decide +kernel)
def mx_t294 : List (Nat × List mx_En) := [(14, [(0, .aload_n 0, 1, 0, 0, 0, 0, 0), (1, .iconst 2, 1, 0, 0, 0, 2, 0), (2, .invokevirtual 525, 3, 286, 1, 0, 0, 0), (5, .aload_n 0, 1, 0, 0, 0, 0, 0), (6, .iload_n 1, 1, 0, 0, 0, 0, 0), (7, .iload_n 2, 1, 0, 0, 0, 0, 0), (8, .invokevirtual 546, 3, 291, 2, 0, 0, 0), (11, .istore_n 3, 1, 0, 0, 0, 0, 0), (12, .iload_n 3, 1, 0, 0, 0, 0, 0), (13, .aload_n 0, 1, 0, 0, 0, 0, 0)]),
  (21, [(14, .iload_n 1, 1, 0, 0, 0, 0, 0), (15, .iconst 1, 1, 0, 0, 0, 1, 0), (16, .invokevirtual 549, 3, 293, 2, 0, 0, 0), (19, .iadd, 1, 0, 0, 0, 0, 0), (20, .ireturn, 1, 0, 0, 0, 0, 0)])]
set_option maxRecDepth 100000 in
theorem mx_ok294 : ∀ q ∈ mx_t294, ∀ en ∈ q.2, mx_gd 294 en := mx_gt_s mx_LLok12 mx_KLok12 mx_JLok12 mx_ARok (by decide +kernel)
def mx_t295 : List (Nat × List mx_En) := [(15, [(0, .aload_n 0, 1, 0, 0, 0, 0, 0), (1, .bipush 51, 2, 0, 0, 0, 51, 0), (3, .invokevirtual 525, 3, 286, 1, 0, 0, 0), (6, .aload_n 0, 1, 0, 0, 0, 0, 0), (7, .iload_n 1, 1, 0, 0, 0, 0, 0), (8, .iload_n 2, 1, 0, 0, 0, 0, 0), (9, .iconst 1, 1, 0, 0, 0, 1, 0), (10, .iadd, 1, 0, 0, 0, 0, 0), (11, .invokevirtual 552, 3, 294, 2, 0, 0, 0), (14, .ireturn, 1, 0, 0, 0, 0, 0)])]
set_option maxRecDepth 100000 in
theorem mx_ok295 : ∀ q ∈ mx_t295, ∀ en ∈ q.2, mx_gd 295 en := mx_gt_s mx_LLok12 mx_KLok12 mx_JLok12 mx_ARok (by decide +kernel)
def mx_t296 : List (Nat × List mx_En) := [(17, [(0, .aload_n 0, 1, 0, 0, 0, 0, 0), (1, .getfield 41, 3, 12, 13, 0, 0, 0), (4, .iload_n 1, 1, 0, 0, 0, 0, 0), (5, .iaload, 1, 0, 0, 0, 0, 0), (6, .iconst 5, 1, 0, 0, 0, 5, 0), (7, .if_icmp .ne 18, 3, 25, 0, 0, 0, 0), (10, .aload_n 0, 1, 0, 0, 0, 0, 0), (11, .bipush 61, 2, 0, 0, 0, 61, 0), (13, .invokevirtual 525, 3, 286, 1, 0, 0, 0), (16, .aload_n 0, 1, 0, 0, 0, 0, 0)]),
  (31, [(17, .iload_n 1, 1, 0, 0, 0, 0, 0), (18, .iload_n 2, 1, 0, 0, 0, 0, 0), (19, .invokevirtual 555, 3, 295, 2, 0, 0, 0), (22, .iconst 2, 1, 0, 0, 0, 2, 0), (23, .imul, 1, 0, 0, 0, 0, 0), (24, .ireturn, 1, 0, 0, 0, 0, 0), (25, .aload_n 0, 1, 0, 0, 0, 0, 0), (26, .getfield 41, 3, 12, 13, 0, 0, 0), (29, .iload_n 1, 1, 0, 0, 0, 0, 0), (30, .iaload, 1, 0, 0, 0, 0, 0)]),
  (47, [(31, .iconst 4, 1, 0, 0, 0, 4, 0), (32, .if_icmp .ne 12, 3, 44, 0, 0, 0, 0), (35, .aload_n 0, 1, 0, 0, 0, 0, 0), (36, .iload_n 1, 1, 0, 0, 0, 0, 0), (37, .iload_n 2, 1, 0, 0, 0, 0, 0), (38, .invokevirtual 555, 3, 295, 2, 0, 0, 0), (41, .goto 9, 3, 50, 0, 0, 0, 0), (44, .aload_n 0, 1, 0, 0, 0, 0, 0), (45, .iload_n 1, 1, 0, 0, 0, 0, 0), (46, .iload_n 2, 1, 0, 0, 0, 0, 0)]),
  (51, [(47, .invokevirtual 552, 3, 294, 2, 0, 0, 0), (50, .ireturn, 1, 0, 0, 0, 0, 0)])]
set_option maxRecDepth 100000 in
theorem mx_ok296 : ∀ q ∈ mx_t296, ∀ en ∈ q.2, mx_gd 296 en := mx_gt_s mx_LLok12 mx_KLok12 mx_JLok12 mx_ARok (by decide +kernel)
def mx_t297 : List (Nat × List mx_En) := [(16, [(0, .aload_n 0, 1, 0, 0, 0, 0, 0), (1, .iconst 0, 1, 0, 0, 0, 0, 0), (2, .putfield 522, 3, 12, 88, 0, 0, 0), (5, .aload_n 0, 1, 0, 0, 0, 0, 0), (6, .iload_n 1, 1, 0, 0, 0, 0, 0), (7, .invokevirtual 558, 3, 283, 1, 0, 0, 0), (10, .ifCond .eq 12, 3, 22, 0, 0, 0, 0), (13, .iload_n 2, 1, 0, 0, 0, 0, 0), (14, .iconst 0, 1, 0, 0, 0, 0, 0), (15, .iconst 3, 1, 0, 0, 0, 3, 0)]),
  (34, [(16, .invokestatic 203, 3, 173, 3, 0, 0, 0), (19, .ifCond .ne 5, 3, 24, 0, 0, 0, 0), (22, .iconst 0, 1, 0, 0, 0, 0, 0), (23, .ireturn, 1, 0, 0, 0, 0, 0), (24, .iload_n 2, 1, 0, 0, 0, 0, 0), (25, .ifCond .ne 12, 3, 37, 0, 0, 0, 0), (28, .aload_n 0, 1, 0, 0, 0, 0, 0), (29, .iload_n 1, 1, 0, 0, 0, 0, 0), (30, .iload_n 3, 1, 0, 0, 0, 0, 0), (31, .invokevirtual 537, 3, 289, 2, 0, 0, 0)]),
  (52, [(34, .goto 37, 3, 71, 0, 0, 0, 0), (37, .iload_n 2, 1, 0, 0, 0, 0, 0), (38, .iconst 1, 1, 0, 0, 0, 1, 0), (39, .if_icmp .ne 12, 3, 51, 0, 0, 0, 0), (42, .aload_n 0, 1, 0, 0, 0, 0, 0), (43, .iload_n 1, 1, 0, 0, 0, 0, 0), (44, .iload_n 3, 1, 0, 0, 0, 0, 0), (45, .invokevirtual 546, 3, 291, 2, 0, 0, 0), (48, .goto 23, 3, 71, 0, 0, 0, 0), (51, .iload_n 2, 1, 0, 0, 0, 0, 0)]),
  (68, [(52, .iconst 2, 1, 0, 0, 0, 2, 0), (53, .if_icmp .ne 12, 3, 65, 0, 0, 0, 0), (56, .aload_n 0, 1, 0, 0, 0, 0, 0), (57, .iload_n 1, 1, 0, 0, 0, 0, 0), (58, .iload_n 3, 1, 0, 0, 0, 0, 0), (59, .invokevirtual 549, 3, 293, 2, 0, 0, 0), (62, .goto 9, 3, 71, 0, 0, 0, 0), (65, .aload_n 0, 1, 0, 0, 0, 0, 0), (66, .iload_n 1, 1, 0, 0, 0, 0, 0), (67, .iload_n 3, 1, 0, 0, 0, 0, 0)]),
  (72, [(68, .invokevirtual 561, 3, 296, 2, 0, 0, 0), (71, .ireturn, 1, 0, 0, 0, 0, 0)])]
set_option maxRecDepth 100000 in
theorem mx_ok297 : ∀ q ∈ mx_t297, ∀ en ∈ q.2, mx_gd 297 en := mx_gt_s mx_LLok12 mx_KLok12 mx_JLok12 mx_ARok (by decide +kernel)
def mx_t298 : List (Nat × List mx_En) := [(19, [(0, .iload_n 1, 1, 0, 0, 0, 0, 0), (1, .ifCond .lt 26, 3, 27, 0, 0, 0, 0), (4, .iload_n 1, 1, 0, 0, 0, 0, 0), (5, .aload_n 0, 1, 0, 0, 0, 0, 0), (6, .getfield 522, 3, 12, 88, 0, 0, 0), (9, .if_icmp .ge 18, 3, 27, 0, 0, 0, 0), (12, .iload_n 1, 1, 0, 0, 0, 0, 0), (13, .bipush 24, 2, 0, 0, 0, 24, 0), (15, .if_icmp .ge 12, 3, 27, 0, 0, 0, 0), (18, .aload_n 0, 1, 0, 0, 0, 0, 0)]),
  (29, [(19, .getfield 181, 3, 12, 89, 0, 0, 0), (22, .iload_n 1, 1, 0, 0, 0, 0, 0), (23, .iaload, 1, 0, 0, 0, 0, 0), (24, .goto 4, 3, 28, 0, 0, 0, 0), (27, .iconst (-1), 1, 0, 0, 0, -1, 0), (28, .ireturn, 1, 0, 0, 0, 0, 0)])]
set_option maxRecDepth 100000 in
theorem mx_ok298 : ∀ q ∈ mx_t298, ∀ en ∈ q.2, mx_gd 298 en := mx_gt_s mx_LLok12 mx_KLok12 mx_JLok12 mx_ARok (by decide +kernel)
def mx_t299 : List (Nat × List mx_En) := [(54, [(0, .iload_n 1, 1, 0, 0, 0, 0, 0), (1, .tableswitch 69 0 5 #[39, 44, 49, 54, 59, 64], 39, 0, 0, 0, 0, 0), (40, .aload_n 0, 1, 0, 0, 0, 0, 0), (41, .getfield 200, 3, 12, 1, 0, 0, 0), (44, .ireturn, 1, 0, 0, 0, 0, 0), (45, .aload_n 0, 1, 0, 0, 0, 0, 0), (46, .getfield 261, 3, 12, 12, 0, 0, 0), (49, .ireturn, 1, 0, 0, 0, 0, 0), (50, .aload_n 0, 1, 0, 0, 0, 0, 0), (51, .getfield 214, 3, 12, 16, 0, 0, 0)]),
  (70, [(54, .ireturn, 1, 0, 0, 0, 0, 0), (55, .aload_n 0, 1, 0, 0, 0, 0, 0), (56, .getfield 286, 3, 12, 24, 0, 0, 0), (59, .ireturn, 1, 0, 0, 0, 0, 0), (60, .aload_n 0, 1, 0, 0, 0, 0, 0), (61, .getfield 522, 3, 12, 88, 0, 0, 0), (64, .ireturn, 1, 0, 0, 0, 0, 0), (65, .aload_n 0, 1, 0, 0, 0, 0, 0), (66, .getfield 463, 3, 12, 74, 0, 0, 0), (69, .ireturn, 1, 0, 0, 0, 0, 0)]),
  (72, [(70, .iconst (-1), 1, 0, 0, 0, -1, 0), (71, .ireturn, 1, 0, 0, 0, 0, 0)])]
set_option maxRecDepth 100000 in
theorem mx_ok299 : ∀ q ∈ mx_t299, ∀ en ∈ q.2, mx_gd 299 en := mx_gt_s mx_LLok12 mx_KLok12 mx_JLok12 mx_ARok (by decide +kernel)
def mx_t300 : List (Nat × List mx_En) := [(7, [(0, .iload_n 0, 1, 0, 0, 0, 0, 0), (1, .iconst 0, 1, 0, 0, 0, 0, 0), (2, .iconst 5, 1, 0, 0, 0, 5, 0), (3, .invokestatic 203, 3, 173, 3, 0, 0, 0), (6, .ireturn, 1, 0, 0, 0, 0, 0)])]
set_option maxRecDepth 100000 in
theorem mx_ok300 : ∀ q ∈ mx_t300, ∀ en ∈ q.2, mx_gd 300 en := mx_gt_s mx_LLok12 mx_KLok12 mx_JLok12 mx_ARok (by decide +kernel)
def mx_t301 : List (Nat × List mx_En) := [(20, [(0, .iload_n 1, 1, 0, 0, 0, 0, 0), (1, .invokestatic 476, 3, 300, 1, 0, 0, 0), (4, .ifCond .eq 16, 3, 20, 0, 0, 0, 0), (7, .iload_n 2, 1, 0, 0, 0, 0, 0), (8, .iconst (-1), 1, 0, 0, 0, -1, 0), (9, .if_icmp .eq 13, 3, 22, 0, 0, 0, 0), (12, .aload_n 0, 1, 0, 0, 0, 0, 0), (13, .iload_n 2, 1, 0, 0, 0, 0, 0), (14, .invokevirtual 558, 3, 283, 1, 0, 0, 0), (17, .ifCond .ne 5, 3, 22, 0, 0, 0, 0)]),
  (31, [(20, .iconst (-1), 1, 0, 0, 0, -1, 0), (21, .ireturn, 1, 0, 0, 0, 0, 0), (22, .aload_n 0, 1, 0, 0, 0, 0, 0), (23, .getfield 184, 3, 12, 90, 0, 0, 0), (26, .iload_n 1, 1, 0, 0, 0, 0, 0), (27, .iload_n 2, 1, 0, 0, 0, 0, 0), (28, .iastore, 1, 0, 0, 0, 0, 0), (29, .iconst 1, 1, 0, 0, 0, 1, 0), (30, .ireturn, 1, 0, 0, 0, 0, 0)])]
set_option maxRecDepth 100000 in
theorem mx_ok301 : ∀ q ∈ mx_t301, ∀ en ∈ q.2, mx_gd 301 en := mx_gt_s mx_LLok12 mx_KLok12 mx_JLok12 mx_ARok (by decide +kernel)
def mx_t302 : List (Nat × List mx_En) := [(19, [(0, .iload_n 1, 1, 0, 0, 0, 0, 0), (1, .invokestatic 476, 3, 300, 1, 0, 0, 0), (4, .ifCond .eq 18, 3, 22, 0, 0, 0, 0), (7, .iload_n 2, 1, 0, 0, 0, 0, 0), (8, .iconst 0, 1, 0, 0, 0, 0, 0), (9, .iconst 4, 1, 0, 0, 0, 4, 0), (10, .invokestatic 203, 3, 173, 3, 0, 0, 0), (13, .ifCond .eq 9, 3, 22, 0, 0, 0, 0), (16, .iload_n 3, 1, 0, 0, 0, 0, 0), (17, .bipush 60, 2, 0, 0, 0, 60, 0)]),
  (36, [(19, .if_icmp .le 5, 3, 24, 0, 0, 0, 0), (22, .iconst (-1), 1, 0, 0, 0, -1, 0), (23, .ireturn, 1, 0, 0, 0, 0, 0), (24, .iload_n 3, 1, 0, 0, 0, 0, 0), (25, .ifCond .ge 6, 3, 31, 0, 0, 0, 0), (28, .bipush (-14), 2, 0, 0, 0, -14, 0), (30, .ireturn, 1, 0, 0, 0, 0, 0), (31, .aload_n 0, 1, 0, 0, 0, 0, 0), (32, .getfield 184, 3, 12, 90, 0, 0, 0), (35, .iload_n 1, 1, 0, 0, 0, 0, 0)]),
  (50, [(36, .bipush (-2), 2, 0, 0, 0, -2, 0), (38, .iload_n 2, 1, 0, 0, 0, 0, 0), (39, .isub, 1, 0, 0, 0, 0, 0), (40, .iastore, 1, 0, 0, 0, 0, 0), (41, .aload_n 0, 1, 0, 0, 0, 0, 0), (42, .getfield 187, 3, 12, 91, 0, 0, 0), (45, .iload_n 1, 1, 0, 0, 0, 0, 0), (46, .iload_n 3, 1, 0, 0, 0, 0, 0), (47, .iastore, 1, 0, 0, 0, 0, 0), (48, .bipush 60, 2, 0, 0, 0, 60, 0)]),
  (66, [(50, .iload_n 1, 1, 0, 0, 0, 0, 0), (51, .imul, 1, 0, 0, 0, 0, 0), (52, .istore 4, 2, 0, 0, 0, 0, 0), (54, .iload 4, 2, 0, 0, 0, 0, 0), (56, .bipush 60, 2, 0, 0, 0, 60, 0), (58, .iload_n 1, 1, 0, 0, 0, 0, 0), (59, .imul, 1, 0, 0, 0, 0, 0), (60, .bipush 60, 2, 0, 0, 0, 60, 0), (62, .iadd, 1, 0, 0, 0, 0, 0), (63, .if_icmp .ge 17, 3, 80, 0, 0, 0, 0)]),
  (82, [(66, .aload_n 0, 1, 0, 0, 0, 0, 0), (67, .getfield 190, 3, 12, 92, 0, 0, 0), (70, .iload 4, 2, 0, 0, 0, 0, 0), (72, .lconst 0, 1, 0, 0, 0, 0, 0), (73, .lastore, 1, 0, 0, 0, 0, 0), (74, .iinc 4 1, 3, 0, 0, 0, 1, 0), (77, .goto (-23), 3, 54, 0, 0, 0, 0), (80, .iconst 1, 1, 0, 0, 0, 1, 0), (81, .ireturn, 1, 0, 0, 0, 0, 0)])]
set_option maxRecDepth 100000 in
theorem mx_ok302 : ∀ q ∈ mx_t302, ∀ en ∈ q.2, mx_gd 302 en := mx_gt_s mx_LLok12 mx_KLok12 mx_JLok12 mx_ARok (by decide +kernel)
def mx_t303 : List (Nat × List mx_En) := [(16, [(0, .iload_n 1, 1, 0, 0, 0, 0, 0), (1, .invokestatic 476, 3, 300, 1, 0, 0, 0), (4, .ifCond .ne 5, 3, 9, 0, 0, 0, 0), (7, .iconst (-1), 1, 0, 0, 0, -1, 0), (8, .ireturn, 1, 0, 0, 0, 0, 0), (9, .aload_n 0, 1, 0, 0, 0, 0, 0), (10, .getfield 184, 3, 12, 90, 0, 0, 0), (13, .iload_n 1, 1, 0, 0, 0, 0, 0), (14, .iaload, 1, 0, 0, 0, 0, 0), (15, .iconst (-1), 1, 0, 0, 0, -1, 0)]),
  (34, [(16, .if_icmp .ne 6, 3, 22, 0, 0, 0, 0), (19, .bipush (-11), 2, 0, 0, 0, -11, 0), (21, .ireturn, 1, 0, 0, 0, 0, 0), (22, .aload_n 0, 1, 0, 0, 0, 0, 0), (23, .getfield 184, 3, 12, 90, 0, 0, 0), (26, .iload_n 1, 1, 0, 0, 0, 0, 0), (27, .iaload, 1, 0, 0, 0, 0, 0), (28, .ifCond .lt 6, 3, 34, 0, 0, 0, 0), (31, .bipush (-12), 2, 0, 0, 0, -12, 0), (33, .ireturn, 1, 0, 0, 0, 0, 0)]),
  (50, [(34, .iload_n 2, 1, 0, 0, 0, 0, 0), (35, .iconst 0, 1, 0, 0, 0, 0, 0), (36, .aload_n 0, 1, 0, 0, 0, 0, 0), (37, .getfield 187, 3, 12, 91, 0, 0, 0), (40, .iload_n 1, 1, 0, 0, 0, 0, 0), (41, .iaload, 1, 0, 0, 0, 0, 0), (42, .iconst 1, 1, 0, 0, 0, 1, 0), (43, .isub, 1, 0, 0, 0, 0, 0), (44, .invokestatic 203, 3, 173, 3, 0, 0, 0), (47, .ifCond .eq 7, 3, 54, 0, 0, 0, 0)]),
  (57, [(50, .iconst 0, 1, 0, 0, 0, 0, 0), (51, .goto 5, 3, 56, 0, 0, 0, 0), (54, .bipush (-13), 2, 0, 0, 0, -13, 0), (56, .ireturn, 1, 0, 0, 0, 0, 0)])]
set_option maxRecDepth 100000 in
theorem mx_ok303 : ∀ q ∈ mx_t303, ∀ en ∈ q.2, mx_gd 303 en := mx_gt_s mx_LLok12 mx_KLok12 mx_JLok12 mx_ARok (by decide +kernel)
def mx_t304 : List (Nat × List mx_En) := [(18, [(0, .aload_n 0, 1, 0, 0, 0, 0, 0), (1, .iload_n 1, 1, 0, 0, 0, 0, 0), (2, .iload_n 2, 1, 0, 0, 0, 0, 0), (3, .invokevirtual 564, 3, 303, 2, 0, 0, 0), (6, .istore 5, 2, 0, 0, 0, 0, 0), (8, .iload 5, 2, 0, 0, 0, 0, 0), (10, .ifCond .ge 6, 3, 16, 0, 0, 0, 0), (13, .iload 5, 2, 0, 0, 0, 0, 0), (15, .ireturn, 1, 0, 0, 0, 0, 0), (16, .bipush (-2), 2, 0, 0, 0, -2, 0)]),
  (34, [(18, .aload_n 0, 1, 0, 0, 0, 0, 0), (19, .getfield 184, 3, 12, 90, 0, 0, 0), (22, .iload_n 1, 1, 0, 0, 0, 0, 0), (23, .iaload, 1, 0, 0, 0, 0, 0), (24, .isub, 1, 0, 0, 0, 0, 0), (25, .istore 6, 2, 0, 0, 0, 0, 0), (27, .aload_n 0, 1, 0, 0, 0, 0, 0), (28, .getfield 190, 3, 12, 92, 0, 0, 0), (31, .bipush 60, 2, 0, 0, 0, 60, 0), (33, .iload_n 1, 1, 0, 0, 0, 0, 0)]),
  (49, [(34, .imul, 1, 0, 0, 0, 0, 0), (35, .iload_n 2, 1, 0, 0, 0, 0, 0), (36, .iadd, 1, 0, 0, 0, 0, 0), (37, .iload 6, 2, 0, 0, 0, 0, 0), (39, .ifCond .ne 10, 3, 49, 0, 0, 0, 0), (42, .lload_n 3, 1, 0, 0, 0, 0, 0), (43, .l2i, 1, 0, 0, 0, 0, 0), (44, .i2b, 1, 0, 0, 0, 0, 0), (45, .i2l, 1, 0, 0, 0, 0, 0), (46, .goto 49, 3, 95, 0, 0, 0, 0)]),
  (65, [(49, .iload 6, 2, 0, 0, 0, 0, 0), (51, .iconst 1, 1, 0, 0, 0, 1, 0), (52, .if_icmp .ne 10, 3, 62, 0, 0, 0, 0), (55, .lload_n 3, 1, 0, 0, 0, 0, 0), (56, .l2i, 1, 0, 0, 0, 0, 0), (57, .i2s, 1, 0, 0, 0, 0, 0), (58, .i2l, 1, 0, 0, 0, 0, 0), (59, .goto 36, 3, 95, 0, 0, 0, 0), (62, .iload 6, 2, 0, 0, 0, 0, 0), (64, .iconst 2, 1, 0, 0, 0, 2, 0)]),
  (84, [(65, .if_icmp .ne 9, 3, 74, 0, 0, 0, 0), (68, .lload_n 3, 1, 0, 0, 0, 0, 0), (69, .l2i, 1, 0, 0, 0, 0, 0), (70, .i2l, 1, 0, 0, 0, 0, 0), (71, .goto 24, 3, 95, 0, 0, 0, 0), (74, .iload 6, 2, 0, 0, 0, 0, 0), (76, .iconst 3, 1, 0, 0, 0, 3, 0), (77, .if_icmp .ne 7, 3, 84, 0, 0, 0, 0), (80, .lload_n 3, 1, 0, 0, 0, 0, 0), (81, .goto 14, 3, 95, 0, 0, 0, 0)]),
  (98, [(84, .lload_n 3, 1, 0, 0, 0, 0, 0), (85, .lconst 0, 1, 0, 0, 0, 0, 0), (86, .lcmp, 1, 0, 0, 0, 0, 0), (87, .ifCond .eq 7, 3, 94, 0, 0, 0, 0), (90, .lconst 1, 1, 0, 0, 0, 0, 1), (91, .goto 4, 3, 95, 0, 0, 0, 0), (94, .lconst 0, 1, 0, 0, 0, 0, 0), (95, .lastore, 1, 0, 0, 0, 0, 0), (96, .iconst 1, 1, 0, 0, 0, 1, 0), (97, .ireturn, 1, 0, 0, 0, 0, 0)])]
set_option maxRecDepth 100000 in
theorem mx_ok304 : ∀ q ∈ mx_t304, ∀ en ∈ q.2, mx_gd 304 en := mx_gt_s mx_LLok12 mx_KLok12 mx_JLok12 mx_ARok (by decide +kernel)
def mx_t305 : List (Nat × List mx_En) := [(21, [(0, .aload_n 0, 1, 0, 0, 0, 0, 0), (1, .iload_n 1, 1, 0, 0, 0, 0, 0), (2, .iload_n 2, 1, 0, 0, 0, 0, 0), (3, .invokevirtual 564, 3, 303, 2, 0, 0, 0), (6, .ifCond .ge 9, 3, 15, 0, 0, 0, 0), (9, .ldc2_w 347, 3, 0, 0, 0, 0, -9223372036854775808), (12, .goto 14, 3, 26, 0, 0, 0, 0), (15, .aload_n 0, 1, 0, 0, 0, 0, 0), (16, .getfield 190, 3, 12, 92, 0, 0, 0), (19, .bipush 60, 2, 0, 0, 0, 60, 0)]),
  (27, [(21, .iload_n 1, 1, 0, 0, 0, 0, 0), (22, .imul, 1, 0, 0, 0, 0, 0), (23, .iload_n 2, 1, 0, 0, 0, 0, 0), (24, .iadd, 1, 0, 0, 0, 0, 0), (25, .laload, 1, 0, 0, 0, 0, 0), (26, .lreturn, 1, 0, 0, 0, 0, 0)])]
set_option maxRecDepth 100000 in
theorem mx_ok305 : ∀ q ∈ mx_t305, ∀ en ∈ q.2, mx_gd 305 en := mx_gt_s mx_LLok12 mx_KLok12 mx_JLok12 mx_ARok (by decide +kernel)
def mx_t306 : List (Nat × List mx_En) := [(20, [(0, .iload_n 1, 1, 0, 0, 0, 0, 0), (1, .invokestatic 476, 3, 300, 1, 0, 0, 0), (4, .ifCond .eq 10, 3, 14, 0, 0, 0, 0), (7, .iload_n 3, 1, 0, 0, 0, 0, 0), (8, .invokestatic 476, 3, 300, 1, 0, 0, 0), (11, .ifCond .ne 5, 3, 16, 0, 0, 0, 0), (14, .iconst (-1), 1, 0, 0, 0, -1, 0), (15, .ireturn, 1, 0, 0, 0, 0, 0), (16, .aload_n 0, 1, 0, 0, 0, 0, 0), (17, .getfield 184, 3, 12, 90, 0, 0, 0)]),
  (36, [(20, .iload_n 1, 1, 0, 0, 0, 0, 0), (21, .iaload, 1, 0, 0, 0, 0, 0), (22, .iconst (-1), 1, 0, 0, 0, -1, 0), (23, .if_icmp .eq 13, 3, 36, 0, 0, 0, 0), (26, .aload_n 0, 1, 0, 0, 0, 0, 0), (27, .getfield 184, 3, 12, 90, 0, 0, 0), (30, .iload_n 3, 1, 0, 0, 0, 0, 0), (31, .iaload, 1, 0, 0, 0, 0, 0), (32, .iconst (-1), 1, 0, 0, 0, -1, 0), (33, .if_icmp .ne 6, 3, 39, 0, 0, 0, 0)]),
  (53, [(36, .bipush (-11), 2, 0, 0, 0, -11, 0), (38, .ireturn, 1, 0, 0, 0, 0, 0), (39, .aload_n 0, 1, 0, 0, 0, 0, 0), (40, .getfield 184, 3, 12, 90, 0, 0, 0), (43, .iload_n 1, 1, 0, 0, 0, 0, 0), (44, .iaload, 1, 0, 0, 0, 0, 0), (45, .ifCond .ge 18, 3, 63, 0, 0, 0, 0), (48, .aload_n 0, 1, 0, 0, 0, 0, 0), (49, .getfield 184, 3, 12, 90, 0, 0, 0), (52, .iload_n 1, 1, 0, 0, 0, 0, 0)]),
  (71, [(53, .iaload, 1, 0, 0, 0, 0, 0), (54, .aload_n 0, 1, 0, 0, 0, 0, 0), (55, .getfield 184, 3, 12, 90, 0, 0, 0), (58, .iload_n 3, 1, 0, 0, 0, 0, 0), (59, .iaload, 1, 0, 0, 0, 0, 0), (60, .if_icmp .eq 6, 3, 66, 0, 0, 0, 0), (63, .bipush (-12), 2, 0, 0, 0, -12, 0), (65, .ireturn, 1, 0, 0, 0, 0, 0), (66, .iload 5, 2, 0, 0, 0, 0, 0), (68, .ifCond .lt 39, 3, 107, 0, 0, 0, 0)]),
  (89, [(71, .iload_n 2, 1, 0, 0, 0, 0, 0), (72, .ifCond .lt 35, 3, 107, 0, 0, 0, 0), (75, .iload 4, 2, 0, 0, 0, 0, 0), (77, .ifCond .lt 30, 3, 107, 0, 0, 0, 0), (80, .iload_n 2, 1, 0, 0, 0, 0, 0), (81, .aload_n 0, 1, 0, 0, 0, 0, 0), (82, .getfield 187, 3, 12, 91, 0, 0, 0), (85, .iload_n 1, 1, 0, 0, 0, 0, 0), (86, .iaload, 1, 0, 0, 0, 0, 0), (87, .iload 5, 2, 0, 0, 0, 0, 0)]),
  (107, [(89, .isub, 1, 0, 0, 0, 0, 0), (90, .if_icmp .gt 17, 3, 107, 0, 0, 0, 0), (93, .iload 4, 2, 0, 0, 0, 0, 0), (95, .aload_n 0, 1, 0, 0, 0, 0, 0), (96, .getfield 187, 3, 12, 91, 0, 0, 0), (99, .iload_n 3, 1, 0, 0, 0, 0, 0), (100, .iaload, 1, 0, 0, 0, 0, 0), (101, .iload 5, 2, 0, 0, 0, 0, 0), (103, .isub, 1, 0, 0, 0, 0, 0), (104, .if_icmp .le 6, 3, 110, 0, 0, 0, 0)]),
  (126, [(107, .bipush (-13), 2, 0, 0, 0, -13, 0), (109, .ireturn, 1, 0, 0, 0, 0, 0), (110, .iconst 0, 1, 0, 0, 0, 0, 0), (111, .istore 6, 2, 0, 0, 0, 0, 0), (113, .iload 6, 2, 0, 0, 0, 0, 0), (115, .iload 5, 2, 0, 0, 0, 0, 0), (117, .if_icmp .ge 30, 3, 147, 0, 0, 0, 0), (120, .aload_n 0, 1, 0, 0, 0, 0, 0), (121, .getfield 193, 3, 12, 93, 0, 0, 0), (124, .iload 6, 2, 0, 0, 0, 0, 0)]),
  (140, [(126, .aload_n 0, 1, 0, 0, 0, 0, 0), (127, .getfield 190, 3, 12, 92, 0, 0, 0), (130, .bipush 60, 2, 0, 0, 0, 60, 0), (132, .iload_n 1, 1, 0, 0, 0, 0, 0), (133, .imul, 1, 0, 0, 0, 0, 0), (134, .iload_n 2, 1, 0, 0, 0, 0, 0), (135, .iadd, 1, 0, 0, 0, 0, 0), (136, .iload 6, 2, 0, 0, 0, 0, 0), (138, .iadd, 1, 0, 0, 0, 0, 0), (139, .laload, 1, 0, 0, 0, 0, 0)]),
  (161, [(140, .lastore, 1, 0, 0, 0, 0, 0), (141, .iinc 6 1, 3, 0, 0, 0, 1, 0), (144, .goto (-31), 3, 113, 0, 0, 0, 0), (147, .iconst 0, 1, 0, 0, 0, 0, 0), (148, .istore 6, 2, 0, 0, 0, 0, 0), (150, .iload 6, 2, 0, 0, 0, 0, 0), (152, .iload 5, 2, 0, 0, 0, 0, 0), (154, .if_icmp .ge 31, 3, 185, 0, 0, 0, 0), (157, .aload_n 0, 1, 0, 0, 0, 0, 0), (158, .getfield 190, 3, 12, 92, 0, 0, 0)]),
  (177, [(161, .bipush 60, 2, 0, 0, 0, 60, 0), (163, .iload_n 3, 1, 0, 0, 0, 0, 0), (164, .imul, 1, 0, 0, 0, 0, 0), (165, .iload 4, 2, 0, 0, 0, 0, 0), (167, .iadd, 1, 0, 0, 0, 0, 0), (168, .iload 6, 2, 0, 0, 0, 0, 0), (170, .iadd, 1, 0, 0, 0, 0, 0), (171, .aload_n 0, 1, 0, 0, 0, 0, 0), (172, .getfield 193, 3, 12, 93, 0, 0, 0), (175, .iload 6, 2, 0, 0, 0, 0, 0)]),
  (188, [(177, .laload, 1, 0, 0, 0, 0, 0), (178, .lastore, 1, 0, 0, 0, 0, 0), (179, .iinc 6 1, 3, 0, 0, 0, 1, 0), (182, .goto (-32), 3, 150, 0, 0, 0, 0), (185, .iload 5, 2, 0, 0, 0, 0, 0), (187, .ireturn, 1, 0, 0, 0, 0, 0)])]
set_option maxRecDepth 100000 in
theorem mx_ok306 : ∀ q ∈ mx_t306, ∀ en ∈ q.2, mx_gd 306 en := mx_gt_s mx_LLok12 mx_KLok12 mx_JLok12 mx_ARok (by decide +kernel)
def mx_t307 : List (Nat × List mx_En) := [(18, [(0, .iload_n 1, 1, 0, 0, 0, 0, 0), (1, .invokestatic 476, 3, 300, 1, 0, 0, 0), (4, .ifCond .eq 12, 3, 16, 0, 0, 0, 0), (7, .iload_n 2, 1, 0, 0, 0, 0, 0), (8, .iconst 0, 1, 0, 0, 0, 0, 0), (9, .iconst 5, 1, 0, 0, 0, 5, 0), (10, .invokestatic 203, 3, 173, 3, 0, 0, 0), (13, .ifCond .ne 5, 3, 18, 0, 0, 0, 0), (16, .iconst (-1), 1, 0, 0, 0, -1, 0), (17, .ireturn, 1, 0, 0, 0, 0, 0)]),
  (35, [(18, .aload_n 0, 1, 0, 0, 0, 0, 0), (19, .getfield 184, 3, 12, 90, 0, 0, 0), (22, .iload_n 1, 1, 0, 0, 0, 0, 0), (23, .iaload, 1, 0, 0, 0, 0, 0), (24, .iconst (-1), 1, 0, 0, 0, -1, 0), (25, .if_icmp .ne 6, 3, 31, 0, 0, 0, 0), (28, .bipush (-11), 2, 0, 0, 0, -11, 0), (30, .ireturn, 1, 0, 0, 0, 0, 0), (31, .aload_n 0, 1, 0, 0, 0, 0, 0), (32, .getfield 184, 3, 12, 90, 0, 0, 0)]),
  (51, [(35, .iload_n 1, 1, 0, 0, 0, 0, 0), (36, .iaload, 1, 0, 0, 0, 0, 0), (37, .ifCond .lt 35, 3, 72, 0, 0, 0, 0), (40, .aload_n 0, 1, 0, 0, 0, 0, 0), (41, .getfield 41, 3, 12, 13, 0, 0, 0), (44, .aload_n 0, 1, 0, 0, 0, 0, 0), (45, .getfield 184, 3, 12, 90, 0, 0, 0), (48, .iload_n 1, 1, 0, 0, 0, 0, 0), (49, .iaload, 1, 0, 0, 0, 0, 0), (50, .iaload, 1, 0, 0, 0, 0, 0)]),
  (69, [(51, .iload_n 2, 1, 0, 0, 0, 0, 0), (52, .invokestatic 531, 3, 284, 2, 0, 0, 0), (55, .ifCond .eq 17, 3, 72, 0, 0, 0, 0), (58, .aload_n 0, 1, 0, 0, 0, 0, 0), (59, .getfield 41, 3, 12, 13, 0, 0, 0), (62, .aload_n 0, 1, 0, 0, 0, 0, 0), (63, .getfield 184, 3, 12, 90, 0, 0, 0), (66, .iload_n 1, 1, 0, 0, 0, 0, 0), (67, .iaload, 1, 0, 0, 0, 0, 0), (68, .iaload, 1, 0, 0, 0, 0, 0)]),
  (75, [(69, .goto 5, 3, 74, 0, 0, 0, 0), (72, .bipush (-12), 2, 0, 0, 0, -12, 0), (74, .ireturn, 1, 0, 0, 0, 0, 0)])]
set_option maxRecDepth 100000 in
theorem mx_ok307 : ∀ q ∈ mx_t307, ∀ en ∈ q.2, mx_gd 307 en := mx_gt_s mx_LLok12 mx_KLok12 mx_JLok12 mx_ARok (by decide +kernel)
def mx_t308 : List (Nat × List mx_En) := [(18, [(0, .iload_n 0, 1, 0, 0, 0, 0, 0), (1, .iload_n 1, 1, 0, 0, 0, 0, 0), (2, .if_icmp .ge 7, 3, 9, 0, 0, 0, 0), (5, .iconst (-1), 1, 0, 0, 0, -1, 0), (6, .goto 13, 3, 19, 0, 0, 0, 0), (9, .iload_n 0, 1, 0, 0, 0, 0, 0), (10, .iload_n 1, 1, 0, 0, 0, 0, 0), (11, .if_icmp .ne 7, 3, 18, 0, 0, 0, 0), (14, .iconst 0, 1, 0, 0, 0, 0, 0), (15, .goto 4, 3, 19, 0, 0, 0, 0)]),
  (20, [(18, .iconst 1, 1, 0, 0, 0, 1, 0), (19, .ireturn, 1, 0, 0, 0, 0, 0)])]
set_option maxRecDepth 100000 in
theorem mx_ok308 : ∀ q ∈ mx_t308, ∀ en ∈ q.2, mx_gd 308 en := mx_gt_s mx_LLok13 mx_KLok13 mx_JLok13 mx_ARok (by decide +kernel)
def mx_t309 : List (Nat × List mx_En) := [(14, [(0, .iload_n 0, 1, 0, 0, 0, 0, 0), (1, .iload_n 0, 1, 0, 0, 0, 0, 0), (2, .iconst 1, 1, 0, 0, 0, 1, 0), (3, .iushr, 1, 0, 0, 0, 0, 0), (4, .ldc_w 265, 3, 0, 0, 0, 1431655765, 0), (7, .iand, 1, 0, 0, 0, 0, 0), (8, .isub, 1, 0, 0, 0, 0, 0), (9, .istore_n 0, 1, 0, 0, 0, 0, 0), (10, .iload_n 0, 1, 0, 0, 0, 0, 0), (11, .ldc_w 266, 3, 0, 0, 0, 858993459, 0)]),
  (26, [(14, .iand, 1, 0, 0, 0, 0, 0), (15, .iload_n 0, 1, 0, 0, 0, 0, 0), (16, .iconst 2, 1, 0, 0, 0, 2, 0), (17, .iushr, 1, 0, 0, 0, 0, 0), (18, .ldc_w 266, 3, 0, 0, 0, 858993459, 0), (21, .iand, 1, 0, 0, 0, 0, 0), (22, .iadd, 1, 0, 0, 0, 0, 0), (23, .istore_n 0, 1, 0, 0, 0, 0, 0), (24, .iload_n 0, 1, 0, 0, 0, 0, 0), (25, .iload_n 0, 1, 0, 0, 0, 0, 0)]),
  (39, [(26, .iconst 4, 1, 0, 0, 0, 4, 0), (27, .iushr, 1, 0, 0, 0, 0, 0), (28, .iadd, 1, 0, 0, 0, 0, 0), (29, .ldc_w 267, 3, 0, 0, 0, 252645135, 0), (32, .iand, 1, 0, 0, 0, 0, 0), (33, .istore_n 0, 1, 0, 0, 0, 0, 0), (34, .iload_n 0, 1, 0, 0, 0, 0, 0), (35, .iload_n 0, 1, 0, 0, 0, 0, 0), (36, .bipush 8, 2, 0, 0, 0, 8, 0), (38, .iushr, 1, 0, 0, 0, 0, 0)]),
  (51, [(39, .iadd, 1, 0, 0, 0, 0, 0), (40, .istore_n 0, 1, 0, 0, 0, 0, 0), (41, .iload_n 0, 1, 0, 0, 0, 0, 0), (42, .iload_n 0, 1, 0, 0, 0, 0, 0), (43, .bipush 16, 2, 0, 0, 0, 16, 0), (45, .iushr, 1, 0, 0, 0, 0, 0), (46, .iadd, 1, 0, 0, 0, 0, 0), (47, .istore_n 0, 1, 0, 0, 0, 0, 0), (48, .iload_n 0, 1, 0, 0, 0, 0, 0), (49, .bipush 63, 2, 0, 0, 0, 63, 0)]),
  (53, [(51, .iand, 1, 0, 0, 0, 0, 0), (52, .ireturn, 1, 0, 0, 0, 0, 0)])]
set_option maxRecDepth 100000 in
theorem mx_ok309 : ∀ q ∈ mx_t309, ∀ en ∈ q.2, mx_gd 309 en := mx_gt_s mx_LLok13 mx_KLok13 mx_JLok13 mx_ARok (by decide +kernel)
def mx_t316 : List (Nat × List mx_En) := [(14, [(0, .iconst 0, 1, 0, 0, 0, 0, 0), (1, .istore_n 3, 1, 0, 0, 0, 0, 0), (2, .aload_n 0, 1, 0, 0, 0, 0, 0), (3, .arraylength, 1, 0, 0, 0, 0, 0), (4, .istore 4, 2, 0, 0, 0, 0, 0), (6, .iload_n 3, 1, 0, 0, 0, 0, 0), (7, .iload 4, 2, 0, 0, 0, 0, 0), (9, .if_icmp .ge 13, 3, 22, 0, 0, 0, 0), (12, .aload_n 0, 1, 0, 0, 0, 0, 0), (13, .iload_n 3, 1, 0, 0, 0, 0, 0)]),
  (23, [(14, .lload_n 1, 1, 0, 0, 0, 0, 0), (15, .lastore, 1, 0, 0, 0, 0, 0), (16, .iinc 3 1, 3, 0, 0, 0, 1, 0), (19, .goto (-13), 3, 6, 0, 0, 0, 0), (22, .return_, 1, 0, 0, 0, 0, 0)])]
set_option maxRecDepth 100000 in
theorem mx_ok316 : ∀ q ∈ mx_t316, ∀ en ∈ q.2, mx_gd 316 en := mx_gt_s mx_LLok16 mx_KLok16 mx_JLok16 mx_ARok (by decide +kernel)
def mx_t317 : List (Nat × List mx_En) := [(12, [(0, .iconst 0, 1, 0, 0, 0, 0, 0), (1, .istore_n 2, 1, 0, 0, 0, 0, 0), (2, .aload_n 0, 1, 0, 0, 0, 0, 0), (3, .arraylength, 1, 0, 0, 0, 0, 0), (4, .istore_n 3, 1, 0, 0, 0, 0, 0), (5, .iload_n 2, 1, 0, 0, 0, 0, 0), (6, .iload_n 3, 1, 0, 0, 0, 0, 0), (7, .if_icmp .ge 13, 3, 20, 0, 0, 0, 0), (10, .aload_n 0, 1, 0, 0, 0, 0, 0), (11, .iload_n 2, 1, 0, 0, 0, 0, 0)]),
  (21, [(12, .iload_n 1, 1, 0, 0, 0, 0, 0), (13, .iastore, 1, 0, 0, 0, 0, 0), (14, .iinc 2 1, 3, 0, 0, 0, 1, 0), (17, .goto (-12), 3, 5, 0, 0, 0, 0), (20, .return_, 1, 0, 0, 0, 0, 0)])]
set_option maxRecDepth 100000 in
theorem mx_ok317 : ∀ q ∈ mx_t317, ∀ en ∈ q.2, mx_gd 317 en := mx_gt_s mx_LLok16 mx_KLok16 mx_JLok16 mx_ARok (by decide +kernel)
end
section
/-! ===== the mini machine: cells by number, states, the judgement mx_T ===== -/
def mx_nb (j : Nat) : Nat := if j = 0 then 13 else if j = 1 then 24 else if j = 2 then 38 else 49
def mx_pos : mx_A → Nat
  | .inl k => k
  | .inr (j, o) => if o < 9 then (if j = 0 then 4 + o else 158 + 9 * j + o) else if o = 20 then 99 + j else mx_nb j + (o - 30)
/-- a number of a cell as the machine makes it -/
def mx_va : mx_A → Prop
  | .inl k => k < 4 ∨ (35 ≤ k ∧ k < 38) ∨ (60 ≤ k ∧ k < 99) ∨ (105 ≤ k ∧ k < 167)
  | .inr (j, o) => o < 9 ∨ (o = 20 ∧ j < 6) ∨ (30 ≤ o ∧ o < 41 ∧ j < 4)
def mx_adr (n : Nat) : mx_A :=
  if n < 4 then .inl n else if n < 13 then .inr (0, n - 4) else if n < 24 then .inr (0, 30 + (n - 13)) else if n < 35 then .inr (1, 30 + (n - 24)) else if n < 38 then .inl n
  else if n < 49 then .inr (2, 30 + (n - 38)) else if n < 60 then .inr (3, 30 + (n - 49)) else if n < 99 then .inl n else if n < 105 then .inr (n - 99, 20) else if n < 167 then .inl n
  else .inr ((n - 158) / 9, (n - 158) % 9)
theorem mx_pos_s (j : Nat) {o : Nat} (h : o < 9) : mx_pos (.inr (j, o)) = if j = 0 then 4 + o else 158 + 9 * j + o := if_pos h
theorem mx_pos_r (j : Nat) : mx_pos (.inr (j, 20)) = 99 + j := rfl
theorem mx_pos_n (j : Nat) {o : Nat} (h : 30 ≤ o) : mx_pos (.inr (j, o)) = mx_nb j + (o - 30) := by
  show (if o < 9 then _ else if o = 20 then _ else _) = _
  rw [if_neg (by omega), if_neg (by omega)]
theorem mx_nb0 : mx_nb 0 = 13 := rfl
theorem mx_nb1 : mx_nb 1 = 24 := rfl
theorem mx_nb2 : mx_nb 2 = 38 := rfl
theorem mx_nb3 : mx_nb 3 = 49 := rfl
theorem mx_va_adr (n : Nat) : mx_va (mx_adr n) := by
  unfold mx_adr
  split; · exact Or.inl (by assumption)
  split; · exact Or.inl (by omega)
  split; · exact Or.inr (Or.inr (by omega))
  split; · exact Or.inr (Or.inr (by omega))
  split; · exact Or.inr (Or.inl (by omega))
  split; · exact Or.inr (Or.inr (by omega))
  split; · exact Or.inr (Or.inr (by omega))
  split; · exact Or.inr (Or.inr (Or.inl (by omega)))
  split; · exact Or.inr (Or.inl ⟨rfl, by omega⟩)
  split; · exact Or.inr (Or.inr (Or.inr (by omega)))
  exact Or.inl (Nat.mod_lt _ (by decide))
theorem mx_pos_adr (n : Nat) : mx_pos (mx_adr n) = n := by
  unfold mx_adr
  split; · rfl
  split; · (rw [mx_pos_s 0 (by omega), if_pos rfl]; omega)
  split; · (rw [mx_pos_n 0 (by omega), mx_nb0]; omega)
  split; · (rw [mx_pos_n 1 (by omega), mx_nb1]; omega)
  split; · rfl
  split; · (rw [mx_pos_n 2 (by omega), mx_nb2]; omega)
  split; · (rw [mx_pos_n 3 (by omega), mx_nb3]; omega)
  split; · rfl
  split; · (rw [mx_pos_r]; omega)
  split; · rfl
  rw [mx_pos_s _ (Nat.mod_lt _ (by decide)), if_neg (by omega)]
  omega
theorem mx_adr_pos {a : mx_A} (h : mx_va a) : mx_adr (mx_pos a) = a := by
  rcases a with k | ⟨j, o⟩
  · have h : k < 4 ∨ (35 ≤ k ∧ k < 38) ∨ (60 ≤ k ∧ k < 99) ∨ (105 ≤ k ∧ k < 167) := h
    show mx_adr k = _
    unfold mx_adr
    split; · rfl
    split; · (exfalso; omega)
    split; · (exfalso; omega)
    split; · (exfalso; omega)
    split; · rfl
    split; · (exfalso; omega)
    split; · (exfalso; omega)
    split; · rfl
    split; · (exfalso; omega)
    split; · rfl
    exfalso; omega
  · have h : o < 9 ∨ (o = 20 ∧ j < 6) ∨ (30 ≤ o ∧ o < 41 ∧ j < 4) := h
    rcases h with h | ⟨rfl, h⟩ | ⟨h1, h2, h3⟩
    · rw [mx_pos_s j h]
      by_cases hj : j = 0
      · subst hj
        rw [if_pos rfl]
        unfold mx_adr
        rw [if_neg (by omega), if_pos (by omega), show 4 + o - 4 = o by omega]
      · rw [if_neg hj]
        unfold mx_adr
        rw [if_neg (by omega), if_neg (by omega), if_neg (by omega), if_neg (by omega), if_neg (by omega), if_neg (by omega), if_neg (by omega), if_neg (by omega), if_neg (by omega), if_neg (by omega), show (158 + 9 * j + o - 158) / 9 = j by omega, show (158 + 9 * j + o - 158) % 9 = o by omega]
    · rw [mx_pos_r]
      unfold mx_adr
      rw [if_neg (by omega), if_neg (by omega), if_neg (by omega), if_neg (by omega), if_neg (by omega), if_neg (by omega), if_neg (by omega), if_neg (by omega), if_pos (by omega), show 99 + j - 99 = j by omega]
    · rw [mx_pos_n j h1]
      have hj : j = 0 ∨ j = 1 ∨ j = 2 ∨ j = 3 := by omega
      rcases hj with rfl | rfl | rfl | rfl
      · rw [mx_nb0]
        unfold mx_adr
        rw [if_neg (by omega), if_neg (by omega), if_pos (by omega), show 30 + (13 + (o - 30) - 13) = o by omega]
      · rw [mx_nb1]
        unfold mx_adr
        rw [if_neg (by omega), if_neg (by omega), if_neg (by omega), if_pos (by omega), show 30 + (24 + (o - 30) - 24) = o by omega]
      · rw [mx_nb2]
        unfold mx_adr
        rw [if_neg (by omega), if_neg (by omega), if_neg (by omega), if_neg (by omega), if_neg (by omega), if_pos (by omega), show 30 + (38 + (o - 30) - 38) = o by omega]
      · rw [mx_nb3]
        unfold mx_adr
        rw [if_neg (by omega), if_neg (by omega), if_neg (by omega), if_neg (by omega), if_neg (by omega), if_neg (by omega), if_pos (by omega), show 30 + (49 + (o - 30) - 49) = o by omega]
theorem mx_pos_inj {a b : mx_A} (ha : mx_va a) (hb : mx_va b) (h : mx_pos a = mx_pos b) : a = b := by
  rw [← mx_adr_pos ha, ← mx_adr_pos hb, h]
/-- launch; base, tables' numbers of classes and slots, array classes, static arrays' cells; the script -/
abbrev mx_Ev : Type := Launch × Nat × va_G × (Nat → ClassId) × (Nat → Nat) × Nat × (Nat → Int32)
abbrev mx_B (E : mx_Ev) : Nat := E.2.1
abbrev mx_G (E : mx_Ev) : va_G := E.2.2.1
abbrev mx_aC (E : mx_Ev) : Nat → ClassId := E.2.2.2.1
abbrev mx_sa (E : mx_Ev) : Nat → Nat := E.2.2.2.2.1
abbrev mx_sn (E : mx_Ev) : Nat := E.2.2.2.2.2.1
abbrev mx_sx (E : mx_Ev) : Nat → Int32 := E.2.2.2.2.2.2
def mx_ad (E : mx_Ev) (a : mx_A) : Nat := mx_B E + mx_pos a
def mx_sh (E : mx_Ev) : mx_V → Value
  | .inr a => .ref (mx_ad E a)
  | .inl (.float u) => .ref (mx_sa E u.toNat)
  | .inl v => v
def mx_shl (E : mx_Ev) (q : Nat × mx_V) : Nat × Value := (q.1, mx_sh E q.2)
def mx_cat : mx_V → Nat
  | .inr _ => 1
  | .inl v => v.category
theorem mx_cat_sh (E : mx_Ev) (v : mx_V) : (mx_sh E v).category = mx_cat v := by
  rcases v with v | a
  · cases v <;> rfl
  · rfl
def mx_fv (E : mx_Ev) (h : mx_H) (a : mx_A) (ci j : Nat) : Value := if mx_ff ci j = 2 then va_rf ((h.2.2.2 a j).map (mx_ad E)) else .int (h.2.1 a j)
def mx_ar (E : mx_Ev) (h : mx_H) (a : mx_A) (kd : Nat) : (Nat → Int32) ⊕ (Nat → Int64) ⊕ (Nat → UInt32) ⊕ (Nat → UInt64) ⊕ (Nat → Option Nat) :=
  if kd = 101 then .inr (.inl (h.2.2.1 a)) else if kd ≤ 103 then .inl (h.2.1 a) else .inr (.inr (.inr (.inr (fun j => (h.2.2.2 a j).map (mx_ad E)))))
def mx_cell (E : mx_Ev) (h : mx_H) (a : mx_A) : va_E :=
  if (mx_lo a).1 < 100 then .inr ((mx_lo a).1, (List.range (mx_lo a).2).map (mx_fv E h a (mx_lo a).1)) else .inl (mx_aC E ((mx_lo a).1 - 100), (mx_lo a).2, mx_ar E h a (mx_lo a).1)
def mx_W (E : mx_Ev) (h : mx_H) : va_W := (List.range h.1).map (fun k => (mx_B E + k, mx_cell E h (mx_adr k)))
def mx_wfa (n : Nat) (a : mx_A) : Prop := mx_va a ∧ mx_pos a < n
def mx_wf (n : Nat) : mx_V → Prop
  | .inr a => mx_wfa n a
  | .inl (.ref _) => False
  | .inl _ => True
theorem mx_wf.mono {n n' : Nat} {v : mx_V} (h : mx_wf n v) (hn : n ≤ n') : mx_wf n' v := by
  rcases v with v | a
  · cases v <;> first | trivial | exact h
  · exact ⟨h.1, Nat.lt_of_lt_of_le h.2 hn⟩
theorem mx_W_get {E : mx_Ev} {h : mx_H} {a : mx_A} (ha : mx_wfa h.1 a) : (mx_W E h)[mx_pos a]? = some (mx_ad E a, mx_cell E h a) := by
  unfold mx_W
  rw [List.getElem?_map, List.getElem?_range ha.2]
  simp only [Option.map_some, mx_adr_pos ha.1]
  rfl
theorem mx_W_ext {E : mx_Ev} {h h' : mx_H} {a : mx_A} (hn : h'.1 = h.1) (ha : mx_wfa h.1 a) (hs : ∀ b, mx_va b → b ≠ a → mx_cell E h' b = mx_cell E h b) :
    mx_W E h' = (mx_W E h).set (mx_pos a) (mx_ad E a, mx_cell E h' a) := by
  apply List.ext_getElem?
  intro k
  rw [List.getElem?_set]
  unfold mx_W
  rw [List.getElem?_map, List.getElem?_map, hn]
  by_cases hk : mx_pos a = k
  · subst hk
    rw [if_pos rfl, List.getElem?_range ha.2]
    have hl : mx_pos a < ((List.range h.1).map (fun k => (mx_B E + k, mx_cell E h (mx_adr k)))).length := by simpa using ha.2
    rw [if_pos hl]
    simp only [Option.map_some, mx_adr_pos ha.1]
    rfl
  · rw [if_neg hk]
    by_cases hl : k < h.1
    · rw [List.getElem?_range hl]
      simp only [Option.map_some]
      rw [hs (mx_adr k) (mx_va_adr k) (fun e => hk (by rw [← e, mx_pos_adr]))]
    · rw [List.getElem?_eq_none (by simpa using hl)]
      rfl
theorem mx_W_push {E : mx_Ev} {h h' : mx_H} {a : mx_A} (hp : mx_pos a = h.1) (hv : mx_va a) (hn : h'.1 = h.1 + 1) (hs : ∀ b, mx_va b → b ≠ a → mx_cell E h' b = mx_cell E h b) :
    mx_W E h' = mx_W E h ++ [(mx_ad E a, mx_cell E h' a)] := by
  unfold mx_W
  rw [hn, List.range_succ, List.map_append]
  congr 1
  · apply List.map_congr_left
    intro k hk
    have hk := List.mem_range.mp hk
    rw [hs (mx_adr k) (mx_va_adr k) (fun e => by rw [← e, mx_pos_adr] at hp; omega)]
  · simp only [List.map_cons, List.map_nil, ← hp, mx_adr_pos hv]
    rfl
def mx_tys (E : mx_Ev) : List (ClassId × FieldType) := [(mx_aC E 0, .int), (mx_aC E 1, .long), (mx_aC E 2, .byte), (mx_aC E 3, .boolean), (mx_aC E 4, .object RX7), (mx_aC E 5, .array .long)]
def mx_k0 : Nat → Int32 := fun j => [-1, 0, 1, 0, 1, 4].getD j 0
def mx_k1 : Nat → Int32 := fun j => [1, 10, 11, 2, 20, 0, 0, 0, 0, 31, 30, 0, 0, 40, 0, 0, 50, 0, 0, 51, 0, 0, 60, 61].getD j 0
def mx_ra (E : mx_Ev) : Nat → Prop := fun q => mx_B E ≤ q
/-- what holds of the tables and of the static cells -/
def mx_Nv (E : mx_Ev) (U : State) (H : Heap) : Prop :=
  va_K (mx_G E) vwCl (mx_tys E) U ∧ (∀ w ∈ mx_nest, va_Nw w U) ∧ va_AO RX7 U ∧ (Cond.arrayOver (.array .long)).before #[] U = true ∧
  va_Z RX4 "KIND_ABOVE" "[I" (.ref (mx_sa E 0)) (mx_ra E) U H ∧ va_Z RX4 "ACTS" "[I" (.ref (mx_sa E 1)) (mx_ra E) U H ∧
  va_X (mx_sa E 0) 6 mx_k0 U H ∧ va_X (mx_sa E 1) 24 mx_k1 U H ∧ va_X (mx_sa E 2) (mx_sn E) (mx_sx E) U H ∧
  mx_sa E 0 < mx_B E ∧ mx_sa E 1 < mx_B E ∧ mx_sa E 2 < mx_B E ∧ mx_sn E < 2147483648 ∧ mx_B E ≤ H.size
/-- what holds of a method's frame from its start to its end -/
def mx_S (E : mx_Ev) (d mid : Nat) (p : Program) (R : Room) (s : State) (m : MethodId) (args : Array Value) (meth : Method) (c : Code) : Prop :=
  p.tables.exec = Jvm.exec ∧ c.code = mx_by mid ∧ c.maxLocals = mx_nL mid ∧ meth.sig.returnType = mx_rt mid ∧ meth.locks = false ∧ s.vm.findClass (mx_ow mid) = some m.cls ∧
  (∀ w ∈ mx_ws, w.before args s = true) ∧ ((mx_y mid).name = "<init>" → meth.name = "<init>") ∧ mx_Nv E s s.heap ∧ d ≤ R.frames ∧ 40 * d ≤ R.locals
/-- the heap holds the mini machine's -/
def mx_D (E : mx_Ev) (fin : mx_A → Nat → Option mx_A) (h : mx_H) (s : State) (H : Heap) (locs : List Loc) : Prop :=
  va_P (mx_G E) vwCl (mx_W E h) H ∧ va_D (mx_ra E) (mx_W E h) ∧ va_S (mx_ra E) s.heap H locs ∧ H.size = mx_B E + h.1 ∧
  (∀ a k b, h.2.2.2 a k = some b → mx_wfa h.1 b) ∧ (∀ a k b, fin a k = some b → mx_wfa h.1 a → h.2.2.2 a k = some b)
def mx_rk (r : Option FieldType) (ins : Instr) (v : Option mx_V) : Prop :=
  (ins = .return_ ∧ v = none ∧ r = none) ∨ (∃ x, ins = .ireturn ∧ v = some (.inl (.int x)) ∧ (r = some .int ∨ (r = some .boolean ∧ narrow .boolean (.int x) = .int x))) ∨
  (∃ x, ins = .lreturn ∧ v = some (.inl (.long x)) ∧ r = some .long) ∨ (ins = .areturn ∧ (v = some (.inl .null) ∨ ∃ a, v = some (.inr a)) ∧ r = some (.object RX7))
/-- from pc, with these locals and this stack and heap, the method ends, with Q of answer and heap; it makes bc cells and bs slots at most, and calls d deep -/
def mx_T (E : mx_Ev) (fin : mx_A → Nat → Option mx_A) (d bc bs mid pc : Nat) (lv : mx_Lv) (st : List mx_V) (h : mx_H) (Q : Option mx_V → mx_H → Prop) : Prop :=
  ∀ (p : Program) (e : Env) (R : Room) (s : State) (m : MethodId) (args : Array Value) (below : List Frame) (meth : Method) (c : Code) (H : Heap) (locs : List Loc) (cells slots : Nat) (Qw : State → Prop) (ls : Array Slot),
    mx_S E d mid p R s m args meth c → mx_D E fin h s H locs → cells + bc ≤ R.cells → slots + bs ≤ R.slots → (∀ q ∈ lv, mx_wf h.1 q.2) → (∀ v ∈ st, mx_wf h.1 v) → lv_has ls (mx_nL mid) (lv.map (mx_shl E)) →
    (∀ (v : Option mx_V) (h' : mx_H) (H' : Heap) (locs' : List Loc) (cells' slots' pc' : Nat) (ls' : Array Slot) (ins : Instr), Q v h' → mx_D E fin h' s H' locs' → h.1 ≤ h'.1 → cells' ≤ cells + bc → slots' ≤ slots + bs →
      (∀ x, v = some x → mx_wf h'.1 x) → decode (mx_by mid) pc' = .ok (ins, 1) → mx_rk (mx_rt mid) ins v → W p E.1 e R s m args below meth c H' locs' cells' slots' Qw (F0 m pc' ls' (v.toList.map (mx_sh E)))) →
    W p E.1 e R s m args below meth c H locs cells slots Qw (F0 m pc ls (st.map (mx_sh E)))
/-- the locals at a method's entry -/
def mx_ent : Nat → List mx_V → mx_Lv
  | _, [] => []
  | i, v :: r => (i, v) :: mx_ent (i + mx_cat v) r
def mx_C (E : mx_Ev) (fin : mx_A → Nat → Option mx_A) (d mid : Nat) (av : List mx_V) (h : mx_H) (Q : Option mx_V → mx_H → Prop) : Prop :=
  mx_T E fin d (mx_bu mid).1 (mx_bu mid).2 mid 0 (mx_ent 0 av) [] h Q
theorem mx_T.mono {E : mx_Ev} {fin : mx_A → Nat → Option mx_A} {d bc bs mid pc : Nat} {lv : mx_Lv} {st : List mx_V} {h : mx_H} {Q Q' : Option mx_V → mx_H → Prop} (hT : mx_T E fin d bc bs mid pc lv st h Q) (hQ : ∀ v h', Q v h' → Q' v h') : mx_T E fin d bc bs mid pc lv st h Q' :=
  fun p e R s m args below meth c H locs cells slots Qw ls hS hD h1 h2 h3 h4 h5 h6 => hT p e R s m args below meth c H locs cells slots Qw ls hS hD h1 h2 h3 h4 h5 (fun v h' H' locs' cells' slots' pc' ls' ins q => h6 v h' H' locs' cells' slots' pc' ls' ins (hQ v h' q))
/-- a step that touches stack and locals alone -/
theorem mx_go {E : mx_Ev} {fin : mx_A → Nat → Option mx_A} {d bc bs mid pc pc' : Nat} {lv lv' : mx_Lv} {st st' : List mx_V} {h : mx_H} {Q : Option mx_V → mx_H → Prop}
    (hw : (∀ q ∈ lv, mx_wf h.1 q.2) → (∀ v ∈ st, mx_wf h.1 v) → (∀ q ∈ lv', mx_wf h.1 q.2) ∧ (∀ v ∈ st', mx_wf h.1 v))
    (hstep : ∀ (p : Program) (e : Env) (R : Room) (s : State) (m : MethodId) (args : Array Value) (below : List Frame) (meth : Method) (c : Code) (H : Heap) (locs : List Loc) (cells slots : Nat) (Qw : State → Prop) (ls : Array Slot),
      mx_S E d mid p R s m args meth c → mx_D E fin h s H locs → lv_has ls (mx_nL mid) (lv.map (mx_shl E)) →
      (∀ ls', lv_has ls' (mx_nL mid) (lv'.map (mx_shl E)) → W p E.1 e R s m args below meth c H locs cells slots Qw (F0 m pc' ls' (st'.map (mx_sh E)))) → W p E.1 e R s m args below meth c H locs cells slots Qw (F0 m pc ls (st.map (mx_sh E))))
    (hk : mx_T E fin d bc bs mid pc' lv' st' h Q) : mx_T E fin d bc bs mid pc lv st h Q :=
  fun p e R s m args below meth c H locs cells slots Qw ls hS hD h1 h2 h3 h4 h5 h6 =>
    hstep p e R s m args below meth c H locs cells slots Qw ls hS hD h5 (fun ls' hl => hk p e R s m args below meth c H locs cells slots Qw ls' hS hD h1 h2 (hw h3 h4).1 (hw h3 h4).2 hl h6)
end
section
/-! ===== one instruction at a time: stack and locals ===== -/
def mx_get (lv : mx_Lv) (i : Nat) : Option mx_V := (lv.find? (fun q => q.1 == i)).map (fun q => q.2)
def mx_set1 (lv : mx_Lv) (i : Nat) (v : mx_V) : mx_Lv := (i, v) :: lv.filter (fun q => !(q.1 == i) && !(q.1 + 1 == i && mx_cat q.2 == 2))
def mx_set2 (lv : mx_Lv) (i : Nat) (v : mx_V) : mx_Lv := (i, v) :: lv.filter (fun q => !(q.1 == i) && (!(q.1 == i + 1) && !(q.1 + 1 == i && mx_cat q.2 == 2)))
theorem mx_get_mem {lv : mx_Lv} {i : Nat} {v : mx_V} (h : mx_get lv i = some v) : (i, v) ∈ lv := by
  unfold mx_get at h
  cases hf : lv.find? (fun q => q.1 == i) with
  | none => rw [hf] at h; cases h
  | some q =>
    rw [hf] at h
    have h1 := List.mem_of_find?_eq_some hf
    have h2 := List.find?_some hf
    cases h
    have h3 : q.1 = i := by simpa using h2
    subst h3
    exact h1
theorem mx_has {E : mx_Ev} {ls : Array Slot} {n i : Nat} {lv : mx_Lv} {v : mx_V} (hl : lv_has ls n (lv.map (mx_shl E))) (h : mx_get lv i = some v) : ls[i]? = some (.val (mx_sh E v)) :=
  hl.2.2 (i, mx_sh E v) (List.mem_map.mpr ⟨(i, v), mx_get_mem h, rfl⟩)
theorem mx_set1_map (E : mx_Ev) (lv : mx_Lv) (i : Nat) (v : mx_V) : (i, mx_sh E v) :: (lv.map (mx_shl E)).filter (fun q => !(q.1 == i) && !(q.1 + 1 == i && q.2.category == 2)) = (mx_set1 lv i v).map (mx_shl E) := by
  unfold mx_set1
  rw [List.map_cons, List.filter_map]
  congr 2
  apply List.filter_congr
  intro q _
  simp only [Function.comp, mx_shl, mx_cat_sh]
theorem mx_set2_map (E : mx_Ev) (lv : mx_Lv) (i : Nat) (v : mx_V) : (i, mx_sh E v) :: (lv.map (mx_shl E)).filter (fun q => !(q.1 == i) && (!(q.1 == i + 1) && !(q.1 + 1 == i && q.2.category == 2))) = (mx_set2 lv i v).map (mx_shl E) := by
  unfold mx_set2
  rw [List.map_cons, List.filter_map]
  congr 2
  apply List.filter_congr
  intro q _
  simp only [Function.comp, mx_shl, mx_cat_sh]
theorem mx_set1_wf {n : Nat} {lv : mx_Lv} {i : Nat} {v : mx_V} (h : ∀ q ∈ lv, mx_wf n q.2) (hv : mx_wf n v) : ∀ q ∈ mx_set1 lv i v, mx_wf n q.2 := by
  intro q hq
  rcases List.mem_cons.mp hq with rfl | hq
  · exact hv
  · exact h q (List.mem_filter.mp hq).1
theorem mx_set2_wf {n : Nat} {lv : mx_Lv} {i : Nat} {v : mx_V} (h : ∀ q ∈ lv, mx_wf n q.2) (hv : mx_wf n v) : ∀ q ∈ mx_set2 lv i v, mx_wf n q.2 := by
  intro q hq
  rcases List.mem_cons.mp hq with rfl | hq
  · exact hv
  · exact h q (List.mem_filter.mp hq).1
section MXR
variable {E : mx_Ev} {fin : mx_A → Nat → Option mx_A} {d bc bs mid pc : Nat} {lv : mx_Lv} {st : List mx_V} {h : mx_H} {Q : Option mx_V → mx_H → Prop}
/-- a value is pushed -/
theorem mx_push {v : mx_V} {k : Nat} (hv : (∀ q ∈ lv, mx_wf h.1 q.2) → mx_wf h.1 v)
    (hstep : ∀ (p : Program) (e : Env) (R : Room) (s : State) (m : MethodId) (args : Array Value) (below : List Frame) (meth : Method) (c : Code) (H : Heap) (locs : List Loc) (cells slots : Nat) (Qw : State → Prop) (ls : Array Slot),
      mx_S E d mid p R s m args meth c → mx_D E fin h s H locs → lv_has ls (mx_nL mid) (lv.map (mx_shl E)) → W p E.1 e R s m args below meth c H locs cells slots Qw (F0 m (pc + k) ls (mx_sh E v :: st.map (mx_sh E))) → W p E.1 e R s m args below meth c H locs cells slots Qw (F0 m pc ls (st.map (mx_sh E))))
    (hk : mx_T E fin d bc bs mid (pc + k) lv (v :: st) h Q) : mx_T E fin d bc bs mid pc lv st h Q :=
  mx_go (fun h1 h2 => ⟨h1, fun x hx => (List.mem_cons.mp hx).elim (fun e => e ▸ hv h1) (h2 x)⟩) (fun p e R s m args below meth c H locs cells slots Qw ls hS hD hl kk => hstep p e R s m args below meth c H locs cells slots Qw ls hS hD hl (kk ls hl)) hk
theorem mx_iconst {n : Int} (hd : decode (mx_by mid) pc = .ok (.iconst n, 1)) (hk : mx_T E fin d bc bs mid (pc + 1) lv (.inl (.int (Int32.ofInt n)) :: st) h Q) : mx_T E fin d bc bs mid pc lv st h Q :=
  mx_push (fun _ => by exact True.intro) (fun _ _ _ _ _ _ _ _ _ _ _ _ _ _ _ hS _ _ k => lv_iconst hS.1 hS.2.1 hd rfl k) hk
theorem mx_bipush {n : Int} (hd : decode (mx_by mid) pc = .ok (.bipush n, 2)) (hk : mx_T E fin d bc bs mid (pc + 2) lv (.inl (.int (Int8.ofInt n).toInt32) :: st) h Q) : mx_T E fin d bc bs mid pc lv st h Q :=
  mx_push (fun _ => by exact True.intro) (fun _ _ _ _ _ _ _ _ _ _ _ _ _ _ _ hS _ _ k => lv_bipush hS.1 hS.2.1 hd rfl k) hk
theorem mx_sipush {n : Int} (hd : decode (mx_by mid) pc = .ok (.sipush n, 3)) (hk : mx_T E fin d bc bs mid (pc + 3) lv (.inl (.int (Int16.ofInt n).toInt32) :: st) h Q) : mx_T E fin d bc bs mid pc lv st h Q :=
  mx_push (fun _ => by exact True.intro) (fun _ _ _ _ _ _ _ _ _ _ _ _ _ _ _ hS _ _ k => lv_sipush hS.1 hS.2.1 hd rfl k) hk
theorem mx_lconst {n : Fin 2} (hd : decode (mx_by mid) pc = .ok (.lconst n, 1)) (hk : mx_T E fin d bc bs mid (pc + 1) lv (.inl (.long (Int64.ofNat (n : Nat))) :: st) h Q) : mx_T E fin d bc bs mid pc lv st h Q :=
  mx_push (fun _ => by exact True.intro) (fun _ _ _ _ _ _ _ _ _ _ _ _ _ _ _ hS _ _ k => lv_lconst hS.1 hS.2.1 hd rfl k) hk
theorem mx_null (hd : decode (mx_by mid) pc = .ok (.aconst_null, 1)) (hk : mx_T E fin d bc bs mid (pc + 1) lv (.inl .null :: st) h Q) : mx_T E fin d bc bs mid pc lv st h Q :=
  mx_push (fun _ => by exact True.intro) (fun _ _ _ _ _ _ _ _ _ _ _ _ _ _ _ hS _ _ k => lv_null hS.1 hS.2.1 hd k) hk
theorem mx_ldc {i : Nat} {v : Int32} (hw : Cond.constant (mx_ow mid) i v ∈ mx_ws) (hd : decode (mx_by mid) pc = .ok (.ldc i, 2)) (hk : mx_T E fin d bc bs mid (pc + 2) lv (.inl (.int v) :: st) h Q) : mx_T E fin d bc bs mid pc lv st h Q :=
  mx_push (fun _ => by exact True.intro) (fun _ _ _ _ _ _ _ _ _ _ _ _ _ _ _ hS _ _ k => lv_ldc hS.1 hS.2.1 hS.2.2.2.2.2.1 (hS.2.2.2.2.2.2.1 _ hw) hd k) hk
theorem mx_ldcw {i : Nat} {v : Int32} (hw : Cond.constant (mx_ow mid) i v ∈ mx_ws) (hd : decode (mx_by mid) pc = .ok (.ldc_w i, 3)) (hk : mx_T E fin d bc bs mid (pc + 3) lv (.inl (.int v) :: st) h Q) : mx_T E fin d bc bs mid pc lv st h Q :=
  mx_push (fun _ => by exact True.intro) (fun _ _ _ _ _ _ _ _ _ _ _ _ _ _ _ hS _ _ k => lv_ldcw hS.1 hS.2.1 hS.2.2.2.2.2.1 (hS.2.2.2.2.2.2.1 _ hw) hd k) hk
theorem mx_ldc2 {i : Nat} {v : Int64} (hw : Cond.constantLong (mx_ow mid) i v ∈ mx_ws) (hd : decode (mx_by mid) pc = .ok (.ldc2_w i, 3)) (hk : mx_T E fin d bc bs mid (pc + 3) lv (.inl (.long v) :: st) h Q) : mx_T E fin d bc bs mid pc lv st h Q :=
  mx_push (fun _ => by exact True.intro) (fun _ _ _ _ _ _ _ _ _ _ _ _ _ _ _ hS _ _ k => lv_ldc2 hS.1 hS.2.1 hS.2.2.2.2.2.1 (hS.2.2.2.2.2.2.1 _ hw) hd k) hk
theorem mx_getwf {i : Nat} {v : mx_V} (hg : mx_get lv i = some v) (h1 : ∀ q ∈ lv, mx_wf h.1 q.2) : mx_wf h.1 v := h1 _ (mx_get_mem hg)
theorem mx_iload_n {i : Fin 4} {x : Int32} (hd : decode (mx_by mid) pc = .ok (.iload_n i, 1)) (hg : mx_get lv i.val = some (.inl (.int x))) (hk : mx_T E fin d bc bs mid (pc + 1) lv (.inl (.int x) :: st) h Q) : mx_T E fin d bc bs mid pc lv st h Q :=
  mx_push (mx_getwf hg) (fun _ _ _ _ _ _ _ _ _ _ _ _ _ _ _ hS _ hl k => lv_iload_n hS.1 hS.2.1 hd rfl (mx_has hl hg) k) hk
theorem mx_iload {i : Nat} {x : Int32} (hd : decode (mx_by mid) pc = .ok (.iload i, 2)) (hg : mx_get lv i = some (.inl (.int x))) (hk : mx_T E fin d bc bs mid (pc + 2) lv (.inl (.int x) :: st) h Q) : mx_T E fin d bc bs mid pc lv st h Q :=
  mx_push (mx_getwf hg) (fun _ _ _ _ _ _ _ _ _ _ _ _ _ _ _ hS _ hl k => lv_iload hS.1 hS.2.1 hd (mx_has hl hg) k) hk
theorem mx_lload_n {i : Fin 4} {x : Int64} (hd : decode (mx_by mid) pc = .ok (.lload_n i, 1)) (hg : mx_get lv i.val = some (.inl (.long x))) (hk : mx_T E fin d bc bs mid (pc + 1) lv (.inl (.long x) :: st) h Q) : mx_T E fin d bc bs mid pc lv st h Q :=
  mx_push (mx_getwf hg) (fun _ _ _ _ _ _ _ _ _ _ _ _ _ _ _ hS _ hl k => lv_lload_n hS.1 hS.2.1 hd rfl (mx_has hl hg) k) hk
theorem mx_lload {i : Nat} {x : Int64} (hd : decode (mx_by mid) pc = .ok (.lload i, 2)) (hg : mx_get lv i = some (.inl (.long x))) (hk : mx_T E fin d bc bs mid (pc + 2) lv (.inl (.long x) :: st) h Q) : mx_T E fin d bc bs mid pc lv st h Q :=
  mx_push (mx_getwf hg) (fun _ _ _ _ _ _ _ _ _ _ _ _ _ _ _ hS _ hl k => lv_lload hS.1 hS.2.1 hd (mx_has hl hg) k) hk
def mx_isr : mx_V → Bool
  | .inr _ => true
  | .inl .null => true
  | .inl (.float _) => true
  | _ => false
theorem mx_aload_n {i : Fin 4} {v : mx_V} (hd : decode (mx_by mid) pc = .ok (.aload_n i, 1)) (hg : mx_get lv i.val = some v) (hr : mx_isr v = true) (hk : mx_T E fin d bc bs mid (pc + 1) lv (v :: st) h Q) : mx_T E fin d bc bs mid pc lv st h Q := by
  refine mx_push (mx_getwf hg) (fun _ _ _ _ _ _ _ _ _ _ _ _ _ _ _ hS _ hl k => ?_) hk
  have hh := mx_has hl hg
  rcases v with v | a
  · cases v with
    | null => exact lv_aload_nN hS.1 hS.2.1 hd rfl hh k
    | float u => exact lv_aload_n hS.1 hS.2.1 hd rfl hh k
    | _ => cases hr
  · exact lv_aload_n hS.1 hS.2.1 hd rfl hh k
theorem mx_aload {i : Nat} {v : mx_V} (hd : decode (mx_by mid) pc = .ok (.aload i, 2)) (hg : mx_get lv i = some v) (hr : mx_isr v = true) (hk : mx_T E fin d bc bs mid (pc + 2) lv (v :: st) h Q) : mx_T E fin d bc bs mid pc lv st h Q := by
  refine mx_push (mx_getwf hg) (fun _ _ _ _ _ _ _ _ _ _ _ _ _ _ _ hS _ hl k => ?_) hk
  have hh := mx_has hl hg
  rcases v with v | a
  · cases v with
    | null => exact lv_aloadN hS.1 hS.2.1 hd hh k
    | float u => exact lv_aload hS.1 hS.2.1 hd hh k
    | _ => cases hr
  · exact lv_aload hS.1 hS.2.1 hd hh k
theorem mx_st1 {v : mx_V} {i k : Nat} 
    (hstep : ∀ (p : Program) (e : Env) (R : Room) (s : State) (m : MethodId) (args : Array Value) (below : List Frame) (meth : Method) (c : Code) (H : Heap) (locs : List Loc) (cells slots : Nat) (Qw : State → Prop) (ls : Array Slot),
      mx_S E d mid p R s m args meth c → lv_has ls (mx_nL mid) (lv.map (mx_shl E)) → (∀ ls', lv_has ls' (mx_nL mid) ((mx_set1 lv i v).map (mx_shl E)) → W p E.1 e R s m args below meth c H locs cells slots Qw (F0 m (pc + k) ls' (st.map (mx_sh E)))) → W p E.1 e R s m args below meth c H locs cells slots Qw (F0 m pc ls (mx_sh E v :: st.map (mx_sh E))))
    (hk : mx_T E fin d bc bs mid (pc + k) (mx_set1 lv i v) st h Q) : mx_T E fin d bc bs mid pc lv (v :: st) h Q :=
  mx_go (fun h1 h2 => ⟨mx_set1_wf h1 (h2 v List.mem_cons_self), fun x hx => h2 x (List.mem_cons_of_mem _ hx)⟩) (fun p e R s m args below meth c H locs cells slots Qw ls hS _ hl kk => hstep p e R s m args below meth c H locs cells slots Qw ls hS hl kk) hk
theorem mx_st2 {v : mx_V} {i k : Nat} 
    (hstep : ∀ (p : Program) (e : Env) (R : Room) (s : State) (m : MethodId) (args : Array Value) (below : List Frame) (meth : Method) (c : Code) (H : Heap) (locs : List Loc) (cells slots : Nat) (Qw : State → Prop) (ls : Array Slot),
      mx_S E d mid p R s m args meth c → lv_has ls (mx_nL mid) (lv.map (mx_shl E)) → (∀ ls', lv_has ls' (mx_nL mid) ((mx_set2 lv i v).map (mx_shl E)) → W p E.1 e R s m args below meth c H locs cells slots Qw (F0 m (pc + k) ls' (st.map (mx_sh E)))) → W p E.1 e R s m args below meth c H locs cells slots Qw (F0 m pc ls (mx_sh E v :: st.map (mx_sh E))))
    (hk : mx_T E fin d bc bs mid (pc + k) (mx_set2 lv i v) st h Q) : mx_T E fin d bc bs mid pc lv (v :: st) h Q :=
  mx_go (fun h1 h2 => ⟨mx_set2_wf h1 (h2 v List.mem_cons_self), fun x hx => h2 x (List.mem_cons_of_mem _ hx)⟩) (fun p e R s m args below meth c H locs cells slots Qw ls hS _ hl kk => hstep p e R s m args below meth c H locs cells slots Qw ls hS hl kk) hk
theorem mx_istore_n {i : Fin 4} {x : Int32} (hd : decode (mx_by mid) pc = .ok (.istore_n i, 1)) (hn : i.val < mx_nL mid) (hk : mx_T E fin d bc bs mid (pc + 1) (mx_set1 lv i.val (.inl (.int x))) st h Q) : mx_T E fin d bc bs mid pc lv (.inl (.int x) :: st) h Q :=
  mx_st1 (fun _ _ _ _ _ _ _ _ _ _ _ _ _ _ _ hS hl kk => lv_istore_n hS.1 hS.2.1 hd rfl hl hn (mx_set1_map E lv i.val (.inl (.int x))) kk) hk
theorem mx_istore {i : Nat} {x : Int32} (hd : decode (mx_by mid) pc = .ok (.istore i, 2)) (hn : i < mx_nL mid) (hk : mx_T E fin d bc bs mid (pc + 2) (mx_set1 lv i (.inl (.int x))) st h Q) : mx_T E fin d bc bs mid pc lv (.inl (.int x) :: st) h Q :=
  mx_st1 (fun _ _ _ _ _ _ _ _ _ _ _ _ _ _ _ hS hl kk => lv_istore hS.1 hS.2.1 hd hl hn (mx_set1_map E lv i (.inl (.int x))) kk) hk
theorem mx_lstore_n {i : Fin 4} {x : Int64} (hd : decode (mx_by mid) pc = .ok (.lstore_n i, 1)) (hn : i.val + 1 < mx_nL mid) (hk : mx_T E fin d bc bs mid (pc + 1) (mx_set2 lv i.val (.inl (.long x))) st h Q) : mx_T E fin d bc bs mid pc lv (.inl (.long x) :: st) h Q :=
  mx_st2 (fun _ _ _ _ _ _ _ _ _ _ _ _ _ _ _ hS hl kk => lv_lstore_n hS.1 hS.2.1 hd rfl hl hn (mx_set2_map E lv i.val (.inl (.long x))) kk) hk
theorem mx_lstore {i : Nat} {x : Int64} (hd : decode (mx_by mid) pc = .ok (.lstore i, 2)) (hn : i + 1 < mx_nL mid) (hk : mx_T E fin d bc bs mid (pc + 2) (mx_set2 lv i (.inl (.long x))) st h Q) : mx_T E fin d bc bs mid pc lv (.inl (.long x) :: st) h Q :=
  mx_st2 (fun _ _ _ _ _ _ _ _ _ _ _ _ _ _ _ hS hl kk => lv_lstore hS.1 hS.2.1 hd hl hn (mx_set2_map E lv i (.inl (.long x))) kk) hk
theorem mx_astore_n {i : Fin 4} {v : mx_V} (hd : decode (mx_by mid) pc = .ok (.astore_n i, 1)) (hr : mx_isr v = true) (hn : i.val < mx_nL mid) (hk : mx_T E fin d bc bs mid (pc + 1) (mx_set1 lv i.val v) st h Q) : mx_T E fin d bc bs mid pc lv (v :: st) h Q := by
  refine mx_st1 (fun _ _ _ _ _ _ _ _ _ _ _ _ _ _ _ hS hl kk => ?_) hk
  rcases v with v | a
  · cases v with
    | null => exact lv_astore_nN hS.1 hS.2.1 hd rfl hl hn (mx_set1_map E lv i.val (.inl .null)) kk
    | float u => exact lv_astore_n hS.1 hS.2.1 hd rfl hl hn (mx_set1_map E lv i.val (.inl (.float u))) kk
    | _ => cases hr
  · exact lv_astore_n hS.1 hS.2.1 hd rfl hl hn (mx_set1_map E lv i.val (.inr a)) kk
theorem mx_astore {i : Nat} {v : mx_V} (hd : decode (mx_by mid) pc = .ok (.astore i, 2)) (hr : mx_isr v = true) (hn : i < mx_nL mid) (hk : mx_T E fin d bc bs mid (pc + 2) (mx_set1 lv i v) st h Q) : mx_T E fin d bc bs mid pc lv (v :: st) h Q := by
  refine mx_st1 (fun _ _ _ _ _ _ _ _ _ _ _ _ _ _ _ hS hl kk => ?_) hk
  rcases v with v | a
  · cases v with
    | null => exact lv_astoreN hS.1 hS.2.1 hd hl hn (mx_set1_map E lv i (.inl .null)) kk
    | float u => exact lv_astore hS.1 hS.2.1 hd hl hn (mx_set1_map E lv i (.inl (.float u))) kk
    | _ => cases hr
  · exact lv_astore hS.1 hS.2.1 hd hl hn (mx_set1_map E lv i (.inr a)) kk
theorem mx_iinc {i : Nat} {n : Int} {x : Int32} (hd : decode (mx_by mid) pc = .ok (.iinc i n, 3)) (hg : mx_get lv i = some (.inl (.int x))) (hn : i < mx_nL mid) (hk : mx_T E fin d bc bs mid (pc + 3) (mx_set1 lv i (.inl (.int (x + Int32.ofInt n)))) st h Q) : mx_T E fin d bc bs mid pc lv st h Q := by
  refine mx_go (fun h1 h2 => ⟨mx_set1_wf h1 (by exact True.intro), h2⟩) (fun p e R s m args below meth c H locs cells slots Qw ls hS _ hl kk => ?_) hk
  have hm : (i, mx_sh E (.inl (.int x))) ∈ lv.map (mx_shl E) := List.mem_map.mpr ⟨_, mx_get_mem hg, rfl⟩
  obtain ⟨k, hk1, hk2⟩ := List.mem_iff_getElem.mp hm
  exact lv_iinc (k := k) hS.1 hS.2.1 hd hl (by rw [List.getElem?_eq_getElem hk1, hk2]; rfl) rfl hn (mx_set1_map E lv i (.inl (.int (x + Int32.ofInt n)))) kk
/-- one value made of the topmost -/
theorem mx_op1 {u v : mx_V} {k : Nat} (hv : mx_wf h.1 v)
    (hstep : ∀ (p : Program) (e : Env) (R : Room) (s : State) (m : MethodId) (args : Array Value) (below : List Frame) (meth : Method) (c : Code) (H : Heap) (locs : List Loc) (cells slots : Nat) (Qw : State → Prop) (ls : Array Slot),
      mx_S E d mid p R s m args meth c → W p E.1 e R s m args below meth c H locs cells slots Qw (F0 m (pc + k) ls (mx_sh E v :: st.map (mx_sh E))) → W p E.1 e R s m args below meth c H locs cells slots Qw (F0 m pc ls (mx_sh E u :: st.map (mx_sh E))))
    (hk : mx_T E fin d bc bs mid (pc + k) lv (v :: st) h Q) : mx_T E fin d bc bs mid pc lv (u :: st) h Q :=
  mx_go (fun h1 h2 => ⟨h1, fun x hx => (List.mem_cons.mp hx).elim (fun e => e ▸ hv) (fun hx => h2 x (List.mem_cons_of_mem _ hx))⟩) (fun p e R s m args below meth c H locs cells slots Qw ls hS _ hl kk => hstep p e R s m args below meth c H locs cells slots Qw ls hS (kk ls hl)) hk
theorem mx_op2 {u w v : mx_V} {k : Nat} (hv : mx_wf h.1 v)
    (hstep : ∀ (p : Program) (e : Env) (R : Room) (s : State) (m : MethodId) (args : Array Value) (below : List Frame) (meth : Method) (c : Code) (H : Heap) (locs : List Loc) (cells slots : Nat) (Qw : State → Prop) (ls : Array Slot),
      mx_S E d mid p R s m args meth c → W p E.1 e R s m args below meth c H locs cells slots Qw (F0 m (pc + k) ls (mx_sh E v :: st.map (mx_sh E))) → W p E.1 e R s m args below meth c H locs cells slots Qw (F0 m pc ls (mx_sh E u :: mx_sh E w :: st.map (mx_sh E))))
    (hk : mx_T E fin d bc bs mid (pc + k) lv (v :: st) h Q) : mx_T E fin d bc bs mid pc lv (u :: w :: st) h Q :=
  mx_go (fun h1 h2 => ⟨h1, fun x hx => (List.mem_cons.mp hx).elim (fun e => e ▸ hv) (fun hx => h2 x (List.mem_cons_of_mem _ (List.mem_cons_of_mem _ hx)))⟩) (fun p e R s m args below meth c H locs cells slots Qw ls hS _ hl kk => hstep p e R s m args below meth c H locs cells slots Qw ls hS (kk ls hl)) hk
theorem mx_iadd {x y : Int32} (hd : decode (mx_by mid) pc = .ok (.iadd, 1)) (hk : mx_T E fin d bc bs mid (pc + 1) lv (.inl (.int (x + y)) :: st) h Q) : mx_T E fin d bc bs mid pc lv (.inl (.int y) :: .inl (.int x) :: st) h Q :=
  mx_op2 (by exact True.intro) (fun _ _ _ _ _ _ _ _ _ _ _ _ _ _ _ hS k => lv_iadd hS.1 hS.2.1 hd k) hk
theorem mx_isub {x y : Int32} (hd : decode (mx_by mid) pc = .ok (.isub, 1)) (hk : mx_T E fin d bc bs mid (pc + 1) lv (.inl (.int (x - y)) :: st) h Q) : mx_T E fin d bc bs mid pc lv (.inl (.int y) :: .inl (.int x) :: st) h Q :=
  mx_op2 (by exact True.intro) (fun _ _ _ _ _ _ _ _ _ _ _ _ _ _ _ hS k => lv_isub hS.1 hS.2.1 hd k) hk
theorem mx_imul {x y : Int32} (hd : decode (mx_by mid) pc = .ok (.imul, 1)) (hk : mx_T E fin d bc bs mid (pc + 1) lv (.inl (.int (x * y)) :: st) h Q) : mx_T E fin d bc bs mid pc lv (.inl (.int y) :: .inl (.int x) :: st) h Q :=
  mx_op2 (by exact True.intro) (fun _ _ _ _ _ _ _ _ _ _ _ _ _ _ _ hS k => lv_imul hS.1 hS.2.1 hd k) hk
theorem mx_iand {x y : Int32} (hd : decode (mx_by mid) pc = .ok (.iand, 1)) (hk : mx_T E fin d bc bs mid (pc + 1) lv (.inl (.int (x &&& y)) :: st) h Q) : mx_T E fin d bc bs mid pc lv (.inl (.int y) :: .inl (.int x) :: st) h Q :=
  mx_op2 (by exact True.intro) (fun _ _ _ _ _ _ _ _ _ _ _ _ _ _ _ hS k => lv_iand hS.1 hS.2.1 hd k) hk
theorem mx_ior {x y : Int32} (hd : decode (mx_by mid) pc = .ok (.ior, 1)) (hk : mx_T E fin d bc bs mid (pc + 1) lv (.inl (.int (x ||| y)) :: st) h Q) : mx_T E fin d bc bs mid pc lv (.inl (.int y) :: .inl (.int x) :: st) h Q :=
  mx_op2 (by exact True.intro) (fun _ _ _ _ _ _ _ _ _ _ _ _ _ _ _ hS k => lv_ior hS.1 hS.2.1 hd k) hk
theorem mx_ixor {x y : Int32} (hd : decode (mx_by mid) pc = .ok (.ixor, 1)) (hk : mx_T E fin d bc bs mid (pc + 1) lv (.inl (.int (x ^^^ y)) :: st) h Q) : mx_T E fin d bc bs mid pc lv (.inl (.int y) :: .inl (.int x) :: st) h Q :=
  mx_op2 (by exact True.intro) (fun _ _ _ _ _ _ _ _ _ _ _ _ _ _ _ hS k => lv_ixor hS.1 hS.2.1 hd k) hk
theorem mx_ishl {x y : Int32} (hd : decode (mx_by mid) pc = .ok (.ishl, 1)) (hk : mx_T E fin d bc bs mid (pc + 1) lv (.inl (.int (x <<< (y &&& 31))) :: st) h Q) : mx_T E fin d bc bs mid pc lv (.inl (.int y) :: .inl (.int x) :: st) h Q :=
  mx_op2 (by exact True.intro) (fun _ _ _ _ _ _ _ _ _ _ _ _ _ _ _ hS k => lv_ishl hS.1 hS.2.1 hd k) hk
theorem mx_ishr {x y : Int32} (hd : decode (mx_by mid) pc = .ok (.ishr, 1)) (hk : mx_T E fin d bc bs mid (pc + 1) lv (.inl (.int (x >>> (y &&& 31))) :: st) h Q) : mx_T E fin d bc bs mid pc lv (.inl (.int y) :: .inl (.int x) :: st) h Q :=
  mx_op2 (by exact True.intro) (fun _ _ _ _ _ _ _ _ _ _ _ _ _ _ _ hS k => lv_ishr hS.1 hS.2.1 hd k) hk
theorem mx_iushr {x y : Int32} (hd : decode (mx_by mid) pc = .ok (.iushr, 1)) (hk : mx_T E fin d bc bs mid (pc + 1) lv (.inl (.int (x.toUInt32 >>> (y.toUInt32 &&& Int32.toUInt32 31)).toInt32) :: st) h Q) : mx_T E fin d bc bs mid pc lv (.inl (.int y) :: .inl (.int x) :: st) h Q :=
  mx_op2 (by exact True.intro) (fun _ _ _ _ _ _ _ _ _ _ _ _ _ _ _ hS k => lv_iushr hS.1 hS.2.1 hd rfl k) hk
theorem mx_idiv {x y : Int32} (hd : decode (mx_by mid) pc = .ok (.idiv, 1)) (hne : ¬ y = 0) (hk : mx_T E fin d bc bs mid (pc + 1) lv (.inl (.int (x / y)) :: st) h Q) : mx_T E fin d bc bs mid pc lv (.inl (.int y) :: .inl (.int x) :: st) h Q :=
  mx_op2 (by exact True.intro) (fun _ _ _ _ _ _ _ _ _ _ _ _ _ _ _ hS k => lv_idiv hS.1 hS.2.1 hd hne k) hk
theorem mx_irem {x y : Int32} (hd : decode (mx_by mid) pc = .ok (.irem, 1)) (hne : ¬ y = 0) (hk : mx_T E fin d bc bs mid (pc + 1) lv (.inl (.int (x - x / y * y)) :: st) h Q) : mx_T E fin d bc bs mid pc lv (.inl (.int y) :: .inl (.int x) :: st) h Q :=
  mx_op2 (by exact True.intro) (fun _ _ _ _ _ _ _ _ _ _ _ _ _ _ _ hS k => lv_irem hS.1 hS.2.1 hd hne k) hk
theorem mx_ladd {x y : Int64} (hd : decode (mx_by mid) pc = .ok (.ladd, 1)) (hk : mx_T E fin d bc bs mid (pc + 1) lv (.inl (.long (x + y)) :: st) h Q) : mx_T E fin d bc bs mid pc lv (.inl (.long y) :: .inl (.long x) :: st) h Q :=
  mx_op2 (by exact True.intro) (fun _ _ _ _ _ _ _ _ _ _ _ _ _ _ _ hS k => lv_ladd hS.1 hS.2.1 hd k) hk
theorem mx_lsub {x y : Int64} (hd : decode (mx_by mid) pc = .ok (.lsub, 1)) (hk : mx_T E fin d bc bs mid (pc + 1) lv (.inl (.long (x - y)) :: st) h Q) : mx_T E fin d bc bs mid pc lv (.inl (.long y) :: .inl (.long x) :: st) h Q :=
  mx_op2 (by exact True.intro) (fun _ _ _ _ _ _ _ _ _ _ _ _ _ _ _ hS k => lv_lsub hS.1 hS.2.1 hd k) hk
theorem mx_lmul {x y : Int64} (hd : decode (mx_by mid) pc = .ok (.lmul, 1)) (hk : mx_T E fin d bc bs mid (pc + 1) lv (.inl (.long (x * y)) :: st) h Q) : mx_T E fin d bc bs mid pc lv (.inl (.long y) :: .inl (.long x) :: st) h Q :=
  mx_op2 (by exact True.intro) (fun _ _ _ _ _ _ _ _ _ _ _ _ _ _ _ hS k => lv_lmul hS.1 hS.2.1 hd k) hk
theorem mx_land {x y : Int64} (hd : decode (mx_by mid) pc = .ok (.land, 1)) (hk : mx_T E fin d bc bs mid (pc + 1) lv (.inl (.long (x &&& y)) :: st) h Q) : mx_T E fin d bc bs mid pc lv (.inl (.long y) :: .inl (.long x) :: st) h Q :=
  mx_op2 (by exact True.intro) (fun _ _ _ _ _ _ _ _ _ _ _ _ _ _ _ hS k => lv_land hS.1 hS.2.1 hd k) hk
theorem mx_lor {x y : Int64} (hd : decode (mx_by mid) pc = .ok (.lor, 1)) (hk : mx_T E fin d bc bs mid (pc + 1) lv (.inl (.long (x ||| y)) :: st) h Q) : mx_T E fin d bc bs mid pc lv (.inl (.long y) :: .inl (.long x) :: st) h Q :=
  mx_op2 (by exact True.intro) (fun _ _ _ _ _ _ _ _ _ _ _ _ _ _ _ hS k => lv_lor hS.1 hS.2.1 hd k) hk
theorem mx_ldiv {x y : Int64} (hd : decode (mx_by mid) pc = .ok (.ldiv, 1)) (hne : ¬ y = 0) (hk : mx_T E fin d bc bs mid (pc + 1) lv (.inl (.long (x / y)) :: st) h Q) : mx_T E fin d bc bs mid pc lv (.inl (.long y) :: .inl (.long x) :: st) h Q :=
  mx_op2 (by exact True.intro) (fun _ _ _ _ _ _ _ _ _ _ _ _ _ _ _ hS k => lv_ldiv hS.1 hS.2.1 hd hne k) hk
theorem mx_lshl {x : Int64} {y : Int32} (hd : decode (mx_by mid) pc = .ok (.lshl, 1)) (hk : mx_T E fin d bc bs mid (pc + 1) lv (.inl (.long (x <<< (y.toInt64 &&& 63))) :: st) h Q) : mx_T E fin d bc bs mid pc lv (.inl (.int y) :: .inl (.long x) :: st) h Q :=
  mx_op2 (by exact True.intro) (fun _ _ _ _ _ _ _ _ _ _ _ _ _ _ _ hS k => lv_lshl hS.1 hS.2.1 hd rfl k) hk
theorem mx_lcmp {x y : Int64} (hd : decode (mx_by mid) pc = .ok (.lcmp, 1)) (hk : mx_T E fin d bc bs mid (pc + 1) lv (.inl (.int (lg_cmp x y)) :: st) h Q) : mx_T E fin d bc bs mid pc lv (.inl (.long y) :: .inl (.long x) :: st) h Q :=
  mx_op2 (by exact True.intro) (fun _ _ _ _ _ _ _ _ _ _ _ _ _ _ _ hS k => W.lcmp hS.1 hS.2.1 hd k) hk
theorem mx_ineg {x : Int32} (hd : decode (mx_by mid) pc = .ok (.ineg, 1)) (hk : mx_T E fin d bc bs mid (pc + 1) lv (.inl (.int (-x)) :: st) h Q) : mx_T E fin d bc bs mid pc lv (.inl (.int x) :: st) h Q :=
  mx_op1 (by exact True.intro) (fun _ _ _ _ _ _ _ _ _ _ _ _ _ _ _ hS k => lv_ineg hS.1 hS.2.1 hd k) hk
theorem mx_lneg {x : Int64} (hd : decode (mx_by mid) pc = .ok (.lneg, 1)) (hk : mx_T E fin d bc bs mid (pc + 1) lv (.inl (.long (-x)) :: st) h Q) : mx_T E fin d bc bs mid pc lv (.inl (.long x) :: st) h Q :=
  mx_op1 (by exact True.intro) (fun _ _ _ _ _ _ _ _ _ _ _ _ _ _ _ hS k => lv_lneg hS.1 hS.2.1 hd k) hk
theorem mx_i2l {x : Int32} (hd : decode (mx_by mid) pc = .ok (.i2l, 1)) (hk : mx_T E fin d bc bs mid (pc + 1) lv (.inl (.long x.toInt64) :: st) h Q) : mx_T E fin d bc bs mid pc lv (.inl (.int x) :: st) h Q :=
  mx_op1 (by exact True.intro) (fun _ _ _ _ _ _ _ _ _ _ _ _ _ _ _ hS k => lv_i2l hS.1 hS.2.1 hd rfl k) hk
theorem mx_l2i {x : Int64} (hd : decode (mx_by mid) pc = .ok (.l2i, 1)) (hk : mx_T E fin d bc bs mid (pc + 1) lv (.inl (.int x.toInt32) :: st) h Q) : mx_T E fin d bc bs mid pc lv (.inl (.long x) :: st) h Q :=
  mx_op1 (by exact True.intro) (fun _ _ _ _ _ _ _ _ _ _ _ _ _ _ _ hS k => lv_l2i hS.1 hS.2.1 hd rfl k) hk
theorem mx_i2b {x : Int32} (hd : decode (mx_by mid) pc = .ok (.i2b, 1)) (hk : mx_T E fin d bc bs mid (pc + 1) lv (.inl (.int x.toInt8.toInt32) :: st) h Q) : mx_T E fin d bc bs mid pc lv (.inl (.int x) :: st) h Q :=
  mx_op1 (by exact True.intro) (fun _ _ _ _ _ _ _ _ _ _ _ _ _ _ _ hS k => lv_i2b hS.1 hS.2.1 hd rfl k) hk
theorem mx_i2s {x : Int32} (hd : decode (mx_by mid) pc = .ok (.i2s, 1)) (hk : mx_T E fin d bc bs mid (pc + 1) lv (.inl (.int x.toInt16.toInt32) :: st) h Q) : mx_T E fin d bc bs mid pc lv (.inl (.int x) :: st) h Q :=
  mx_op1 (by exact True.intro) (fun _ _ _ _ _ _ _ _ _ _ _ _ _ _ _ hS k => lv_i2s hS.1 hS.2.1 hd rfl k) hk
theorem mx_goto {off : Int} {tgt : Nat} (hd : decode (mx_by mid) pc = .ok (.goto off, 3)) (ht : (pc : Int) + off = (tgt : Int)) (hk : mx_T E fin d bc bs mid tgt lv st h Q) : mx_T E fin d bc bs mid pc lv st h Q :=
  mx_go (fun h1 h2 => ⟨h1, h2⟩) (fun _ _ _ _ _ _ _ _ _ _ _ _ _ _ ls hS _ hl k => lv_goto hS.1 hS.2.1 hd ht (k ls hl)) hk
theorem mx_pop {v : mx_V} (hd : decode (mx_by mid) pc = .ok (.pop, 1)) (hv : mx_cat v = 1) (hk : mx_T E fin d bc bs mid (pc + 1) lv st h Q) : mx_T E fin d bc bs mid pc lv (v :: st) h Q :=
  mx_go (fun h1 h2 => ⟨h1, fun x hx => h2 x (List.mem_cons_of_mem _ hx)⟩) (fun _ _ _ _ _ _ _ _ _ _ _ _ _ _ ls hS _ hl k => lv_pop hS.1 hS.2.1 hd (by rw [mx_cat_sh]; exact hv) (k ls hl)) hk
theorem mx_dup {v : mx_V} (hd : decode (mx_by mid) pc = .ok (.dup, 1)) (hv : mx_cat v = 1) (hk : mx_T E fin d bc bs mid (pc + 1) lv (v :: v :: st) h Q) : mx_T E fin d bc bs mid pc lv (v :: st) h Q :=
  mx_go (fun h1 h2 => ⟨h1, fun x hx => (List.mem_cons.mp hx).elim (fun e => h2 x (e ▸ List.mem_cons_self)) (h2 x)⟩) (fun _ _ _ _ _ _ _ _ _ _ _ _ _ _ ls hS _ hl k => lv_dup hS.1 hS.2.1 hd (by rw [mx_cat_sh]; exact hv) (k ls hl)) hk
theorem mx_dup2 {v u : mx_V} (hd : decode (mx_by mid) pc = .ok (.dup2, 1)) (hv : mx_cat v = 1) (hu : mx_cat u = 1) (hk : mx_T E fin d bc bs mid (pc + 1) lv (v :: u :: v :: u :: st) h Q) : mx_T E fin d bc bs mid pc lv (v :: u :: st) h Q :=
  mx_go (fun h1 h2 => ⟨h1, fun x hx => by
    rcases List.mem_cons.mp hx with rfl | hx
    · exact h2 _ List.mem_cons_self
    · rcases List.mem_cons.mp hx with rfl | hx
      · exact h2 _ (List.mem_cons_of_mem _ List.mem_cons_self)
      · exact h2 x hx⟩) (fun _ _ _ _ _ _ _ _ _ _ _ _ _ _ ls hS _ hl k => lv_dup2_11 hS.1 hS.2.1 hd (by rw [mx_cat_sh]; exact hv) (by rw [mx_cat_sh]; exact hu) (k ls hl)) hk
/-- a branch on the topmost: both ways -/
theorem mx_br {c : Prop} {u : List mx_V} {t1 t2 : Nat}
    (hstep : ∀ (p : Program) (e : Env) (R : Room) (s : State) (m : MethodId) (args : Array Value) (below : List Frame) (meth : Method) (cd : Code) (H : Heap) (locs : List Loc) (cells slots : Nat) (Qw : State → Prop) (ls : Array Slot),
      mx_S E d mid p R s m args meth cd → (c → W p E.1 e R s m args below meth cd H locs cells slots Qw (F0 m t1 ls (st.map (mx_sh E)))) → (¬ c → W p E.1 e R s m args below meth cd H locs cells slots Qw (F0 m t2 ls (st.map (mx_sh E)))) → W p E.1 e R s m args below meth cd H locs cells slots Qw (F0 m pc ls ((u ++ st).map (mx_sh E))))
    (h1 : c → mx_T E fin d bc bs mid t1 lv st h Q) (h2 : ¬ c → mx_T E fin d bc bs mid t2 lv st h Q) : mx_T E fin d bc bs mid pc lv (u ++ st) h Q :=
  fun p e R s m args below meth cd H locs cells slots Qw ls hS hD q1 q2 q3 q4 q5 q6 =>
    hstep p e R s m args below meth cd H locs cells slots Qw ls hS (fun hc => h1 hc p e R s m args below meth cd H locs cells slots Qw ls hS hD q1 q2 q3 (fun v hv => q4 v (List.mem_append_right _ hv)) q5 q6)
      (fun hc => h2 hc p e R s m args below meth cd H locs cells slots Qw ls hS hD q1 q2 q3 (fun v hv => q4 v (List.mem_append_right _ hv)) q5 q6)
theorem mx_if_eq {x : Int32} {off : Int} {tgt : Nat} (hd : decode (mx_by mid) pc = .ok (.ifCond .eq off, 3)) (ht : (pc : Int) + off = (tgt : Int)) (h1 : x = 0 → mx_T E fin d bc bs mid tgt lv st h Q) (h2 : ¬ (x = 0) → mx_T E fin d bc bs mid (pc + 3) lv st h Q) : mx_T E fin d bc bs mid pc lv (.inl (.int x) :: st) h Q :=
  mx_br (u := [.inl (.int x)]) (fun _ _ _ _ _ _ _ _ _ _ _ _ _ _ _ hS k1 k2 => lv_if_eq hS.1 hS.2.1 hd ht k1 k2) h1 h2
theorem mx_ic_eq {x y : Int32} {off : Int} {tgt : Nat} (hd : decode (mx_by mid) pc = .ok (.if_icmp .eq off, 3)) (ht : (pc : Int) + off = (tgt : Int)) (h1 : x = y → mx_T E fin d bc bs mid tgt lv st h Q) (h2 : ¬ (x = y) → mx_T E fin d bc bs mid (pc + 3) lv st h Q) : mx_T E fin d bc bs mid pc lv (.inl (.int y) :: .inl (.int x) :: st) h Q :=
  mx_br (u := [.inl (.int y), .inl (.int x)]) (fun _ _ _ _ _ _ _ _ _ _ _ _ _ _ _ hS k1 k2 => lv_icmp_eq hS.1 hS.2.1 hd ht k1 k2) h1 h2
theorem mx_if_ne {x : Int32} {off : Int} {tgt : Nat} (hd : decode (mx_by mid) pc = .ok (.ifCond .ne off, 3)) (ht : (pc : Int) + off = (tgt : Int)) (h1 : x ≠ 0 → mx_T E fin d bc bs mid tgt lv st h Q) (h2 : ¬ (x ≠ 0) → mx_T E fin d bc bs mid (pc + 3) lv st h Q) : mx_T E fin d bc bs mid pc lv (.inl (.int x) :: st) h Q :=
  mx_br (u := [.inl (.int x)]) (fun _ _ _ _ _ _ _ _ _ _ _ _ _ _ _ hS k1 k2 => lv_if_ne hS.1 hS.2.1 hd ht k1 (fun q => k2 (fun n => n q))) h1 h2
theorem mx_ic_ne {x y : Int32} {off : Int} {tgt : Nat} (hd : decode (mx_by mid) pc = .ok (.if_icmp .ne off, 3)) (ht : (pc : Int) + off = (tgt : Int)) (h1 : x ≠ y → mx_T E fin d bc bs mid tgt lv st h Q) (h2 : ¬ (x ≠ y) → mx_T E fin d bc bs mid (pc + 3) lv st h Q) : mx_T E fin d bc bs mid pc lv (.inl (.int y) :: .inl (.int x) :: st) h Q :=
  mx_br (u := [.inl (.int y), .inl (.int x)]) (fun _ _ _ _ _ _ _ _ _ _ _ _ _ _ _ hS k1 k2 => lv_icmp_ne hS.1 hS.2.1 hd ht k1 (fun q => k2 (fun n => n q))) h1 h2
theorem mx_if_lt {x : Int32} {off : Int} {tgt : Nat} (hd : decode (mx_by mid) pc = .ok (.ifCond .lt off, 3)) (ht : (pc : Int) + off = (tgt : Int)) (h1 : x < 0 → mx_T E fin d bc bs mid tgt lv st h Q) (h2 : ¬ (x < 0) → mx_T E fin d bc bs mid (pc + 3) lv st h Q) : mx_T E fin d bc bs mid pc lv (.inl (.int x) :: st) h Q :=
  mx_br (u := [.inl (.int x)]) (fun _ _ _ _ _ _ _ _ _ _ _ _ _ _ _ hS k1 k2 => lv_if_lt hS.1 hS.2.1 hd ht k1 k2) h1 h2
theorem mx_ic_lt {x y : Int32} {off : Int} {tgt : Nat} (hd : decode (mx_by mid) pc = .ok (.if_icmp .lt off, 3)) (ht : (pc : Int) + off = (tgt : Int)) (h1 : x < y → mx_T E fin d bc bs mid tgt lv st h Q) (h2 : ¬ (x < y) → mx_T E fin d bc bs mid (pc + 3) lv st h Q) : mx_T E fin d bc bs mid pc lv (.inl (.int y) :: .inl (.int x) :: st) h Q :=
  mx_br (u := [.inl (.int y), .inl (.int x)]) (fun _ _ _ _ _ _ _ _ _ _ _ _ _ _ _ hS k1 k2 => lv_icmp_lt hS.1 hS.2.1 hd ht k1 k2) h1 h2
theorem mx_if_ge {x : Int32} {off : Int} {tgt : Nat} (hd : decode (mx_by mid) pc = .ok (.ifCond .ge off, 3)) (ht : (pc : Int) + off = (tgt : Int)) (h1 : 0 ≤ x → mx_T E fin d bc bs mid tgt lv st h Q) (h2 : ¬ (0 ≤ x) → mx_T E fin d bc bs mid (pc + 3) lv st h Q) : mx_T E fin d bc bs mid pc lv (.inl (.int x) :: st) h Q :=
  mx_br (u := [.inl (.int x)]) (fun _ _ _ _ _ _ _ _ _ _ _ _ _ _ _ hS k1 k2 => lv_if_ge hS.1 hS.2.1 hd ht k1 k2) h1 h2
theorem mx_ic_ge {x y : Int32} {off : Int} {tgt : Nat} (hd : decode (mx_by mid) pc = .ok (.if_icmp .ge off, 3)) (ht : (pc : Int) + off = (tgt : Int)) (h1 : y ≤ x → mx_T E fin d bc bs mid tgt lv st h Q) (h2 : ¬ (y ≤ x) → mx_T E fin d bc bs mid (pc + 3) lv st h Q) : mx_T E fin d bc bs mid pc lv (.inl (.int y) :: .inl (.int x) :: st) h Q :=
  mx_br (u := [.inl (.int y), .inl (.int x)]) (fun _ _ _ _ _ _ _ _ _ _ _ _ _ _ _ hS k1 k2 => lv_icmp_ge hS.1 hS.2.1 hd ht k1 k2) h1 h2
theorem mx_if_gt {x : Int32} {off : Int} {tgt : Nat} (hd : decode (mx_by mid) pc = .ok (.ifCond .gt off, 3)) (ht : (pc : Int) + off = (tgt : Int)) (h1 : 0 < x → mx_T E fin d bc bs mid tgt lv st h Q) (h2 : ¬ (0 < x) → mx_T E fin d bc bs mid (pc + 3) lv st h Q) : mx_T E fin d bc bs mid pc lv (.inl (.int x) :: st) h Q :=
  mx_br (u := [.inl (.int x)]) (fun _ _ _ _ _ _ _ _ _ _ _ _ _ _ _ hS k1 k2 => lv_if_gt hS.1 hS.2.1 hd ht k1 k2) h1 h2
theorem mx_ic_gt {x y : Int32} {off : Int} {tgt : Nat} (hd : decode (mx_by mid) pc = .ok (.if_icmp .gt off, 3)) (ht : (pc : Int) + off = (tgt : Int)) (h1 : y < x → mx_T E fin d bc bs mid tgt lv st h Q) (h2 : ¬ (y < x) → mx_T E fin d bc bs mid (pc + 3) lv st h Q) : mx_T E fin d bc bs mid pc lv (.inl (.int y) :: .inl (.int x) :: st) h Q :=
  mx_br (u := [.inl (.int y), .inl (.int x)]) (fun _ _ _ _ _ _ _ _ _ _ _ _ _ _ _ hS k1 k2 => lv_icmp_gt hS.1 hS.2.1 hd ht k1 k2) h1 h2
theorem mx_if_le {x : Int32} {off : Int} {tgt : Nat} (hd : decode (mx_by mid) pc = .ok (.ifCond .le off, 3)) (ht : (pc : Int) + off = (tgt : Int)) (h1 : x ≤ 0 → mx_T E fin d bc bs mid tgt lv st h Q) (h2 : ¬ (x ≤ 0) → mx_T E fin d bc bs mid (pc + 3) lv st h Q) : mx_T E fin d bc bs mid pc lv (.inl (.int x) :: st) h Q :=
  mx_br (u := [.inl (.int x)]) (fun _ _ _ _ _ _ _ _ _ _ _ _ _ _ _ hS k1 k2 => lv_if_le hS.1 hS.2.1 hd ht k1 k2) h1 h2
theorem mx_ic_le {x y : Int32} {off : Int} {tgt : Nat} (hd : decode (mx_by mid) pc = .ok (.if_icmp .le off, 3)) (ht : (pc : Int) + off = (tgt : Int)) (h1 : x ≤ y → mx_T E fin d bc bs mid tgt lv st h Q) (h2 : ¬ (x ≤ y) → mx_T E fin d bc bs mid (pc + 3) lv st h Q) : mx_T E fin d bc bs mid pc lv (.inl (.int y) :: .inl (.int x) :: st) h Q :=
  mx_br (u := [.inl (.int y), .inl (.int x)]) (fun _ _ _ _ _ _ _ _ _ _ _ _ _ _ _ hS k1 k2 => lv_icmp_le hS.1 hS.2.1 hd ht k1 k2) h1 h2
theorem mx_ifnull_r {a : mx_A} {off : Int} (hd : decode (mx_by mid) pc = .ok (.ifnull off, 3)) (hk : mx_T E fin d bc bs mid (pc + 3) lv st h Q) : mx_T E fin d bc bs mid pc lv (.inr a :: st) h Q :=
  mx_go (fun h1 h2 => ⟨h1, fun x hx => h2 x (List.mem_cons_of_mem _ hx)⟩) (fun _ _ _ _ _ _ _ _ _ _ _ _ _ _ ls hS _ hl k => lv_ifnull hS.1 hS.2.1 hd (k ls hl)) hk
theorem mx_ifnull_n {off : Int} {tgt : Nat} (hd : decode (mx_by mid) pc = .ok (.ifnull off, 3)) (ht : (pc : Int) + off = (tgt : Int)) (hk : mx_T E fin d bc bs mid tgt lv st h Q) : mx_T E fin d bc bs mid pc lv (.inl .null :: st) h Q :=
  mx_go (fun h1 h2 => ⟨h1, fun x hx => h2 x (List.mem_cons_of_mem _ hx)⟩) (fun _ _ _ _ _ _ _ _ _ _ _ _ _ _ ls hS _ hl k => lv_ifnullN hS.1 hS.2.1 hd ht (k ls hl)) hk
theorem mx_ifnn_r {a : mx_A} {off : Int} {tgt : Nat} (hd : decode (mx_by mid) pc = .ok (.ifnonnull off, 3)) (ht : (pc : Int) + off = (tgt : Int)) (hk : mx_T E fin d bc bs mid tgt lv st h Q) : mx_T E fin d bc bs mid pc lv (.inr a :: st) h Q :=
  mx_go (fun h1 h2 => ⟨h1, fun x hx => h2 x (List.mem_cons_of_mem _ hx)⟩) (fun _ _ _ _ _ _ _ _ _ _ _ _ _ _ ls hS _ hl k => lv_ifnonnull hS.1 hS.2.1 hd ht (k ls hl)) hk
theorem mx_ifnn_n {off : Int} (hd : decode (mx_by mid) pc = .ok (.ifnonnull off, 3)) (hk : mx_T E fin d bc bs mid (pc + 3) lv st h Q) : mx_T E fin d bc bs mid pc lv (.inl .null :: st) h Q :=
  mx_go (fun h1 h2 => ⟨h1, fun x hx => h2 x (List.mem_cons_of_mem _ hx)⟩) (fun _ _ _ _ _ _ _ _ _ _ _ _ _ _ ls hS _ hl k => lv_ifnonnullN hS.1 hS.2.1 hd (k ls hl)) hk
theorem mx_tsw {dflt lo hi : Int} {offs : Array Int} {len : Nat} {x : Int32} (hd : decode (mx_by mid) pc = .ok (.tableswitch dflt lo hi offs, len)) (h0 : 0 ≤ (pc : Int) + dflt) (h9 : ∀ o ∈ offs, 0 ≤ (pc : Int) + o) (hz : (hi - lo + 1).toNat ≤ offs.size)
    (hk : ∀ tgt : Nat, ((x.toInt < lo ∨ hi < x.toInt) ∧ (pc : Int) + dflt = tgt) ∨ (lo ≤ x.toInt ∧ x.toInt ≤ hi ∧ ∃ o, offs[(x.toInt - lo).toNat]? = some o ∧ (pc : Int) + o = tgt) → mx_T E fin d bc bs mid tgt lv st h Q) : mx_T E fin d bc bs mid pc lv (.inl (.int x) :: st) h Q := by
  by_cases hc : x.toInt < lo ∨ hi < x.toInt
  · refine mx_go (pc' := ((pc : Int) + dflt).toNat) (fun h1 h2 => ⟨h1, fun x hx => h2 x (List.mem_cons_of_mem _ hx)⟩) (fun _ _ _ _ _ _ _ _ _ _ _ _ _ _ ls hS _ hl k => lv_tableOut hS.1 hS.2.1 hd hc (by omega) (k ls hl)) (hk _ (Or.inl ⟨hc, by omega⟩))
  · have hb : (x.toInt - lo).toNat < offs.size := by omega
    have ho : offs[(x.toInt - lo).toNat]? = some offs[(x.toInt - lo).toNat] := Array.getElem?_eq_getElem hb
    have hp := h9 _ (Array.getElem_mem hb)
    refine mx_go (pc' := ((pc : Int) + offs[(x.toInt - lo).toNat]).toNat) (fun h1 h2 => ⟨h1, fun x hx => h2 x (List.mem_cons_of_mem _ hx)⟩) (fun _ _ _ _ _ _ _ _ _ _ _ _ _ _ ls hS _ hl k => lv_tableIn hS.1 hS.2.1 hd (by omega) (by omega) ho (by omega) (k ls hl)) (hk _ (Or.inr ⟨by omega, by omega, _, ho, by omega⟩))
theorem mx_lsw {dflt : Int} {ps : Array (Int × Int)} {len : Nat} {x : Int32} (hd : decode (mx_by mid) pc = .ok (.lookupswitch dflt ps, len)) (hp : (ps.toList.zip (ps.toList.drop 1)).all (fun (a, next) => a.1 < next.1) = true) (h0 : 0 ≤ (pc : Int) + Op.lookupswitch.offset ps.toList dflt x.toInt)
    (hk : mx_T E fin d bc bs mid ((pc : Int) + Op.lookupswitch.offset ps.toList dflt x.toInt).toNat lv st h Q) : mx_T E fin d bc bs mid pc lv (.inl (.int x) :: st) h Q :=
  mx_go (fun h1 h2 => ⟨h1, fun x hx => h2 x (List.mem_cons_of_mem _ hx)⟩) (fun _ _ _ _ _ _ _ _ _ _ _ _ _ _ ls hS _ hl k => lv_lookup hS.1 hS.2.1 hd hp rfl (by omega) (k ls hl)) hk
/-- the method's end -/
theorem mx_end {v : Option mx_V} {ins : Instr} (hd : decode (mx_by mid) pc = .ok (ins, 1)) (hr : mx_rk (mx_rt mid) ins v) (hq : Q v h) : mx_T E fin d bc bs mid pc lv v.toList h Q :=
  fun p e R s m args below meth cd H locs cells slots Qw ls hS hD q1 q2 q3 q4 q5 q6 => q6 v h H locs cells slots pc ls ins hq hD (Nat.le_refl _) (Nat.le_add_right _ _) (Nat.le_add_right _ _) (fun x hx => by subst hx; exact q4 x List.mem_cons_self) hd hr
end MXR
end
section
/-! ===== one instruction at a time: the heap ===== -/
def mx_up {α : Type} (f : mx_A → Nat → α) (a : mx_A) (i : Nat) (v : α) : mx_A → Nat → α := fun b j => if b = a ∧ j = i then v else f b j
def mx_uI (h : mx_H) (a : mx_A) (i : Nat) (v : Int32) : mx_H := (h.1, mx_up h.2.1 a i v, h.2.2.1, h.2.2.2)
def mx_uL (h : mx_H) (a : mx_A) (i : Nat) (v : Int64) : mx_H := (h.1, h.2.1, mx_up h.2.2.1 a i v, h.2.2.2)
def mx_uR (h : mx_H) (a : mx_A) (i : Nat) (v : Option mx_A) : mx_H := (h.1, h.2.1, h.2.2.1, mx_up h.2.2.2 a i v)
theorem mx_up_ne {α : Type} {f : mx_A → Nat → α} {a b : mx_A} {i : Nat} {v : α} (h : b ≠ a) : mx_up f a i v b = f b := by
  funext j
  exact if_neg (fun q => h q.1)
theorem mx_up_eq {α : Type} {f : mx_A → Nat → α} {a : mx_A} {i : Nat} {v : α} : mx_up f a i v a = fun j => if j = i then v else f a j := by
  funext j
  unfold mx_up
  by_cases e : j = i
  · rw [if_pos ⟨rfl, e⟩, if_pos e]
  · rw [if_neg (fun q => e q.2), if_neg e]
theorem mx_fv_uI {E : mx_Ev} {h : mx_H} {a b : mx_A} {i : Nat} {v : Int32} (hb : b ≠ a) : mx_fv E (mx_uI h a i v) b = mx_fv E h b := by
  funext ci j
  simp only [mx_fv, mx_uI, mx_up_ne hb]
theorem mx_ar_uI {E : mx_Ev} {h : mx_H} {a b : mx_A} {i : Nat} {v : Int32} (hb : b ≠ a) : mx_ar E (mx_uI h a i v) b = mx_ar E h b := by
  funext kd
  simp only [mx_ar, mx_uI, mx_up_ne hb]
theorem mx_cell_uI {E : mx_Ev} {h : mx_H} {a b : mx_A} {i : Nat} {v : Int32} (hb : b ≠ a) : mx_cell E (mx_uI h a i v) b = mx_cell E h b := by
  unfold mx_cell
  rw [mx_fv_uI hb, mx_ar_uI hb]
theorem mx_fv_uL {E : mx_Ev} {h : mx_H} {a b : mx_A} {i : Nat} {v : Int64} (hb : b ≠ a) : mx_fv E (mx_uL h a i v) b = mx_fv E h b := by
  funext ci j
  simp only [mx_fv, mx_uL, mx_up_ne hb]
theorem mx_ar_uL {E : mx_Ev} {h : mx_H} {a b : mx_A} {i : Nat} {v : Int64} (hb : b ≠ a) : mx_ar E (mx_uL h a i v) b = mx_ar E h b := by
  funext kd
  simp only [mx_ar, mx_uL, mx_up_ne hb]
theorem mx_cell_uL {E : mx_Ev} {h : mx_H} {a b : mx_A} {i : Nat} {v : Int64} (hb : b ≠ a) : mx_cell E (mx_uL h a i v) b = mx_cell E h b := by
  unfold mx_cell
  rw [mx_fv_uL hb, mx_ar_uL hb]
theorem mx_fv_uR {E : mx_Ev} {h : mx_H} {a b : mx_A} {i : Nat} {v : Option mx_A} (hb : b ≠ a) : mx_fv E (mx_uR h a i v) b = mx_fv E h b := by
  funext ci j
  simp only [mx_fv, mx_uR, mx_up_ne hb]
theorem mx_ar_uR {E : mx_Ev} {h : mx_H} {a b : mx_A} {i : Nat} {v : Option mx_A} (hb : b ≠ a) : mx_ar E (mx_uR h a i v) b = mx_ar E h b := by
  funext kd
  simp only [mx_ar, mx_uR, mx_up_ne hb]
theorem mx_cell_uR {E : mx_Ev} {h : mx_H} {a b : mx_A} {i : Nat} {v : Option mx_A} (hb : b ≠ a) : mx_cell E (mx_uR h a i v) b = mx_cell E h b := by
  unfold mx_cell
  rw [mx_fv_uR hb, mx_ar_uR hb]
theorem mx_cell_i {E : mx_Ev} {h : mx_H} {a : mx_A} {kd : Nat} (hl : (mx_lo a).1 = kd) (hk : kd = 100 ∨ kd = 102 ∨ kd = 103) : mx_cell E h a = .inl (mx_aC E (kd - 100), (mx_lo a).2, .inl (h.2.1 a)) := by
  unfold mx_cell mx_ar
  rw [hl]
  rcases hk with rfl | rfl | rfl <;> rfl
theorem mx_cell_l {E : mx_Ev} {h : mx_H} {a : mx_A} (hl : (mx_lo a).1 = 101) : mx_cell E h a = .inl (mx_aC E 1, (mx_lo a).2, .inr (.inl (h.2.2.1 a))) := by
  unfold mx_cell mx_ar
  rw [hl]
  rfl
theorem mx_cell_q {E : mx_Ev} {h : mx_H} {a : mx_A} {kd : Nat} (hl : (mx_lo a).1 = kd) (hk : kd = 104 ∨ kd = 105) : mx_cell E h a = .inl (mx_aC E (kd - 100), (mx_lo a).2, .inr (.inr (.inr (.inr (fun j => (h.2.2.2 a j).map (mx_ad E)))))) := by
  unfold mx_cell mx_ar
  rw [hl]
  rcases hk with rfl | rfl <;> rfl
theorem mx_cell_o {E : mx_Ev} {h : mx_H} {a : mx_A} {ci : Nat} (hl : (mx_lo a).1 = ci) (hc : ci < 100) : mx_cell E h a = .inr (ci, (List.range (mx_lo a).2).map (mx_fv E h a ci)) := by
  unfold mx_cell
  rw [hl, if_pos hc]
theorem mx_D_set {E : mx_Ev} {fin : mx_A → Nat → Option mx_A} {h h' : mx_H} {s : State} {H H1 : Heap} {locs : List Loc} {a : mx_A} {k : Nat} (hD : mx_D E fin h s H locs) (hn : h'.1 = h.1) (ha : mx_wfa h.1 a) (hs : ∀ b, mx_va b → b ≠ a → mx_cell E h' b = mx_cell E h b)
    (hc : va_at (mx_G E) vwCl (mx_ad E a, mx_cell E h' a) H1) (hz : H1.size = H.size) (oq : ∀ q : Nat, q ≠ mx_ad E a → H1[q]? = H[q]?) (hr : ∀ a k b, h'.2.2.2 a k = some b → mx_wfa h.1 b) (hf : ∀ a k b, fin a k = some b → mx_wfa h.1 a → h'.2.2.2 a k = some b) :
    mx_D E fin h' s H1 (locs ++ [⟨mx_ad E a, k⟩]) := by
  obtain ⟨hP, hA, hS, hZ, -, -⟩ := hD
  have hg := mx_W_get (E := E) ha
  refine ⟨?_, ?_, hS.put hz oq (Nat.le_add_right _ _), by rw [hz, hZ, hn], by rw [hn]; exact hr, by rw [hn]; exact hf⟩
  · rw [mx_W_ext hn ha hs]
    exact hP.set hA hg hc oq
  · rw [mx_W_ext hn ha hs]
    exact hA.set hg
theorem mx_old {E : mx_Ev} {fin : mx_A → Nat → Option mx_A} {h : mx_H} {s : State} {H : Heap} {locs : List Loc} (hD : mx_D E fin h s H locs) (hB : mx_B E ≤ s.heap.size) {q : Nat} (hq : q < mx_B E) : H[q]? = s.heap[q]? :=
  hD.2.2.1.2.1 q (Nat.lt_of_lt_of_le hq hB) (fun z => absurd z (Nat.not_le.mpr hq))
section MXH
variable {E : mx_Ev} {fin : mx_A → Nat → Option mx_A} {d bc bs mid pc : Nat} {lv : mx_Lv} {st : List mx_V} {h : mx_H} {Q : Option mx_V → mx_H → Prop}
/-- a value read from the heap takes the place of the topmost -/
theorem mx_read {u : List mx_V} {v : mx_V} {k : Nat} (hv : ∀ (s : State) (H : Heap) (locs : List Loc), mx_D E fin h s H locs → mx_wf h.1 v)
    (hstep : ∀ (p : Program) (e : Env) (R : Room) (s : State) (m : MethodId) (args : Array Value) (below : List Frame) (meth : Method) (c : Code) (H : Heap) (locs : List Loc) (cells slots : Nat) (Qw : State → Prop) (ls : Array Slot),
      mx_S E d mid p R s m args meth c → mx_D E fin h s H locs → (∀ x ∈ u, mx_wf h.1 x) → W p E.1 e R s m args below meth c H locs cells slots Qw (F0 m (pc + k) ls (mx_sh E v :: st.map (mx_sh E))) → W p E.1 e R s m args below meth c H locs cells slots Qw (F0 m pc ls ((u ++ st).map (mx_sh E))))
    (hk : mx_T E fin d bc bs mid (pc + k) lv (v :: st) h Q) : mx_T E fin d bc bs mid pc lv (u ++ st) h Q :=
  fun p e R s m args below meth c H locs cells slots Qw ls hS hD q1 q2 q3 q4 q5 q6 =>
    hstep p e R s m args below meth c H locs cells slots Qw ls hS hD (fun x hx => q4 x (List.mem_append_left _ hx))
      (hk p e R s m args below meth c H locs cells slots Qw ls hS hD q1 q2 q3 (fun x hx => (List.mem_cons.mp hx).elim (fun e => e ▸ hv s H locs hD) (fun hx => q4 x (List.mem_append_right _ hx))) q5 q6)
theorem mx_iaload {a : mx_A} {i : Int32} (hd : decode (mx_by mid) pc = .ok (.iaload, 1)) (hl : (mx_lo a).1 = 100) (hin : vp_in i (mx_lo a).2) (hk : mx_T E fin d bc bs mid (pc + 1) lv (.inl (.int (h.2.1 a i.toNatClampNeg)) :: st) h Q) : mx_T E fin d bc bs mid pc lv (.inl (.int i) :: .inr a :: st) h Q :=
  mx_read (u := [.inl (.int i), .inr a]) (fun _ _ _ _ => by exact True.intro) (fun _ _ _ _ _ _ _ _ _ _ _ _ _ _ _ hS hD hw k => va_iald hS.1 hS.2.1 hS.2.2.2.2.2.2.2.2.1.1 hD.1 (mx_pos a) 0 (by rw [mx_W_get (hw (.inr a) (by simp)), mx_cell_i hl (by simp)]) rfl hin hd k) hk
theorem mx_baload {a : mx_A} {i : Int32} (hd : decode (mx_by mid) pc = .ok (.baload, 1)) (hl : (mx_lo a).1 = 102) (hin : vp_in i (mx_lo a).2) (hk : mx_T E fin d bc bs mid (pc + 1) lv (.inl (.int (h.2.1 a i.toNatClampNeg)) :: st) h Q) : mx_T E fin d bc bs mid pc lv (.inl (.int i) :: .inr a :: st) h Q :=
  mx_read (u := [.inl (.int i), .inr a]) (fun _ _ _ _ => by exact True.intro) (fun _ _ _ _ _ _ _ _ _ _ _ _ _ _ _ hS hD hw k => va_bald hS.1 hS.2.1 hS.2.2.2.2.2.2.2.2.1.1 hD.1 (mx_pos a) 2 (by rw [mx_W_get (hw (.inr a) (by simp)), mx_cell_i hl (by simp)]) rfl hin hd k) hk
theorem mx_zaload {a : mx_A} {i : Int32} (hd : decode (mx_by mid) pc = .ok (.baload, 1)) (hl : (mx_lo a).1 = 103) (hin : vp_in i (mx_lo a).2) (hk : mx_T E fin d bc bs mid (pc + 1) lv (.inl (.int (h.2.1 a i.toNatClampNeg)) :: st) h Q) : mx_T E fin d bc bs mid pc lv (.inl (.int i) :: .inr a :: st) h Q :=
  mx_read (u := [.inl (.int i), .inr a]) (fun _ _ _ _ => by exact True.intro) (fun _ _ _ _ _ _ _ _ _ _ _ _ _ _ _ hS hD hw k => va_zald hS.1 hS.2.1 hS.2.2.2.2.2.2.2.2.1.1 hD.1 (mx_pos a) 3 (by rw [mx_W_get (hw (.inr a) (by simp)), mx_cell_i hl (by simp)]) rfl hin hd k) hk
theorem mx_laload {a : mx_A} {i : Int32} (hd : decode (mx_by mid) pc = .ok (.laload, 1)) (hl : (mx_lo a).1 = 101) (hin : vp_in i (mx_lo a).2) (hk : mx_T E fin d bc bs mid (pc + 1) lv (.inl (.long (h.2.2.1 a i.toNatClampNeg)) :: st) h Q) : mx_T E fin d bc bs mid pc lv (.inl (.int i) :: .inr a :: st) h Q :=
  mx_read (u := [.inl (.int i), .inr a]) (fun _ _ _ _ => by exact True.intro) (fun _ _ _ _ _ _ _ _ _ _ _ _ _ _ _ hS hD hw k => va_lald hS.1 hS.2.1 hS.2.2.2.2.2.2.2.2.1.1 hD.1 (mx_pos a) 1 (by rw [mx_W_get (hw (.inr a) (by simp)), mx_cell_l hl]) rfl hin hd k) hk
/-- a reference read: the cell's number, or null -/
def mx_ov : Option mx_A → mx_V
  | some a => .inr a
  | none => .inl .null
theorem mx_ov_sh (E : mx_Ev) (o : Option mx_A) : mx_sh E (mx_ov o) = va_rf (o.map (mx_ad E)) := by cases o <;> rfl
theorem mx_ov_wf {s : State} {H : Heap} {locs : List Loc} {a : mx_A} {k : Nat} (hD : mx_D E fin h s H locs) : mx_wf h.1 (mx_ov (h.2.2.2 a k)) := by
  cases hr : h.2.2.2 a k with
  | none => exact True.intro
  | some b => exact hD.2.2.2.2.1 a k b hr
theorem mx_aaload {a : mx_A} {i : Int32} (hd : decode (mx_by mid) pc = .ok (.aaload, 1)) (hl : (mx_lo a).1 = 104) (hin : vp_in i (mx_lo a).2) (hk : mx_T E fin d bc bs mid (pc + 1) lv (mx_ov (h.2.2.2 a i.toNatClampNeg) :: st) h Q) : mx_T E fin d bc bs mid pc lv (.inl (.int i) :: .inr a :: st) h Q :=
  mx_read (u := [.inl (.int i), .inr a]) (fun _ _ _ hD => mx_ov_wf hD) (fun _ _ _ _ _ _ _ _ _ _ _ _ _ _ _ hS hD hw k => va_aldq hS.1 hS.2.1 hS.2.2.2.2.2.2.2.2.1.1 hD.1 (mx_pos a) 4 (by rw [mx_W_get (hw (.inr a) (by simp)), mx_cell_q hl (by simp)]) rfl hin hd (by rw [mx_ov_sh] at k; exact k)) hk
theorem mx_aaload5 {a b : mx_A} {i : Int32} (hd : decode (mx_by mid) pc = .ok (.aaload, 1)) (hl : (mx_lo a).1 = 105) (hin : vp_in i (mx_lo a).2) (hfin : fin a i.toNatClampNeg = some b) (hk : mx_T E fin d bc bs mid (pc + 1) lv (.inr b :: st) h Q) : mx_T E fin d bc bs mid pc lv (.inl (.int i) :: .inr a :: st) h Q := by
  intro p e R s m args below meth c H locs cells slots Qw ls hS hD q1 q2 q3 q4 q5 q6
  have hwa : mx_wfa h.1 a := q4 (.inr a) (by simp)
  have hr : h.2.2.2 a i.toNatClampNeg = some b := hD.2.2.2.2.2 a _ b hfin hwa
  have kk := hk p e R s m args below meth c H locs cells slots Qw ls hS hD q1 q2 q3 (fun x hx => (List.mem_cons.mp hx).elim (fun e => e ▸ hD.2.2.2.2.1 a _ b hr) (fun hx => q4 x (List.mem_cons_of_mem _ (List.mem_cons_of_mem _ hx)))) q5 q6
  have hlt : i.toNatClampNeg < (mx_lo a).2 := Nat.not_le.mp fun q => hin (Or.inr q)
  have hc0 := hD.1 (mx_pos a) _ (mx_W_get hwa)
  rw [mx_cell_q hl (by simp)] at hc0
  have hc : H[mx_ad E a]? = some (arrV (mx_aC E 5) (mx_lo a).2 (fun j => va_rf ((h.2.2.2 a j).map (mx_ad E)))) := hc0
  refine W.aald hS.1 hS.2.1 hc ((hS.2.2.2.2.2.2.2.2.1.1.2 5 _ rfl).1 _ _) rfl (fun q => by cases q) (by rw [arrV_size]; exact hin) (arrV_read _ _ hlt) rfl rfl hd ?_
  rw [hr]
  exact kk
/-- arrays that stand still: the script, and the two of Parts -/
def mx_slen (E : mx_Ev) (u : UInt32) : Nat := if u = 0 then 6 else if u = 1 then 24 else mx_sn E
def mx_sval (E : mx_Ev) (u : UInt32) : Nat → Int32 := if u = 0 then mx_k0 else if u = 1 then mx_k1 else mx_sx E
theorem mx_sX {s : State} {H : Heap} {locs : List Loc} {u : UInt32} (hu : u = 0 ∨ u = 1 ∨ u = 2) (hN : mx_Nv E s s.heap) (hD : mx_D E fin h s H locs) : va_X (mx_sa E u.toNat) (mx_slen E u) (mx_sval E u) s H := by
  obtain ⟨-, -, -, -, -, -, x0, x1, x2, l0, l1, l2, -, hB⟩ := hN
  rcases hu with rfl | rfl | rfl
  · exact x0.kept (mx_old hD hB l0)
  · exact x1.kept (mx_old hD hB l1)
  · exact x2.kept (mx_old hD hB l2)
theorem mx_siald {u : UInt32} {i : Int32} (hu : u = 0 ∨ u = 1 ∨ u = 2) (hd : decode (mx_by mid) pc = .ok (.iaload, 1)) (hin : vp_in i (mx_slen E u)) (hk : mx_T E fin d bc bs mid (pc + 1) lv (.inl (.int (mx_sval E u i.toNatClampNeg)) :: st) h Q) : mx_T E fin d bc bs mid pc lv (.inl (.int i) :: .inl (.float u) :: st) h Q :=
  mx_read (u := [.inl (.int i), .inl (.float u)]) (fun _ _ _ _ => by exact True.intro) (fun _ _ _ _ _ _ _ _ _ _ _ _ _ _ _ hS hD hw k => by
    obtain ⟨scr, x1, x2, x3, x4, x5⟩ := mx_sX hu hS.2.2.2.2.2.2.2.2.1 hD
    exact W.iald hS.1 hS.2.1 x1 x2 x3 (by rw [x4]; exact hin) (x5 _ (Nat.not_le.mp fun q => hin (Or.inr q))) rfl rfl hd k) hk
theorem mx_salen {u : UInt32} (hu : u = 0 ∨ u = 1 ∨ u = 2) (hd : decode (mx_by mid) pc = .ok (.arraylength, 1)) (hk : mx_T E fin d bc bs mid (pc + 1) lv (.inl (.int (Int32.ofNat (mx_slen E u))) :: st) h Q) : mx_T E fin d bc bs mid pc lv (.inl (.float u) :: st) h Q :=
  mx_read (u := [.inl (.float u)]) (fun _ _ _ _ => by exact True.intro) (fun _ _ _ _ _ _ _ _ _ _ _ _ _ _ _ hS hD hw k => by
    obtain ⟨scr, x1, x2, x3, x4, x5⟩ := mx_sX hu hS.2.2.2.2.2.2.2.2.1 hD
    exact W.alen hS.1 hS.2.1 x1 x2 (by rw [x4]) rfl rfl hd k) hk
theorem mx_alen {a : mx_A} (hd : decode (mx_by mid) pc = .ok (.arraylength, 1)) (hl : (mx_lo a).1 = 100 ∨ (mx_lo a).1 = 101) (hk : mx_T E fin d bc bs mid (pc + 1) lv (.inl (.int (Int32.ofNat (mx_lo a).2)) :: st) h Q) : mx_T E fin d bc bs mid pc lv (.inr a :: st) h Q :=
  mx_read (u := [.inr a]) (fun _ _ _ _ => by exact True.intro) (fun _ _ _ _ _ _ _ _ _ _ _ _ _ _ _ hS hD hw k => by
    rcases hl with hl | hl
    · exact va_alen (x := ((mx_lo a).2, Sum.inl (h.2.1 a))) hS.1 hS.2.1 hS.2.2.2.2.2.2.2.2.1.1 hD.1 (mx_pos a) 0 (by rw [mx_W_get (hw (.inr a) (by simp)), mx_cell_i hl (by simp)]) rfl rfl hd k
    · exact va_alen (x := ((mx_lo a).2, Sum.inr (Sum.inl (h.2.2.1 a)))) hS.1 hS.2.1 hS.2.2.2.2.2.2.2.2.1.1 hD.1 (mx_pos a) 1 (by rw [mx_W_get (hw (.inr a) (by simp)), mx_cell_l hl]) rfl rfl hd k) hk
/-- a store: the heap changes in one cell -/
theorem mx_write {u : List mx_V} {a : mx_A} {h' : mx_H} {k : Nat} (hn : h'.1 = h.1)
    (hstep : ∀ (p : Program) (e : Env) (R : Room) (s : State) (m : MethodId) (args : Array Value) (below : List Frame) (meth : Method) (c : Code) (H : Heap) (locs : List Loc) (cells slots : Nat) (Qw : State → Prop) (ls : Array Slot),
      mx_S E d mid p R s m args meth c → mx_D E fin h s H locs → (∀ x ∈ u, mx_wf h.1 x) → (∀ (H1 : Heap) (locs1 : List Loc), mx_D E fin h' s H1 locs1 → W p E.1 e R s m args below meth c H1 locs1 cells slots Qw (F0 m (pc + k) ls (st.map (mx_sh E)))) → W p E.1 e R s m args below meth c H locs cells slots Qw (F0 m pc ls ((u ++ st).map (mx_sh E))))
    (hk : mx_T E fin d bc bs mid (pc + k) lv st h' Q) : mx_T E fin d bc bs mid pc lv (u ++ st) h Q :=
  fun p e R s m args below meth c H locs cells slots Qw ls hS hD q1 q2 q3 q4 q5 q6 =>
    hstep p e R s m args below meth c H locs cells slots Qw ls hS hD (fun x hx => q4 x (List.mem_append_left _ hx)) (fun H1 locs1 hD1 =>
      hk p e R s m args below meth c H1 locs1 cells slots Qw ls hS hD1 q1 q2 (by rw [hn]; exact q3) (by rw [hn]; exact fun x hx => q4 x (List.mem_append_right _ hx)) q5 (by rw [hn]; exact q6))
theorem mx_iastore {a : mx_A} {i : Int32} {x : Int32} (hd : decode (mx_by mid) pc = .ok (.iastore, 1)) (hl : (mx_lo a).1 = 100) (hin : vp_in i (mx_lo a).2) (hk : mx_T E fin d bc bs mid (pc + 1) lv st (mx_uI h a i.toNatClampNeg x) Q) : mx_T E fin d bc bs mid pc lv (.inl (.int x) :: .inl (.int i) :: .inr a :: st) h Q :=
  mx_write (h' := mx_uI h a i.toNatClampNeg x) (u := [.inl (.int x), .inl (.int i), .inr a]) (a := a) rfl (fun _ _ _ _ _ _ _ _ _ H _ _ _ _ _ hS hD hw k => by
    have hwa : mx_wfa h.1 a := hw (.inr a) (by simp)
    have hc0 := hD.1 (mx_pos a) _ (mx_W_get hwa)
    rw [mx_cell_i hl (by simp)] at hc0
    have hc : H[mx_ad E a]? = some (arrV (mx_aC E 0) (mx_lo a).2 (fun j => Value.int (h.2.1 a j))) := hc0
    refine W.iast hS.1 hS.2.1 hc ((hS.2.2.2.2.2.2.2.2.1.1.2 0 _ rfl).1 _ _) (fun q => by cases q) (by rw [arrV_size]; exact hin) rfl rfl hd fun H1 e z oq => ?_
    refine k H1 _ (mx_D_set (a := a) hD rfl hwa (fun b _ hb => mx_cell_uI hb) ?_ z oq hD.2.2.2.2.1 hD.2.2.2.2.2)
    rw [mx_cell_i hl (by simp)]
    show H1[mx_ad E a]? = some (vp_cell _ _)
    rw [e, vp_cell_i, arrV_store]
    refine congrArg some (congrArg (arrV _ _) (funext fun j => ?_))
    show updV _ _ _ j = Value.int (mx_up h.2.1 a _ x a j)
    rw [mx_up_eq]
    dsimp only [updV]
    split <;> rfl) hk
theorem mx_bastore {a : mx_A} {i : Int32} {x : Int32} (hd : decode (mx_by mid) pc = .ok (.bastore, 1)) (hl : (mx_lo a).1 = 102) (hin : vp_in i (mx_lo a).2) (hk : mx_T E fin d bc bs mid (pc + 1) lv st (mx_uI h a i.toNatClampNeg (vp_nar .byte x)) Q) : mx_T E fin d bc bs mid pc lv (.inl (.int x) :: .inl (.int i) :: .inr a :: st) h Q :=
  mx_write (h' := mx_uI h a i.toNatClampNeg (vp_nar .byte x)) (u := [.inl (.int x), .inl (.int i), .inr a]) (a := a) rfl (fun _ _ _ _ _ _ _ _ _ H _ _ _ _ _ hS hD hw k => by
    have hwa : mx_wfa h.1 a := hw (.inr a) (by simp)
    have hc0 := hD.1 (mx_pos a) _ (mx_W_get hwa)
    rw [mx_cell_i hl (by simp)] at hc0
    have hc : H[mx_ad E a]? = some (arrV (mx_aC E 2) (mx_lo a).2 (fun j => Value.int (h.2.1 a j))) := hc0
    refine W.bast hS.1 hS.2.1 hc ((hS.2.2.2.2.2.2.2.2.1.1.2 2 _ rfl).1 _ _) (fun q => by cases q) (by rw [arrV_size]; exact hin) rfl rfl hd fun H1 e z oq => ?_
    refine k H1 _ (mx_D_set (a := a) hD rfl hwa (fun b _ hb => mx_cell_uI hb) ?_ z oq hD.2.2.2.2.1 hD.2.2.2.2.2)
    rw [mx_cell_i hl (by simp)]
    show H1[mx_ad E a]? = some (vp_cell _ _)
    rw [e, vp_cell_i, arrV_store]
    refine congrArg some (congrArg (arrV _ _) (funext fun j => ?_))
    show updV _ _ _ j = Value.int (mx_up h.2.1 a _ (vp_nar .byte x) a j)
    rw [mx_up_eq]
    dsimp only [updV]
    split <;> rfl) hk
theorem mx_zastore {a : mx_A} {i : Int32} {x : Int32} (hd : decode (mx_by mid) pc = .ok (.bastore, 1)) (hl : (mx_lo a).1 = 103) (hin : vp_in i (mx_lo a).2) (hk : mx_T E fin d bc bs mid (pc + 1) lv st (mx_uI h a i.toNatClampNeg (vp_nar .boolean x)) Q) : mx_T E fin d bc bs mid pc lv (.inl (.int x) :: .inl (.int i) :: .inr a :: st) h Q :=
  mx_write (h' := mx_uI h a i.toNatClampNeg (vp_nar .boolean x)) (u := [.inl (.int x), .inl (.int i), .inr a]) (a := a) rfl (fun _ _ _ _ _ _ _ _ _ H _ _ _ _ _ hS hD hw k => by
    have hwa : mx_wfa h.1 a := hw (.inr a) (by simp)
    have hc0 := hD.1 (mx_pos a) _ (mx_W_get hwa)
    rw [mx_cell_i hl (by simp)] at hc0
    have hc : H[mx_ad E a]? = some (arrV (mx_aC E 3) (mx_lo a).2 (fun j => Value.int (h.2.1 a j))) := hc0
    refine W.zast hS.1 hS.2.1 hc ((hS.2.2.2.2.2.2.2.2.1.1.2 3 _ rfl).1 _ _) (fun q => by cases q) (by rw [arrV_size]; exact hin) rfl rfl hd fun H1 e z oq => ?_
    refine k H1 _ (mx_D_set (a := a) hD rfl hwa (fun b _ hb => mx_cell_uI hb) ?_ z oq hD.2.2.2.2.1 hD.2.2.2.2.2)
    rw [mx_cell_i hl (by simp)]
    show H1[mx_ad E a]? = some (vp_cell _ _)
    rw [e, vp_cell_i, arrV_store]
    refine congrArg some (congrArg (arrV _ _) (funext fun j => ?_))
    show updV _ _ _ j = Value.int (mx_up h.2.1 a _ (vp_nar .boolean x) a j)
    rw [mx_up_eq]
    dsimp only [updV]
    split <;> rfl) hk
theorem mx_lastore {a : mx_A} {i : Int32} {x : Int64} (hd : decode (mx_by mid) pc = .ok (.lastore, 1)) (hl : (mx_lo a).1 = 101) (hin : vp_in i (mx_lo a).2) (hk : mx_T E fin d bc bs mid (pc + 1) lv st (mx_uL h a i.toNatClampNeg x) Q) : mx_T E fin d bc bs mid pc lv (.inl (.long x) :: .inl (.int i) :: .inr a :: st) h Q :=
  mx_write (h' := mx_uL h a i.toNatClampNeg x) (u := [.inl (.long x), .inl (.int i), .inr a]) (a := a) rfl (fun _ _ _ _ _ _ _ _ _ H _ _ _ _ _ hS hD hw k => by
    have hwa : mx_wfa h.1 a := hw (.inr a) (by simp)
    have hc0 := hD.1 (mx_pos a) _ (mx_W_get hwa)
    rw [mx_cell_l hl] at hc0
    have hc : H[mx_ad E a]? = some (arrV (mx_aC E 1) (mx_lo a).2 (fun j => Value.long (h.2.2.1 a j))) := hc0
    refine W.last hS.1 hS.2.1 hc ((hS.2.2.2.2.2.2.2.2.1.1.2 1 _ rfl).1 _ _) (fun q => by cases q) (by rw [arrV_size]; exact hin) rfl rfl hd fun H1 e z oq => ?_
    refine k H1 _ (mx_D_set (a := a) hD rfl hwa (fun b _ hb => mx_cell_uL hb) ?_ z oq hD.2.2.2.2.1 hD.2.2.2.2.2)
    rw [mx_cell_l hl]
    show H1[mx_ad E a]? = some (vp_cell _ _)
    rw [e, vp_cell_l, arrV_store]
    refine congrArg some (congrArg (arrV _ _) (funext fun j => ?_))
    show updV _ _ _ j = Value.long (mx_up h.2.2.1 a _ x a j)
    rw [mx_up_eq]
    dsimp only [updV]
    split <;> rfl) hk
theorem mx_uR_r {s : State} {H : Heap} {locs : List Loc} {a : mx_A} {i : Nat} {t : Option mx_A} (hD : mx_D E fin h s H locs) (ht : ∀ b, t = some b → mx_wfa h.1 b) : ∀ c k b, (mx_uR h a i t).2.2.2 c k = some b → mx_wfa h.1 b := by
  intro c k b hb
  by_cases e : c = a ∧ k = i
  · exact ht b (by rw [← hb]; exact (if_pos e).symm)
  · exact hD.2.2.2.2.1 c k b (by rw [← hb]; exact (if_neg e).symm)
theorem mx_uR_f {s : State} {H : Heap} {locs : List Loc} {a : mx_A} {i : Nat} {t : Option mx_A} (hD : mx_D E fin h s H locs) (hf : fin a i = none) : ∀ c k b, fin c k = some b → mx_wfa h.1 c → (mx_uR h a i t).2.2.2 c k = some b := by
  intro c k b hb hw
  have hne : ¬ (c = a ∧ k = i) := fun e => by rw [e.1, e.2, hf] at hb; cases hb
  rw [← hD.2.2.2.2.2 c k b hb hw]
  exact if_neg hne
/-- a shape into an array of shapes -/
theorem mx_aastore {a t : mx_A} {i : Int32} (hd : decode (mx_by mid) pc = .ok (.aastore, 1)) (hl : (mx_lo a).1 = 104) (ht : (mx_lo t).1 = 7) (hf : fin a i.toNatClampNeg = none) (hin : vp_in i (mx_lo a).2) (hk : mx_T E fin d bc bs mid (pc + 1) lv st (mx_uR h a i.toNatClampNeg (some t)) Q) : mx_T E fin d bc bs mid pc lv (.inr t :: .inl (.int i) :: .inr a :: st) h Q :=
  mx_write (h' := mx_uR h a i.toNatClampNeg (some t)) (u := [.inr t, .inl (.int i), .inr a]) (a := a) rfl (fun _ _ _ _ _ _ _ _ _ H _ _ _ _ _ hS hD hw k => by
    have hwa : mx_wfa h.1 a := hw (.inr a) (by simp)
    have hwt : mx_wfa h.1 t := hw (.inr t) (by simp)
    have hlt : i.toNatClampNeg < (mx_lo a).2 := Nat.not_le.mp fun q => hin (Or.inr q)
    have hc0 := hD.1 (mx_pos a) _ (mx_W_get hwa)
    rw [mx_cell_q hl (by simp)] at hc0
    have hc : H[mx_ad E a]? = some (arrV (mx_aC E 4) (mx_lo a).2 (fun j => va_rf ((h.2.2.2 a j).map (mx_ad E)))) := hc0
    have hv0 := hD.1 (mx_pos t) _ (mx_W_get hwt)
    rw [mx_cell_o ht (by decide)] at hv0
    obtain ⟨r, r1, cv, r2, r3, r4, -⟩ := hv0
    obtain rfl : (RX7, TX7, 13) = r := Option.some.inj r1
    obtain ⟨-, hfc, kv, hkv, hkd⟩ := hS.2.2.2.2.2.2.2.2.1.1.1 7 _ rfl
    obtain ⟨kA, comp, g1, g2, g3, g4⟩ := (hS.2.2.2.2.2.2.2.2.1.1.2 4 _ rfl).2
    have hcc : comp = (mx_G E).1 7 := Option.some.inj (g3.symm.trans hfc)
    subst hcc
    refine W.aast (cv := cv) (k := kA) (kv := kv) (kcomp := kv) hS.1 hS.2.1 hc (fun q z => by cases z) (fun q => by cases q) g1 g2 rfl hkv ⟨fun z => hin (Or.inl z), by rw [arrV_size]; exact hlt⟩ r2 (fun q z => by rw [r4] at z; cases z) (by rw [r3]; exact hkv) (by rw [r3]; exact va_assign ⟨hfc, kv, hkv, hkd⟩) rfl rfl hd fun H1 e z oq => ?_
    refine k H1 _ (mx_D_set (a := a) hD rfl hwa (fun b _ hb => mx_cell_uR hb) ?_ z oq (mx_uR_r hD (fun b e => by cases e; exact hwt)) (mx_uR_f hD hf))
    rw [mx_cell_q hl (by simp)]
    show H1[mx_ad E a]? = some (vp_cell _ _)
    rw [e, vp_cell_q, arrV_store]
    refine congrArg some (congrArg (arrV _ _) (funext fun j => ?_))
    show updV _ _ _ j = va_rf ((mx_up h.2.2.2 a _ (some t) a j).map (mx_ad E))
    rw [mx_up_eq]
    dsimp only [updV]
    split <;> rfl) hk
/-- null into an array of shapes -/
theorem mx_aastoreN {a : mx_A} {i : Int32} (hd : decode (mx_by mid) pc = .ok (.aastore, 1)) (hl : (mx_lo a).1 = 104) (hf : fin a i.toNatClampNeg = none) (hin : vp_in i (mx_lo a).2) (hk : mx_T E fin d bc bs mid (pc + 1) lv st (mx_uR h a i.toNatClampNeg none) Q) : mx_T E fin d bc bs mid pc lv (.inl .null :: .inl (.int i) :: .inr a :: st) h Q :=
  mx_write (h' := mx_uR h a i.toNatClampNeg none) (u := [.inl .null, .inl (.int i), .inr a]) (a := a) rfl (fun _ _ _ _ _ _ _ _ _ H _ _ _ _ _ hS hD hw k => by
    have hwa : mx_wfa h.1 a := hw (.inr a) (by simp)
    have hc0 := hD.1 (mx_pos a) _ (mx_W_get hwa)
    rw [mx_cell_q hl (by simp)] at hc0
    have hc : H[mx_ad E a]? = some (arrV (mx_aC E 4) (mx_lo a).2 (fun j => va_rf ((h.2.2.2 a j).map (mx_ad E)))) := hc0
    refine va_WaastN (C := RX7) hS.1 hS.2.1 hc ((hS.2.2.2.2.2.2.2.2.1.1.2 4 _ rfl).1 _ _) (fun q => by cases q) (by rw [arrV_size]; exact hin) rfl rfl hd fun H1 e z oq => ?_
    refine k H1 _ (mx_D_set (a := a) hD rfl hwa (fun b _ hb => mx_cell_uR hb) ?_ z oq (mx_uR_r hD (fun b e => by cases e)) (mx_uR_f hD hf))
    rw [mx_cell_q hl (by simp)]
    show H1[mx_ad E a]? = some (vp_cell _ _)
    rw [e, vp_cell_q, arrV_store]
    refine congrArg some (congrArg (arrV _ _) (funext fun j => ?_))
    show updV _ _ _ j = va_rf ((mx_up h.2.2.2 a _ none a j).map (mx_ad E))
    rw [mx_up_eq]
    dsimp only [updV]
    split <;> rfl) hk
end MXH
/-! the classes' rows -/
/-- what is known of class ci -/
def mx_CK (ci : Nat) : Prop := vwCl[ci]? = some (mx_cr ci) ∧ (∀ w ∈ u_ws (mx_cr ci).1 (mx_cr ci).2.1 (mx_cr ci).2.2, w ∈ mx_ws) ∧ (∀ k, k < (mx_cr ci).2.2 → parseFieldDescriptor ((mx_cr ci).2.1 k).2.2.1 = some (mx_ty ci k)) ∧
  (∀ a, a < (mx_cr ci).2.2 → ∀ b, b < (mx_cr ci).2.2 → a ≠ b → ((mx_cr ci).2.1 a).2.1 ≠ ((mx_cr ci).2.1 b).2.1)
theorem mx_in_ws {ws : List Cond} (h : ∀ w ∈ ws, w ∈ lw_tbl) (hg : ws.all goodWord = true) : ∀ w ∈ ws, w ∈ mx_ws := fun w hw => List.mem_filter.mpr ⟨h w hw, List.all_eq_true.mp hg w hw⟩
theorem mx_ck0 : mx_CK 0 := ⟨rfl, mx_in_ws inX0 (by decide +kernel), tyX0_ok, nmX0⟩
theorem mx_ck1 : mx_CK 1 := ⟨rfl, mx_in_ws inX1 (by decide +kernel), tyX1_ok, nmX1⟩
theorem mx_ck2 : mx_CK 2 := ⟨rfl, mx_in_ws inX2 (by decide +kernel), tyX2_ok, nmX2⟩
theorem mx_ck3 : mx_CK 3 := ⟨rfl, mx_in_ws inX3 (by decide +kernel), tyX3_ok, nmX3⟩
theorem mx_ck4 : mx_CK 4 := ⟨rfl, mx_in_ws inX4 (by decide +kernel), tyX4_ok, nmX4⟩
theorem mx_ck5 : mx_CK 5 := ⟨rfl, mx_in_ws inX5 (by decide +kernel), tyX5_ok, nmX5⟩
theorem mx_ck6 : mx_CK 6 := ⟨rfl, mx_in_ws inX6 (by decide +kernel), tyX6_ok, nmX6⟩
theorem mx_ck7 : mx_CK 7 := ⟨rfl, mx_in_ws inX7 (by decide +kernel), tyX7_ok, nmX7⟩
theorem mx_ck8 : mx_CK 8 := ⟨rfl, mx_in_ws inX8 (by decide +kernel), tyX8_ok, nmX8⟩
theorem mx_ck9 : mx_CK 9 := ⟨rfl, mx_in_ws inX9 (by decide +kernel), tyX9_ok, nmX9⟩
theorem mx_ck10 : mx_CK 10 := ⟨rfl, mx_in_ws inX10 (by decide +kernel), tyX10_ok, nmX10⟩
theorem mx_ck11 : mx_CK 11 := ⟨rfl, mx_in_ws inX11 (by decide +kernel), tyX11_ok, nmX11⟩
theorem mx_ck12 : mx_CK 12 := ⟨rfl, mx_in_ws inX12 (by decide +kernel), tyX12_ok, nmX12⟩
theorem mx_ck {ci : Nat} (h : ci < 13) : mx_CK ci := by
  rcases (show ci = 0 ∨ ci = 1 ∨ ci = 2 ∨ ci = 3 ∨ ci = 4 ∨ ci = 5 ∨ ci = 6 ∨ ci = 7 ∨ ci = 8 ∨ ci = 9 ∨ ci = 10 ∨ ci = 11 ∨ ci = 12 by omega) with rfl | rfl | rfl | rfl | rfl | rfl | rfl | rfl | rfl | rfl | rfl | rfl | rfl
  · exact mx_ck0
  · exact mx_ck1
  · exact mx_ck2
  · exact mx_ck3
  · exact mx_ck4
  · exact mx_ck5
  · exact mx_ck6
  · exact mx_ck7
  · exact mx_ck8
  · exact mx_ck9
  · exact mx_ck10
  · exact mx_ck11
  · exact mx_ck12
/-- a field's value as the mini machine reads it -/
def mx_fw (h : mx_H) (a : mx_A) (ci k : Nat) : mx_V := if mx_ff ci k = 2 then mx_ov (h.2.2.2 a k) else .inl (.int (h.2.1 a k))
section MXF
variable {E : mx_Ev} {fin : mx_A → Nat → Option mx_A} {d bc bs mid pc : Nat} {lv : mx_Lv} {st : List mx_V} {h : mx_H} {Q : Option mx_V → mx_H → Prop}
theorem mx_getfield {a : mx_A} {ci k idx : Nat} (hd : decode (mx_by mid) pc = .ok (.getfield idx, 3)) (hci : ci < 13) (hl : mx_lo a = (ci, (mx_cr ci).2.2)) (hkN : k < (mx_cr ci).2.2) (hlk : Cond.fieldLink (mx_ow mid) idx (mx_fT ci k).1 (mx_fT ci k).2.1 (mx_fT ci k).2.2.1 ∈ mx_ws)
    (hk : mx_T E fin d bc bs mid (pc + 3) lv (mx_fw h a ci k :: st) h Q) : mx_T E fin d bc bs mid pc lv (.inr a :: st) h Q := by
  obtain ⟨c1, c2, c3, c4⟩ := mx_ck hci
  refine mx_read (u := [.inr a]) (fun s H locs hD => ?_) (fun _ _ _ _ _ _ _ _ _ _ _ _ _ _ _ hS hD hw k9 => ?_) hk
  · unfold mx_fw
    split
    · exact mx_ov_wf hD
    · exact True.intro
  · have hwa : mx_wfa h.1 a := hw (.inr a) (by simp)
    have e0 := mx_W_get (E := E) hwa
    rw [mx_cell_o (ci := ci) (by rw [hl]) (by omega)] at e0
    refine va_get hS.1 hS.2.1 hS.2.2.2.2.2.2.1 c2 hS.2.2.2.2.2.1 hS.2.2.2.2.2.2.2.2.1.1 hD.1 (mx_pos a) e0 c1 k hkN (hS.2.2.2.2.2.2.1 _ hlk) (fun x hx => hx) (v := mx_fv E h a ci k) ?_ hd ?_
    · rw [hl, List.getElem?_map, List.getElem?_range hkN]
      rfl
    · have e : mx_fv E h a ci k = mx_sh E (mx_fw h a ci k) := by
        unfold mx_fv mx_fw
        split
        · rw [mx_ov_sh]
        · rfl
      rw [e]
      exact k9
/-- what a store of v into field k of class ci does to the mini heap -/
def mx_pf (h : mx_H) (a : mx_A) (k : Nat) : mx_V → mx_H
  | .inl (.int x) => mx_uI h a k x
  | .inr t => mx_uR h a k (some t)
  | _ => mx_uR h a k none
/-- v is of the field's kind -/
def mx_pk (ci k : Nat) : mx_V → Prop
  | .inl (.int x) => mx_ty ci k = .int ∨ (mx_ty ci k = .boolean ∧ (x = 0 ∨ x = 1))
  | .inr _ => (∃ n, mx_ty ci k = .object n) ∨ ∃ t, mx_ty ci k = .array t
  | .inl .null => (∃ n, mx_ty ci k = .object n) ∨ ∃ t, mx_ty ci k = .array t
  | _ => False
theorem mx_pk_n {E : mx_Ev} {ci k : Nat} {v : mx_V} (hv : mx_pk ci k v) : narrow (mx_ty ci k) (mx_sh E v) = mx_sh E v ∧ fits (mx_ty ci k) (mx_sh E v) = true := by
  rcases v with v | a
  · cases v with
    | int x =>
      rcases hv with hv | ⟨hv, hn⟩
      · rw [hv]; exact ⟨rfl, rfl⟩
      · rw [hv]
        rcases hn with rfl | rfl <;> exact ⟨rfl, rfl⟩
    | null => rcases hv with ⟨n, hv⟩ | ⟨n, hv⟩ <;> rw [hv] <;> exact ⟨rfl, rfl⟩
    | _ => exact hv.elim
  · rcases hv with ⟨n, hv⟩ | ⟨n, hv⟩ <;> rw [hv] <;> exact ⟨rfl, rfl⟩
end MXF
end
section
/-! ===== fields stored, statics read, cells made ===== -/
section MXP
variable {E : mx_Ev} {fin : mx_A → Nat → Option mx_A} {d bc bs mid pc : Nat} {lv : mx_Lv} {st : List mx_V} {h : mx_H} {Q : Option mx_V → mx_H → Prop}
theorem mx_pf_n (h : mx_H) (a : mx_A) (k : Nat) (v : mx_V) : (mx_pf h a k v).1 = h.1 := by
  rcases v with v | t
  · cases v <;> rfl
  · rfl
theorem mx_pf_ne {E : mx_Ev} {h : mx_H} {a b : mx_A} {k : Nat} {v : mx_V} (hb : b ≠ a) : mx_cell E (mx_pf h a k v) b = mx_cell E h b := by
  rcases v with v | t
  · cases v <;> first | exact mx_cell_uI hb | exact mx_cell_uR hb
  · exact mx_cell_uR hb
/-- the fields behind a store -/
theorem mx_pf_fv {E : mx_Ev} {h : mx_H} {a : mx_A} {ci k : Nat} {v : mx_V} (hff : mx_fok ci k) (hv : mx_pk ci k v) (j : Nat) : mx_fv E (mx_pf h a k v) a ci j = if j = k then mx_sh E v else mx_fv E h a ci j := by
  by_cases e : j = k
  · subst e
    rw [if_pos rfl]
    rcases v with v | t
    · cases v with
      | int x =>
        have h2 : mx_ff ci j ≠ 2 := by
          intro h2
          rcases hff with ⟨q, -⟩ | ⟨q, -⟩ | ⟨-, n, q⟩ | ⟨-, n, q⟩
          · rw [q] at h2; cases h2
          · rw [q] at h2; cases h2
          · rcases hv with hv | ⟨hv, -⟩ <;> rw [q] at hv <;> cases hv
          · rcases hv with hv | ⟨hv, -⟩ <;> rw [q] at hv <;> cases hv
        simp only [mx_fv, if_neg h2, mx_pf, mx_uI, mx_up_eq, mx_sh, if_true]
      | null =>
        have h2 : mx_ff ci j = 2 := by
          rcases hff with ⟨-, q⟩ | ⟨-, q⟩ | ⟨q, -⟩ | ⟨q, -⟩
          · rcases hv with ⟨n, hv⟩ | ⟨n, hv⟩ <;> rw [q] at hv <;> cases hv
          · rcases hv with ⟨n, hv⟩ | ⟨n, hv⟩ <;> rw [q] at hv <;> cases hv
          · exact q
          · exact q
        simp only [mx_fv, if_pos h2, mx_pf, mx_uR, mx_up_eq, mx_sh, if_true, Option.map_none, va_rf]
      | _ => exact hv.elim
    · have h2 : mx_ff ci j = 2 := by
        rcases hff with ⟨-, q⟩ | ⟨-, q⟩ | ⟨q, -⟩ | ⟨q, -⟩
        · rcases hv with ⟨n, hv⟩ | ⟨n, hv⟩ <;> rw [q] at hv <;> cases hv
        · rcases hv with ⟨n, hv⟩ | ⟨n, hv⟩ <;> rw [q] at hv <;> cases hv
        · exact q
        · exact q
      simp only [mx_fv, if_pos h2, mx_pf, mx_uR, mx_up_eq, mx_sh, if_true, Option.map_some, va_rf]
  · rw [if_neg e]
    rcases v with v | t
    · cases v <;> simp only [mx_fv, mx_pf, mx_uI, mx_uR, mx_up_eq, if_neg e]
    · simp only [mx_fv, mx_pf, mx_uR, mx_up_eq, if_neg e]
theorem mx_pf_r {s : State} {H : Heap} {locs : List Loc} {a : mx_A} {k : Nat} {v : mx_V} (hD : mx_D E fin h s H locs) (hv : mx_wf h.1 v) : ∀ c j b, (mx_pf h a k v).2.2.2 c j = some b → mx_wfa h.1 b := by
  rcases v with v | t
  · cases v <;> first | exact hD.2.2.2.2.1 | exact mx_uR_r hD (fun b e => by cases e)
  · exact mx_uR_r hD (fun b e => by cases e; exact hv)
theorem mx_pf_f {s : State} {H : Heap} {locs : List Loc} {a : mx_A} {k : Nat} {v : mx_V} (hD : mx_D E fin h s H locs) (hf : fin a k = none) : ∀ c j b, fin c j = some b → mx_wfa h.1 c → (mx_pf h a k v).2.2.2 c j = some b := by
  rcases v with v | t
  · cases v <;> first | exact hD.2.2.2.2.2 | exact mx_uR_f hD hf
  · exact mx_uR_f hD hf
theorem mx_putfield {a : mx_A} {ci k idx : Nat} {v : mx_V} (hd : decode (mx_by mid) pc = .ok (.putfield idx, 3)) (hci : ci < 13) (hl : mx_lo a = (ci, (mx_cr ci).2.2)) (hkN : k < (mx_cr ci).2.2) (hlk : Cond.fieldLink (mx_ow mid) idx (mx_fT ci k).1 (mx_fT ci k).2.1 (mx_fT ci k).2.2.1 ∈ mx_ws)
    (hfi : (mx_fT ci k).2.2.2 = false ∨ ((mx_fT ci k).2.2.2 = true ∧ (mx_y mid).name = "<init>" ∧ (mx_fT ci k).1 = mx_ow mid)) (hff : mx_fok ci k) (hv : mx_pk ci k v) (hf : fin a k = none)
    (hk : mx_T E fin d bc bs mid (pc + 3) lv st (mx_pf h a k v) Q) : mx_T E fin d bc bs mid pc lv (v :: .inr a :: st) h Q := by
  obtain ⟨c1, c2, c3, c4⟩ := mx_ck hci
  obtain ⟨hn, hfit⟩ := mx_pk_n (E := E) hv
  refine mx_write (h' := mx_pf h a k v) (u := [v, .inr a]) (a := a) (mx_pf_n h a k v) (fun p e R s m args below meth c H locs cells slots Qw ls hS hD hw k9 => ?_) hk
  have hwa : mx_wfa h.1 a := hw (.inr a) (by simp)
  have hwv : mx_wf h.1 v := hw v (by simp)
  have hts := hS.2.2.2.2.2.2.1
  have hown := hS.2.2.2.2.2.1
  have hK := hS.2.2.2.2.2.2.2.2.1.1
  have hap := va_apart (own := mx_ow mid) hts c2 (mx_ty ci) c3 c4 hK c1
  have hc0 := hD.1 (mx_pos a) _ (mx_W_get hwa)
  rw [mx_cell_o (ci := ci) (by rw [hl]) (by omega), hl] at hc0
  obtain ⟨r, h1, cell, q1, q2, q3, q4⟩ := hc0
  have hr : r = mx_cr ci := Option.some.inj (h1.symm.trans c1)
  subst hr
  obtain ⟨hSl, hfc, kC, hkC, hkind⟩ := hK.1 ci _ c1
  obtain ⟨cf, kf, fi, f, hi, hsl⟩ := hSl k hkN
  have hlay := hts _ (c2 _ (u_in_lay hkN))
  unfold u_lay at hlay
  have hst := (u_facts hfc hkC (u_lays hts c2 hkN) hi).1
  have hend : ∀ H1 : Heap, H1[mx_ad E a]? = some (cell.setSlot f.slot (mx_sh E v)) → H1.size = H.size → (∀ q, q ≠ mx_ad E a → H1[q]? = H[q]?) → mx_D E fin (mx_pf h a k v) s H1 (locs ++ [⟨mx_ad E a, f.slot⟩]) := by
    intro H1 e1 e2 e3
    refine mx_D_set (a := a) hD (mx_pf_n h a k v) hwa (fun b _ hb => mx_pf_ne hb) ?_ e2 e3 (mx_pf_r hD hwv) (mx_pf_f hD hf)
    rw [mx_cell_o (ci := ci) (by rw [hl]) (by omega), hl]
    refine ⟨_, c1, t_OB.to (V := updV (vp_V ((List.range (mx_cr ci).2.2).map (mx_fv E h a ci))) k (mx_sh E v)) ⟨_, e1, q2, q3, ?_⟩ (fun j hj => ?_)⟩
    · rw [hsl]
      exact t_set q4 hap hkN _
    · unfold updV vp_V
      rw [List.getD_eq_getElem?_getD, List.getElem?_map, List.getElem?_range hj, List.getD_eq_getElem?_getD, List.getElem?_map, List.getElem?_range hj]
      simp only [Option.map_some, Option.getD_some]
      rw [mx_pf_fv hff hv]
  rcases hfi with hfi | ⟨hfi, hin2, hdecl⟩
  · rw [if_neg (by rw [hfi]; decide)] at hlay
    have h6 := u_store hfc hkC hkind hlay hi (c3 k hkN) hn hfit
    exact W.putK hS.1 hS.2.1 (f := f) ⟨hown, hts _ hlk, ⟨_, _, _, hi⟩, hst⟩ (by rw [q2]; exact h6) q1 q3 (by rw [hsl]; exact k2_hasslot (q4 k hkN)) rfl rfl hd fun H1 e1 e2 e3 => k9 H1 _ (hend H1 e1 e2 e3)
  · rw [if_pos hfi] at hlay
    have hcf : m.cls = cf := by
      obtain ⟨_, _, c', _, _, _, -, -, hf', -, -, -, hown2, -⟩ := Cond.laysFinal_spec hlay
      have e1 : c' = cf := by have := hi.symm.trans hf'; simp at this; exact this.1.symm
      rw [hdecl] at hown2
      rw [← e1]; exact Option.some.inj (hown.symm.trans hown2)
    have h6 := u_fits hfc hkC hkind (Or.inr hlay) hi (c3 k hkN) hn hfit
    exact W.putFinK hS.1 hS.2.1 hown (hts _ hlk) hi hst hcf (hS.2.2.2.2.2.2.2.1 hin2) (by rw [q2]; exact h6) q1 q3 (by rw [hsl]; exact k2_hasslot (q4 k hkN)) rfl rfl hd fun H1 e1 e2 e3 => k9 H1 _ (hend H1 e1 e2 e3)
theorem mx_gets0 {idx : Nat} (hd : decode (mx_by mid) pc = .ok (.getstatic idx, 3)) (hlk : Cond.fieldLink (mx_ow mid) idx RX4 "KIND_ABOVE" "[I" ∈ mx_ws) (hk : mx_T E fin d bc bs mid (pc + 3) lv (.inl (.float 0) :: st) h Q) : mx_T E fin d bc bs mid pc lv st h Q :=
  mx_push (fun _ => by exact True.intro) (fun _ _ _ _ _ _ _ _ _ _ _ _ _ _ _ hS hD _ k => va_gets hS.1 hS.2.1 hS.2.2.2.2.2.2.2.2.1.2.2.2.2.1 hD.2.2.1 hS.2.2.2.2.2.1 (hS.2.2.2.2.2.2.1 _ hlk) (fun x hx => hx) hd k) hk
theorem mx_gets1 {idx : Nat} (hd : decode (mx_by mid) pc = .ok (.getstatic idx, 3)) (hlk : Cond.fieldLink (mx_ow mid) idx RX4 "ACTS" "[I" ∈ mx_ws) (hk : mx_T E fin d bc bs mid (pc + 3) lv (.inl (.float 1) :: st) h Q) : mx_T E fin d bc bs mid pc lv st h Q :=
  mx_push (fun _ => by exact True.intro) (fun _ _ _ _ _ _ _ _ _ _ _ _ _ _ _ hS hD _ k => va_gets hS.1 hS.2.1 hS.2.2.2.2.2.2.2.2.1.2.2.2.2.2.1 hD.2.2.1 hS.2.2.2.2.2.1 (hS.2.2.2.2.2.2.1 _ hlk) (fun x hx => hx) hd k) hk
end MXP
end
section
/-! ===== calls: a method's judgement as a contract, and a call by it ===== -/
theorem mx_nest_m {w : Cond} (h : w ∈ mx_nest) : ∃ a i x o, w = .methodLinkNest a i x o := by
  have h2 := (List.mem_filter.mp h).2
  cases w with
  | methodLinkNest a i x o => exact ⟨a, i, x, o, rfl⟩
  | _ => simp at h2
theorem mx_AO_moved {u U : State} (hvm : u.vm.Alike U.vm) (h : (Cond.arrayOver (.array .long)).before #[] u = true) : (Cond.arrayOver (.array .long)).before #[] U = true := by
  have h2 := Cond.arrayOver_setVmC (args := #[]) (s := u) (vm' := U.vm) hvm (.array .long)
  rw [h] at h2
  exact h2
theorem mx_Nv.moved {E : mx_Ev} {u U : State} {H H1 : Heap} (h : mx_Nv E u H) (hvm : u.vm.Alike U.vm) (hw : ∀ a i x o, va_Nw (.methodLinkNest a i x o) u → va_Nw (.methodLinkNest a i x o) U) (hz : H.size ≤ H1.size) (hq : ∀ q : Nat, q < H.size → q < mx_B E → H1[q]? = H[q]?) : mx_Nv E U H1 := by
  obtain ⟨k, n, ao, aa, z0, z1, x0, x1, x2, l0, l1, l2, hn, hB⟩ := h
  have hk : ∀ a : Nat, a < H.size → ¬ mx_ra E a → H1[a]? = H[a]? := fun a h1 h2 => hq a h1 (Nat.not_le.mp h2)
  have hl : ∀ a : Nat, a < mx_B E → H1[a]? = H[a]? := fun a ha => hq a (Nat.lt_of_lt_of_le ha hB) ha
  refine ⟨k.moved hvm, fun w hm => ?_, ao.moved hvm, mx_AO_moved hvm aa, (z0.moved hvm).kept hk, (z1.moved hvm).kept hk, (x0.moved hvm).kept (hl _ l0), (x1.moved hvm).kept (hl _ l1), (x2.moved hvm).kept (hl _ l2), l0, l1, l2, hn, Nat.le_trans hB hz⟩
  obtain ⟨a, i, x, o, rfl⟩ := mx_nest_m hm
  exact hw a i x o (n _ hm)
/-- the heap's part of mx_D -/
def mx_HF (E : mx_Ev) (fin : mx_A → Nat → Option mx_A) (h : mx_H) (H : Heap) : Prop :=
  va_P (mx_G E) vwCl (mx_W E h) H ∧ va_D (mx_ra E) (mx_W E h) ∧ H.size = mx_B E + h.1 ∧ (∀ a k b, h.2.2.2 a k = some b → mx_wfa h.1 b) ∧ (∀ a k b, fin a k = some b → mx_wfa h.1 a → h.2.2.2 a k = some b)
def mx_Qc (E : mx_Ev) (fin : mx_A → Nat → Option mx_A) (h : mx_H) (Q : Option mx_V → mx_H → Prop) : Array Value → State → Outcome → State → Prop := fun _ st oc t =>
  ∃ (v : Option mx_V) (h' : mx_H), oc = .returned (v.map (mx_sh E)) ∧ Q v h' ∧ h.1 ≤ h'.1 ∧ (∀ x, v = some x → mx_wf h'.1 x) ∧ mx_HF E fin h' t.heap ∧ va_F (mx_ra E) st t
def mx_Pc (E : mx_Ev) (fin : mx_A → Nat → Option mx_A) (h : mx_H) (av : List mx_V) : Array Value → State → Prop := fun a U => a = (av.map (mx_sh E)).toArray ∧ mx_Nv E U U.heap ∧ mx_HF E fin h U.heap
abbrev mx_rm (d mid : Nat) : Room := { frames := d, cells := (mx_bu mid).1, slots := (mx_bu mid).2, locals := 40 * d }
abbrev mx_wm (mid : Nat) : List Cond := Cond.code (mx_y mid) (mx_by mid) (mx_nL mid) (mx_rt mid) :: mx_ws
theorem mx_ent_map (E : mx_Ev) : ∀ (i : Nat) (av : List mx_V), (mx_ent i av).map (mx_shl E) = lv_args i (av.map (mx_sh E))
  | _, [] => rfl
  | i, v :: r => by
    show (i, mx_sh E v) :: (mx_ent (i + mx_cat v) r).map (mx_shl E) = (i, mx_sh E v) :: lv_args _ _
    rw [mx_ent_map E _ r]
    congr 2
    rw [mx_cat_sh]
    rcases v with v | a
    · cases v <;> rfl
    · rfl
theorem mx_ent_wf {n : Nat} : ∀ {i : Nat} {av : List mx_V}, (∀ v ∈ av, mx_wf n v) → ∀ q ∈ mx_ent i av, mx_wf n q.2
  | _, [], _ => fun q hq => by cases hq
  | i, v :: r, h => fun q hq => by
    rcases List.mem_cons.mp hq with rfl | hq
    · exact h v List.mem_cons_self
    · exact mx_ent_wf (fun v hv => h v (List.mem_cons_of_mem _ hv)) q hq
theorem mx_sl_len (E : mx_Ev) : ∀ av : List mx_V, (lg_sl (av.map (mx_sh E))).length = (av.map mx_cat).sum
  | [] => rfl
  | v :: r => by
    have h : lg_sl ((v :: r).map (mx_sh E)) = (if (mx_sh E v).category = 2 then [.val (mx_sh E v), .second] else [.val (mx_sh E v)]) ++ lg_sl (r.map (mx_sh E)) := rfl
    rw [h, List.length_append, mx_sl_len E r, List.map_cons, List.sum_cons, mx_cat_sh]
    congr 1
    rcases v with v | a
    · cases v <;> rfl
    · rfl
set_option maxHeartbeats 4000000 in
theorem mx_met {E : mx_Ev} {fin : mx_A → Nat → Option mx_A} {d mid : Nat} {av : List mx_V} {h : mx_H} {Q : Option mx_V → mx_H → Prop} (hy : plainName (mx_y mid).cls = true) (hcn : (mx_y mid).cls = mx_ow mid) (hlen : (av.map mx_cat).sum ≤ mx_nL mid) (hwf : ∀ v ∈ av, mx_wf h.1 v) (hC : mx_C E fin d mid av h Q) :
    Met E.1 (mx_y mid) (mx_wm mid) (mx_rm d mid) (mx_Pc E fin h av) (mx_Qc E fin h Q) (mx_bu mid).1 (mx_bu mid).2 (mx_ra E) := by
  refine Met.ofW (cc := mx_by mid) (maxL := mx_nL mid) (ret := mx_rt mid) hy rfl ?_
  intro p e s m args below meth c s₁ B hml hv
  obtain ⟨rfl, hN, hP, hD, hz, hr, hf⟩ := hv
  have hts := atoms_spec (ws := mx_wm mid) B.pre
  have hS : mx_S E d mid p (headSpec (mx_wm mid) (mx_rm d mid)).room s m ((av.map (mx_sh E)).toArray) meth c :=
    ⟨B.exec, B.bytes, hml, B.returns, B.notSynchronized, by rw [← hcn]; exact findClass_of_methodNamed B.named, fun w hw => hts w (List.mem_cons_of_mem _ hw), fun hi => (name_of_methodNamed B.named B.method).1.trans hi, hN, Nat.le_refl _, Nat.le_refl _⟩
  have hl := lv_entry (av.map (mx_sh E)) (n := mx_nL mid) (by rw [mx_sl_len]; exact hlen)
  rw [lg_entry_eq]
  generalize (lg_sl (av.map (mx_sh E)) ++ List.replicate (mx_nL mid - (lg_sl (av.map (mx_sh E))).length) Slot.unset).toArray = ls at hl ⊢
  rw [← mx_ent_map] at hl
  refine hC p e _ s m _ below meth c s.heap [] 0 0 _ ls hS ⟨hP, hD, va_S.rf, hz, hr, hf⟩ (Nat.le_of_eq (Nat.zero_add _)) (Nat.le_of_eq (Nat.zero_add _)) (mx_ent_wf hwf) (fun v hv => by cases hv) hl ?_
  intro v h' H' locs' cells' slots' pc' ls' ins hQ hD' hm hc' hs' hwv hd hrk
  refine W.widen (k := (mx_bu mid).1) (n := (mx_bu mid).2) (by omega) (by omega) ?_
  have hq : ∀ t : State, t.heap = H' → s.WarmedH t.vm → mx_Qc E fin h Q (av.map (mx_sh E)).toArray s (.returned (v.map (mx_sh E))) t := fun t ht _ =>
    ⟨v, h', rfl, hQ, hm, hwv, by rw [ht]; exact ⟨hD'.1, hD'.2.1, hD'.2.2.2.1, hD'.2.2.2.2.1, hD'.2.2.2.2.2⟩, hD'.2.2.1.F ht⟩
  have hlk := hS.2.2.2.2.1
  rcases hrk with ⟨rfl, rfl, hr1⟩ | ⟨x, rfl, rfl, hr1⟩ | ⟨x, rfl, rfl, hr1⟩ | ⟨rfl, hv, hr1⟩
  · exact W.vret hS.1 hS.2.1 (hS.2.2.2.1.trans hr1) hq hD'.2.2.1.2.2 hd
  · rcases hr1 with hr1 | ⟨hr1, hn⟩
    · exact W.iret hS.1 hS.2.1 (hS.2.2.2.1.trans hr1) hq hD'.2.2.1.2.2 hd
    · exact W.zret hS.1 hS.2.1 (hS.2.2.2.1.trans hr1) hn hq hD'.2.2.1.2.2 hd
  · exact W.lret hS.1 hS.2.1 (hS.2.2.2.1.trans hr1) hq hD'.2.2.1.2.2 hd
  · rcases hv with rfl | ⟨a, rfl⟩
    · exact W.aret hS.1 hS.2.1 (hS.2.2.2.1.trans hr1) (Or.inl ⟨_, rfl⟩) (Or.inl rfl) hq hD'.2.2.1.2.2 hd
    · exact W.aret hS.1 hS.2.1 (hS.2.2.2.1.trans hr1) (Or.inl ⟨_, rfl⟩) (Or.inr ⟨_, rfl⟩) hq hD'.2.2.1.2.2 hd
/-! a method's own words -/
theorem mx_ws_warm {args : Array Value} {s : State} (h : ∀ w ∈ mx_ws, w.before args s = true) {w : Cond} (hw : w ∈ mx_ws) (a' : Array Value) (U : State) (hW : s.WarmedH U.vm) : w.before a' U = true :=
  word_at hW (good_of_word (List.mem_filter.mp hw).2) (h w hw)
theorem mx_FB (E : mx_Ev) (fin : mx_A → Nat → Option mx_A) (h : mx_H) (av : List mx_V) : FrameBlind (mx_Pc E fin h av) := fun a U g mk ⟨h1, h2, h3⟩ =>
  ⟨h1, h2.moved (U := U.calling g mk a) (Vm.Alike.refl U.vm) (fun _ _ _ _ hw => va_Nw.same rfl rfl hw) (Nat.le_refl _) (fun _ _ _ => rfl), h3⟩
theorem mx_PU {E : mx_Ev} {fin : mx_A → Nat → Option mx_A} {h : mx_H} {av : List mx_V} {s : State} {H : Heap} {locs : List Loc} (hN : mx_Nv E s s.heap) (hD : mx_D E fin h s H locs) (U : State) (hU : U.heap = H) (hW : s.WarmedH U.vm) : mx_Pc E fin h av (av.map (mx_sh E)).toArray U := by
  refine ⟨rfl, ?_, ?_⟩
  · rw [hU]
    exact hN.moved hW.alike (fun _ _ _ _ hw => hw.warmM hW) hD.2.2.1.1 (fun q h1 h2 => hD.2.2.1.2.1 q h1 (Nat.not_le.mpr h2))
  · rw [hU]
    exact ⟨hD.1, hD.2.1, hD.2.2.2.1, hD.2.2.2.2.1, hD.2.2.2.2.2⟩
section MXC
variable {E : mx_Ev} {fin : mx_A → Nat → Option mx_A} {d bc bs mid pc : Nat} {lv : mx_Lv} {st : List mx_V} {h : mx_H} {Q : Option mx_V → mx_H → Prop}
theorem mx_goes {p : Program} {e : Env} {R : Room} {s : State} {m : MethodId} {args : Array Value} {below : List Frame} {meth : Method} {c : Code} {H : Heap} {locs : List Loc} {cells slots : Nat} {Qw : State → Prop} {ls : Array Slot} {callee : Nat} {av : List mx_V} {st0 : List Value} {a : Array Value}
    (hr : va_Run p E.1 e R s m args below meth c H locs cells slots (mx_bu callee).1 (mx_bu callee).2 (F0 m pc ls st0) (st.map (mx_sh E)) (mx_Qc E fin h (fun v h' => mx_T E fin (d + 1) (bc - (mx_bu callee).1) (bs - (mx_bu callee).2) mid (pc + 3) lv (v.toList ++ st) h' Q) a) (mx_ra E))
    (hb1 : (mx_bu callee).1 ≤ bc) (hb2 : (mx_bu callee).2 ≤ bs) (hS : mx_S E (d + 1) mid p R s m args meth c) (hD : mx_D E fin h s H locs) (q1 : cells + bc ≤ R.cells) (q2 : slots + bs ≤ R.slots) (q3 : ∀ q ∈ lv, mx_wf h.1 q.2) (q4 : ∀ v ∈ st, mx_wf h.1 v) (q5 : lv_has ls (mx_nL mid) (lv.map (mx_shl E)))
    (q6 : ∀ (v : Option mx_V) (h' : mx_H) (H' : Heap) (locs' : List Loc) (cells' slots' pc' : Nat) (ls' : Array Slot) (ins : Instr), Q v h' → mx_D E fin h' s H' locs' → h.1 ≤ h'.1 → cells' ≤ cells + bc → slots' ≤ slots + bs →
      (∀ x, v = some x → mx_wf h'.1 x) → decode (mx_by mid) pc' = .ok (ins, 1) → mx_rk (mx_rt mid) ins v → W p E.1 e R s m args below meth c H' locs' cells' slots' Qw (F0 m pc' ls' (v.toList.map (mx_sh E)))) :
    W p E.1 e R s m args below meth c H locs cells slots Qw (F0 m pc ls st0) := by
  intro T hT X
  obtain ⟨v, st₀, t, T', L, h0, X', hL, e1, e2, ⟨v', h', hv, hQ, hm, hwv, hHF, hF⟩, stp⟩ := hr T hT X
  cases hv
  have hD' : mx_D E fin h' s t.heap (locs ++ L) := by
    refine ⟨hHF.1, hHF.2.1, ⟨?_, ?_, ?_⟩, hHF.2.2.1, hHF.2.2.2.1, hHF.2.2.2.2⟩
    · exact Nat.le_trans hD.2.2.1.1 (by rw [← h0]; exact hF.1)
    · intro q hq hA
      rw [hF.2 q (by rw [h0]; exact Nat.lt_of_lt_of_le hq hD.2.2.1.1) hA, h0]
      exact hD.2.2.1.2.1 q hq hA
    · intro x hx
      rcases List.mem_append.mp hx with hx | hx
      · exact hD.2.2.1.2.2 x hx
      · exact hL x hx
  have K := hQ p e R s m args below meth c t.heap (locs ++ L) (cells + (mx_bu callee).1) (slots + (mx_bu callee).2) Qw ls hS hD' (by omega) (by omega) (fun q hq => (q3 q hq).mono hm) (fun x hx => by
      rcases List.mem_append.mp hx with hx | hx
      · cases v' with
        | none => cases hx
        | some y => exact hwv x (by rw [show x = y by simpa using hx])
      · exact (q4 x hx).mono hm) q5
    (fun v h2 H' locs' cells' slots' pc' ls' ins a1 a2 a3 a4 a5 a6 a7 a8 => q6 v h2 H' locs' cells' slots' pc' ls' ins a1 a2 (Nat.le_trans hm a3) (by omega) (by omega) a6 a7 a8)
  obtain ⟨t2, b1, b2⟩ := K T' e1 X'
  refine ⟨t2, stp t2 ?_, b2⟩
  have e3 : (v'.map (mx_sh E)).toList ++ st.map (mx_sh E) = (v'.toList ++ st).map (mx_sh E) := by cases v' <;> rfl
  show Steps _ _ _ (T'.setTop (F0 m (pc + 3) ls ((v'.map (mx_sh E)).toList ++ st.map (mx_sh E)))) t2
  rw [e3]
  exact b1
theorem mx_room_sum {E : mx_Ev} : ∀ {st : List mx_V}, (st.map mx_cat).sum ≤ 8 → ((st.map (mx_sh E)).map fun v => v.category).sum ≤ 8 := by
  intro st h
  rw [List.map_map]
  have e : (fun v : Value => v.category) ∘ mx_sh E = mx_cat := funext fun v => mx_cat_sh E v
  rw [e]
  exact h
set_option maxHeartbeats 4000000 in
theorem mx_calls {idx callee n : Nat} {nest : Bool} {av : List mx_V} (hd : decode (mx_by mid) pc = .ok (.invokestatic idx, 3)) (hM : mx_MK callee) (hL : mx_LK mid idx callee n 0 nest) (hn : av.length = n) (hlen : (av.map mx_cat).sum ≤ mx_nL callee) (hst : (st.map mx_cat).sum ≤ 8) (hb1 : (mx_bu callee).1 ≤ bc) (hb2 : (mx_bu callee).2 ≤ bs)
    (hC : mx_C E fin d callee av h (fun v h' => mx_T E fin (d + 1) (bc - (mx_bu callee).1) (bs - (mx_bu callee).2) mid (pc + 3) lv (v.toList ++ st) h' Q)) : mx_T E fin (d + 1) bc bs mid pc lv (av.reverse ++ st) h Q := by
  intro p e R s m args below meth c H locs cells slots Qw ls hS hD q1 q2 q3 q4 q5 q6
  obtain ⟨m1, m2, m3, m4, m5, m6⟩ := hM
  obtain ⟨l1, l2, l3⟩ := hL
  rw [if_pos rfl] at l3
  have hts := hS.2.2.2.2.2.2.1
  have hwa : ∀ v ∈ av, mx_wf h.1 v := fun v hv => q4 v (List.mem_append_left _ (List.mem_reverse.mpr hv))
  have hMet := mx_met m1 m2 hlen hwa hC
  have hfr := hS.2.2.2.2.2.2.2.2.2.1
  have hlo := hS.2.2.2.2.2.2.2.2.2.2
  have hsig : ∀ sig, parseMethodDescriptor (mx_y callee).desc = some sig → n = sig.parameters.length := fun sig hs => by rw [hs] at l1; exact (Option.some.inj l1).symm
  have hpre : PreS s H (mx_Pc E fin h av) (av.map (mx_sh E)) := ⟨mx_FB E fin h av, mx_PU hS.2.2.2.2.2.2.2.2.1 hD⟩
  have hstk : (F0 m pc ls ((av.reverse ++ st).map (mx_sh E))).stack = (av.map (mx_sh E)).reverse ++ st.map (mx_sh E) := by
    show (av.reverse ++ st).map (mx_sh E) = _
    rw [List.map_append, List.map_reverse]
  have hrm := lv_room (m := m) (pc := pc) (ls := ls) (rest := (av.reverse ++ st).map (mx_sh E)) (mx_room_sum (E := E) hst)
  refine mx_goes (callee := callee) (av := av) (a := (av.map (mx_sh E)).toArray) ?_ hb1 hb2 hS hD q1 q2 q3 (fun v hv => q4 v (List.mem_append_right _ hv)) q5 q6
  cases nest with
  | false =>
    exact va_runS ⟨hS.1, hS.2.1, hS.2.2.1, hS.2.2.2.2.2.1, hts⟩ hMet ⟨⟨rfl, rfl, hfr, by show 8 + (mx_nL callee + 11) + 40 * d ≤ _; omega, fun w hw a' U hW => (List.mem_cons.mp hw).elim (fun e => e ▸ mx_ws_warm hts m3 a' U hW) (fun hw => mx_ws_warm hts hw a' U hW), List.mem_cons_self, hts _ m3, hts _ m4, m5, hsig, hts _ l2⟩, hts _ l3⟩ hpre rfl (by rw [List.length_map]; exact hn) q5.1 hstk hrm hd ⟨by omega, by omega⟩
  | true =>
    obtain ⟨host, l2⟩ := l2
    exact va_runSN ⟨hS.1, hS.2.1, hS.2.2.1, hS.2.2.2.2.2.1, hts⟩ hMet ⟨⟨⟨rfl, rfl, hfr, by show 8 + (mx_nL callee + 11) + 40 * d ≤ _; omega, fun w hw a' U hW => (List.mem_cons.mp hw).elim (fun e => e ▸ mx_ws_warm hts m3 a' U hW) (fun hw => mx_ws_warm hts hw a' U hW), List.mem_cons_self⟩, hts _ m3, hts _ m4, m5, hsig, va_Nw.use rfl (hS.2.2.2.2.2.2.2.2.1.2.1 _ l2)⟩, hts _ l3, trivial⟩ hpre rfl (by rw [List.length_map]; exact hn) q5.1 hstk hrm hd ⟨by omega, by omega⟩
set_option maxHeartbeats 4000000 in
theorem mx_callv {idx callee n ci : Nat} {av : List mx_V} {r : mx_A} (hd : decode (mx_by mid) pc = .ok (.invokevirtual idx, 3)) (hM : mx_MK callee) (hL : mx_LK mid idx callee n 1 false) (hci : ci < 13) (hlo : mx_lo r = (ci, (mx_cr ci).2.2)) (hcl : (mx_y callee).cls = (mx_cr ci).1) (hn : av.length = n) (hlen : 1 + (av.map mx_cat).sum ≤ mx_nL callee) (hst : (st.map mx_cat).sum ≤ 8) (hb1 : (mx_bu callee).1 ≤ bc) (hb2 : (mx_bu callee).2 ≤ bs)
    (hC : mx_C E fin d callee (.inr r :: av) h (fun v h' => mx_T E fin (d + 1) (bc - (mx_bu callee).1) (bs - (mx_bu callee).2) mid (pc + 3) lv (v.toList ++ st) h' Q)) : mx_T E fin (d + 1) bc bs mid pc lv (av.reverse ++ .inr r :: st) h Q := by
  intro p e R s m args below meth c H locs cells slots Qw ls hS hD q1 q2 q3 q4 q5 q6
  obtain ⟨m1, m2, m3, m4, m5, m6⟩ := hM
  obtain ⟨l1, l2, l3⟩ := hL
  rw [if_neg (by decide), if_pos rfl] at l3
  have hts := hS.2.2.2.2.2.2.1
  have hwr : mx_wf h.1 (.inr r) := q4 _ (List.mem_append_right _ List.mem_cons_self)
  have hwa : ∀ v ∈ (Sum.inr r :: av : List mx_V), mx_wf h.1 v := fun v hv => (List.mem_cons.mp hv).elim (fun e => e ▸ hwr) (fun hv => q4 v (List.mem_append_left _ (List.mem_reverse.mpr hv)))
  have hMet := mx_met m1 m2 (by rw [List.map_cons, List.sum_cons]; exact hlen) hwa hC
  have hfr := hS.2.2.2.2.2.2.2.2.2.1
  have hlo2 := hS.2.2.2.2.2.2.2.2.2.2
  have hsig : ∀ sig, parseMethodDescriptor (mx_y callee).desc = some sig → n = sig.parameters.length := fun sig hs => by rw [hs] at l1; exact (Option.some.inj l1).symm
  obtain ⟨c1, c2, c3, c4⟩ := mx_ck hci
  have e0 := mx_W_get (E := E) (h := h) hwr
  rw [mx_cell_o (ci := ci) (by rw [hlo]) (by omega)] at e0
  have hrc := va_recv hS.2.2.2.2.2.2.2.2.1.1 hD.1 c1 e0
  rw [← hcl] at hrc
  have hpre : PreV s H (mx_y callee).cls (mx_ad E r) (mx_Pc E fin h (.inr r :: av)) (av.map (mx_sh E)) := ⟨mx_FB E fin h _, hrc, mx_PU hS.2.2.2.2.2.2.2.2.1 hD⟩
  have hstk : (F0 m pc ls ((av.reverse ++ .inr r :: st).map (mx_sh E))).stack = (av.map (mx_sh E)).reverse ++ .ref (mx_ad E r) :: st.map (mx_sh E) := by
    show (av.reverse ++ .inr r :: st).map (mx_sh E) = _
    rw [List.map_append, List.map_reverse]
    rfl
  have hrm := lv_room (m := m) (pc := pc) (ls := ls) (rest := (av.reverse ++ .inr r :: st).map (mx_sh E)) (mx_room_sum (E := E) hst)
  refine mx_goes (callee := callee) (av := .inr r :: av) (a := ((Sum.inr r :: av : List mx_V).map (mx_sh E)).toArray) ?_ hb1 hb2 hS hD q1 q2 q3 (fun v hv => q4 v (List.mem_append_right _ (List.mem_cons_of_mem _ hv))) q5 q6
  exact va_runV ⟨hS.1, hS.2.1, hS.2.2.1, hS.2.2.2.2.2.1, hts⟩ hMet ⟨⟨rfl, rfl, hfr, by show 8 + (mx_nL callee + 11) + 40 * d ≤ _; omega, fun w hw a' U hW => (List.mem_cons.mp hw).elim (fun e => e ▸ mx_ws_warm hts m3 a' U hW) (fun hw => mx_ws_warm hts hw a' U hW), List.mem_cons_self, hts _ m3, hts _ m4, m5, hsig, hts _ l2⟩, hts _ l3.1, hts _ l3.2⟩ hpre rfl (by rw [List.length_map]; exact hn) q5.1 hstk hrm hd ⟨by omega, by omega⟩
end MXC
end
section
/-! ===== cells made; constructors called ===== -/
def mx_z {α : Type} (f : mx_A → Nat → α) (a : mx_A) (v : α) : mx_A → Nat → α := fun b j => if b = a then v else f b j
/-- a new cell a, empty -/
def mx_nw (h : mx_H) (a : mx_A) : mx_H := (h.1 + 1, mx_z h.2.1 a 0, mx_z h.2.2.1 a 0, mx_z h.2.2.2 a none)
theorem mx_z_ne {α : Type} {f : mx_A → Nat → α} {a b : mx_A} {v : α} (h : b ≠ a) : mx_z f a v b = f b := by
  funext j
  exact if_neg h
theorem mx_z_eq {α : Type} {f : mx_A → Nat → α} {a : mx_A} {v : α} : mx_z f a v a = fun _ => v := by
  funext j
  exact if_pos rfl
theorem mx_cell_nw {E : mx_Ev} {h : mx_H} {a b : mx_A} (hb : b ≠ a) : mx_cell E (mx_nw h a) b = mx_cell E h b := by
  have h1 : mx_fv E (mx_nw h a) b = mx_fv E h b := by
    funext ci j
    simp only [mx_fv, mx_nw, mx_z_ne hb]
  have h2 : mx_ar E (mx_nw h a) b = mx_ar E h b := by
    funext kd
    simp only [mx_ar, mx_nw, mx_z_ne hb]
  unfold mx_cell
  rw [h1, h2]
theorem mx_D_push {E : mx_Ev} {fin : mx_A → Nat → Option mx_A} {h : mx_H} {s : State} {H H1 : Heap} {locs : List Loc} {a : mx_A} (hD : mx_D E fin h s H locs) (hp : mx_pos a = h.1) (hv : mx_va a) (hfa : ∀ k, fin a k = none)
    (hc : va_at (mx_G E) vwCl (mx_ad E a, mx_cell E (mx_nw h a) a) H1) (hz : H1.size = H.size + 1) (oq : ∀ q : Nat, q < H.size → H1[q]? = H[q]?) : mx_D E fin (mx_nw h a) s H1 locs := by
  obtain ⟨hP, hA, hS, hZ, hr, hf⟩ := hD
  have hW := mx_W_push (E := E) (h' := mx_nw h a) hp hv rfl (fun b _ hb => mx_cell_nw hb)
  have had : mx_ad E a = H.size := by rw [hZ, ← hp]; rfl
  have hmono : ∀ b, mx_wfa h.1 b → mx_wfa (h.1 + 1) b := fun b hb => ⟨hb.1, Nat.lt_succ_of_lt hb.2⟩
  refine ⟨?_, ?_, ⟨Nat.le_trans hS.1 (by omega), fun q h1 h2 => (oq q (Nat.lt_of_lt_of_le h1 hS.1)).trans (hS.2.1 q h1 h2), hS.2.2⟩, by rw [hz, hZ]; rfl, ?_, ?_⟩
  · rw [hW]
    refine (hP.kept (fun k x hx => oq x.1 ((hP k x hx).lt))).app (fun k x hx => ?_)
    have hk : k < 1 := (List.getElem?_eq_some_iff.mp hx).1
    rw [show k = 0 by omega] at hx
    cases hx
    exact hc
  · rw [hW]
    exact hA.push hP had (Nat.le_add_right _ _)
  · intro c k b hb
    by_cases e : c = a
    · subst e
      rw [show (mx_nw h c).2.2.2 c k = none from congrFun mx_z_eq k] at hb
      cases hb
    · exact hmono b (hr c k b (by rw [← hb]; exact (congrFun (mx_z_ne e) k).symm))
  · intro c k b hb hw
    by_cases e : c = a
    · subst e
      rw [hfa k] at hb
      cases hb
    · have hlt : mx_pos c < h.1 := by
        have h1 : mx_pos c < h.1 + 1 := hw.2
        have h2 : mx_pos c ≠ h.1 := fun q => e (mx_pos_inj hw.1 hv (q.trans hp.symm))
        omega
      rw [show (mx_nw h a).2.2.2 c k = h.2.2.2 c k from congrFun (mx_z_ne e) k]
      exact hf c k b hb ⟨hw.1, hlt⟩
section MXN
variable {E : mx_Ev} {fin : mx_A → Nat → Option mx_A} {d bc bs mid pc : Nat} {lv : mx_Lv} {st : List mx_V} {h : mx_H} {Q : Option mx_V → mx_H → Prop}
theorem mx_mk {a : mx_A} {k N : Nat} {u : List mx_V} (hp : mx_pos a = h.1) (hv : mx_va a) (hb1 : 1 ≤ bc) (hb2 : N ≤ bs)
    (hstep : ∀ (p : Program) (e : Env) (R : Room) (s : State) (m : MethodId) (args : Array Value) (below : List Frame) (meth : Method) (c : Code) (H : Heap) (locs : List Loc) (cells slots : Nat) (Qw : State → Prop) (ls : Array Slot),
      mx_S E d mid p R s m args meth c → mx_D E fin h s H locs → cells + 1 ≤ R.cells → slots + N ≤ R.slots →
      (∀ H1 : Heap, mx_D E fin (mx_nw h a) s H1 locs → W p E.1 e R s m args below meth c H1 locs (cells + 1) (slots + N) Qw (F0 m (pc + k) ls (.ref (mx_ad E a) :: st.map (mx_sh E)))) → W p E.1 e R s m args below meth c H locs cells slots Qw (F0 m pc ls ((u ++ st).map (mx_sh E))))
    (hk : mx_T E fin d (bc - 1) (bs - N) mid (pc + k) lv (.inr a :: st) (mx_nw h a) Q) : mx_T E fin d bc bs mid pc lv (u ++ st) h Q := by
  intro p e R s m args below meth c H locs cells slots Qw ls hS hD q1 q2 q3 q4 q5 q6
  refine hstep p e R s m args below meth c H locs cells slots Qw ls hS hD (by omega) (by omega) (fun H1 hD1 => ?_)
  refine hk p e R s m args below meth c H1 locs (cells + 1) (slots + N) Qw ls hS hD1 (by omega) (by omega) (fun q hq => (q3 q hq).mono (Nat.le_succ _)) (fun x hx => ?_) q5
    (fun v h2 H' locs' cells' slots' pc' ls' ins a1 a2 a3 a4 a5 a6 a7 a8 => q6 v h2 H' locs' cells' slots' pc' ls' ins a1 a2 (Nat.le_trans (Nat.le_succ _) a3) (by omega) (by omega) a6 a7 a8)
  rcases List.mem_cons.mp hx with rfl | hx
  · exact ⟨hv, by show mx_pos a < h.1 + 1; omega⟩
  · exact (q4 x (List.mem_append_right _ hx)).mono (Nat.le_succ _)
theorem mx_fok_d {ci j : Nat} (h : mx_fok ci j) : defaultValue (mx_ty ci j) = if mx_ff ci j = 2 then .null else .int 0 := by
  rcases h with ⟨h1, h2⟩ | ⟨h1, h2⟩ | ⟨h1, n, h2⟩ | ⟨h1, n, h2⟩ <;> rw [h1, h2] <;> rfl
theorem mx_new {a : mx_A} {ci idx : Nat} (hd : decode (mx_by mid) pc = .ok (.new idx, 3)) (hci : ci < 13) (hl : mx_lo a = (ci, (mx_cr ci).2.2)) (hfo : ∀ j, j < (mx_cr ci).2.2 → mx_fok ci j) (hlk : Cond.classLink (mx_ow mid) idx (mx_cr ci).1 ∈ mx_ws) (hin : Cond.instantiable (mx_cr ci).1 (mx_cr ci).2.2 ∈ mx_ws) (hini : Cond.initialized (mx_cr ci).1 ∈ mx_ws)
    (hfa : ∀ k, fin a k = none) (hp : mx_pos a = h.1) (hv : mx_va a) (hb1 : 1 ≤ bc) (hb2 : (mx_cr ci).2.2 ≤ bs) (hk : mx_T E fin d (bc - 1) (bs - (mx_cr ci).2.2) mid (pc + 3) lv (.inr a :: st) (mx_nw h a) Q) : mx_T E fin d bc bs mid pc lv st h Q := by
  obtain ⟨c1, c2, c3, c4⟩ := mx_ck hci
  refine mx_mk (u := []) hp hv hb1 hb2 (fun p e R s m args below meth c H locs cells slots Qw ls hS hD r1 r2 k9 => ?_) hk
  have hts := hS.2.2.2.2.2.2.1
  have hK := hS.2.2.2.2.2.2.2.2.1.1
  have hKn := hK.1 ci _ c1
  have had : mx_ad E a = H.size := by rw [hD.2.2.2.1, ← hp]; rfl
  refine W.newcK hS.1 hS.2.1 hS.2.2.2.2.2.1 (hts _ hlk) (hts _ hin) (hts _ hini) rfl hd r1 r2 hKn.2.1 rfl fun H1 kC hkC e1 z1 o1 => ?_
  have K := k9 H1 (mx_D_push hD hp hv hfa ?_ z1 o1)
  · rw [had] at K
    exact K
  · rw [mx_cell_o (ci := ci) (by rw [hl]) (by omega), hl, had]
    refine ⟨_, c1, (u_born (mx_ty ci) hts c2 hKn hkC e1 c3).to (fun j hj => ?_)⟩
    unfold vp_V
    rw [List.getD_eq_getElem?_getD, List.getElem?_map, List.getElem?_range hj]
    simp only [Option.map_some, Option.getD_some, mx_fv, mx_nw, mx_z_eq]
    rw [mx_fok_d (hfo j hj)]
    split <;> rfl
theorem mx_newarr {a : mx_A} {at' : ArrayType} {n : Int32} (hd : decode (mx_by mid) pc = .ok (.newarray at', 2)) (hak : mx_ak at' ≤ 3) (hl : mx_lo a = (100 + mx_ak at', n.toNatClampNeg)) (hn : ¬ n < 0) (hn2 : n.toNatClampNeg ≤ 60000) (hw : Cond.arrayClass (newarray.typeOf at') ∈ mx_ws)
    (hfa : ∀ k, fin a k = none) (hp : mx_pos a = h.1) (hv : mx_va a) (hb1 : 1 ≤ bc) (hb2 : n.toNatClampNeg ≤ bs) (hk : mx_T E fin d (bc - 1) (bs - n.toNatClampNeg) mid (pc + 2) lv (.inr a :: st) (mx_nw h a) Q) : mx_T E fin d bc bs mid pc lv (.inl (.int n) :: st) h Q := by
  refine mx_mk (u := [.inl (.int n)]) hp hv hb1 hb2 (fun p e R s m args below meth c H locs cells slots Qw ls hS hD r1 r2 k9 => ?_) hk
  have hts := hS.2.2.2.2.2.2.1
  have hK := hS.2.2.2.2.2.2.2.2.1.1
  have had : mx_ad E a = H.size := by rw [hD.2.2.2.1, ← hp]; rfl
  refine va_newaK hS.1 hS.2.1 (hts _ hw) rfl hd rfl hn rfl ?_ r1 r2 rfl fun H1 cA e1 z1 o1 hAr hNm => ?_
  · have : componentBytes (newarray.typeOf at') ≤ 8 := by cases at' <;> decide
    exact Nat.le_trans (Nat.mul_le_mul hn2 this) (by decide)
  · have K := k9 H1 (mx_D_push hD hp hv hfa ?_ z1 o1)
    · rw [had] at K
      exact K
    · rw [had]
      cases at' with
      | int =>
        have hcA : cA = mx_aC E 0 := Option.some.inj (hNm.symm.trans (hK.2 0 _ rfl).2)
        rw [mx_cell_i (kd := 100) (by rw [hl]; rfl) (by simp), hl, ← hcA]
        exact e1.trans (by simp only [mx_nw, mx_z_eq]; rfl)
      | long =>
        have hcA : cA = mx_aC E 1 := Option.some.inj (hNm.symm.trans (hK.2 1 _ rfl).2)
        rw [mx_cell_l (by rw [hl]; rfl), hl, ← hcA]
        exact e1.trans (by simp only [mx_nw, mx_z_eq]; rfl)
      | byte =>
        have hcA : cA = mx_aC E 2 := Option.some.inj (hNm.symm.trans (hK.2 2 _ rfl).2)
        rw [mx_cell_i (kd := 102) (by rw [hl]; rfl) (by simp), hl, ← hcA]
        exact e1.trans (by simp only [mx_nw, mx_z_eq]; rfl)
      | boolean =>
        have hcA : cA = mx_aC E 3 := Option.some.inj (hNm.symm.trans (hK.2 3 _ rfl).2)
        rw [mx_cell_i (kd := 103) (by rw [hl]; rfl) (by simp), hl, ← hcA]
        exact e1.trans (by simp only [mx_nw, mx_z_eq]; rfl)
      | _ => exact absurd hak (by decide)
theorem mx_anew {a : mx_A} {idx : Nat} {n : Int32} (hd : decode (mx_by mid) pc = .ok (.anewarray idx, 3)) (hl : mx_lo a = (104, n.toNatClampNeg)) (hn : ¬ n < 0) (hn2 : n.toNatClampNeg ≤ 60000) (hw : Cond.classLink (mx_ow mid) idx RX7 ∈ mx_ws)
    (hfa : ∀ k, fin a k = none) (hp : mx_pos a = h.1) (hv : mx_va a) (hb1 : 1 ≤ bc) (hb2 : n.toNatClampNeg ≤ bs) (hk : mx_T E fin d (bc - 1) (bs - n.toNatClampNeg) mid (pc + 3) lv (.inr a :: st) (mx_nw h a) Q) : mx_T E fin d bc bs mid pc lv (.inl (.int n) :: st) h Q := by
  refine mx_mk (u := [.inl (.int n)]) hp hv hb1 hb2 (fun p e R s m args below meth c H locs cells slots Qw ls hS hD r1 r2 k9 => ?_) hk
  have hts := hS.2.2.2.2.2.2.1
  have hK := hS.2.2.2.2.2.2.2.2.1.1
  have had : mx_ad E a = H.size := by rw [hD.2.2.2.1, ← hp]; rfl
  refine W.anew hS.1 hS.2.1 hS.2.2.2.2.2.1 (hts _ hw) (va_AO.use hS.2.2.2.2.2.2.2.2.1.2.2.1) rfl hd rfl hn (by omega) r1 r2 fun cA kA comp f1 f2 f3 f4 => ?_
  have hcA : cA = mx_aC E 4 := by
    obtain ⟨kA', comp', g1, g2, g3, g4⟩ := (hK.2 4 _ rfl).2
    exact Option.some.inj (f1.symm.trans g4)
  have K := k9 (H.push ({ cls := cA, slots := Array.replicate n.toNatClampNeg .null, vm := .none } : Cell)) (mx_D_push hD hp hv hfa ?_ (by rw [Array.size_push]) (fun q hq => by rw [Array.getElem?_push, if_neg (Nat.ne_of_lt hq)]))
  · rw [had] at K
    exact K
  · rw [had, mx_cell_q (kd := 104) (by rw [hl]) (by simp), hl, ← hcA]
    show (Array.push H _)[H.size]? = some (vp_cell _ _)
    rw [Array.getElem?_push_size, vp_cell_q, arrV_new]
    simp only [mx_nw, mx_z_eq]
    rfl
/-- the super constructor's call -/
theorem mx_objinit {a : mx_A} {idx : Nat} (hd : decode (mx_by mid) pc = .ok (.invokespecial idx, 3)) (hlk : Cond.methodLink (mx_ow mid) idx Lib.objectInit ∈ mx_ws) (hst : (st.map mx_cat).sum ≤ 8) (h1 : Cond.instanceMethod Lib.objectInit ∈ mx_ws) (h2 : Cond.code Lib.objectInit ⟨#[0xb1]⟩ 1 none ∈ mx_ws)
    (hk : mx_T E fin (d + 1) bc bs mid (pc + 3) lv st h Q) : mx_T E fin (d + 1) bc bs mid pc lv (.inr a :: st) h Q := by
  refine mx_go (fun h1 h2 => ⟨h1, fun x hx => h2 x (List.mem_cons_of_mem _ hx)⟩) (fun p e R s m args below meth c H locs cells slots Qw ls hS hD hl kk => ?_) hk
  have hts := hS.2.2.2.2.2.2.1
  have hfr := hS.2.2.2.2.2.2.2.2.2.1
  have hlo := hS.2.2.2.2.2.2.2.2.2.2
  have hrm := lv_room (m := m) (pc := pc) (ls := ls) (rest := (Sum.inr a :: st).map (mx_sh E)) (mx_room_sum (E := E) hst)
  exact W.objInit hS.1 hS.2.1 hS.2.2.2.2.2.1 (hts _ hlk) (hts _ h1) (hts _ h2) rfl (hl.1.trans hS.2.2.1.symm) rfl hd (by omega) (by omega) (kk ls hl)
set_option maxHeartbeats 4000000 in
theorem mx_calli {idx callee n : Nat} {nest : Bool} {av : List mx_V} {r : mx_A} (hd : decode (mx_by mid) pc = .ok (.invokespecial idx, 3)) (hM : mx_MK callee) (hL : mx_LK mid idx callee n 2 nest) (hn : av.length = n) (hlen : 1 + (av.map mx_cat).sum ≤ mx_nL callee) (hst : (st.map mx_cat).sum ≤ 8) (hb1 : (mx_bu callee).1 ≤ bc) (hb2 : (mx_bu callee).2 ≤ bs)
    (hC : mx_C E fin d callee (.inr r :: av) h (fun v h' => mx_T E fin (d + 1) (bc - (mx_bu callee).1) (bs - (mx_bu callee).2) mid (pc + 3) lv (v.toList ++ st) h' Q)) : mx_T E fin (d + 1) bc bs mid pc lv (av.reverse ++ .inr r :: st) h Q := by
  intro p e R s m args below meth c H locs cells slots Qw ls hS hD q1 q2 q3 q4 q5 q6
  obtain ⟨m1, m2, m3, m4, m5, m6⟩ := hM
  obtain ⟨l1, l2, l3⟩ := hL
  rw [if_neg (by decide), if_neg (by decide)] at l3
  have hts := hS.2.2.2.2.2.2.1
  have hwr : mx_wf h.1 (.inr r) := q4 _ (List.mem_append_right _ List.mem_cons_self)
  have hwa : ∀ v ∈ (Sum.inr r :: av : List mx_V), mx_wf h.1 v := fun v hv => (List.mem_cons.mp hv).elim (fun e => e ▸ hwr) (fun hv => q4 v (List.mem_append_left _ (List.mem_reverse.mpr hv)))
  have hMet := mx_met m1 m2 (by rw [List.map_cons, List.sum_cons]; exact hlen) hwa hC
  have hfr := hS.2.2.2.2.2.2.2.2.2.1
  have hlo2 := hS.2.2.2.2.2.2.2.2.2.2
  have hsig : ∀ sig, parseMethodDescriptor (mx_y callee).desc = some sig → n = sig.parameters.length := fun sig hs => by rw [hs] at l1; exact (Option.some.inj l1).symm
  have hpre : PreS s H (mx_Pc E fin h (.inr r :: av)) (.ref (mx_ad E r) :: av.map (mx_sh E)) := ⟨mx_FB E fin h _, mx_PU hS.2.2.2.2.2.2.2.2.1 hD⟩
  have hstk : (F0 m pc ls ((av.reverse ++ .inr r :: st).map (mx_sh E))).stack = (av.map (mx_sh E)).reverse ++ .ref (mx_ad E r) :: st.map (mx_sh E) := by
    show (av.reverse ++ .inr r :: st).map (mx_sh E) = _
    rw [List.map_append, List.map_reverse]
    rfl
  have hrm := lv_room (m := m) (pc := pc) (ls := ls) (rest := (av.reverse ++ .inr r :: st).map (mx_sh E)) (mx_room_sum (E := E) hst)
  have m3' := m3
  rw [l3.2.2] at m3'
  have hMet' : Met E.1 (mx_y callee) (Cond.code (mx_y callee) (mx_by callee) (mx_nL callee) none :: mx_ws) (mx_rm d callee) (mx_Pc E fin h (.inr r :: av)) (mx_Qc E fin h (fun v h' => mx_T E fin (d + 1) (bc - (mx_bu callee).1) (bs - (mx_bu callee).2) mid (pc + 3) lv (v.toList ++ st) h' Q)) (mx_bu callee).1 (mx_bu callee).2 (mx_ra E) := by
    rw [show mx_wm callee = Cond.code (mx_y callee) (mx_by callee) (mx_nL callee) none :: mx_ws by unfold mx_wm; rw [l3.2.2]] at hMet
    exact hMet
  refine mx_goes (callee := callee) (av := .inr r :: av) (a := ((Sum.inr r :: av : List mx_V).map (mx_sh E)).toArray) ?_ hb1 hb2 hS hD q1 q2 q3 (fun v hv => q4 v (List.mem_append_right _ (List.mem_cons_of_mem _ hv))) q5 q6
  cases nest with
  | false =>
    exact va_runI ⟨hS.1, hS.2.1, hS.2.2.1, hS.2.2.2.2.2.1, hts⟩ hMet' ⟨⟨rfl, rfl, hfr, by show 8 + (mx_nL callee + 11) + 40 * d ≤ _; omega, fun w hw a' U hW => (List.mem_cons.mp hw).elim (fun e => e ▸ mx_ws_warm hts m3' a' U hW) (fun hw => mx_ws_warm hts hw a' U hW), List.mem_cons_self, hts _ m3', hts _ m4, m5, hsig, hts _ l2⟩, l3.2.1, hts _ l3.1⟩ hpre rfl (by rw [List.length_map]; exact hn) q5.1 hstk hrm hd ⟨by omega, by omega⟩
  | true =>
    obtain ⟨host, l2⟩ := l2
    exact va_runIN ⟨hS.1, hS.2.1, hS.2.2.1, hS.2.2.2.2.2.1, hts⟩ hMet' ⟨⟨⟨rfl, rfl, hfr, by show 8 + (mx_nL callee + 11) + 40 * d ≤ _; omega, fun w hw a' U hW => (List.mem_cons.mp hw).elim (fun e => e ▸ mx_ws_warm hts m3' a' U hW) (fun hw => mx_ws_warm hts hw a' U hW), List.mem_cons_self⟩, hts _ m3', hts _ m4, m5, hsig, va_Nw.use rfl (hS.2.2.2.2.2.2.2.2.1.2.1 _ l2)⟩, l3.2.1, hts _ l3.1⟩ hpre rfl (by rw [List.length_map]; exact hn) q5.1 hstk hrm hd ⟨by omega, by omega⟩
end MXN
end
section
/-! ===== Math's own methods ===== -/
def mx_if (b : Bool) (P : Prop) : Prop := match b with
  | true => P
  | false => False
theorem mx_if_t {b : Bool} {P : Prop} (h : mx_if b P) : b = true ∧ P := by
  cases b
  · exact h.elim
  · exact ⟨rfl, h⟩
section MXM
variable {E : mx_Ev} {fin : mx_A → Nat → Option mx_A} {d bc bs mid pc : Nat} {lv : mx_Lv} {st : List mx_V} {h : mx_H} {Q : Option mx_V → mx_H → Prop}
/-- a call that answers at once -/
theorem mx_quick {u : List mx_V} {v : mx_V} (hv : mx_wf h.1 v) (hst : (st.map mx_cat).sum ≤ 8)
    (hstep : ∀ (p : Program) (e : Env) (R : Room) (s : State) (m : MethodId) (args : Array Value) (below : List Frame) (meth : Method) (c : Code) (H : Heap) (locs : List Loc) (cells slots : Nat) (Qw : State → Prop) (ls : Array Slot),
      mx_S E (d + 1) mid p R s m args meth c → c.maxLocals = ls.size → 1 ≤ R.frames → ((st.map (mx_sh E)).map fun v => v.category).sum + 15 ≤ R.locals → cells ≤ R.cells → slots ≤ R.slots →
      W p E.1 e R s m args below meth c H locs cells slots Qw (F0 m (pc + 3) ls (mx_sh E v :: st.map (mx_sh E))) → W p E.1 e R s m args below meth c H locs cells slots Qw (F0 m pc ls ((u ++ st).map (mx_sh E))))
    (hk : mx_T E fin (d + 1) bc bs mid (pc + 3) lv (v :: st) h Q) : mx_T E fin (d + 1) bc bs mid pc lv (u ++ st) h Q :=
  fun p e R s m args below meth c H locs cells slots Qw ls hS hD q1 q2 q3 q4 q5 q6 => by
    have h1 := hS.2.2.2.2.2.2.2.2.2.1
    have h2 := hS.2.2.2.2.2.2.2.2.2.2
    have h3 := mx_room_sum (E := E) hst
    exact hstep p e R s m args below meth c H locs cells slots Qw ls hS (hS.2.2.1.trans q5.1.symm) (by omega) (by omega) (by omega) (by omega)
      (hk p e R s m args below meth c H locs cells slots Qw ls hS hD q1 q2 q3 (fun x hx => (List.mem_cons.mp hx).elim (fun e => e ▸ hv) (fun hx => q4 x (List.mem_append_right _ hx))) q5 q6)
theorem mx_mabs {x : Int32} {i : Nat} (hd : decode (mx_by mid) pc = .ok (.invokestatic i, 3)) (hw : mx_MW (mx_me mid).1 i Lib.Math.abs.name Lib.Math.abs.code 1 (some .int)) (hst : (st.map mx_cat).sum ≤ 8) (hk : mx_T E fin (d + 1) bc bs mid (pc + 3) lv (.inl (.int (if 0 ≤ x then x else 0 - x)) :: st) h Q) : mx_T E fin (d + 1) bc bs mid pc lv (.inl (.int x) :: st) h Q :=
  mx_quick (v := .inl (.int (if 0 ≤ x then x else 0 - x))) (u := [.inl (.int x)]) (by exact True.intro) hst (fun _ _ _ _ _ _ _ _ _ _ _ _ _ _ _ hS hml hfr hlo hc hs k => va_mabs hS.1 hS.2.1 hml hS.2.2.2.2.2.1 (hS.2.2.2.2.2.2.1 _ hw.1) (hS.2.2.2.2.2.2.1 _ hw.2.1) (hS.2.2.2.2.2.2.1 _ hw.2.2.1) (hS.2.2.2.2.2.2.1 _ hw.2.2.2) hfr (by show ((st.map (mx_sh E)).map fun v => v.category).sum + _ ≤ _; omega) hc hs hd k) hk
theorem mx_mabsl {x : Int64} {i : Nat} (hd : decode (mx_by mid) pc = .ok (.invokestatic i, 3)) (hw : mx_MW (mx_me mid).1 i Lib.MathLoose.abs_long.x Lib.MathLoose.abs_long.code 2 (some .long)) (hst : (st.map mx_cat).sum ≤ 8) (hk : mx_T E fin (d + 1) bc bs mid (pc + 3) lv (.inl (.long (if 0 < x then x else -x)) :: st) h Q) : mx_T E fin (d + 1) bc bs mid pc lv (.inl (.long x) :: st) h Q :=
  mx_quick (v := .inl (.long (if 0 < x then x else -x))) (u := [.inl (.long x)]) (by exact True.intro) hst (fun _ _ _ _ _ _ _ _ _ _ _ _ _ _ _ hS hml hfr hlo hc hs k => va_mabs_long hS.1 hS.2.1 hml hS.2.2.2.2.2.1 (hS.2.2.2.2.2.2.1 _ hw.1) (hS.2.2.2.2.2.2.1 _ hw.2.1) (hS.2.2.2.2.2.2.1 _ hw.2.2.1) (hS.2.2.2.2.2.2.1 _ hw.2.2.2) hfr (by show ((st.map (mx_sh E)).map fun v => v.category).sum + _ ≤ _; omega) hc hs hd k) hk
theorem mx_mmax {x y : Int32} {i : Nat} (hd : decode (mx_by mid) pc = .ok (.invokestatic i, 3)) (hw : mx_MW (mx_me mid).1 i Lib.Math.max.name Lib.Math.max.code 2 (some .int)) (hst : (st.map mx_cat).sum ≤ 8) (hk : mx_T E fin (d + 1) bc bs mid (pc + 3) lv (.inl (.int (if x < y then y else x)) :: st) h Q) : mx_T E fin (d + 1) bc bs mid pc lv (.inl (.int y) :: .inl (.int x) :: st) h Q :=
  mx_quick (v := .inl (.int (if x < y then y else x))) (u := [.inl (.int y), .inl (.int x)]) (by exact True.intro) hst (fun _ _ _ _ _ _ _ _ _ _ _ _ _ _ _ hS hml hfr hlo hc hs k => va_mmax hS.1 hS.2.1 hml hS.2.2.2.2.2.1 (hS.2.2.2.2.2.2.1 _ hw.1) (hS.2.2.2.2.2.2.1 _ hw.2.1) (hS.2.2.2.2.2.2.1 _ hw.2.2.1) (hS.2.2.2.2.2.2.1 _ hw.2.2.2) hfr (by show ((st.map (mx_sh E)).map fun v => v.category).sum + _ ≤ _; omega) hc hs hd k) hk
theorem mx_mmaxl {x y : Int64} {i : Nat} (hd : decode (mx_by mid) pc = .ok (.invokestatic i, 3)) (hw : mx_MW (mx_me mid).1 i Lib.MathLoose.max_long.x Lib.MathLoose.max_long.code 4 (some .long)) (hst : (st.map mx_cat).sum ≤ 8) (hk : mx_T E fin (d + 1) bc bs mid (pc + 3) lv (.inl (.long (if y < x then x else y)) :: st) h Q) : mx_T E fin (d + 1) bc bs mid pc lv (.inl (.long y) :: .inl (.long x) :: st) h Q :=
  mx_quick (v := .inl (.long (if y < x then x else y))) (u := [.inl (.long y), .inl (.long x)]) (by exact True.intro) hst (fun _ _ _ _ _ _ _ _ _ _ _ _ _ _ _ hS hml hfr hlo hc hs k => va_mmax_long hS.1 hS.2.1 hml hS.2.2.2.2.2.1 (hS.2.2.2.2.2.2.1 _ hw.1) (hS.2.2.2.2.2.2.1 _ hw.2.1) (hS.2.2.2.2.2.2.1 _ hw.2.2.1) (hS.2.2.2.2.2.2.1 _ hw.2.2.2) hfr (by show ((st.map (mx_sh E)).map fun v => v.category).sum + _ ≤ _; omega) hc hs hd k) hk
theorem mx_mmin {x y : Int32} {i : Nat} (hd : decode (mx_by mid) pc = .ok (.invokestatic i, 3)) (hw : mx_MW (mx_me mid).1 i Lib.Math.min.name Lib.Math.min.code 2 (some .int)) (hst : (st.map mx_cat).sum ≤ 8) (hk : mx_T E fin (d + 1) bc bs mid (pc + 3) lv (.inl (.int (if y < x then y else x)) :: st) h Q) : mx_T E fin (d + 1) bc bs mid pc lv (.inl (.int y) :: .inl (.int x) :: st) h Q :=
  mx_quick (v := .inl (.int (if y < x then y else x))) (u := [.inl (.int y), .inl (.int x)]) (by exact True.intro) hst (fun _ _ _ _ _ _ _ _ _ _ _ _ _ _ _ hS hml hfr hlo hc hs k => va_mmin hS.1 hS.2.1 hml hS.2.2.2.2.2.1 (hS.2.2.2.2.2.2.1 _ hw.1) (hS.2.2.2.2.2.2.1 _ hw.2.1) (hS.2.2.2.2.2.2.1 _ hw.2.2.1) (hS.2.2.2.2.2.2.1 _ hw.2.2.2) hfr (by show ((st.map (mx_sh E)).map fun v => v.category).sum + _ ≤ _; omega) hc hs hd k) hk
theorem mx_mminl {x y : Int64} {i : Nat} (hd : decode (mx_by mid) pc = .ok (.invokestatic i, 3)) (hw : mx_MW (mx_me mid).1 i Lib.MathLoose.min_long.x Lib.MathLoose.min_long.code 4 (some .long)) (hst : (st.map mx_cat).sum ≤ 8) (hk : mx_T E fin (d + 1) bc bs mid (pc + 3) lv (.inl (.long (if y < x then y else x)) :: st) h Q) : mx_T E fin (d + 1) bc bs mid pc lv (.inl (.long y) :: .inl (.long x) :: st) h Q :=
  mx_quick (v := .inl (.long (if y < x then y else x))) (u := [.inl (.long y), .inl (.long x)]) (by exact True.intro) hst (fun _ _ _ _ _ _ _ _ _ _ _ _ _ _ _ hS hml hfr hlo hc hs k => va_mmin_long hS.1 hS.2.1 hml hS.2.2.2.2.2.1 (hS.2.2.2.2.2.2.1 _ hw.1) (hS.2.2.2.2.2.2.1 _ hw.2.1) (hS.2.2.2.2.2.2.1 _ hw.2.2.1) (hS.2.2.2.2.2.2.1 _ hw.2.2.2) hfr (by show ((st.map (mx_sh E)).map fun v => v.category).sum + _ ≤ _; omega) hc hs hd k) hk
end MXM
def mx_mth (a : Nat) (st : List mx_V) (κ : List mx_V → Prop) : Prop := match a, st with
  | 0, .inl (.int x) :: r => mx_if (Nat.ble ((r.map mx_cat).sum) 8) (κ (.inl (.int (if 0 ≤ x then x else 0 - x)) :: r))
  | 1, .inl (.long x) :: r => mx_if (Nat.ble ((r.map mx_cat).sum) 8) (κ (.inl (.long (if 0 < x then x else -x)) :: r))
  | 2, .inl (.int y) :: .inl (.int x) :: r => mx_if (Nat.ble ((r.map mx_cat).sum) 8) (κ (.inl (.int (if x < y then y else x)) :: r))
  | 3, .inl (.long y) :: .inl (.long x) :: r => mx_if (Nat.ble ((r.map mx_cat).sum) 8) (κ (.inl (.long (if y < x then x else y)) :: r))
  | 4, .inl (.int y) :: .inl (.int x) :: r => mx_if (Nat.ble ((r.map mx_cat).sum) 8) (κ (.inl (.int (if y < x then y else x)) :: r))
  | 5, .inl (.long y) :: .inl (.long x) :: r => mx_if (Nat.ble ((r.map mx_cat).sum) 8) (κ (.inl (.long (if y < x then y else x)) :: r))
  | _, _ => False
theorem mx_mth_s {E : mx_Ev} {fin : mx_A → Nat → Option mx_A} {d bc bs mid pc : Nat} {lv : mx_Lv} {st : List mx_V} {h : mx_H} {Q : Option mx_V → mx_H → Prop} {i a : Nat} {κ : List mx_V → Prop} (hd : decode (mx_by mid) pc = .ok (.invokestatic i, 3)) (hw : mx_mw (mx_me mid).1 i a) (kk : ∀ r, κ r → mx_T E fin (d + 1) bc bs mid (pc + 3) lv r h Q) (hk : mx_mth a st κ) : mx_T E fin (d + 1) bc bs mid pc lv st h Q := by
  unfold mx_mth at hk
  unfold mx_mw at hw
  split at hk
  · obtain ⟨q1, q2⟩ := mx_if_t hk; exact mx_mabs hd hw (Nat.le_of_ble_eq_true q1) (kk _ q2)
  · obtain ⟨q1, q2⟩ := mx_if_t hk; exact mx_mabsl hd hw (Nat.le_of_ble_eq_true q1) (kk _ q2)
  · obtain ⟨q1, q2⟩ := mx_if_t hk; exact mx_mmax hd hw (Nat.le_of_ble_eq_true q1) (kk _ q2)
  · obtain ⟨q1, q2⟩ := mx_if_t hk; exact mx_mmaxl hd hw (Nat.le_of_ble_eq_true q1) (kk _ q2)
  · obtain ⟨q1, q2⟩ := mx_if_t hk; exact mx_mmin hd hw (Nat.le_of_ble_eq_true q1) (kk _ q2)
  · obtain ⟨q1, q2⟩ := mx_if_t hk; exact mx_mminl hd hw (Nat.le_of_ble_eq_true q1) (kk _ q2)
  · exact hk.elim
end
section
/-! ===== what a stretch of code asks: computed, and sound ===== -/
/-- the constant references, once a cell is ready -/
def mx_is98 : mx_A → Bool
  | .inl k => Nat.beq k 98
  | _ => false
def mx_fn (md : Bool) (a : mx_A) (k : Nat) : Option mx_A := match md with
  | true => bif mx_is98 a then (bif Nat.blt k 6 then some (.inr (k, 20)) else none) else mx_fr a k
  | false => none
def mx_lt (mid i : Nat) : Bool := Nat.blt i (mx_nL mid)
/-- what a field holds: a constant cell, a shape or null, a number -/
def mx_rdf (md : Bool) (h : mx_H) (a : mx_A) (ci k : Nat) (κ : mx_V → Prop) : Prop :=
  match mx_ff ci k with
  | 2 => match mx_fn md a k with
    | some b => κ (.inr b)
    | none => (∀ j, h.2.2.2 a k = some (.inr (j, 0)) → κ (.inr (.inr (j, 0)))) ∧ (h.2.2.2 a k = none → κ (.inl .null)) ∧ (∀ b, h.2.2.2 a k = some b → ∃ j, b = .inr (j, 0))
  | _ => κ (.inl (.int (h.2.1 a k)))
def mx_pkb (ci k : Nat) (v : mx_V) (P : Prop) : Prop := match mx_ff ci k, v with
  | 0, .inl (.int _) => P
  | 1, .inl (.int x) => (x = 0 ∨ x = 1) ∧ P
  | 2, .inr _ => P
  | 2, .inl .null => P
  | _, _ => False
def mx_cnd (c : Jvm.ClassFile.Cond) (x y : Int32) : Prop := match c with
  | .eq => x = y
  | .ne => x ≠ y
  | .lt => x < y
  | .ge => y ≤ x
  | .gt => y < x
  | .le => x ≤ y
theorem mx_T.typed {E : mx_Ev} {fin : mx_A → Nat → Option mx_A} {d bc bs mid pc : Nat} {lv : mx_Lv} {st : List mx_V} {h : mx_H} {Q : Option mx_V → mx_H → Prop} (hT : mx_T E fin d bc bs mid pc lv st h Q) : mx_T E fin d bc bs mid pc lv st h (fun v h' => Q v h' ∧ ∃ ins, mx_rk (mx_rt mid) ins v) :=
  fun p e R s m args below meth c H locs cells slots Qw ls hS hD h1 h2 h3 h4 h5 h6 => hT p e R s m args below meth c H locs cells slots Qw ls hS hD h1 h2 h3 h4 h5 (fun v h' H' locs' cells' slots' pc' ls' ins q a1 a2 a3 a4 a5 a6 a7 => h6 v h' H' locs' cells' slots' pc' ls' ins ⟨q, ins, a7⟩ a1 a2 a3 a4 a5 a6 a7)
/-- what comes back from a call, by the callee's type -/
def mx_rc (r : Option FieldType) (v : Option mx_V) (κ : List mx_V → Prop) : Prop := match r with
  | none => v = none → κ []
  | some .long => ∀ x, v = some (.inl (.long x)) → κ [.inl (.long x)]
  | some (.object _) => (∀ j, v = some (.inr (.inr (j, 0))) → κ [.inr (.inr (j, 0))]) ∧ (v = some (.inl .null) → κ [.inl .null]) ∧ (∀ b, v = some (.inr b) → ∃ j, b = .inr (j, 0))
  | _ => ∀ x, v = some (.inl (.int x)) → κ [.inl (.int x)]
theorem mx_rc_s {r : Option FieldType} {v : Option mx_V} {κ P : List mx_V → Prop} (hr : ∃ ins, mx_rk r ins v) (hP : ∀ s, κ s → P s) (h : mx_rc r v κ) : P v.toList := by
  obtain ⟨ins, hr⟩ := hr
  rcases hr with ⟨-, rfl, rfl⟩ | ⟨x, -, rfl, hr⟩ | ⟨x, -, rfl, rfl⟩ | ⟨-, hv, rfl⟩
  · exact hP _ (h rfl)
  · rcases hr with rfl | ⟨rfl, -⟩
    · exact hP _ (h x rfl)
    · exact hP _ (h x rfl)
  · exact hP _ (h x rfl)
  · obtain ⟨h1, h2, h3⟩ := h
    rcases hv with rfl | ⟨a, rfl⟩
    · exact hP _ (h2 rfl)
    · obtain ⟨j, rfl⟩ := h3 a rfl
      exact hP _ (h1 j rfl)
theorem mx_rdf_s {md : Bool} {h : mx_H} {x : mx_A} {ci k : Nat} {κ : mx_V → Prop} {E : mx_Ev} {d bc bs mid pc pc' : Nat} {lv : mx_Lv} {r : List mx_V} {Q : Option mx_V → mx_H → Prop}
    (rule : mx_T E (mx_fn md) d bc bs mid pc' lv (mx_fw h x ci k :: r) h Q → mx_T E (mx_fn md) d bc bs mid pc lv (.inr x :: r) h Q) (h2 : ∀ v, κ v → mx_T E (mx_fn md) d bc bs mid pc' lv (v :: r) h Q) (hk : mx_rdf md h x ci k κ) : mx_T E (mx_fn md) d bc bs mid pc lv (.inr x :: r) h Q := by
  intro p e R s m args below meth c H locs cells slots Qw ls hS hD q1 q2 q3 q4 q5 q6
  have hwx : mx_wfa h.1 x := q4 (.inr x) List.mem_cons_self
  refine rule ?_ p e R s m args below meth c H locs cells slots Qw ls hS hD q1 q2 q3 q4 q5 q6
  unfold mx_rdf at hk
  unfold mx_fw
  split at hk
  · next hf =>
    rw [if_pos hf]
    split at hk
    · next b hb =>
      rw [hD.2.2.2.2.2 x k b hb hwx]
      exact h2 _ hk
    · obtain ⟨k1, k2, k3⟩ := hk
      cases hr : h.2.2.2 x k with
      | none => exact h2 _ (k2 hr)
      | some t =>
        obtain ⟨j, rfl⟩ := k3 t hr
        exact h2 _ (k1 j hr)
  · next hf =>
    rw [if_neg hf]
    exact h2 _ hk
theorem mx_pkb_s {ci k : Nat} {v : mx_V} {P : Prop} (hf : mx_fok ci k) (h : mx_pkb ci k v P) : mx_pk ci k v ∧ P := by
  unfold mx_pkb at h
  split at h
  · next h1 => exact ⟨by rcases hf with ⟨q, q2⟩ | ⟨q, -⟩ | ⟨q, -⟩ | ⟨q, -⟩ <;> first | exact Or.inl q2 | (rw [h1] at q; cases q), h⟩
  · next h1 => exact ⟨by rcases hf with ⟨q, -⟩ | ⟨q, q2⟩ | ⟨q, -⟩ | ⟨q, -⟩ <;> first | exact Or.inr ⟨q2, h.1⟩ | (rw [h1] at q; cases q), h.2⟩
  · next h1 => exact ⟨by rcases hf with ⟨q, -⟩ | ⟨q, -⟩ | ⟨q, q2⟩ | ⟨q, q2⟩ <;> first | exact Or.inl q2 | exact Or.inr q2 | (rw [h1] at q; cases q), h⟩
  · next h1 => exact ⟨by rcases hf with ⟨q, -⟩ | ⟨q, -⟩ | ⟨q, q2⟩ | ⟨q, q2⟩ <;> first | exact Or.inl q2 | exact Or.inr q2 | (rw [h1] at q; cases q), h⟩
  · exact h.elim
/-- one instruction: what it asks of what follows -/
def mx_one (E : mx_Ev) (md : Bool) (d bc bs mid pc : Nat) (ins : Instr) (a b z : Nat) (c : Int32) (l : Int64) (lv : mx_Lv) (st : List mx_V) (h : mx_H) (Q : Option mx_V → mx_H → Prop) (κ TT : Nat → Nat → Nat → mx_Lv → List mx_V → mx_H → Prop) : Prop := match ins with
  | .iconst n => κ bc bs (pc + 1) lv (.inl (.int c) :: st) h
  | .bipush n => κ bc bs (pc + 2) lv (.inl (.int c) :: st) h
  | .sipush n => κ bc bs (pc + 3) lv (.inl (.int c) :: st) h
  | .lconst n => κ bc bs (pc + 1) lv (.inl (.long l) :: st) h
  | .ldc n => κ bc bs (pc + 2) lv (.inl (.int c) :: st) h
  | .ldc_w n => κ bc bs (pc + 3) lv (.inl (.int c) :: st) h
  | .ldc2_w n => κ bc bs (pc + 3) lv (.inl (.long l) :: st) h
  | .aconst_null => κ bc bs (pc + 1) lv (.inl .null :: st) h
  | .iload_n n => match mx_get lv n.val with | some (.inl (.int x)) => κ bc bs (pc + 1) lv (.inl (.int x) :: st) h | _ => False
  | .iload n => match mx_get lv n with | some (.inl (.int x)) => κ bc bs (pc + 2) lv (.inl (.int x) :: st) h | _ => False
  | .lload_n n => match mx_get lv n.val with | some (.inl (.long x)) => κ bc bs (pc + 1) lv (.inl (.long x) :: st) h | _ => False
  | .lload n => match mx_get lv n with | some (.inl (.long x)) => κ bc bs (pc + 2) lv (.inl (.long x) :: st) h | _ => False
  | .aload_n n => match mx_get lv n.val with | some x => mx_if (mx_isr x) (κ bc bs (pc + 1) lv (x :: st) h) | none => False
  | .aload n => match mx_get lv n with | some x => mx_if (mx_isr x) (κ bc bs (pc + 2) lv (x :: st) h) | none => False
  | .istore_n n => match st with | .inl (.int x) :: r => κ bc bs (pc + 1) (mx_set1 lv n.val (.inl (.int x))) r h | _ => False
  | .istore n => match st with | .inl (.int x) :: r => κ bc bs (pc + 2) (mx_set1 lv n (.inl (.int x))) r h | _ => False
  | .lstore_n n => match st with | .inl (.long x) :: r => κ bc bs (pc + 1) (mx_set2 lv n.val (.inl (.long x))) r h | _ => False
  | .lstore n => match st with | .inl (.long x) :: r => κ bc bs (pc + 2) (mx_set2 lv n (.inl (.long x))) r h | _ => False
  | .astore_n n => match st with | x :: r => mx_if (mx_isr x) (κ bc bs (pc + 1) (mx_set1 lv n.val x) r h) | _ => False
  | .astore n => match st with | x :: r => mx_if (mx_isr x) (κ bc bs (pc + 2) (mx_set1 lv n x) r h) | _ => False
  | .iinc n k => match mx_get lv n with | some (.inl (.int x)) => κ bc bs (pc + 3) (mx_set1 lv n (.inl (.int (x + c)))) st h | _ => False
  | .iadd => match st with | .inl (.int y) :: .inl (.int x) :: r => κ bc bs (pc + 1) lv (.inl (.int (x + y)) :: r) h | _ => False
  | .isub => match st with | .inl (.int y) :: .inl (.int x) :: r => κ bc bs (pc + 1) lv (.inl (.int (x - y)) :: r) h | _ => False
  | .imul => match st with | .inl (.int y) :: .inl (.int x) :: r => κ bc bs (pc + 1) lv (.inl (.int (x * y)) :: r) h | _ => False
  | .iand => match st with | .inl (.int y) :: .inl (.int x) :: r => κ bc bs (pc + 1) lv (.inl (.int (x &&& y)) :: r) h | _ => False
  | .ior => match st with | .inl (.int y) :: .inl (.int x) :: r => κ bc bs (pc + 1) lv (.inl (.int (x ||| y)) :: r) h | _ => False
  | .ixor => match st with | .inl (.int y) :: .inl (.int x) :: r => κ bc bs (pc + 1) lv (.inl (.int (x ^^^ y)) :: r) h | _ => False
  | .ishl => match st with | .inl (.int y) :: .inl (.int x) :: r => κ bc bs (pc + 1) lv (.inl (.int (x <<< (y &&& 31))) :: r) h | _ => False
  | .ishr => match st with | .inl (.int y) :: .inl (.int x) :: r => κ bc bs (pc + 1) lv (.inl (.int (x >>> (y &&& 31))) :: r) h | _ => False
  | .iushr => match st with | .inl (.int y) :: .inl (.int x) :: r => κ bc bs (pc + 1) lv (.inl (.int ((x.toUInt32 >>> (y.toUInt32 &&& Int32.toUInt32 31)).toInt32)) :: r) h | _ => False
  | .idiv => match st with | .inl (.int y) :: .inl (.int x) :: r => (¬ y = 0) ∧ κ bc bs (pc + 1) lv (.inl (.int (x / y)) :: r) h | _ => False
  | .irem => match st with | .inl (.int y) :: .inl (.int x) :: r => (¬ y = 0) ∧ κ bc bs (pc + 1) lv (.inl (.int (x - x / y * y)) :: r) h | _ => False
  | .ladd => match st with | .inl (.long y) :: .inl (.long x) :: r => κ bc bs (pc + 1) lv (.inl (.long (x + y)) :: r) h | _ => False
  | .lsub => match st with | .inl (.long y) :: .inl (.long x) :: r => κ bc bs (pc + 1) lv (.inl (.long (x - y)) :: r) h | _ => False
  | .lmul => match st with | .inl (.long y) :: .inl (.long x) :: r => κ bc bs (pc + 1) lv (.inl (.long (x * y)) :: r) h | _ => False
  | .land => match st with | .inl (.long y) :: .inl (.long x) :: r => κ bc bs (pc + 1) lv (.inl (.long (x &&& y)) :: r) h | _ => False
  | .lor => match st with | .inl (.long y) :: .inl (.long x) :: r => κ bc bs (pc + 1) lv (.inl (.long (x ||| y)) :: r) h | _ => False
  | .ldiv => match st with | .inl (.long y) :: .inl (.long x) :: r => (¬ y = 0) ∧ κ bc bs (pc + 1) lv (.inl (.long (x / y)) :: r) h | _ => False
  | .lshl => match st with | .inl (.int y) :: .inl (.long x) :: r => κ bc bs (pc + 1) lv (.inl (.long (x <<< (y.toInt64 &&& 63))) :: r) h | _ => False
  | .lcmp => match st with | .inl (.long y) :: .inl (.long x) :: r => κ bc bs (pc + 1) lv (.inl (.int (lg_cmp x y)) :: r) h | _ => False
  | .ineg => match st with | .inl (.int x) :: r => κ bc bs (pc + 1) lv (.inl (.int (-x)) :: r) h | _ => False
  | .lneg => match st with | .inl (.long x) :: r => κ bc bs (pc + 1) lv (.inl (.long (-x)) :: r) h | _ => False
  | .i2l => match st with | .inl (.int x) :: r => κ bc bs (pc + 1) lv (.inl (.long (x.toInt64)) :: r) h | _ => False
  | .l2i => match st with | .inl (.long x) :: r => κ bc bs (pc + 1) lv (.inl (.int (x.toInt32)) :: r) h | _ => False
  | .i2b => match st with | .inl (.int x) :: r => κ bc bs (pc + 1) lv (.inl (.int (x.toInt8.toInt32)) :: r) h | _ => False
  | .i2s => match st with | .inl (.int x) :: r => κ bc bs (pc + 1) lv (.inl (.int (x.toInt16.toInt32)) :: r) h | _ => False
  | .goto k => κ bc bs a lv st h
  | .pop => match st with | x :: r => mx_if (Nat.beq (mx_cat x) 1) (κ bc bs (pc + 1) lv r h) | _ => False
  | .dup => match st with | x :: r => mx_if (Nat.beq (mx_cat x) 1) (κ bc bs (pc + 1) lv (x :: x :: r) h) | _ => False
  | .dup2 => match st with | x :: y :: r => mx_if (Nat.beq (mx_cat x) 1 && Nat.beq (mx_cat y) 1) (κ bc bs (pc + 1) lv (x :: y :: x :: y :: r) h) | _ => False
  | .ifCond cd k => match st with | .inl (.int x) :: r => (mx_cnd cd x 0 → κ bc bs a lv r h) ∧ (¬ mx_cnd cd x 0 → κ bc bs (pc + 3) lv r h) | _ => False
  | .if_icmp cd k => match st with | .inl (.int y) :: .inl (.int x) :: r => (mx_cnd cd x y → κ bc bs a lv r h) ∧ (¬ mx_cnd cd x y → κ bc bs (pc + 3) lv r h) | _ => False
  | .ifnull k => match st with | .inr _ :: r => κ bc bs (pc + 3) lv r h | .inl .null :: r => κ bc bs a lv r h | _ => False
  | .ifnonnull k => match st with | .inr _ :: r => κ bc bs a lv r h | .inl .null :: r => κ bc bs (pc + 3) lv r h | _ => False
  | .tableswitch df lo hi offs => match st with | .inl (.int x) :: r => ∀ tgt : Nat, ((x.toInt < lo ∨ hi < x.toInt) ∧ (pc : Int) + df = tgt) ∨ (lo ≤ x.toInt ∧ x.toInt ≤ hi ∧ ∃ o, offs[(x.toInt - lo).toNat]? = some o ∧ (pc : Int) + o = tgt) → TT bc bs tgt lv r h | _ => False
  | .lookupswitch df ps => match st with | .inl (.int x) :: r => (0 ≤ (pc : Int) + Op.lookupswitch.offset ps.toList df x.toInt) ∧ TT bc bs ((pc : Int) + Op.lookupswitch.offset ps.toList df x.toInt).toNat lv r h | _ => False
  | .ireturn => match st with | [.inl (.int x)] => (match mx_rt mid with | some .boolean => (x = 0 ∨ x = 1) ∧ Q (some (.inl (.int x))) h | _ => Q (some (.inl (.int x))) h) | _ => False
  | .lreturn => match st with | [.inl (.long x)] => Q (some (.inl (.long x))) h | _ => False
  | .areturn => match st with | [.inl .null] => Q (some (.inl .null)) h | [.inr x] => Q (some (.inr x)) h | _ => False
  | .return_ => match st with | [] => Q none h | _ => False
  | .iaload => match st with | .inl (.int i) :: .inr x :: r => mx_if (Nat.beq (mx_lo x).1 100) (vp_in i (mx_lo x).2 ∧ κ bc bs (pc + 1) lv (.inl (.int (h.2.1 x i.toNatClampNeg)) :: r) h) | .inl (.int i) :: .inl (.float u) :: r => (u = 0 ∨ u = 1 ∨ u = 2) ∧ vp_in i (mx_slen E u) ∧ κ bc bs (pc + 1) lv (.inl (.int (mx_sval E u i.toNatClampNeg)) :: r) h | _ => False
  | .baload => match st with | .inl (.int i) :: .inr x :: r => mx_if (Nat.beq (mx_lo x).1 102 || Nat.beq (mx_lo x).1 103) (vp_in i (mx_lo x).2 ∧ κ bc bs (pc + 1) lv (.inl (.int (h.2.1 x i.toNatClampNeg)) :: r) h) | _ => False
  | .laload => match st with | .inl (.int i) :: .inr x :: r => mx_if (Nat.beq (mx_lo x).1 101) (vp_in i (mx_lo x).2 ∧ κ bc bs (pc + 1) lv (.inl (.long (h.2.2.1 x i.toNatClampNeg)) :: r) h) | _ => False
  | .aaload => match st with | .inl (.int i) :: .inr x :: r => (match (mx_lo x).1 with | 104 => vp_in i (mx_lo x).2 ∧ (∀ j, h.2.2.2 x i.toNatClampNeg = some (.inr (j, 0)) → κ bc bs (pc + 1) lv (.inr (.inr (j, 0)) :: r) h) ∧ (h.2.2.2 x i.toNatClampNeg = none → κ bc bs (pc + 1) lv (.inl .null :: r) h) ∧ (∀ t, h.2.2.2 x i.toNatClampNeg = some t → ∃ j, t = .inr (j, 0)) | 105 => vp_in i (mx_lo x).2 ∧ mx_fn md x i.toNatClampNeg = some (.inr (i.toNatClampNeg, 20)) ∧ κ bc bs (pc + 1) lv (.inr (.inr (i.toNatClampNeg, 20)) :: r) h | _ => False) | _ => False
  | .arraylength => match st with | .inr x :: r => mx_if (Nat.beq (mx_lo x).1 100 || Nat.beq (mx_lo x).1 101) (κ bc bs (pc + 1) lv (.inl (.int (Int32.ofNat (mx_lo x).2)) :: r) h) | .inl (.float u) :: r => (u = 0 ∨ u = 1 ∨ u = 2) ∧ κ bc bs (pc + 1) lv (.inl (.int (Int32.ofNat (mx_slen E u))) :: r) h | _ => False
  | .iastore => match st with | .inl (.int y) :: .inl (.int i) :: .inr x :: r => mx_if (Nat.beq (mx_lo x).1 100) (vp_in i (mx_lo x).2 ∧ κ bc bs (pc + 1) lv r (mx_uI h x i.toNatClampNeg y)) | _ => False
  | .lastore => match st with | .inl (.long y) :: .inl (.int i) :: .inr x :: r => mx_if (Nat.beq (mx_lo x).1 101) (vp_in i (mx_lo x).2 ∧ κ bc bs (pc + 1) lv r (mx_uL h x i.toNatClampNeg y)) | _ => False
  | .bastore => match st with | .inl (.int y) :: .inl (.int i) :: .inr x :: r => (match (mx_lo x).1 with | 102 => vp_in i (mx_lo x).2 ∧ κ bc bs (pc + 1) lv r (mx_uI h x i.toNatClampNeg (vp_nar .byte y)) | 103 => vp_in i (mx_lo x).2 ∧ κ bc bs (pc + 1) lv r (mx_uI h x i.toNatClampNeg (vp_nar .boolean y)) | _ => False) | _ => False
  | .aastore => match st with | .inr (.inr (j, 0)) :: .inl (.int i) :: .inr x :: r => mx_if (Nat.beq (mx_lo x).1 104) (vp_in i (mx_lo x).2 ∧ mx_fn md x i.toNatClampNeg = none ∧ κ bc bs (pc + 1) lv r (mx_uR h x i.toNatClampNeg (some (.inr (j, 0))))) | .inl .null :: .inl (.int i) :: .inr x :: r => mx_if (Nat.beq (mx_lo x).1 104) (vp_in i (mx_lo x).2 ∧ mx_fn md x i.toNatClampNeg = none ∧ κ bc bs (pc + 1) lv r (mx_uR h x i.toNatClampNeg none)) | _ => False
  | .getfield n => match st with | .inr x :: r => mx_if (mx_lo x == (a, (mx_cr a).2.2)) (mx_rdf md h x a b (fun v => κ bc bs (pc + 3) lv (v :: r) h)) | _ => False
  | .putfield n => match st with | v :: .inr x :: r => mx_if (mx_lo x == (a, (mx_cr a).2.2)) (mx_pkb a b v (match mx_fn md x b with | none => κ bc bs (pc + 3) lv r (mx_pf h x b v) | some _ => False)) | _ => False
  | .getstatic n => match a with | 0 => κ bc bs (pc + 3) lv (.inl (.float 0) :: st) h | 1 => κ bc bs (pc + 3) lv (.inl (.float 1) :: st) h | _ => False
  | .new n => mx_if (!md && Nat.ble 1 bc && Nat.ble (mx_cr a).2.2 bs) (∃ x, mx_pos x = h.1 ∧ mx_va x ∧ mx_lo x = (a, (mx_cr a).2.2) ∧ κ (bc - 1) (bs - (mx_cr a).2.2) (pc + 3) lv (.inr x :: st) (mx_nw h x))
  | .newarray t => match st with | .inl (.int n) :: r => mx_if (!md && Nat.ble 1 bc && Nat.ble n.toNatClampNeg bs && Nat.ble n.toNatClampNeg 60000) (¬ n < 0 ∧ ∃ x, mx_pos x = h.1 ∧ mx_va x ∧ mx_lo x = (100 + mx_ak t, n.toNatClampNeg) ∧ κ (bc - 1) (bs - n.toNatClampNeg) (pc + 2) lv (.inr x :: r) (mx_nw h x)) | _ => False
  | .anewarray n => match st with | .inl (.int n) :: r => mx_if (!md && Nat.ble 1 bc && Nat.ble n.toNatClampNeg bs && Nat.ble n.toNatClampNeg 60000) (¬ n < 0 ∧ ∃ x, mx_pos x = h.1 ∧ mx_va x ∧ mx_lo x = (104, n.toNatClampNeg) ∧ κ (bc - 1) (bs - n.toNatClampNeg) (pc + 3) lv (.inr x :: r) (mx_nw h x)) | _ => False
  | .invokestatic n => match d with | 0 => False | e + 1 => match Nat.beq z 2 with | true => mx_mth a st (fun r => κ bc bs (pc + 3) lv r h) | false => mx_if (Nat.ble b st.length && Nat.ble (((st.take b).map mx_cat).sum) (mx_nL a) && Nat.ble (((st.drop b).map mx_cat).sum) 8 && Nat.ble (mx_bu a).1 bc && Nat.ble (mx_bu a).2 bs) (mx_C E (mx_fn md) e a (st.take b).reverse h (fun v h' => mx_rc (mx_rt a) v (fun s => κ (bc - (mx_bu a).1) (bs - (mx_bu a).2) (pc + 3) lv (s ++ st.drop b) h')))
  | .invokevirtual n => match d with | 0 => False | e + 1 => (match st.drop b with | .inr x :: r => mx_if (Nat.ble b st.length && Nat.ble (1 + ((st.take b).map mx_cat).sum) (mx_nL a) && Nat.ble ((r.map mx_cat).sum) 8 && Nat.ble (mx_bu a).1 bc && Nat.ble (mx_bu a).2 bs && (mx_lo x == ((mx_me a).1, (mx_cr (mx_me a).1).2.2))) (mx_C E (mx_fn md) e a (.inr x :: (st.take b).reverse) h (fun v h' => mx_rc (mx_rt a) v (fun s => κ (bc - (mx_bu a).1) (bs - (mx_bu a).2) (pc + 3) lv (s ++ r) h'))) | _ => False)
  | .invokespecial n => match d with | 0 => False | e + 1 => (match Nat.beq a 1000 with | true => (match st with | .inr _ :: r => mx_if (Nat.ble ((r.map mx_cat).sum) 8) (κ bc bs (pc + 3) lv r h) | _ => False) | false => (match st.drop b with | .inr x :: r => mx_if (Nat.ble b st.length && Nat.ble (1 + ((st.take b).map mx_cat).sum) (mx_nL a) && Nat.ble ((r.map mx_cat).sum) 8 && Nat.ble (mx_bu a).1 bc && Nat.ble (mx_bu a).2 bs) (mx_C E (mx_fn md) e a (.inr x :: (st.take b).reverse) h (fun v h' => mx_rc (mx_rt a) v (fun s => κ (bc - (mx_bu a).1) (bs - (mx_bu a).2) (pc + 3) lv (s ++ r) h'))) | _ => False))
  | _ => False
set_option maxHeartbeats 4000000 in
theorem mx_one_sound {E : mx_Ev} {md : Bool} {d bc bs mid pc : Nat} {ins : Instr} {len a b z : Nat} {c : Int32} {l : Int64} {lv : mx_Lv} {st : List mx_V} {h : mx_H} {Q : Option mx_V → mx_H → Prop} {κ TT : Nat → Nat → Nat → mx_Lv → List mx_V → mx_H → Prop}
    (hd : decode (mx_by mid) pc = .ok (ins, len)) (hg : mx_ax mid pc ins len a b z c l) (kk : ∀ bc bs pc lv st h, κ bc bs pc lv st h → mx_T E (mx_fn md) d bc bs mid pc lv st h Q) (kt : ∀ bc bs pc lv st h, TT bc bs pc lv st h → mx_T E (mx_fn md) d bc bs mid pc lv st h Q)
    (hk : mx_one E md d bc bs mid pc ins a b z c l lv st h Q κ TT) : mx_T E (mx_fn md) d bc bs mid pc lv st h Q := by
  cases ins with
  | iconst n =>
    obtain ⟨rfl, g2⟩ := hg
    simp only [mx_one] at hk
    rw [← g2] at hk; exact mx_iconst hd (kk _ _ _ _ _ _ hk)
  | bipush n =>
    obtain ⟨rfl, g2⟩ := hg
    simp only [mx_one] at hk
    rw [← g2] at hk; exact mx_bipush hd (kk _ _ _ _ _ _ hk)
  | sipush n =>
    obtain ⟨rfl, g2⟩ := hg
    simp only [mx_one] at hk
    rw [← g2] at hk; exact mx_sipush hd (kk _ _ _ _ _ _ hk)
  | lconst n =>
    obtain ⟨rfl, g2⟩ := hg
    simp only [mx_one] at hk
    rw [← g2] at hk; exact mx_lconst hd (kk _ _ _ _ _ _ hk)
  | ldc n =>
    obtain ⟨rfl, g2⟩ := hg
    simp only [mx_one] at hk
    exact mx_ldc g2 hd (kk _ _ _ _ _ _ hk)
  | ldc_w n =>
    obtain ⟨rfl, g2⟩ := hg
    simp only [mx_one] at hk
    exact mx_ldcw g2 hd (kk _ _ _ _ _ _ hk)
  | ldc2_w n =>
    obtain ⟨rfl, g2⟩ := hg
    simp only [mx_one] at hk
    exact mx_ldc2 g2 hd (kk _ _ _ _ _ _ hk)
  | aconst_null =>
    obtain ⟨rfl, g2⟩ := hg
    simp only [mx_one] at hk
    exact mx_null hd (kk _ _ _ _ _ _ hk)
  | iload_n n =>
    obtain ⟨rfl, g2⟩ := hg
    simp only [mx_one] at hk
    split at hk
    · next x hx => exact mx_iload_n hd hx (kk _ _ _ _ _ _ hk)
    · exact hk.elim
  | iload n =>
    obtain ⟨rfl, g2⟩ := hg
    simp only [mx_one] at hk
    split at hk
    · next x hx => exact mx_iload hd hx (kk _ _ _ _ _ _ hk)
    · exact hk.elim
  | lload_n n =>
    obtain ⟨rfl, g2⟩ := hg
    simp only [mx_one] at hk
    split at hk
    · next x hx => exact mx_lload_n hd hx (kk _ _ _ _ _ _ hk)
    · exact hk.elim
  | lload n =>
    obtain ⟨rfl, g2⟩ := hg
    simp only [mx_one] at hk
    split at hk
    · next x hx => exact mx_lload hd hx (kk _ _ _ _ _ _ hk)
    · exact hk.elim
  | aload_n n =>
    obtain ⟨rfl, g2⟩ := hg
    simp only [mx_one] at hk
    split at hk
    · next x hx => exact mx_aload_n hd hx (mx_if_t hk).1 (kk _ _ _ _ _ _ (mx_if_t hk).2)
    · exact hk.elim
  | aload n =>
    obtain ⟨rfl, g2⟩ := hg
    simp only [mx_one] at hk
    split at hk
    · next x hx => exact mx_aload hd hx (mx_if_t hk).1 (kk _ _ _ _ _ _ (mx_if_t hk).2)
    · exact hk.elim
  | istore_n n =>
    obtain ⟨rfl, g2⟩ := hg
    simp only [mx_one] at hk
    split at hk
    · exact mx_istore_n hd g2 (kk _ _ _ _ _ _ hk)
    · exact hk.elim
  | istore n =>
    obtain ⟨rfl, g2⟩ := hg
    simp only [mx_one] at hk
    split at hk
    · exact mx_istore hd g2 (kk _ _ _ _ _ _ hk)
    · exact hk.elim
  | lstore_n n =>
    obtain ⟨rfl, g2⟩ := hg
    simp only [mx_one] at hk
    split at hk
    · exact mx_lstore_n hd g2 (kk _ _ _ _ _ _ hk)
    · exact hk.elim
  | lstore n =>
    obtain ⟨rfl, g2⟩ := hg
    simp only [mx_one] at hk
    split at hk
    · exact mx_lstore hd g2 (kk _ _ _ _ _ _ hk)
    · exact hk.elim
  | astore_n n =>
    obtain ⟨rfl, g2⟩ := hg
    simp only [mx_one] at hk
    split at hk
    · exact mx_astore_n hd (mx_if_t hk).1 g2 (kk _ _ _ _ _ _ (mx_if_t hk).2)
    · exact hk.elim
  | astore n =>
    obtain ⟨rfl, g2⟩ := hg
    simp only [mx_one] at hk
    split at hk
    · exact mx_astore hd (mx_if_t hk).1 g2 (kk _ _ _ _ _ _ (mx_if_t hk).2)
    · exact hk.elim
  | iinc n k =>
    obtain ⟨rfl, g2⟩ := hg
    simp only [mx_one] at hk
    obtain ⟨g2, g3⟩ := g2
    split at hk
    · next x hx => rw [← g2] at hk; exact mx_iinc hd hx g3 (kk _ _ _ _ _ _ hk)
    · exact hk.elim
  | iadd =>
    obtain ⟨rfl, g2⟩ := hg
    simp only [mx_one] at hk
    split at hk
    · exact mx_iadd hd (kk _ _ _ _ _ _ hk)
    · exact hk.elim
  | isub =>
    obtain ⟨rfl, g2⟩ := hg
    simp only [mx_one] at hk
    split at hk
    · exact mx_isub hd (kk _ _ _ _ _ _ hk)
    · exact hk.elim
  | imul =>
    obtain ⟨rfl, g2⟩ := hg
    simp only [mx_one] at hk
    split at hk
    · exact mx_imul hd (kk _ _ _ _ _ _ hk)
    · exact hk.elim
  | iand =>
    obtain ⟨rfl, g2⟩ := hg
    simp only [mx_one] at hk
    split at hk
    · exact mx_iand hd (kk _ _ _ _ _ _ hk)
    · exact hk.elim
  | ior =>
    obtain ⟨rfl, g2⟩ := hg
    simp only [mx_one] at hk
    split at hk
    · exact mx_ior hd (kk _ _ _ _ _ _ hk)
    · exact hk.elim
  | ixor =>
    obtain ⟨rfl, g2⟩ := hg
    simp only [mx_one] at hk
    split at hk
    · exact mx_ixor hd (kk _ _ _ _ _ _ hk)
    · exact hk.elim
  | ishl =>
    obtain ⟨rfl, g2⟩ := hg
    simp only [mx_one] at hk
    split at hk
    · exact mx_ishl hd (kk _ _ _ _ _ _ hk)
    · exact hk.elim
  | ishr =>
    obtain ⟨rfl, g2⟩ := hg
    simp only [mx_one] at hk
    split at hk
    · exact mx_ishr hd (kk _ _ _ _ _ _ hk)
    · exact hk.elim
  | iushr =>
    obtain ⟨rfl, g2⟩ := hg
    simp only [mx_one] at hk
    split at hk
    · exact mx_iushr hd (kk _ _ _ _ _ _ hk)
    · exact hk.elim
  | idiv =>
    obtain ⟨rfl, g2⟩ := hg
    simp only [mx_one] at hk
    split at hk
    · exact mx_idiv hd hk.1 (kk _ _ _ _ _ _ hk.2)
    · exact hk.elim
  | irem =>
    obtain ⟨rfl, g2⟩ := hg
    simp only [mx_one] at hk
    split at hk
    · exact mx_irem hd hk.1 (kk _ _ _ _ _ _ hk.2)
    · exact hk.elim
  | ladd =>
    obtain ⟨rfl, g2⟩ := hg
    simp only [mx_one] at hk
    split at hk
    · exact mx_ladd hd (kk _ _ _ _ _ _ hk)
    · exact hk.elim
  | lsub =>
    obtain ⟨rfl, g2⟩ := hg
    simp only [mx_one] at hk
    split at hk
    · exact mx_lsub hd (kk _ _ _ _ _ _ hk)
    · exact hk.elim
  | lmul =>
    obtain ⟨rfl, g2⟩ := hg
    simp only [mx_one] at hk
    split at hk
    · exact mx_lmul hd (kk _ _ _ _ _ _ hk)
    · exact hk.elim
  | land =>
    obtain ⟨rfl, g2⟩ := hg
    simp only [mx_one] at hk
    split at hk
    · exact mx_land hd (kk _ _ _ _ _ _ hk)
    · exact hk.elim
  | lor =>
    obtain ⟨rfl, g2⟩ := hg
    simp only [mx_one] at hk
    split at hk
    · exact mx_lor hd (kk _ _ _ _ _ _ hk)
    · exact hk.elim
  | ldiv =>
    obtain ⟨rfl, g2⟩ := hg
    simp only [mx_one] at hk
    split at hk
    · exact mx_ldiv hd hk.1 (kk _ _ _ _ _ _ hk.2)
    · exact hk.elim
  | lshl =>
    obtain ⟨rfl, g2⟩ := hg
    simp only [mx_one] at hk
    split at hk
    · exact mx_lshl hd (kk _ _ _ _ _ _ hk)
    · exact hk.elim
  | lcmp =>
    obtain ⟨rfl, g2⟩ := hg
    simp only [mx_one] at hk
    split at hk
    · exact mx_lcmp hd (kk _ _ _ _ _ _ hk)
    · exact hk.elim
  | ineg =>
    obtain ⟨rfl, g2⟩ := hg
    simp only [mx_one] at hk
    split at hk
    · exact mx_ineg hd (kk _ _ _ _ _ _ hk)
    · exact hk.elim
  | lneg =>
    obtain ⟨rfl, g2⟩ := hg
    simp only [mx_one] at hk
    split at hk
    · exact mx_lneg hd (kk _ _ _ _ _ _ hk)
    · exact hk.elim
  | i2l =>
    obtain ⟨rfl, g2⟩ := hg
    simp only [mx_one] at hk
    split at hk
    · exact mx_i2l hd (kk _ _ _ _ _ _ hk)
    · exact hk.elim
  | l2i =>
    obtain ⟨rfl, g2⟩ := hg
    simp only [mx_one] at hk
    split at hk
    · exact mx_l2i hd (kk _ _ _ _ _ _ hk)
    · exact hk.elim
  | i2b =>
    obtain ⟨rfl, g2⟩ := hg
    simp only [mx_one] at hk
    split at hk
    · exact mx_i2b hd (kk _ _ _ _ _ _ hk)
    · exact hk.elim
  | i2s =>
    obtain ⟨rfl, g2⟩ := hg
    simp only [mx_one] at hk
    split at hk
    · exact mx_i2s hd (kk _ _ _ _ _ _ hk)
    · exact hk.elim
  | goto k =>
    obtain ⟨rfl, g2⟩ := hg
    simp only [mx_one] at hk
    exact mx_goto hd g2 (kk _ _ _ _ _ _ hk)
  | pop =>
    obtain ⟨rfl, g2⟩ := hg
    simp only [mx_one] at hk
    split at hk
    · exact mx_pop hd (Nat.eq_of_beq_eq_true (mx_if_t hk).1) (kk _ _ _ _ _ _ (mx_if_t hk).2)
    · exact hk.elim
  | dup =>
    obtain ⟨rfl, g2⟩ := hg
    simp only [mx_one] at hk
    split at hk
    · exact mx_dup hd (Nat.eq_of_beq_eq_true (mx_if_t hk).1) (kk _ _ _ _ _ _ (mx_if_t hk).2)
    · exact hk.elim
  | dup2 =>
    obtain ⟨rfl, g2⟩ := hg
    simp only [mx_one] at hk
    split at hk
    · obtain ⟨q1, q2⟩ := mx_if_t hk
      rw [Bool.and_eq_true] at q1
      exact mx_dup2 hd (Nat.eq_of_beq_eq_true q1.1) (Nat.eq_of_beq_eq_true q1.2) (kk _ _ _ _ _ _ q2)
    · exact hk.elim
  | ifCond cd k =>
    obtain ⟨rfl, g2⟩ := hg
    simp only [mx_one] at hk
    split at hk
    · cases cd
      · exact mx_if_eq hd g2 (fun q => kk _ _ _ _ _ _ (hk.1 q)) (fun q => kk _ _ _ _ _ _ (hk.2 q))
      · exact mx_if_ne hd g2 (fun q => kk _ _ _ _ _ _ (hk.1 q)) (fun q => kk _ _ _ _ _ _ (hk.2 q))
      · exact mx_if_lt hd g2 (fun q => kk _ _ _ _ _ _ (hk.1 q)) (fun q => kk _ _ _ _ _ _ (hk.2 q))
      · exact mx_if_ge hd g2 (fun q => kk _ _ _ _ _ _ (hk.1 q)) (fun q => kk _ _ _ _ _ _ (hk.2 q))
      · exact mx_if_gt hd g2 (fun q => kk _ _ _ _ _ _ (hk.1 q)) (fun q => kk _ _ _ _ _ _ (hk.2 q))
      · exact mx_if_le hd g2 (fun q => kk _ _ _ _ _ _ (hk.1 q)) (fun q => kk _ _ _ _ _ _ (hk.2 q))
    · exact hk.elim
  | if_icmp cd k =>
    obtain ⟨rfl, g2⟩ := hg
    simp only [mx_one] at hk
    split at hk
    · cases cd
      · exact mx_ic_eq hd g2 (fun q => kk _ _ _ _ _ _ (hk.1 q)) (fun q => kk _ _ _ _ _ _ (hk.2 q))
      · exact mx_ic_ne hd g2 (fun q => kk _ _ _ _ _ _ (hk.1 q)) (fun q => kk _ _ _ _ _ _ (hk.2 q))
      · exact mx_ic_lt hd g2 (fun q => kk _ _ _ _ _ _ (hk.1 q)) (fun q => kk _ _ _ _ _ _ (hk.2 q))
      · exact mx_ic_ge hd g2 (fun q => kk _ _ _ _ _ _ (hk.1 q)) (fun q => kk _ _ _ _ _ _ (hk.2 q))
      · exact mx_ic_gt hd g2 (fun q => kk _ _ _ _ _ _ (hk.1 q)) (fun q => kk _ _ _ _ _ _ (hk.2 q))
      · exact mx_ic_le hd g2 (fun q => kk _ _ _ _ _ _ (hk.1 q)) (fun q => kk _ _ _ _ _ _ (hk.2 q))
    · exact hk.elim
  | ifnull k =>
    obtain ⟨rfl, g2⟩ := hg
    simp only [mx_one] at hk
    split at hk
    · exact mx_ifnull_r hd (kk _ _ _ _ _ _ hk)
    · exact mx_ifnull_n hd g2 (kk _ _ _ _ _ _ hk)
    · exact hk.elim
  | ifnonnull k =>
    obtain ⟨rfl, g2⟩ := hg
    simp only [mx_one] at hk
    split at hk
    · exact mx_ifnn_r hd g2 (kk _ _ _ _ _ _ hk)
    · exact mx_ifnn_n hd (kk _ _ _ _ _ _ hk)
    · exact hk.elim
  | tableswitch df lo hi offs =>
    have g2 := hg
    simp only [mx_one] at hk
    split at hk
    · exact mx_tsw hd g2.1 g2.2.1 g2.2.2 (fun tgt q => kt _ _ _ _ _ _ (hk tgt q))
    · exact hk.elim
  | lookupswitch df ps =>
    have g2 := hg
    simp only [mx_one] at hk
    split at hk
    · exact mx_lsw hd g2 hk.1 (kt _ _ _ _ _ _ hk.2)
    · exact hk.elim
  | ireturn =>
    obtain ⟨rfl, g2⟩ := hg
    simp only [mx_one] at hk
    split at hk
    · next x =>
      rcases g2 with g2 | g2
      · rw [g2] at hk
        exact mx_end (v := some (.inl (.int x))) hd (Or.inr (Or.inl ⟨x, rfl, rfl, Or.inl g2⟩)) hk
      · rw [g2] at hk
        exact mx_end (v := some (.inl (.int x))) hd (Or.inr (Or.inl ⟨x, rfl, rfl, Or.inr ⟨g2, by rcases hk.1 with rfl | rfl <;> rfl⟩⟩)) hk.2
    · exact hk.elim
  | lreturn =>
    obtain ⟨rfl, g2⟩ := hg
    simp only [mx_one] at hk
    split at hk
    · next x => exact mx_end (v := some (.inl (.long x))) hd (Or.inr (Or.inr (Or.inl ⟨x, rfl, rfl, g2⟩))) hk
    · exact hk.elim
  | areturn =>
    obtain ⟨rfl, g2⟩ := hg
    simp only [mx_one] at hk
    split at hk
    · exact mx_end (v := some (.inl .null)) hd (Or.inr (Or.inr (Or.inr ⟨rfl, Or.inl rfl, g2⟩))) hk
    · next x => exact mx_end (v := some (.inr x)) hd (Or.inr (Or.inr (Or.inr ⟨rfl, Or.inr ⟨x, rfl⟩, g2⟩))) hk
    · exact hk.elim
  | return_ =>
    obtain ⟨rfl, g2⟩ := hg
    simp only [mx_one] at hk
    split at hk
    · exact mx_end (v := none) hd (Or.inl ⟨rfl, rfl, g2⟩) hk
    · exact hk.elim
  | iaload =>
    obtain ⟨rfl, g2⟩ := hg
    simp only [mx_one] at hk
    split at hk
    · obtain ⟨q1, q2, q3⟩ := mx_if_t hk
      exact mx_iaload hd (Nat.eq_of_beq_eq_true q1) q2 (kk _ _ _ _ _ _ q3)
    · exact mx_siald hk.1 hd hk.2.1 (kk _ _ _ _ _ _ hk.2.2)
    · exact hk.elim
  | baload =>
    obtain ⟨rfl, g2⟩ := hg
    simp only [mx_one] at hk
    split at hk
    · obtain ⟨q1, q2, q3⟩ := mx_if_t hk
      rcases (Bool.or_eq_true _ _).mp q1 with q1 | q1
      · exact mx_baload hd (Nat.eq_of_beq_eq_true q1) q2 (kk _ _ _ _ _ _ q3)
      · exact mx_zaload hd (Nat.eq_of_beq_eq_true q1) q2 (kk _ _ _ _ _ _ q3)
    · exact hk.elim
  | laload =>
    obtain ⟨rfl, g2⟩ := hg
    simp only [mx_one] at hk
    split at hk
    · obtain ⟨q1, q2, q3⟩ := mx_if_t hk
      exact mx_laload hd (Nat.eq_of_beq_eq_true q1) q2 (kk _ _ _ _ _ _ q3)
    · exact hk.elim
  | aaload =>
    obtain ⟨rfl, g2⟩ := hg
    simp only [mx_one] at hk
    split at hk
    · next i x r =>
      split at hk
      · next hq =>
        obtain ⟨q1, q2, q3, q4⟩ := hk
        refine mx_aaload hd hq q1 ?_
        cases hr : h.2.2.2 x i.toNatClampNeg with
        | none => exact kk _ _ _ _ _ _ (q3 hr)
        | some t =>
          obtain ⟨j, rfl⟩ := q4 t hr
          exact kk _ _ _ _ _ _ (q2 j hr)
      · next hq => exact mx_aaload5 hd hq hk.1 hk.2.1 (kk _ _ _ _ _ _ hk.2.2)
      · exact hk.elim
    · exact hk.elim
  | arraylength =>
    obtain ⟨rfl, g2⟩ := hg
    simp only [mx_one] at hk
    split at hk
    · obtain ⟨q1, q2⟩ := mx_if_t hk
      exact mx_alen hd (((Bool.or_eq_true _ _).mp q1).elim (fun q => Or.inl (Nat.eq_of_beq_eq_true q)) (fun q => Or.inr (Nat.eq_of_beq_eq_true q))) (kk _ _ _ _ _ _ q2)
    · exact mx_salen hk.1 hd (kk _ _ _ _ _ _ hk.2)
    · exact hk.elim
  | iastore =>
    obtain ⟨rfl, g2⟩ := hg
    simp only [mx_one] at hk
    split at hk
    · obtain ⟨q1, q2, q3⟩ := mx_if_t hk
      exact mx_iastore hd (Nat.eq_of_beq_eq_true q1) q2 (kk _ _ _ _ _ _ q3)
    · exact hk.elim
  | lastore =>
    obtain ⟨rfl, g2⟩ := hg
    simp only [mx_one] at hk
    split at hk
    · obtain ⟨q1, q2, q3⟩ := mx_if_t hk
      exact mx_lastore hd (Nat.eq_of_beq_eq_true q1) q2 (kk _ _ _ _ _ _ q3)
    · exact hk.elim
  | bastore =>
    obtain ⟨rfl, g2⟩ := hg
    simp only [mx_one] at hk
    split at hk
    · split at hk
      · next hq => exact mx_bastore hd hq hk.1 (kk _ _ _ _ _ _ hk.2)
      · next hq => exact mx_zastore hd hq hk.1 (kk _ _ _ _ _ _ hk.2)
      · exact hk.elim
    · exact hk.elim
  | aastore =>
    obtain ⟨rfl, g2⟩ := hg
    simp only [mx_one] at hk
    split at hk
    · obtain ⟨q1, q2, q3, q4⟩ := mx_if_t hk
      exact mx_aastore hd (Nat.eq_of_beq_eq_true q1) rfl q3 q2 (kk _ _ _ _ _ _ q4)
    · obtain ⟨q1, q2, q3, q4⟩ := mx_if_t hk
      exact mx_aastoreN hd (Nat.eq_of_beq_eq_true q1) q3 q2 (kk _ _ _ _ _ _ q4)
    · exact hk.elim
  | getfield n =>
    obtain ⟨rfl, g2⟩ := hg
    simp only [mx_one] at hk
    split at hk
    · next x r =>
      obtain ⟨q1, q2⟩ := mx_if_t hk
      obtain ⟨f1, f2, f3, f4⟩ := g2
      exact mx_rdf_s (fun q => mx_getfield hd f1 (by simpa using q1) f2 f3 q) (fun v q => kk _ _ _ _ _ _ q) q2
    · exact hk.elim
  | putfield n =>
    obtain ⟨rfl, g2⟩ := hg
    simp only [mx_one] at hk
    split at hk
    · next v x r =>
      obtain ⟨q1, q2⟩ := mx_if_t hk
      obtain ⟨⟨f1, f2, f3, f4⟩, f5⟩ := g2
      obtain ⟨q3, q4⟩ := mx_pkb_s f4 q2
      split at q4
      · next hn => exact mx_putfield hd f1 (by simpa using q1) f2 f3 f5 f4 q3 hn (kk _ _ _ _ _ _ q4)
      · exact q4.elim
    · exact hk.elim
  | getstatic n =>
    obtain ⟨rfl, g2⟩ := hg
    simp only [mx_one] at hk
    rcases g2 with ⟨rfl, g2⟩ | ⟨rfl, g2⟩
    · exact mx_gets0 hd g2 (kk _ _ _ _ _ _ hk)
    · exact mx_gets1 hd g2 (kk _ _ _ _ _ _ hk)
  | new n =>
    obtain ⟨rfl, g2⟩ := hg
    simp only [mx_one] at hk
    obtain ⟨q1, x, q2, q3, q4, q5⟩ := mx_if_t hk
    obtain ⟨g2, g3, g4, g5, g6⟩ := g2
    rw [Bool.and_eq_true, Bool.and_eq_true] at q1
    obtain ⟨⟨q6, q7⟩, q8⟩ := q1
    cases md
    · exact mx_new hd g2 q4 g3 g4 g5 g6 (fun _ => rfl) q2 q3 (Nat.le_of_ble_eq_true q7) (Nat.le_of_ble_eq_true q8) (kk _ _ _ _ _ _ q5)
    · cases q6
  | newarray t =>
    obtain ⟨rfl, g2⟩ := hg
    simp only [mx_one] at hk
    split at hk
    · obtain ⟨q1, q9, x, q2, q3, q4, q5⟩ := mx_if_t hk
      obtain ⟨g2, g3⟩ := g2
      rw [Bool.and_eq_true, Bool.and_eq_true, Bool.and_eq_true] at q1
      obtain ⟨⟨⟨q6, q7⟩, q8⟩, q10⟩ := q1
      cases md
      · exact mx_newarr hd g2 q4 q9 (Nat.le_of_ble_eq_true q10) g3 (fun _ => rfl) q2 q3 (Nat.le_of_ble_eq_true q7) (Nat.le_of_ble_eq_true q8) (kk _ _ _ _ _ _ q5)
      · cases q6
    · exact hk.elim
  | anewarray n =>
    obtain ⟨rfl, g2⟩ := hg
    simp only [mx_one] at hk
    split at hk
    · obtain ⟨q1, q9, x, q2, q3, q4, q5⟩ := mx_if_t hk
      rw [Bool.and_eq_true, Bool.and_eq_true, Bool.and_eq_true] at q1
      obtain ⟨⟨⟨q6, q7⟩, q8⟩, q10⟩ := q1
      cases md
      · exact mx_anew hd q4 q9 (Nat.le_of_ble_eq_true q10) g2 (fun _ => rfl) q2 q3 (Nat.le_of_ble_eq_true q7) (Nat.le_of_ble_eq_true q8) (kk _ _ _ _ _ _ q5)
      · cases q6
    · exact hk.elim
  | invokestatic n =>
    obtain ⟨rfl, g2⟩ := hg
    simp only [mx_one] at hk
    split at hk
    · exact hk.elim
    · split at hk
      · next hq =>
        rcases g2 with ⟨g2, -⟩ | ⟨-, g2⟩
        · rw [hq] at g2; cases g2
        · exact mx_mth_s hd g2 (fun r q => kk _ _ _ _ _ _ q) hk
      · next hq =>
        rcases g2 with ⟨-, g2⟩ | ⟨g2, -⟩
        · obtain ⟨q1, q2⟩ := mx_if_t hk
          rw [Bool.and_eq_true, Bool.and_eq_true, Bool.and_eq_true, Bool.and_eq_true] at q1
          obtain ⟨⟨⟨⟨c1, c2⟩, c3⟩, c4⟩, c5⟩ := q1
          have c1 := Nat.le_of_ble_eq_true c1
          have c2 := Nat.le_of_ble_eq_true c2
          have c3 := Nat.le_of_ble_eq_true c3
          have c4 := Nat.le_of_ble_eq_true c4
          have c5 := Nat.le_of_ble_eq_true c5
          have e1 : st = (st.take b).reverse.reverse ++ st.drop b := by rw [List.reverse_reverse, List.take_append_drop]
          rw [e1]
          refine mx_calls (av := (st.take b).reverse) hd g2.1 g2.2 (by rw [List.length_reverse, List.length_take]; omega) (by rw [List.map_reverse, List.sum_reverse]; exact c2) c3 c4 c5 (mx_T.mono (mx_T.typed q2) (fun v h2 q => mx_rc_s (P := fun s => mx_T E (mx_fn md) _ _ _ mid (pc + 3) lv (s ++ _) h2 Q) q.2 (fun s qq => kk _ _ _ _ _ _ qq) q.1))
        · rw [hq] at g2; cases g2
  | invokevirtual n =>
    obtain ⟨rfl, g2⟩ := hg
    simp only [mx_one] at hk
    split at hk
    · exact hk.elim
    · split at hk
      · next x r hx =>
        obtain ⟨q0, q2⟩ := mx_if_t hk
        rw [Bool.and_eq_true] at q0
        obtain ⟨q1, q9⟩ := q0
        rw [Bool.and_eq_true, Bool.and_eq_true, Bool.and_eq_true, Bool.and_eq_true] at q1
        obtain ⟨⟨⟨⟨c1, c2⟩, c3⟩, c4⟩, c5⟩ := q1
        have c1 := Nat.le_of_ble_eq_true c1
        have c2 := Nat.le_of_ble_eq_true c2
        have c3 := Nat.le_of_ble_eq_true c3
        have c4 := Nat.le_of_ble_eq_true c4
        have c5 := Nat.le_of_ble_eq_true c5
        have e1 : st = (st.take b).reverse.reverse ++ .inr x :: r := by rw [List.reverse_reverse, ← hx, List.take_append_drop]
        rw [e1]
        refine mx_callv (av := (st.take b).reverse) hd g2.1 g2.2.1 g2.2.2.1 (by simpa using q9) g2.2.2.2 (by rw [List.length_reverse, List.length_take]; omega) (by rw [List.map_reverse, List.sum_reverse]; exact c2) c3 c4 c5 (mx_T.mono (mx_T.typed q2) (fun v h2 q => mx_rc_s (P := fun s => mx_T E (mx_fn md) _ _ _ mid (pc + 3) lv (s ++ _) h2 Q) q.2 (fun s qq => kk _ _ _ _ _ _ qq) q.1))
      · exact hk.elim
  | invokespecial n =>
    obtain ⟨rfl, g2⟩ := hg
    simp only [mx_one] at hk
    split at hk
    · exact hk.elim
    · split at hk
      · next hq =>
        have ha := Nat.eq_of_beq_eq_true hq
        rcases g2 with ⟨-, g2, g3, g4⟩ | ⟨g2, -⟩
        · split at hk
          · obtain ⟨q1, q2⟩ := mx_if_t hk
            exact mx_objinit hd g2 (Nat.le_of_ble_eq_true q1) g3 g4 (kk _ _ _ _ _ _ q2)
          · exact hk.elim
        · exact absurd ha g2
      · next hq =>
        have ha : a ≠ 1000 := fun e => by subst e; cases hq
        rcases g2 with ⟨g2, -⟩ | ⟨-, g2, g3⟩
        · exact absurd g2 ha
        · split at hk
          · next x r hx =>
            obtain ⟨q1, q2⟩ := mx_if_t hk
            rw [Bool.and_eq_true, Bool.and_eq_true, Bool.and_eq_true, Bool.and_eq_true] at q1
            obtain ⟨⟨⟨⟨c1, c2⟩, c3⟩, c4⟩, c5⟩ := q1
            have c1 := Nat.le_of_ble_eq_true c1
            have c2 := Nat.le_of_ble_eq_true c2
            have c3 := Nat.le_of_ble_eq_true c3
            have c4 := Nat.le_of_ble_eq_true c4
            have c5 := Nat.le_of_ble_eq_true c5
            have e1 : st = (st.take b).reverse.reverse ++ .inr x :: r := by rw [List.reverse_reverse, ← hx, List.take_append_drop]
            rw [e1]
            refine mx_calli (av := (st.take b).reverse) hd g2 g3 (by rw [List.length_reverse, List.length_take]; omega) (by rw [List.map_reverse, List.sum_reverse]; exact c2) c3 c4 c5 (mx_T.mono (mx_T.typed q2) (fun v h2 q => mx_rc_s (P := fun s => mx_T E (mx_fn md) _ _ _ mid (pc + 3) lv (s ++ _) h2 Q) q.2 (fun s qq => kk _ _ _ _ _ _ qq) q.1))
          · exact hk.elim
  | _ => exact hg.elim
end
section
/-! ===== a stretch of code ===== -/
theorem mx_T.sub {E : mx_Ev} {fin : mx_A → Nat → Option mx_A} {d bc bs mid pc : Nat} {lv lv' : mx_Lv} {st : List mx_V} {h : mx_H} {Q : Option mx_V → mx_H → Prop} (hl : ∀ q ∈ lv', q ∈ lv) (hT : mx_T E fin d bc bs mid pc lv' st h Q) : mx_T E fin d bc bs mid pc lv st h Q :=
  fun p e R s m args below meth c H locs cells slots Qw ls hS hD h1 h2 h3 h4 h5 h6 => hT p e R s m args below meth c H locs cells slots Qw ls hS hD h1 h2 (fun q hq => h3 q (hl q hq)) h4
    ⟨h5.1, h5.2.1, fun q hq => by
      obtain ⟨x, hx, rfl⟩ := List.mem_map.mp hq
      exact h5.2.2 _ (List.mem_map.mpr ⟨x, hl x hx, rfl⟩)⟩ h6
/-- the locals that live on at a place, in their order -/
def mx_nrm (live : List Nat) (lv : mx_Lv) : mx_Lv := match live with
  | [] => []
  | i :: r => match mx_get lv i with
    | some v => (i, v) :: mx_nrm r lv
    | none => mx_nrm r lv
theorem mx_nrm_mem {lv : mx_Lv} : ∀ {live : List Nat}, ∀ q ∈ mx_nrm live lv, q ∈ lv
  | [], q, h => by cases h
  | i :: r, q, h => by
    unfold mx_nrm at h
    split at h
    · next v hv =>
      rcases List.mem_cons.mp h with rfl | h
      · exact mx_get_mem hv
      · exact mx_nrm_mem q h
    · exact mx_nrm_mem q h
def mx_cut : List (Nat × List Nat) → Nat → Option (List Nat)
  | [], _ => none
  | (p, l) :: r, pc => bif Nat.beq p pc then some l else mx_cut r pc
/-- what a stretch of code asks, up to the places of 'cuts' -/
def mx_wp (E : mx_Ev) (md : Bool) (d mid : Nat) (tb : List (Nat × List mx_En)) (cuts : List (Nat × List Nat)) (Q : Option mx_V → mx_H → Prop) : Nat → Nat → Nat → Nat → mx_Lv → List mx_V → mx_H → Prop
  | 0, bc, bs, pc, lv, st, h => mx_T E (mx_fn md) d bc bs mid pc lv st h Q
  | k + 1, bc, bs, pc, lv, st, h => match mx_ft tb pc with
    | none => False
    | some (_, ins, _, a, b, z, c, l) => mx_one E md d bc bs mid pc ins a b z c l lv st h Q
        (fun bc bs pc lv st h => match mx_cut cuts pc with | some live => mx_T E (mx_fn md) d bc bs mid pc (mx_nrm live lv) st h Q | none => mx_wp E md d mid tb cuts Q k bc bs pc lv st h) (fun bc bs pc lv st h => mx_T E (mx_fn md) d bc bs mid pc lv st h Q)
theorem mx_wp_sound {E : mx_Ev} {md : Bool} {d mid : Nat} {tb : List (Nat × List mx_En)} {cuts : List (Nat × List Nat)} {Q : Option mx_V → mx_H → Prop} (hok : ∀ q ∈ tb, ∀ en ∈ q.2, mx_gd mid en) :
    ∀ (k : Nat) {bc bs pc : Nat} {lv : mx_Lv} {st : List mx_V} {h : mx_H}, mx_wp E md d mid tb cuts Q k bc bs pc lv st h → mx_T E (mx_fn md) d bc bs mid pc lv st h Q
  | 0, _, _, _, _, _, _, h => h
  | k + 1, bc, bs, pc, lv, st, h, hk => by
    unfold mx_wp at hk
    split at hk
    · exact hk.elim
    · next pc2 ins len a b z c l hf =>
      obtain ⟨rfl, q, hq, he⟩ := mx_ft_mem hf
      obtain ⟨g1, g2⟩ := hok q hq _ he
      refine mx_one_sound g1 g2 (fun bc bs pc lv st h q => ?_) (fun _ _ _ _ _ _ q => q) hk
      split at q
      · exact q.sub mx_nrm_mem
      · exact mx_wp_sound hok k q
end
