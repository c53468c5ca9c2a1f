section
-- ===== PART A: goes FIRST, ahead of the names: the tables' words, and 'selects' of the private methods out of them =====
/-- a private method of a class that the tables say can be made, by its rows of tables_1 -/
def lw_okq (q : MethodName × Nat) : Prop := (q.1.cls ≠ "java/lang/invoke/MethodHandle" ∧ q.1.cls ≠ "java/lang/invoke/VarHandle") ∧ Cond.instantiable q.1.cls q.2 ∈ tables_1 ∧ Cond.privateMethod q.1 ∈ tables_1 ∧ Cond.instanceMethod q.1 ∈ tables_1
theorem lw_p0 : lw_okq (⟨"PlatesSing$Tape", "readCorners", "(LPlatesSing$Shape;)Z"⟩, 3) := ⟨⟨by decide +kernel, by decide +kernel⟩, List.mem_of_getElem? (i := 27) (by decide +kernel), List.mem_of_getElem? (i := 516) (by decide +kernel), List.mem_of_getElem? (i := 517) (by decide +kernel)⟩
theorem lw_p1 : lw_okq (⟨"PlatesSing$Tape", "peek", "()I"⟩, 3) := ⟨⟨by decide +kernel, by decide +kernel⟩, List.mem_of_getElem? (i := 27) (by decide +kernel), List.mem_of_getElem? (i := 520) (by decide +kernel), List.mem_of_getElem? (i := 521) (by decide +kernel)⟩
theorem lw_p2 : lw_okq (⟨"PlatesSing$Tape", "digit", "()I"⟩, 3) := ⟨⟨by decide +kernel, by decide +kernel⟩, List.mem_of_getElem? (i := 27) (by decide +kernel), List.mem_of_getElem? (i := 524) (by decide +kernel), List.mem_of_getElem? (i := 525) (by decide +kernel)⟩
theorem lw_p3 : lw_okq (⟨"PlatesSing$Tape", "readPart", "(LPlatesSing$Shape;)Z"⟩, 3) := ⟨⟨by decide +kernel, by decide +kernel⟩, List.mem_of_getElem? (i := 27) (by decide +kernel), List.mem_of_getElem? (i := 529) (by decide +kernel), List.mem_of_getElem? (i := 530) (by decide +kernel)⟩
theorem lw_p4 : lw_okq (⟨"PlatesSing$Tape", "readPiece", "(LPlatesSing$Shape;)Z"⟩, 3) := ⟨⟨by decide +kernel, by decide +kernel⟩, List.mem_of_getElem? (i := 27) (by decide +kernel), List.mem_of_getElem? (i := 533) (by decide +kernel), List.mem_of_getElem? (i := 534) (by decide +kernel)⟩
theorem lw_p5 : lw_okq (⟨"PlatesSing$Tape", "corner", "(LPlatesSing$Shape;)I"⟩, 3) := ⟨⟨by decide +kernel, by decide +kernel⟩, List.mem_of_getElem? (i := 27) (by decide +kernel), List.mem_of_getElem? (i := 537) (by decide +kernel), List.mem_of_getElem? (i := 538) (by decide +kernel)⟩
theorem lw_p6 : lw_okq (⟨"PlatesSing$Tape", "readHold", "(LPlatesSing$Shape;)Z"⟩, 3) := ⟨⟨by decide +kernel, by decide +kernel⟩, List.mem_of_getElem? (i := 27) (by decide +kernel), List.mem_of_getElem? (i := 555) (by decide +kernel), List.mem_of_getElem? (i := 556) (by decide +kernel)⟩
theorem lw_p7 : lw_okq (⟨"PlatesSing$Tape", "readNumber", "(LPlatesSing$Shape;[I)Z"⟩, 3) := ⟨⟨by decide +kernel, by decide +kernel⟩, List.mem_of_getElem? (i := 27) (by decide +kernel), List.mem_of_getElem? (i := 559) (by decide +kernel), List.mem_of_getElem? (i := 560) (by decide +kernel)⟩
theorem lw_p8 : lw_okq (⟨"PlatesSing", "isFullFor", "(I)Z"⟩, 14) := ⟨⟨by decide +kernel, by decide +kernel⟩, List.mem_of_getElem? (i := 19) (by decide +kernel), List.mem_of_getElem? (i := 563) (by decide +kernel), List.mem_of_getElem? (i := 564) (by decide +kernel)⟩
theorem lw_p9 : lw_okq (⟨"PlatesSing", "addDraft", "()I"⟩, 14) := ⟨⟨by decide +kernel, by decide +kernel⟩, List.mem_of_getElem? (i := 19) (by decide +kernel), List.mem_of_getElem? (i := 567) (by decide +kernel), List.mem_of_getElem? (i := 568) (by decide +kernel)⟩
theorem lw_p10 : lw_okq (⟨"PlatesSing", "shapeAt", "(I)LPlatesSing$Shape;"⟩, 14) := ⟨⟨by decide +kernel, by decide +kernel⟩, List.mem_of_getElem? (i := 19) (by decide +kernel), List.mem_of_getElem? (i := 579) (by decide +kernel), List.mem_of_getElem? (i := 580) (by decide +kernel)⟩
theorem lw_p11 : lw_okq (⟨"PlatesSing", "change", "(LPlatesSing$Shape;III)I"⟩, 14) := ⟨⟨by decide +kernel, by decide +kernel⟩, List.mem_of_getElem? (i := 19) (by decide +kernel), List.mem_of_getElem? (i := 600) (by decide +kernel), List.mem_of_getElem? (i := 601) (by decide +kernel)⟩
theorem lw_p12 : lw_okq (⟨"PlatesSing$History", "dropOldest", "()V"⟩, 7) := ⟨⟨by decide +kernel, by decide +kernel⟩, List.mem_of_getElem? (i := 364) (by decide +kernel), List.mem_of_getElem? (i := 619) (by decide +kernel), List.mem_of_getElem? (i := 620) (by decide +kernel)⟩
theorem lw_p13 : lw_okq (⟨"PlatesSing$Net", "fillMatrix", "(II)V"⟩, 12) := ⟨⟨by decide +kernel, by decide +kernel⟩, List.mem_of_getElem? (i := 138) (by decide +kernel), List.mem_of_getElem? (i := 670) (by decide +kernel), List.mem_of_getElem? (i := 671) (by decide +kernel)⟩
theorem lw_p14 : lw_okq (⟨"PlatesSing$Net", "fillFactor", "(I)V"⟩, 12) := ⟨⟨by decide +kernel, by decide +kernel⟩, List.mem_of_getElem? (i := 138) (by decide +kernel), List.mem_of_getElem? (i := 674) (by decide +kernel), List.mem_of_getElem? (i := 675) (by decide +kernel)⟩
theorem lw_p15 : lw_okq (⟨"PlatesSing$Turns", "extend", "(LPlatesSing$Shape;LPlatesSing$Shape;I)V"⟩, 6) := ⟨⟨by decide +kernel, by decide +kernel⟩, List.mem_of_getElem? (i := 188) (by decide +kernel), List.mem_of_getElem? (i := 734) (by decide +kernel), List.mem_of_getElem? (i := 735) (by decide +kernel)⟩
def lw_privs_1 : List (MethodName × Nat) := [(⟨"PlatesSing$Tape", "readCorners", "(LPlatesSing$Shape;)Z"⟩, 3), (⟨"PlatesSing$Tape", "peek", "()I"⟩, 3), (⟨"PlatesSing$Tape", "digit", "()I"⟩, 3), (⟨"PlatesSing$Tape", "readPart", "(LPlatesSing$Shape;)Z"⟩, 3), (⟨"PlatesSing$Tape", "readPiece", "(LPlatesSing$Shape;)Z"⟩, 3), (⟨"PlatesSing$Tape", "corner", "(LPlatesSing$Shape;)I"⟩, 3), (⟨"PlatesSing$Tape", "readHold", "(LPlatesSing$Shape;)Z"⟩, 3), (⟨"PlatesSing$Tape", "readNumber", "(LPlatesSing$Shape;[I)Z"⟩, 3), (⟨"PlatesSing", "isFullFor", "(I)Z"⟩, 14), (⟨"PlatesSing", "addDraft", "()I"⟩, 14), (⟨"PlatesSing", "shapeAt", "(I)LPlatesSing$Shape;"⟩, 14), (⟨"PlatesSing", "change", "(LPlatesSing$Shape;III)I"⟩, 14), (⟨"PlatesSing$History", "dropOldest", "()V"⟩, 7), (⟨"PlatesSing$Net", "fillMatrix", "(II)V"⟩, 12), (⟨"PlatesSing$Net", "fillFactor", "(I)V"⟩, 12), (⟨"PlatesSing$Turns", "extend", "(LPlatesSing$Shape;LPlatesSing$Shape;I)V"⟩, 6)]
theorem lw_r1 : ∀ q ∈ lw_privs_1, lw_okq q := List.forall_mem_cons.mpr ⟨lw_p0, List.forall_mem_cons.mpr ⟨lw_p1, List.forall_mem_cons.mpr ⟨lw_p2, List.forall_mem_cons.mpr ⟨lw_p3, List.forall_mem_cons.mpr ⟨lw_p4, List.forall_mem_cons.mpr ⟨lw_p5, List.forall_mem_cons.mpr ⟨lw_p6, List.forall_mem_cons.mpr ⟨lw_p7, List.forall_mem_cons.mpr ⟨lw_p8, List.forall_mem_cons.mpr ⟨lw_p9, List.forall_mem_cons.mpr ⟨lw_p10, List.forall_mem_cons.mpr ⟨lw_p11, List.forall_mem_cons.mpr ⟨lw_p12, List.forall_mem_cons.mpr ⟨lw_p13, List.forall_mem_cons.mpr ⟨lw_p14, List.forall_mem_cons.mpr ⟨lw_p15, fun _ h => absurd h List.not_mem_nil⟩⟩⟩⟩⟩⟩⟩⟩⟩⟩⟩⟩⟩⟩⟩⟩
theorem lw_p16 : lw_okq (⟨"PlatesSing$Turns", "noteFound", "(I)V"⟩, 6) := ⟨⟨by decide +kernel, by decide +kernel⟩, List.mem_of_getElem? (i := 188) (by decide +kernel), List.mem_of_getElem? (i := 738) (by decide +kernel), List.mem_of_getElem? (i := 739) (by decide +kernel)⟩
theorem lw_p17 : lw_okq (⟨"PlatesSing$Turns", "keepsPieces", "(II)Z"⟩, 6) := ⟨⟨by decide +kernel, by decide +kernel⟩, List.mem_of_getElem? (i := 188) (by decide +kernel), List.mem_of_getElem? (i := 745) (by decide +kernel), List.mem_of_getElem? (i := 746) (by decide +kernel)⟩
theorem lw_p18 : lw_okq (⟨"PlatesSing$Net", "divisor", "()J"⟩, 12) := ⟨⟨by decide +kernel, by decide +kernel⟩, List.mem_of_getElem? (i := 138) (by decide +kernel), List.mem_of_getElem? (i := 769) (by decide +kernel), List.mem_of_getElem? (i := 770) (by decide +kernel)⟩
theorem lw_p19 : lw_okq (⟨"PlatesSing", "planned", "()LPlatesSing$Shape;"⟩, 14) := ⟨⟨by decide +kernel, by decide +kernel⟩, List.mem_of_getElem? (i := 19) (by decide +kernel), List.mem_of_getElem? (i := 789) (by decide +kernel), List.mem_of_getElem? (i := 790) (by decide +kernel)⟩
theorem lw_p20 : lw_okq (⟨"PlatesSing$Plan", "extend", "(LPlatesSing$Shape;LPlatesSing$Net;IIII)V"⟩, 13) := ⟨⟨by decide +kernel, by decide +kernel⟩, List.mem_of_getElem? (i := 218) (by decide +kernel), List.mem_of_getElem? (i := 827) (by decide +kernel), List.mem_of_getElem? (i := 828) (by decide +kernel)⟩
theorem lw_p21 : lw_okq (⟨"PlatesSing$Plan", "compare", "(LPlatesSing$Shape;LPlatesSing$Net;II)V"⟩, 13) := ⟨⟨by decide +kernel, by decide +kernel⟩, List.mem_of_getElem? (i := 218) (by decide +kernel), List.mem_of_getElem? (i := 831) (by decide +kernel), List.mem_of_getElem? (i := 832) (by decide +kernel)⟩
theorem lw_p22 : lw_okq (⟨"PlatesSing$Hearing", "tryNet", "(LPlatesSing$Net;IIII)V"⟩, 6) := ⟨⟨by decide +kernel, by decide +kernel⟩, List.mem_of_getElem? (i := 270) (by decide +kernel), List.mem_of_getElem? (i := 865) (by decide +kernel), List.mem_of_getElem? (i := 866) (by decide +kernel)⟩
theorem lw_p23 : lw_okq (⟨"PlatesSing$Blows", "pull", "(LPlatesSing$Net;I)V"⟩, 11) := ⟨⟨by decide +kernel, by decide +kernel⟩, List.mem_of_getElem? (i := 299) (by decide +kernel), List.mem_of_getElem? (i := 916) (by decide +kernel), List.mem_of_getElem? (i := 917) (by decide +kernel)⟩
theorem lw_p24 : lw_okq (⟨"PlatesSing$Shelves", "present", "(II)J"⟩, 4) := ⟨⟨by decide +kernel, by decide +kernel⟩, List.mem_of_getElem? (i := 422) (by decide +kernel), List.mem_of_getElem? (i := 1000) (by decide +kernel), List.mem_of_getElem? (i := 1001) (by decide +kernel)⟩
theorem lw_p25 : lw_okq (⟨"PlatesSing$Ratios", "fit", "(IIII)Z"⟩, 4) := ⟨⟨by decide +kernel, by decide +kernel⟩, List.mem_of_getElem? (i := 343) (by decide +kernel), List.mem_of_getElem? (i := 1043) (by decide +kernel), List.mem_of_getElem? (i := 1044) (by decide +kernel)⟩
theorem lw_p26 : lw_okq (⟨"PlatesSing$Ratios", "allFit", "(III)Z"⟩, 4) := ⟨⟨by decide +kernel, by decide +kernel⟩, List.mem_of_getElem? (i := 343) (by decide +kernel), List.mem_of_getElem? (i := 1058) (by decide +kernel), List.mem_of_getElem? (i := 1059) (by decide +kernel)⟩
theorem lw_p27 : lw_okq (⟨"PlatesSing", "under", "(LPlatesSing$Shape;I)I"⟩, 14) := ⟨⟨by decide +kernel, by decide +kernel⟩, List.mem_of_getElem? (i := 19) (by decide +kernel), List.mem_of_getElem? (i := 1081) (by decide +kernel), List.mem_of_getElem? (i := 1082) (by decide +kernel)⟩
theorem lw_p28 : lw_okq (⟨"PlatesSing", "isBody", "(I)Z"⟩, 14) := ⟨⟨by decide +kernel, by decide +kernel⟩, List.mem_of_getElem? (i := 19) (by decide +kernel), List.mem_of_getElem? (i := 1121) (by decide +kernel), List.mem_of_getElem? (i := 1122) (by decide +kernel)⟩
theorem lw_p29 : lw_okq (⟨"PlatesSing$Parts", "begin", "(I)V"⟩, 5) := ⟨⟨by decide +kernel, by decide +kernel⟩, List.mem_of_getElem? (i := 395) (by decide +kernel), List.mem_of_getElem? (i := 1133) (by decide +kernel), List.mem_of_getElem? (i := 1134) (by decide +kernel)⟩
theorem lw_p30 : lw_okq (⟨"PlatesSing$Parts", "stiffOf", "(I)I"⟩, 5) := ⟨⟨by decide +kernel, by decide +kernel⟩, List.mem_of_getElem? (i := 395) (by decide +kernel), List.mem_of_getElem? (i := 1137) (by decide +kernel), List.mem_of_getElem? (i := 1138) (by decide +kernel)⟩
theorem lw_p31 : lw_okq (⟨"PlatesSingModel", "readShape", "()V"⟩, 94) := ⟨⟨by decide +kernel, by decide +kernel⟩, List.mem_of_getElem? (i := 1207) (by decide +kernel), List.mem_of_getElem? (i := 1508) (by decide +kernel), List.mem_of_getElem? (i := 1509) (by decide +kernel)⟩
def lw_privs_2 : List (MethodName × Nat) := [(⟨"PlatesSing$Turns", "noteFound", "(I)V"⟩, 6), (⟨"PlatesSing$Turns", "keepsPieces", "(II)Z"⟩, 6), (⟨"PlatesSing$Net", "divisor", "()J"⟩, 12), (⟨"PlatesSing", "planned", "()LPlatesSing$Shape;"⟩, 14), (⟨"PlatesSing$Plan", "extend", "(LPlatesSing$Shape;LPlatesSing$Net;IIII)V"⟩, 13), (⟨"PlatesSing$Plan", "compare", "(LPlatesSing$Shape;LPlatesSing$Net;II)V"⟩, 13), (⟨"PlatesSing$Hearing", "tryNet", "(LPlatesSing$Net;IIII)V"⟩, 6), (⟨"PlatesSing$Blows", "pull", "(LPlatesSing$Net;I)V"⟩, 11), (⟨"PlatesSing$Shelves", "present", "(II)J"⟩, 4), (⟨"PlatesSing$Ratios", "fit", "(IIII)Z"⟩, 4), (⟨"PlatesSing$Ratios", "allFit", "(III)Z"⟩, 4), (⟨"PlatesSing", "under", "(LPlatesSing$Shape;I)I"⟩, 14), (⟨"PlatesSing", "isBody", "(I)Z"⟩, 14), (⟨"PlatesSing$Parts", "begin", "(I)V"⟩, 5), (⟨"PlatesSing$Parts", "stiffOf", "(I)I"⟩, 5), (⟨"PlatesSingModel", "readShape", "()V"⟩, 94)]
theorem lw_r2 : ∀ q ∈ lw_privs_2, lw_okq q := List.forall_mem_cons.mpr ⟨lw_p16, List.forall_mem_cons.mpr ⟨lw_p17, List.forall_mem_cons.mpr ⟨lw_p18, List.forall_mem_cons.mpr ⟨lw_p19, List.forall_mem_cons.mpr ⟨lw_p20, List.forall_mem_cons.mpr ⟨lw_p21, List.forall_mem_cons.mpr ⟨lw_p22, List.forall_mem_cons.mpr ⟨lw_p23, List.forall_mem_cons.mpr ⟨lw_p24, List.forall_mem_cons.mpr ⟨lw_p25, List.forall_mem_cons.mpr ⟨lw_p26, List.forall_mem_cons.mpr ⟨lw_p27, List.forall_mem_cons.mpr ⟨lw_p28, List.forall_mem_cons.mpr ⟨lw_p29, List.forall_mem_cons.mpr ⟨lw_p30, List.forall_mem_cons.mpr ⟨lw_p31, fun _ h => absurd h List.not_mem_nil⟩⟩⟩⟩⟩⟩⟩⟩⟩⟩⟩⟩⟩⟩⟩⟩
theorem lw_p32 : lw_okq (⟨"PlatesSingModel", "clear", "(I)V"⟩, 94) := ⟨⟨by decide +kernel, by decide +kernel⟩, List.mem_of_getElem? (i := 1207) (by decide +kernel), List.mem_of_getElem? (i := 1512) (by decide +kernel), List.mem_of_getElem? (i := 1513) (by decide +kernel)⟩
theorem lw_p33 : lw_okq (⟨"PlatesSingModel", "look", "()I"⟩, 94) := ⟨⟨by decide +kernel, by decide +kernel⟩, List.mem_of_getElem? (i := 1207) (by decide +kernel), List.mem_of_getElem? (i := 1516) (by decide +kernel), List.mem_of_getElem? (i := 1517) (by decide +kernel)⟩
theorem lw_p34 : lw_okq (⟨"PlatesSingModel", "wrong", "()V"⟩, 94) := ⟨⟨by decide +kernel, by decide +kernel⟩, List.mem_of_getElem? (i := 1207) (by decide +kernel), List.mem_of_getElem? (i := 1520) (by decide +kernel), List.mem_of_getElem? (i := 1521) (by decide +kernel)⟩
theorem lw_p35 : lw_okq (⟨"PlatesSingModel", "isDigit", "()Z"⟩, 94) := ⟨⟨by decide +kernel, by decide +kernel⟩, List.mem_of_getElem? (i := 1207) (by decide +kernel), List.mem_of_getElem? (i := 1524) (by decide +kernel), List.mem_of_getElem? (i := 1525) (by decide +kernel)⟩
theorem lw_p36 : lw_okq (⟨"PlatesSingModel", "digit", "()I"⟩, 94) := ⟨⟨by decide +kernel, by decide +kernel⟩, List.mem_of_getElem? (i := 1207) (by decide +kernel), List.mem_of_getElem? (i := 1528) (by decide +kernel), List.mem_of_getElem? (i := 1529) (by decide +kernel)⟩
theorem lw_p37 : lw_okq (⟨"PlatesSingModel", "readPart", "()V"⟩, 94) := ⟨⟨by decide +kernel, by decide +kernel⟩, List.mem_of_getElem? (i := 1207) (by decide +kernel), List.mem_of_getElem? (i := 1532) (by decide +kernel), List.mem_of_getElem? (i := 1533) (by decide +kernel)⟩
theorem lw_p38 : lw_okq (⟨"PlatesSingModel", "readPiece", "()V"⟩, 94) := ⟨⟨by decide +kernel, by decide +kernel⟩, List.mem_of_getElem? (i := 1207) (by decide +kernel), List.mem_of_getElem? (i := 1536) (by decide +kernel), List.mem_of_getElem? (i := 1537) (by decide +kernel)⟩
theorem lw_p39 : lw_okq (⟨"PlatesSingModel", "letter", "()I"⟩, 94) := ⟨⟨by decide +kernel, by decide +kernel⟩, List.mem_of_getElem? (i := 1207) (by decide +kernel), List.mem_of_getElem? (i := 1540) (by decide +kernel), List.mem_of_getElem? (i := 1541) (by decide +kernel)⟩
theorem lw_p40 : lw_okq (⟨"PlatesSingModel", "isCorner", "(II)Z"⟩, 94) := ⟨⟨by decide +kernel, by decide +kernel⟩, List.mem_of_getElem? (i := 1207) (by decide +kernel), List.mem_of_getElem? (i := 1544) (by decide +kernel), List.mem_of_getElem? (i := 1545) (by decide +kernel)⟩
theorem lw_p41 : lw_okq (⟨"PlatesSingModel", "hasPiece", "(III)Z"⟩, 94) := ⟨⟨by decide +kernel, by decide +kernel⟩, List.mem_of_getElem? (i := 1207) (by decide +kernel), List.mem_of_getElem? (i := 1548) (by decide +kernel), List.mem_of_getElem? (i := 1549) (by decide +kernel)⟩
theorem lw_p42 : lw_okq (⟨"PlatesSingModel", "setPiece", "(IIIIII)V"⟩, 94) := ⟨⟨by decide +kernel, by decide +kernel⟩, List.mem_of_getElem? (i := 1207) (by decide +kernel), List.mem_of_getElem? (i := 1555) (by decide +kernel), List.mem_of_getElem? (i := 1556) (by decide +kernel)⟩
theorem lw_p43 : lw_okq (⟨"PlatesSingModel", "bear", "(III)V"⟩, 94) := ⟨⟨by decide +kernel, by decide +kernel⟩, List.mem_of_getElem? (i := 1207) (by decide +kernel), List.mem_of_getElem? (i := 1559) (by decide +kernel), List.mem_of_getElem? (i := 1560) (by decide +kernel)⟩
theorem lw_p44 : lw_okq (⟨"PlatesSingModel", "isShape", "(I)Z"⟩, 94) := ⟨⟨by decide +kernel, by decide +kernel⟩, List.mem_of_getElem? (i := 1207) (by decide +kernel), List.mem_of_getElem? (i := 1567) (by decide +kernel), List.mem_of_getElem? (i := 1568) (by decide +kernel)⟩
theorem lw_p45 : lw_okq (⟨"PlatesSingModel", "piecesOf", "(I)I"⟩, 94) := ⟨⟨by decide +kernel, by decide +kernel⟩, List.mem_of_getElem? (i := 1207) (by decide +kernel), List.mem_of_getElem? (i := 1572) (by decide +kernel), List.mem_of_getElem? (i := 1573) (by decide +kernel)⟩
theorem lw_p46 : lw_okq (⟨"PlatesSingModel", "tonesOf", "(I)I"⟩, 94) := ⟨⟨by decide +kernel, by decide +kernel⟩, List.mem_of_getElem? (i := 1207) (by decide +kernel), List.mem_of_getElem? (i := 1576) (by decide +kernel), List.mem_of_getElem? (i := 1577) (by decide +kernel)⟩
theorem lw_p47 : lw_okq (⟨"PlatesSingModel", "kept", "(IIIII)V"⟩, 94) := ⟨⟨by decide +kernel, by decide +kernel⟩, List.mem_of_getElem? (i := 1207) (by decide +kernel), List.mem_of_getElem? (i := 1588) (by decide +kernel), List.mem_of_getElem? (i := 1589) (by decide +kernel)⟩
def lw_privs_3 : List (MethodName × Nat) := [(⟨"PlatesSingModel", "clear", "(I)V"⟩, 94), (⟨"PlatesSingModel", "look", "()I"⟩, 94), (⟨"PlatesSingModel", "wrong", "()V"⟩, 94), (⟨"PlatesSingModel", "isDigit", "()Z"⟩, 94), (⟨"PlatesSingModel", "digit", "()I"⟩, 94), (⟨"PlatesSingModel", "readPart", "()V"⟩, 94), (⟨"PlatesSingModel", "readPiece", "()V"⟩, 94), (⟨"PlatesSingModel", "letter", "()I"⟩, 94), (⟨"PlatesSingModel", "isCorner", "(II)Z"⟩, 94), (⟨"PlatesSingModel", "hasPiece", "(III)Z"⟩, 94), (⟨"PlatesSingModel", "setPiece", "(IIIIII)V"⟩, 94), (⟨"PlatesSingModel", "bear", "(III)V"⟩, 94), (⟨"PlatesSingModel", "isShape", "(I)Z"⟩, 94), (⟨"PlatesSingModel", "piecesOf", "(I)I"⟩, 94), (⟨"PlatesSingModel", "tonesOf", "(I)I"⟩, 94), (⟨"PlatesSingModel", "kept", "(IIIII)V"⟩, 94)]
theorem lw_r3 : ∀ q ∈ lw_privs_3, lw_okq q := List.forall_mem_cons.mpr ⟨lw_p32, List.forall_mem_cons.mpr ⟨lw_p33, List.forall_mem_cons.mpr ⟨lw_p34, List.forall_mem_cons.mpr ⟨lw_p35, List.forall_mem_cons.mpr ⟨lw_p36, List.forall_mem_cons.mpr ⟨lw_p37, List.forall_mem_cons.mpr ⟨lw_p38, List.forall_mem_cons.mpr ⟨lw_p39, List.forall_mem_cons.mpr ⟨lw_p40, List.forall_mem_cons.mpr ⟨lw_p41, List.forall_mem_cons.mpr ⟨lw_p42, List.forall_mem_cons.mpr ⟨lw_p43, List.forall_mem_cons.mpr ⟨lw_p44, List.forall_mem_cons.mpr ⟨lw_p45, List.forall_mem_cons.mpr ⟨lw_p46, List.forall_mem_cons.mpr ⟨lw_p47, fun _ h => absurd h List.not_mem_nil⟩⟩⟩⟩⟩⟩⟩⟩⟩⟩⟩⟩⟩⟩⟩⟩
theorem lw_p48 : lw_okq (⟨"PlatesSingModel", "set", "(IIII)V"⟩, 94) := ⟨⟨by decide +kernel, by decide +kernel⟩, List.mem_of_getElem? (i := 1207) (by decide +kernel), List.mem_of_getElem? (i := 1592) (by decide +kernel), List.mem_of_getElem? (i := 1593) (by decide +kernel)⟩
theorem lw_p49 : lw_okq (⟨"PlatesSingModel", "setStiff", "(III)V"⟩, 94) := ⟨⟨by decide +kernel, by decide +kernel⟩, List.mem_of_getElem? (i := 1207) (by decide +kernel), List.mem_of_getElem? (i := 1596) (by decide +kernel), List.mem_of_getElem? (i := 1597) (by decide +kernel)⟩
theorem lw_p50 : lw_okq (⟨"PlatesSingModel", "take", "(I)V"⟩, 94) := ⟨⟨by decide +kernel, by decide +kernel⟩, List.mem_of_getElem? (i := 1207) (by decide +kernel), List.mem_of_getElem? (i := 1633) (by decide +kernel), List.mem_of_getElem? (i := 1634) (by decide +kernel)⟩
theorem lw_p51 : lw_okq (⟨"PlatesSingModel", "changes", "(II)I"⟩, 94) := ⟨⟨by decide +kernel, by decide +kernel⟩, List.mem_of_getElem? (i := 1207) (by decide +kernel), List.mem_of_getElem? (i := 1640) (by decide +kernel), List.mem_of_getElem? (i := 1641) (by decide +kernel)⟩
theorem lw_p52 : lw_okq (⟨"PlatesSingModel", "findSums", "(II)V"⟩, 94) := ⟨⟨by decide +kernel, by decide +kernel⟩, List.mem_of_getElem? (i := 1207) (by decide +kernel), List.mem_of_getElem? (i := 1644) (by decide +kernel), List.mem_of_getElem? (i := 1645) (by decide +kernel)⟩
theorem lw_p53 : lw_okq (⟨"PlatesSingModel", "layMatrix", "(II)V"⟩, 94) := ⟨⟨by decide +kernel, by decide +kernel⟩, List.mem_of_getElem? (i := 1207) (by decide +kernel), List.mem_of_getElem? (i := 1648) (by decide +kernel), List.mem_of_getElem? (i := 1649) (by decide +kernel)⟩
theorem lw_p54 : lw_okq (⟨"PlatesSingModel", "minor", "(II)J"⟩, 94) := ⟨⟨by decide +kernel, by decide +kernel⟩, List.mem_of_getElem? (i := 1207) (by decide +kernel), List.mem_of_getElem? (i := 1655) (by decide +kernel), List.mem_of_getElem? (i := 1656) (by decide +kernel)⟩
theorem lw_p55 : lw_okq (⟨"PlatesSingModel", "atMark", "(II)I"⟩, 94) := ⟨⟨by decide +kernel, by decide +kernel⟩, List.mem_of_getElem? (i := 1207) (by decide +kernel), List.mem_of_getElem? (i := 1659) (by decide +kernel), List.mem_of_getElem? (i := 1660) (by decide +kernel)⟩
theorem lw_p56 : lw_okq (⟨"PlatesSingModel", "shutNow", "(II)I"⟩, 94) := ⟨⟨by decide +kernel, by decide +kernel⟩, List.mem_of_getElem? (i := 1207) (by decide +kernel), List.mem_of_getElem? (i := 1672) (by decide +kernel), List.mem_of_getElem? (i := 1673) (by decide +kernel)⟩
theorem lw_p57 : lw_okq (⟨"PlatesSingModel", "forgetChanges", "()V"⟩, 94) := ⟨⟨by decide +kernel, by decide +kernel⟩, List.mem_of_getElem? (i := 1207) (by decide +kernel), List.mem_of_getElem? (i := 1676) (by decide +kernel), List.mem_of_getElem? (i := 1677) (by decide +kernel)⟩
theorem lw_p58 : lw_okq (⟨"PlatesSingModel", "shutOf", "(II)I"⟩, 94) := ⟨⟨by decide +kernel, by decide +kernel⟩, List.mem_of_getElem? (i := 1207) (by decide +kernel), List.mem_of_getElem? (i := 1680) (by decide +kernel), List.mem_of_getElem? (i := 1681) (by decide +kernel)⟩
theorem lw_p59 : lw_okq (⟨"PlatesSingModel", "setCount", "(III)V"⟩, 94) := ⟨⟨by decide +kernel, by decide +kernel⟩, List.mem_of_getElem? (i := 1207) (by decide +kernel), List.mem_of_getElem? (i := 1700) (by decide +kernel), List.mem_of_getElem? (i := 1701) (by decide +kernel)⟩
theorem lw_p60 : lw_okq (⟨"PlatesSingModel", "findTurns", "(III)V"⟩, 94) := ⟨⟨by decide +kernel, by decide +kernel⟩, List.mem_of_getElem? (i := 1207) (by decide +kernel), List.mem_of_getElem? (i := 1708) (by decide +kernel), List.mem_of_getElem? (i := 1709) (by decide +kernel)⟩
theorem lw_p61 : lw_okq (⟨"PlatesSingModel", "turnOn", "(IIII)V"⟩, 94) := ⟨⟨by decide +kernel, by decide +kernel⟩, List.mem_of_getElem? (i := 1207) (by decide +kernel), List.mem_of_getElem? (i := 1712) (by decide +kernel), List.mem_of_getElem? (i := 1713) (by decide +kernel)⟩
theorem lw_p62 : lw_okq (⟨"PlatesSingModel", "areLike", "(IIII)Z"⟩, 94) := ⟨⟨by decide +kernel, by decide +kernel⟩, List.mem_of_getElem? (i := 1207) (by decide +kernel), List.mem_of_getElem? (i := 1716) (by decide +kernel), List.mem_of_getElem? (i := 1717) (by decide +kernel)⟩
theorem lw_p63 : lw_okq (⟨"PlatesSingModel", "countBetween", "(III)I"⟩, 94) := ⟨⟨by decide +kernel, by decide +kernel⟩, List.mem_of_getElem? (i := 1207) (by decide +kernel), List.mem_of_getElem? (i := 1720) (by decide +kernel), List.mem_of_getElem? (i := 1721) (by decide +kernel)⟩
def lw_privs_4 : List (MethodName × Nat) := [(⟨"PlatesSingModel", "set", "(IIII)V"⟩, 94), (⟨"PlatesSingModel", "setStiff", "(III)V"⟩, 94), (⟨"PlatesSingModel", "take", "(I)V"⟩, 94), (⟨"PlatesSingModel", "changes", "(II)I"⟩, 94), (⟨"PlatesSingModel", "findSums", "(II)V"⟩, 94), (⟨"PlatesSingModel", "layMatrix", "(II)V"⟩, 94), (⟨"PlatesSingModel", "minor", "(II)J"⟩, 94), (⟨"PlatesSingModel", "atMark", "(II)I"⟩, 94), (⟨"PlatesSingModel", "shutNow", "(II)I"⟩, 94), (⟨"PlatesSingModel", "forgetChanges", "()V"⟩, 94), (⟨"PlatesSingModel", "shutOf", "(II)I"⟩, 94), (⟨"PlatesSingModel", "setCount", "(III)V"⟩, 94), (⟨"PlatesSingModel", "findTurns", "(III)V"⟩, 94), (⟨"PlatesSingModel", "turnOn", "(IIII)V"⟩, 94), (⟨"PlatesSingModel", "areLike", "(IIII)Z"⟩, 94), (⟨"PlatesSingModel", "countBetween", "(III)I"⟩, 94)]
theorem lw_r4 : ∀ q ∈ lw_privs_4, lw_okq q := List.forall_mem_cons.mpr ⟨lw_p48, List.forall_mem_cons.mpr ⟨lw_p49, List.forall_mem_cons.mpr ⟨lw_p50, List.forall_mem_cons.mpr ⟨lw_p51, List.forall_mem_cons.mpr ⟨lw_p52, List.forall_mem_cons.mpr ⟨lw_p53, List.forall_mem_cons.mpr ⟨lw_p54, List.forall_mem_cons.mpr ⟨lw_p55, List.forall_mem_cons.mpr ⟨lw_p56, List.forall_mem_cons.mpr ⟨lw_p57, List.forall_mem_cons.mpr ⟨lw_p58, List.forall_mem_cons.mpr ⟨lw_p59, List.forall_mem_cons.mpr ⟨lw_p60, List.forall_mem_cons.mpr ⟨lw_p61, List.forall_mem_cons.mpr ⟨lw_p62, List.forall_mem_cons.mpr ⟨lw_p63, fun _ h => absurd h List.not_mem_nil⟩⟩⟩⟩⟩⟩⟩⟩⟩⟩⟩⟩⟩⟩⟩⟩
theorem lw_p64 : lw_okq (⟨"PlatesSingModel", "tableOf", "(II)I"⟩, 94) := ⟨⟨by decide +kernel, by decide +kernel⟩, List.mem_of_getElem? (i := 1207) (by decide +kernel), List.mem_of_getElem? (i := 1732) (by decide +kernel), List.mem_of_getElem? (i := 1733) (by decide +kernel)⟩
theorem lw_p65 : lw_okq (⟨"PlatesSingModel", "soundAlike", "(II)Z"⟩, 94) := ⟨⟨by decide +kernel, by decide +kernel⟩, List.mem_of_getElem? (i := 1207) (by decide +kernel), List.mem_of_getElem? (i := 1740) (by decide +kernel), List.mem_of_getElem? (i := 1741) (by decide +kernel)⟩
theorem lw_p66 : lw_okq (⟨"PlatesSingModel", "lastSum", "(II)J"⟩, 94) := ⟨⟨by decide +kernel, by decide +kernel⟩, List.mem_of_getElem? (i := 1207) (by decide +kernel), List.mem_of_getElem? (i := 1744) (by decide +kernel), List.mem_of_getElem? (i := 1745) (by decide +kernel)⟩
theorem lw_p67 : lw_okq (⟨"PlatesSingModel", "divisor", "(I)J"⟩, 94) := ⟨⟨by decide +kernel, by decide +kernel⟩, List.mem_of_getElem? (i := 1207) (by decide +kernel), List.mem_of_getElem? (i := 1748) (by decide +kernel), List.mem_of_getElem? (i := 1749) (by decide +kernel)⟩
theorem lw_p68 : lw_okq (⟨"PlatesSingModel", "struck", "(II)Z"⟩, 94) := ⟨⟨by decide +kernel, by decide +kernel⟩, List.mem_of_getElem? (i := 1207) (by decide +kernel), List.mem_of_getElem? (i := 1764) (by decide +kernel), List.mem_of_getElem? (i := 1765) (by decide +kernel)⟩
theorem lw_p69 : lw_okq (⟨"PlatesSingModel", "tuneOn", "(II)V"⟩, 94) := ⟨⟨by decide +kernel, by decide +kernel⟩, List.mem_of_getElem? (i := 1207) (by decide +kernel), List.mem_of_getElem? (i := 1772) (by decide +kernel), List.mem_of_getElem? (i := 1773) (by decide +kernel)⟩
theorem lw_p70 : lw_okq (⟨"PlatesSingModel", "lacks", "()I"⟩, 94) := ⟨⟨by decide +kernel, by decide +kernel⟩, List.mem_of_getElem? (i := 1207) (by decide +kernel), List.mem_of_getElem? (i := 1776) (by decide +kernel), List.mem_of_getElem? (i := 1777) (by decide +kernel)⟩
theorem lw_p71 : lw_okq (⟨"PlatesSingModel", "digitsOf", "()I"⟩, 94) := ⟨⟨by decide +kernel, by decide +kernel⟩, List.mem_of_getElem? (i := 1207) (by decide +kernel), List.mem_of_getElem? (i := 1783) (by decide +kernel), List.mem_of_getElem? (i := 1784) (by decide +kernel)⟩
theorem lw_p72 : lw_okq (⟨"PlatesSingModel", "findFits", "(II)V"⟩, 94) := ⟨⟨by decide +kernel, by decide +kernel⟩, List.mem_of_getElem? (i := 1207) (by decide +kernel), List.mem_of_getElem? (i := 1803) (by decide +kernel), List.mem_of_getElem? (i := 1804) (by decide +kernel)⟩
theorem lw_p73 : lw_okq (⟨"PlatesSingModel", "tryFit", "(IIII)V"⟩, 94) := ⟨⟨by decide +kernel, by decide +kernel⟩, List.mem_of_getElem? (i := 1207) (by decide +kernel), List.mem_of_getElem? (i := 1807) (by decide +kernel), List.mem_of_getElem? (i := 1808) (by decide +kernel)⟩
theorem lw_p74 : lw_okq (⟨"PlatesSingModel", "begin", "(I)V"⟩, 94) := ⟨⟨by decide +kernel, by decide +kernel⟩, List.mem_of_getElem? (i := 1207) (by decide +kernel), List.mem_of_getElem? (i := 1830) (by decide +kernel), List.mem_of_getElem? (i := 1831) (by decide +kernel)⟩
theorem lw_p75 : lw_okq (⟨"PlatesSingModel", "step", "()I"⟩, 94) := ⟨⟨by decide +kernel, by decide +kernel⟩, List.mem_of_getElem? (i := 1207) (by decide +kernel), List.mem_of_getElem? (i := 1834) (by decide +kernel), List.mem_of_getElem? (i := 1835) (by decide +kernel)⟩
theorem lw_p76 : lw_okq (⟨"PlatesSingModel", "isWhole", "(I)Z"⟩, 94) := ⟨⟨by decide +kernel, by decide +kernel⟩, List.mem_of_getElem? (i := 1207) (by decide +kernel), List.mem_of_getElem? (i := 1861) (by decide +kernel), List.mem_of_getElem? (i := 1862) (by decide +kernel)⟩
theorem lw_p77 : lw_okq (⟨"PlatesSingModel", "whyNoRow", "(I)I"⟩, 94) := ⟨⟨by decide +kernel, by decide +kernel⟩, List.mem_of_getElem? (i := 1207) (by decide +kernel), List.mem_of_getElem? (i := 1873) (by decide +kernel), List.mem_of_getElem? (i := 1874) (by decide +kernel)⟩
theorem lw_p78 : lw_okq (⟨"PlatesSingModel", "loudnessOf", "(II)J"⟩, 94) := ⟨⟨by decide +kernel, by decide +kernel⟩, List.mem_of_getElem? (i := 1207) (by decide +kernel), List.mem_of_getElem? (i := 1877) (by decide +kernel), List.mem_of_getElem? (i := 1878) (by decide +kernel)⟩
theorem lw_p79 : lw_okq (⟨"PlatesSingModel", "heardIn", "(II)J"⟩, 94) := ⟨⟨by decide +kernel, by decide +kernel⟩, List.mem_of_getElem? (i := 1207) (by decide +kernel), List.mem_of_getElem? (i := 1881) (by decide +kernel), List.mem_of_getElem? (i := 1882) (by decide +kernel)⟩
def lw_privs_5 : List (MethodName × Nat) := [(⟨"PlatesSingModel", "tableOf", "(II)I"⟩, 94), (⟨"PlatesSingModel", "soundAlike", "(II)Z"⟩, 94), (⟨"PlatesSingModel", "lastSum", "(II)J"⟩, 94), (⟨"PlatesSingModel", "divisor", "(I)J"⟩, 94), (⟨"PlatesSingModel", "struck", "(II)Z"⟩, 94), (⟨"PlatesSingModel", "tuneOn", "(II)V"⟩, 94), (⟨"PlatesSingModel", "lacks", "()I"⟩, 94), (⟨"PlatesSingModel", "digitsOf", "()I"⟩, 94), (⟨"PlatesSingModel", "findFits", "(II)V"⟩, 94), (⟨"PlatesSingModel", "tryFit", "(IIII)V"⟩, 94), (⟨"PlatesSingModel", "begin", "(I)V"⟩, 94), (⟨"PlatesSingModel", "step", "()I"⟩, 94), (⟨"PlatesSingModel", "isWhole", "(I)Z"⟩, 94), (⟨"PlatesSingModel", "whyNoRow", "(I)I"⟩, 94), (⟨"PlatesSingModel", "loudnessOf", "(II)J"⟩, 94), (⟨"PlatesSingModel", "heardIn", "(II)J"⟩, 94)]
theorem lw_r5 : ∀ q ∈ lw_privs_5, lw_okq q := List.forall_mem_cons.mpr ⟨lw_p64, List.forall_mem_cons.mpr ⟨lw_p65, List.forall_mem_cons.mpr ⟨lw_p66, List.forall_mem_cons.mpr ⟨lw_p67, List.forall_mem_cons.mpr ⟨lw_p68, List.forall_mem_cons.mpr ⟨lw_p69, List.forall_mem_cons.mpr ⟨lw_p70, List.forall_mem_cons.mpr ⟨lw_p71, List.forall_mem_cons.mpr ⟨lw_p72, List.forall_mem_cons.mpr ⟨lw_p73, List.forall_mem_cons.mpr ⟨lw_p74, List.forall_mem_cons.mpr ⟨lw_p75, List.forall_mem_cons.mpr ⟨lw_p76, List.forall_mem_cons.mpr ⟨lw_p77, List.forall_mem_cons.mpr ⟨lw_p78, List.forall_mem_cons.mpr ⟨lw_p79, fun _ h => absurd h List.not_mem_nil⟩⟩⟩⟩⟩⟩⟩⟩⟩⟩⟩⟩⟩⟩⟩⟩
theorem lw_p80 : lw_okq (⟨"PlatesSingModel", "doAgree", "(IIII)Z"⟩, 94) := ⟨⟨by decide +kernel, by decide +kernel⟩, List.mem_of_getElem? (i := 1207) (by decide +kernel), List.mem_of_getElem? (i := 1908) (by decide +kernel), List.mem_of_getElem? (i := 1909) (by decide +kernel)⟩
theorem lw_p81 : lw_okq (⟨"PlatesSingModel", "allAgree", "(III)Z"⟩, 94) := ⟨⟨by decide +kernel, by decide +kernel⟩, List.mem_of_getElem? (i := 1207) (by decide +kernel), List.mem_of_getElem? (i := 1912) (by decide +kernel), List.mem_of_getElem? (i := 1913) (by decide +kernel)⟩
theorem lw_p82 : lw_okq (⟨"PlatesSingModel", "copyCorners", "(III)V"⟩, 94) := ⟨⟨by decide +kernel, by decide +kernel⟩, List.mem_of_getElem? (i := 1207) (by decide +kernel), List.mem_of_getElem? (i := 1920) (by decide +kernel), List.mem_of_getElem? (i := 1921) (by decide +kernel)⟩
theorem lw_p83 : lw_okq (⟨"PlatesSingModel", "copyPieces", "(III)V"⟩, 94) := ⟨⟨by decide +kernel, by decide +kernel⟩, List.mem_of_getElem? (i := 1207) (by decide +kernel), List.mem_of_getElem? (i := 1924) (by decide +kernel), List.mem_of_getElem? (i := 1925) (by decide +kernel)⟩
theorem lw_p84 : lw_okq (⟨"PlatesSingModel", "changesOf", "(II)I"⟩, 94) := ⟨⟨by decide +kernel, by decide +kernel⟩, List.mem_of_getElem? (i := 1207) (by decide +kernel), List.mem_of_getElem? (i := 1932) (by decide +kernel), List.mem_of_getElem? (i := 1933) (by decide +kernel)⟩
theorem lw_p85 : lw_okq (⟨"PlatesSingModel", "isBody", "(I)Z"⟩, 94) := ⟨⟨by decide +kernel, by decide +kernel⟩, List.mem_of_getElem? (i := 1207) (by decide +kernel), List.mem_of_getElem? (i := 1944) (by decide +kernel), List.mem_of_getElem? (i := 1945) (by decide +kernel)⟩
theorem lw_p86 : lw_okq (⟨"PlatesSingModel", "stiffens", "(II)I"⟩, 94) := ⟨⟨by decide +kernel, by decide +kernel⟩, List.mem_of_getElem? (i := 1207) (by decide +kernel), List.mem_of_getElem? (i := 1948) (by decide +kernel), List.mem_of_getElem? (i := 1949) (by decide +kernel)⟩
theorem lw_p87 : lw_okq (⟨"PlatesSingModel", "ran", "(I)V"⟩, 94) := ⟨⟨by decide +kernel, by decide +kernel⟩, List.mem_of_getElem? (i := 1207) (by decide +kernel), List.mem_of_getElem? (i := 1955) (by decide +kernel), List.mem_of_getElem? (i := 1956) (by decide +kernel)⟩
theorem lw_p88 : lw_okq (⟨"PlatesSingModel", "pieceStiffens", "(II)I"⟩, 94) := ⟨⟨by decide +kernel, by decide +kernel⟩, List.mem_of_getElem? (i := 1207) (by decide +kernel), List.mem_of_getElem? (i := 1959) (by decide +kernel), List.mem_of_getElem? (i := 1960) (by decide +kernel)⟩
theorem lw_p89 : lw_okq (⟨"PlatesSingModel", "plainStiffens", "(II)I"⟩, 94) := ⟨⟨by decide +kernel, by decide +kernel⟩, List.mem_of_getElem? (i := 1207) (by decide +kernel), List.mem_of_getElem? (i := 1963) (by decide +kernel), List.mem_of_getElem? (i := 1964) (by decide +kernel)⟩
theorem lw_p90 : lw_okq (⟨"PlatesSingModel", "weighs", "(II)I"⟩, 94) := ⟨⟨by decide +kernel, by decide +kernel⟩, List.mem_of_getElem? (i := 1207) (by decide +kernel), List.mem_of_getElem? (i := 1967) (by decide +kernel), List.mem_of_getElem? (i := 1968) (by decide +kernel)⟩
theorem lw_p91 : lw_okq (⟨"PlatesSingModel", "plainWeighs", "(II)I"⟩, 94) := ⟨⟨by decide +kernel, by decide +kernel⟩, List.mem_of_getElem? (i := 1207) (by decide +kernel), List.mem_of_getElem? (i := 1971) (by decide +kernel), List.mem_of_getElem? (i := 1972) (by decide +kernel)⟩
theorem lw_p92 : lw_okq (⟨"PlatesSingModel", "sounds", "(II)I"⟩, 94) := ⟨⟨by decide +kernel, by decide +kernel⟩, List.mem_of_getElem? (i := 1207) (by decide +kernel), List.mem_of_getElem? (i := 1975) (by decide +kernel), List.mem_of_getElem? (i := 1976) (by decide +kernel)⟩
theorem lw_p93 : lw_okq (⟨"PlatesSingModel", "plainSounds", "(II)I"⟩, 94) := ⟨⟨by decide +kernel, by decide +kernel⟩, List.mem_of_getElem? (i := 1207) (by decide +kernel), List.mem_of_getElem? (i := 1979) (by decide +kernel), List.mem_of_getElem? (i := 1980) (by decide +kernel)⟩
theorem lw_p94 : lw_okq (⟨"PlatesSingModel", "tells", "(II)I"⟩, 94) := ⟨⟨by decide +kernel, by decide +kernel⟩, List.mem_of_getElem? (i := 1207) (by decide +kernel), List.mem_of_getElem? (i := 1983) (by decide +kernel), List.mem_of_getElem? (i := 1984) (by decide +kernel)⟩
theorem lw_p95 : lw_okq (⟨"PlatesSingModel", "crackedTells", "(II)I"⟩, 94) := ⟨⟨by decide +kernel, by decide +kernel⟩, List.mem_of_getElem? (i := 1207) (by decide +kernel), List.mem_of_getElem? (i := 1987) (by decide +kernel), List.mem_of_getElem? (i := 1988) (by decide +kernel)⟩
def lw_privs_6 : List (MethodName × Nat) := [(⟨"PlatesSingModel", "doAgree", "(IIII)Z"⟩, 94), (⟨"PlatesSingModel", "allAgree", "(III)Z"⟩, 94), (⟨"PlatesSingModel", "copyCorners", "(III)V"⟩, 94), (⟨"PlatesSingModel", "copyPieces", "(III)V"⟩, 94), (⟨"PlatesSingModel", "changesOf", "(II)I"⟩, 94), (⟨"PlatesSingModel", "isBody", "(I)Z"⟩, 94), (⟨"PlatesSingModel", "stiffens", "(II)I"⟩, 94), (⟨"PlatesSingModel", "ran", "(I)V"⟩, 94), (⟨"PlatesSingModel", "pieceStiffens", "(II)I"⟩, 94), (⟨"PlatesSingModel", "plainStiffens", "(II)I"⟩, 94), (⟨"PlatesSingModel", "weighs", "(II)I"⟩, 94), (⟨"PlatesSingModel", "plainWeighs", "(II)I"⟩, 94), (⟨"PlatesSingModel", "sounds", "(II)I"⟩, 94), (⟨"PlatesSingModel", "plainSounds", "(II)I"⟩, 94), (⟨"PlatesSingModel", "tells", "(II)I"⟩, 94), (⟨"PlatesSingModel", "crackedTells", "(II)I"⟩, 94)]
theorem lw_r6 : ∀ q ∈ lw_privs_6, lw_okq q := List.forall_mem_cons.mpr ⟨lw_p80, List.forall_mem_cons.mpr ⟨lw_p81, List.forall_mem_cons.mpr ⟨lw_p82, List.forall_mem_cons.mpr ⟨lw_p83, List.forall_mem_cons.mpr ⟨lw_p84, List.forall_mem_cons.mpr ⟨lw_p85, List.forall_mem_cons.mpr ⟨lw_p86, List.forall_mem_cons.mpr ⟨lw_p87, List.forall_mem_cons.mpr ⟨lw_p88, List.forall_mem_cons.mpr ⟨lw_p89, List.forall_mem_cons.mpr ⟨lw_p90, List.forall_mem_cons.mpr ⟨lw_p91, List.forall_mem_cons.mpr ⟨lw_p92, List.forall_mem_cons.mpr ⟨lw_p93, List.forall_mem_cons.mpr ⟨lw_p94, List.forall_mem_cons.mpr ⟨lw_p95, fun _ h => absurd h List.not_mem_nil⟩⟩⟩⟩⟩⟩⟩⟩⟩⟩⟩⟩⟩⟩⟩⟩
theorem lw_p96 : lw_okq (⟨"PlatesSingModel", "plainTells", "(II)I"⟩, 94) := ⟨⟨by decide +kernel, by decide +kernel⟩, List.mem_of_getElem? (i := 1207) (by decide +kernel), List.mem_of_getElem? (i := 1991) (by decide +kernel), List.mem_of_getElem? (i := 1992) (by decide +kernel)⟩
theorem lw_p97 : lw_okq (⟨"PlatesSingModel", "whyNoPlace", "(II)I"⟩, 94) := ⟨⟨by decide +kernel, by decide +kernel⟩, List.mem_of_getElem? (i := 1207) (by decide +kernel), List.mem_of_getElem? (i := 2015) (by decide +kernel), List.mem_of_getElem? (i := 2016) (by decide +kernel)⟩
def lw_privs_7 : List (MethodName × Nat) := [(⟨"PlatesSingModel", "plainTells", "(II)I"⟩, 94), (⟨"PlatesSingModel", "whyNoPlace", "(II)I"⟩, 94)]
theorem lw_r7 : ∀ q ∈ lw_privs_7, lw_okq q := List.forall_mem_cons.mpr ⟨lw_p96, List.forall_mem_cons.mpr ⟨lw_p97, fun _ h => absurd h List.not_mem_nil⟩⟩
def lw_privs : List (MethodName × Nat) := lw_privs_1 ++ (lw_privs_2 ++ (lw_privs_3 ++ (lw_privs_4 ++ (lw_privs_5 ++ (lw_privs_6 ++ (lw_privs_7))))))
def lw_tbl : List Cond := k2_sels lw_privs ++ tables_1
theorem lw_privs_ok : ∀ q ∈ lw_privs, lw_okq q := by
  show ∀ q ∈ lw_privs_1 ++ (lw_privs_2 ++ (lw_privs_3 ++ (lw_privs_4 ++ (lw_privs_5 ++ (lw_privs_6 ++ (lw_privs_7)))))), lw_okq q
  exact List.forall_mem_append.mpr ⟨lw_r1, List.forall_mem_append.mpr ⟨lw_r2, List.forall_mem_append.mpr ⟨lw_r3, List.forall_mem_append.mpr ⟨lw_r4, List.forall_mem_append.mpr ⟨lw_r5, List.forall_mem_append.mpr ⟨lw_r6, lw_r7⟩⟩⟩⟩⟩⟩
-- ===== end of PART A =====
end
section
def RX0 : String := "PlatesSing$Blows"
def TX0 : u_T := fun k => match k with
  | 0 => ("PlatesSing$Blows", "damp", "I", false)
  | 1 => ("PlatesSing$Blows", "ears", "[I", true)
  | 2 => ("PlatesSing$Blows", "steps", "I", false)
  | 3 => ("PlatesSing$Blows", "earsThen", "[I", true)
  | 4 => ("PlatesSing$Blows", "rows", "[I", true)
  | 5 => ("PlatesSing$Blows", "x", "[I", true)
  | 6 => ("PlatesSing$Blows", "u", "[I", true)
  | 7 => ("PlatesSing$Blows", "told", "I", false)
  | 8 => ("PlatesSing$Blows", "corner", "[I", true)
  | 9 => ("PlatesSing$Blows", "force", "[I", true)
  | _ => ("PlatesSing$Blows", "when", "[I", true)
def tyX0 : Nat → FieldType := fun k => match k with
  | 0 => .int
  | 1 => .array .int
  | 2 => .int
  | 3 => .array .int
  | 4 => .array .int
  | 5 => .array .int
  | 6 => .array .int
  | 7 => .int
  | 8 => .array .int
  | 9 => .array .int
  | _ => .array .int
abbrev wsX00 : List Cond := u_ws RX0 TX0 11
theorem nmX0 : ∀ a, a < 11 → ∀ b, b < 11 → a ≠ b → (TX0 a).2.1 ≠ (TX0 b).2.1 := by decide +kernel
theorem tyX0_ok : ∀ k, k < 11 → parseFieldDescriptor (TX0 k).2.2.1 = some (tyX0 k) := by decide +kernel
abbrev cX0_init : ByteArray := prog_2_method_1_code
def yX0_init : MethodName := ⟨RX0, "<init>", "()V"⟩
abbrev cX0_add : ByteArray := prog_2_method_2_code
def yX0_add : MethodName := ⟨RX0, "add", "(III)V"⟩
abbrev cX0_begin : ByteArray := prog_2_method_3_code
def yX0_begin : MethodName := ⟨RX0, "begin", "(LPlatesSing$Net;)V"⟩
abbrev cX0_push : ByteArray := prog_2_method_4_code
def yX0_push : MethodName := ⟨RX0, "push", "(LPlatesSing$Net;II)V"⟩
abbrev cX0_run : ByteArray := prog_2_method_5_code
def yX0_run : MethodName := ⟨RX0, "run", "(LPlatesSing$Net;II)I"⟩
abbrev cX0_pull : ByteArray := prog_2_method_6_code
def yX0_pull : MethodName := ⟨RX0, "pull", "(LPlatesSing$Net;I)V"⟩
abbrev cX0_wasAnywhere : ByteArray := prog_2_method_7_code
def yX0_wasAnywhere : MethodName := ⟨RX0, "wasAnywhere", "(I)Z"⟩
abbrev cX0_kept : ByteArray := prog_2_method_8_code
def yX0_kept : MethodName := ⟨RX0, "kept", "(II)I"⟩
abbrev cX0_loudest : ByteArray := prog_2_method_9_code
def yX0_loudest : MethodName := ⟨RX0, "loudest", "(I)I"⟩
abbrev cX0_diesAt : ByteArray := prog_2_method_10_code
def yX0_diesAt : MethodName := ⟨RX0, "diesAt", "(II)I"⟩
def RX1 : String := "PlatesSing$Hearing"
def TX1 : u_T := fun k => match k with
  | 0 => ("PlatesSing$Hearing", "told", "I", false)
  | 1 => ("PlatesSing$Hearing", "heard", "[I", true)
  | 2 => ("PlatesSing$Hearing", "fitting", "I", false)
  | 3 => ("PlatesSing$Hearing", "firstPiece", "I", false)
  | 4 => ("PlatesSing$Hearing", "firstCrack", "I", false)
  | _ => ("PlatesSing$Hearing", "alike", "[I", true)
def tyX1 : Nat → FieldType := fun k => match k with
  | 0 => .int
  | 1 => .array .int
  | 2 => .int
  | 3 => .int
  | 4 => .int
  | _ => .array .int
abbrev wsX10 : List Cond := u_ws RX1 TX1 6
theorem nmX1 : ∀ a, a < 6 → ∀ b, b < 6 → a ≠ b → (TX1 a).2.1 ≠ (TX1 b).2.1 := by decide +kernel
theorem tyX1_ok : ∀ k, k < 6 → parseFieldDescriptor (TX1 k).2.2.1 = some (tyX1 k) := by decide +kernel
abbrev cX1_init : ByteArray := prog_3_method_1_code
def yX1_init : MethodName := ⟨RX1, "<init>", "()V"⟩
abbrev cX1_add : ByteArray := prog_3_method_2_code
def yX1_add : MethodName := ⟨RX1, "add", "(I)V"⟩
abbrev cX1_search : ByteArray := prog_3_method_3_code
def yX1_search : MethodName := ⟨RX1, "search", "(LPlatesSing$Shape;LPlatesSing$Net;I)V"⟩
abbrev cX1_tryNet : ByteArray := prog_3_method_4_code
def yX1_tryNet : MethodName := ⟨RX1, "tryNet", "(LPlatesSing$Net;IIII)V"⟩
abbrev cX1_bestParting : ByteArray := prog_3_method_5_code
def yX1_bestParting : MethodName := ⟨RX1, "bestParting", "(I)I"⟩
def RX2 : String := "PlatesSing$History"
def TX2 : u_T := fun k => match k with
  | 0 => ("PlatesSing$History", "done", "I", false)
  | 1 => ("PlatesSing$History", "undone", "I", false)
  | 2 => ("PlatesSing$History", "shape", "[LPlatesSing$Shape;", true)
  | 3 => ("PlatesSing$History", "field", "[I", true)
  | 4 => ("PlatesSing$History", "at", "[I", true)
  | 5 => ("PlatesSing$History", "before", "[I", true)
  | _ => ("PlatesSing$History", "after", "[I", true)
def tyX2 : Nat → FieldType := fun k => match k with
  | 0 => .int
  | 1 => .int
  | 2 => .array (.object "PlatesSing$Shape")
  | 3 => .array .int
  | 4 => .array .int
  | 5 => .array .int
  | _ => .array .int
abbrev wsX20 : List Cond := u_ws RX2 TX2 7
theorem nmX2 : ∀ a, a < 7 → ∀ b, b < 7 → a ≠ b → (TX2 a).2.1 ≠ (TX2 b).2.1 := by decide +kernel
theorem tyX2_ok : ∀ k, k < 7 → parseFieldDescriptor (TX2 k).2.2.1 = some (tyX2 k) := by decide +kernel
abbrev cX2_init : ByteArray := prog_4_method_1_code
def yX2_init : MethodName := ⟨RX2, "<init>", "()V"⟩
abbrev cX2_add : ByteArray := prog_4_method_2_code
def yX2_add : MethodName := ⟨RX2, "add", "(LPlatesSing$Shape;IIII)V"⟩
abbrev cX2_dropOldest : ByteArray := prog_4_method_3_code
def yX2_dropOldest : MethodName := ⟨RX2, "dropOldest", "()V"⟩
abbrev cX2_takeBack : ByteArray := prog_4_method_4_code
def yX2_takeBack : MethodName := ⟨RX2, "takeBack", "()V"⟩
abbrev cX2_bringBack : ByteArray := prog_4_method_5_code
def yX2_bringBack : MethodName := ⟨RX2, "bringBack", "()V"⟩
def RX3 : String := "PlatesSing$Net"
def TX3 : u_T := fun k => match k with
  | 0 => ("PlatesSing$Net", "corners", "I", false)
  | 1 => ("PlatesSing$Net", "mass", "[I", true)
  | 2 => ("PlatesSing$Net", "pad", "[I", true)
  | 3 => ("PlatesSing$Net", "held", "[I", true)
  | 4 => ("PlatesSing$Net", "links", "[I", true)
  | 5 => ("PlatesSing$Net", "minors", "[J", true)
  | 6 => ("PlatesSing$Net", "free", "[I", true)
  | 7 => ("PlatesSing$Net", "rows", "I", false)
  | 8 => ("PlatesSing$Net", "matrix", "[J", true)
  | 9 => ("PlatesSing$Net", "factor", "[J", true)
  | 10 => ("PlatesSing$Net", "vector", "[J", true)
  | _ => ("PlatesSing$Net", "image", "[J", true)
def tyX3 : Nat → FieldType := fun k => match k with
  | 0 => .int
  | 1 => .array .int
  | 2 => .array .int
  | 3 => .array .int
  | 4 => .array .int
  | 5 => .array .long
  | 6 => .array .int
  | 7 => .int
  | 8 => .array .long
  | 9 => .array .long
  | 10 => .array .long
  | _ => .array .long
abbrev wsX30 : List Cond := u_ws RX3 TX3 12
theorem nmX3 : ∀ a, a < 12 → ∀ b, b < 12 → a ≠ b → (TX3 a).2.1 ≠ (TX3 b).2.1 := by decide +kernel
theorem tyX3_ok : ∀ k, k < 12 → parseFieldDescriptor (TX3 k).2.2.1 = some (tyX3 k) := by decide +kernel
abbrev cX3_init : ByteArray := prog_5_method_1_code
def yX3_init : MethodName := ⟨RX3, "<init>", "()V"⟩
abbrev cX3_load : ByteArray := prog_5_method_2_code
def yX3_load : MethodName := ⟨RX3, "load", "(LPlatesSing$Shape;)V"⟩
abbrev cX3_loadStiffer : ByteArray := prog_5_method_3_code
def yX3_loadStiffer : MethodName := ⟨RX3, "loadStiffer", "(LPlatesSing$Shape;I)V"⟩
abbrev cX3_oneToNine : ByteArray := prog_5_method_4_code
def yX3_oneToNine : MethodName := ⟨RX3, "oneToNine", "(I)I"⟩
abbrev cX3_weigh : ByteArray := prog_5_method_5_code
def yX3_weigh : MethodName := ⟨RX3, "weigh", "(III)V"⟩
abbrev cX3_link : ByteArray := prog_5_method_6_code
def yX3_link : MethodName := ⟨RX3, "link", "(III)V"⟩
abbrev cX3_linkOf : ByteArray := prog_5_method_7_code
def yX3_linkOf : MethodName := ⟨RX3, "linkOf", "(II)I"⟩
abbrev cX3_fillMatrix : ByteArray := prog_5_method_8_code
def yX3_fillMatrix : MethodName := ⟨RX3, "fillMatrix", "(II)V"⟩
abbrev cX3_sumMinors : ByteArray := prog_5_method_9_code
def yX3_sumMinors : MethodName := ⟨RX3, "sumMinors", "(II)V"⟩
abbrev cX3_fillFactor : ByteArray := prog_5_method_10_code
def yX3_fillFactor : MethodName := ⟨RX3, "fillFactor", "(I)V"⟩
abbrev cX3_tonesUnder : ByteArray := prog_5_method_11_code
def yX3_tonesUnder : MethodName := ⟨RX3, "tonesUnder", "(II)I"⟩
abbrev cX3_tonesAt : ByteArray := prog_5_method_12_code
def yX3_tonesAt : MethodName := ⟨RX3, "tonesAt", "(II)I"⟩
abbrev cX3_tone : ByteArray := prog_5_method_13_code
def yX3_tone : MethodName := ⟨RX3, "tone", "(II)I"⟩
abbrev cX3_soundsLike : ByteArray := prog_5_method_14_code
def yX3_soundsLike : MethodName := ⟨RX3, "soundsLike", "(LPlatesSing$Net;)Z"⟩
abbrev cX3_divisor : ByteArray := prog_5_method_15_code
def yX3_divisor : MethodName := ⟨RX3, "divisor", "()J"⟩
def RX4 : String := "PlatesSing$Parts"
def TX4 : u_T := fun k => match k with
  | 0 => ("PlatesSing$Parts", "count", "I", false)
  | 1 => ("PlatesSing$Parts", "kind", "[I", true)
  | 2 => ("PlatesSing$Parts", "home", "[LPlatesSing$Shape;", true)
  | 3 => ("PlatesSing$Parts", "ran", "I", false)
  | _ => ("PlatesSing$Parts", "traced", "[I", true)
def tyX4 : Nat → FieldType := fun k => match k with
  | 0 => .int
  | 1 => .array .int
  | 2 => .array (.object "PlatesSing$Shape")
  | 3 => .int
  | _ => .array .int
abbrev wsX40 : List Cond := u_ws RX4 TX4 5
theorem nmX4 : ∀ a, a < 5 → ∀ b, b < 5 → a ≠ b → (TX4 a).2.1 ≠ (TX4 b).2.1 := by decide +kernel
theorem tyX4_ok : ∀ k, k < 5 → parseFieldDescriptor (TX4 k).2.2.1 = some (tyX4 k) := by decide +kernel
abbrev cX4_init : ByteArray := prog_6_method_1_code
def yX4_init : MethodName := ⟨RX4, "<init>", "()V"⟩
abbrev cX4_add : ByteArray := prog_6_method_2_code
def yX4_add : MethodName := ⟨RX4, "add", "(ILPlatesSing$Shape;)I"⟩
abbrev cX4_isUnder : ByteArray := prog_6_method_3_code
def yX4_isUnder : MethodName := ⟨RX4, "isUnder", "(II)Z"⟩
abbrev cX4_stiffOf : ByteArray := prog_6_method_4_code
def yX4_stiffOf : MethodName := ⟨RX4, "stiffOf", "(I)I"⟩
abbrev cX4_run : ByteArray := prog_6_method_5_code
def yX4_run : MethodName := ⟨RX4, "run", "(IIIII)I"⟩
abbrev cX4_begin : ByteArray := prog_6_method_6_code
def yX4_begin : MethodName := ⟨RX4, "begin", "(I)V"⟩
def RX5 : String := "PlatesSing$Plan"
def TX5 : u_T := fun k => match k with
  | 0 => ("PlatesSing$Plan", "shape", "I", false)
  | 1 => ("PlatesSing$Plan", "strokes", "I", false)
  | 2 => ("PlatesSing$Plan", "field", "[I", true)
  | 3 => ("PlatesSing$Plan", "at", "[I", true)
  | 4 => ("PlatesSing$Plan", "often", "[I", true)
  | 5 => ("PlatesSing$Plan", "wishes", "I", false)
  | 6 => ("PlatesSing$Plan", "tone", "[I", true)
  | 7 => ("PlatesSing$Plan", "by", "[I", true)
  | 8 => ("PlatesSing$Plan", "value", "[I", true)
  | 9 => ("PlatesSing$Plan", "used", "[I", true)
  | 10 => ("PlatesSing$Plan", "bestSum", "I", false)
  | 11 => ("PlatesSing$Plan", "bestSize", "I", false)
  | _ => ("PlatesSing$Plan", "bestDigits", "I", false)
def tyX5 : Nat → FieldType := fun k => match k with
  | 0 => .int
  | 1 => .int
  | 2 => .array .int
  | 3 => .array .int
  | 4 => .array .int
  | 5 => .int
  | 6 => .array .int
  | 7 => .array .int
  | 8 => .array .int
  | 9 => .array .int
  | 10 => .int
  | 11 => .int
  | _ => .int
abbrev wsX50 : List Cond := u_ws RX5 TX5 13
theorem nmX5 : ∀ a, a < 13 → ∀ b, b < 13 → a ≠ b → (TX5 a).2.1 ≠ (TX5 b).2.1 := by decide +kernel
theorem tyX5_ok : ∀ k, k < 13 → parseFieldDescriptor (TX5 k).2.2.1 = some (tyX5 k) := by decide +kernel
abbrev cX5_init : ByteArray := prog_7_method_1_code
def yX5_init : MethodName := ⟨RX5, "<init>", "()V"⟩
abbrev cX5_hasStroke : ByteArray := prog_7_method_2_code
def yX5_hasStroke : MethodName := ⟨RX5, "hasStroke", "(II)Z"⟩
abbrev cX5_addStroke : ByteArray := prog_7_method_3_code
def yX5_addStroke : MethodName := ⟨RX5, "addStroke", "(III)V"⟩
abbrev cX5_hasWish : ByteArray := prog_7_method_4_code
def yX5_hasWish : MethodName := ⟨RX5, "hasWish", "(II)Z"⟩
abbrev cX5_addWish : ByteArray := prog_7_method_5_code
def yX5_addWish : MethodName := ⟨RX5, "addWish", "(III)V"⟩
abbrev cX5_highestWish : ByteArray := prog_7_method_6_code
def yX5_highestWish : MethodName := ⟨RX5, "highestWish", "()I"⟩
abbrev cX5_applies : ByteArray := prog_7_method_7_code
def yX5_applies : MethodName := ⟨RX5, "applies", "(LPlatesSing$Shape;LPlatesSing$Net;II)Z"⟩
abbrev cX5_search : ByteArray := prog_7_method_8_code
def yX5_search : MethodName := ⟨RX5, "search", "(LPlatesSing$Shape;LPlatesSing$Net;)V"⟩
abbrev cX5_extend : ByteArray := prog_7_method_9_code
def yX5_extend : MethodName := ⟨RX5, "extend", "(LPlatesSing$Shape;LPlatesSing$Net;IIII)V"⟩
abbrev cX5_compare : ByteArray := prog_7_method_10_code
def yX5_compare : MethodName := ⟨RX5, "compare", "(LPlatesSing$Shape;LPlatesSing$Net;II)V"⟩
def RX6 : String := "PlatesSing$Ratios"
def TX6 : u_T := fun k => match k with
  | 0 => ("PlatesSing$Ratios", "told", "I", false)
  | 1 => ("PlatesSing$Ratios", "a", "[I", true)
  | 2 => ("PlatesSing$Ratios", "b", "[I", true)
  | _ => ("PlatesSing$Ratios", "lowest", "[I", true)
def tyX6 : Nat → FieldType := fun k => match k with
  | 0 => .int
  | 1 => .array .int
  | 2 => .array .int
  | _ => .array .int
abbrev wsX60 : List Cond := u_ws RX6 TX6 4
theorem nmX6 : ∀ a, a < 4 → ∀ b, b < 4 → a ≠ b → (TX6 a).2.1 ≠ (TX6 b).2.1 := by decide +kernel
theorem tyX6_ok : ∀ k, k < 4 → parseFieldDescriptor (TX6 k).2.2.1 = some (tyX6 k) := by decide +kernel
abbrev cX6_init : ByteArray := prog_8_method_1_code
def yX6_init : MethodName := ⟨RX6, "<init>", "()V"⟩
abbrev cX6_add : ByteArray := prog_8_method_2_code
def yX6_add : MethodName := ⟨RX6, "add", "(II)V"⟩
abbrev cX6_fit : ByteArray := prog_8_method_3_code
def yX6_fit : MethodName := ⟨RX6, "fit", "(IIII)Z"⟩
abbrev cX6_agreeing : ByteArray := prog_8_method_4_code
def yX6_agreeing : MethodName := ⟨RX6, "agreeing", "(II)I"⟩
abbrev cX6_fewestOut : ByteArray := prog_8_method_5_code
def yX6_fewestOut : MethodName := ⟨RX6, "fewestOut", "(II)I"⟩
abbrev cX6_allFit : ByteArray := prog_8_method_6_code
def yX6_allFit : MethodName := ⟨RX6, "allFit", "(III)Z"⟩
def RX7 : String := "PlatesSing$Shape"
def TX7 : u_T := fun k => match k with
  | 0 => ("PlatesSing$Shape", "corners", "I", false)
  | 1 => ("PlatesSing$Shape", "heavy", "[I", true)
  | 2 => ("PlatesSing$Shape", "pad", "[I", true)
  | 3 => ("PlatesSing$Shape", "weight", "[I", true)
  | 4 => ("PlatesSing$Shape", "held", "[I", true)
  | 5 => ("PlatesSing$Shape", "first", "I", false)
  | 6 => ("PlatesSing$Shape", "pieces", "I", false)
  | 7 => ("PlatesSing$Shape", "low", "[I", true)
  | 8 => ("PlatesSing$Shape", "high", "[I", true)
  | 9 => ("PlatesSing$Shape", "stiff", "[I", true)
  | 10 => ("PlatesSing$Shape", "crack", "[I", true)
  | 11 => ("PlatesSing$Shape", "one", "I", false)
  | _ => ("PlatesSing$Shape", "other", "I", false)
def tyX7 : Nat → FieldType := fun k => match k with
  | 0 => .int
  | 1 => .array .int
  | 2 => .array .int
  | 3 => .array .int
  | 4 => .array .int
  | 5 => .int
  | 6 => .int
  | 7 => .array .int
  | 8 => .array .int
  | 9 => .array .int
  | 10 => .array .int
  | 11 => .int
  | _ => .int
abbrev wsX70 : List Cond := u_ws RX7 TX7 13
theorem nmX7 : ∀ a, a < 13 → ∀ b, b < 13 → a ≠ b → (TX7 a).2.1 ≠ (TX7 b).2.1 := by decide +kernel
theorem tyX7_ok : ∀ k, k < 13 → parseFieldDescriptor (TX7 k).2.2.1 = some (tyX7 k) := by decide +kernel
abbrev cX7_init : ByteArray := prog_9_method_1_code
def yX7_init : MethodName := ⟨RX7, "<init>", "()V"⟩
abbrev cX7_clear : ByteArray := prog_9_method_2_code
def yX7_clear : MethodName := ⟨RX7, "clear", "()V"⟩
abbrev cX7_toneCount : ByteArray := prog_9_method_3_code
def yX7_toneCount : MethodName := ⟨RX7, "toneCount", "()I"⟩
abbrev cX7_pieceBetween : ByteArray := prog_9_method_4_code
def yX7_pieceBetween : MethodName := ⟨RX7, "pieceBetween", "(II)I"⟩
abbrev cX7_counting : ByteArray := prog_9_method_5_code
def yX7_counting : MethodName := ⟨RX7, "counting", "(I)I"⟩
abbrev cX7_addPiece : ByteArray := prog_9_method_6_code
def yX7_addPiece : MethodName := ⟨RX7, "addPiece", "(III)V"⟩
abbrev cX7_addAllOf : ByteArray := prog_9_method_7_code
def yX7_addAllOf : MethodName := ⟨RX7, "addAllOf", "(LPlatesSing$Shape;)V"⟩
abbrev cX7_packed : ByteArray := prog_9_method_8_code
def yX7_packed : MethodName := ⟨RX7, "packed", "(II)I"⟩
abbrev cX7_get : ByteArray := prog_9_method_9_code
def yX7_get : MethodName := ⟨RX7, "get", "(II)I"⟩
abbrev cX7_set : ByteArray := prog_9_method_10_code
def yX7_set : MethodName := ⟨RX7, "set", "(III)V"⟩
abbrev cX7_addedTo : ByteArray := prog_9_method_11_code
def yX7_addedTo : MethodName := ⟨RX7, "addedTo", "(I)I"⟩
def RX8 : String := "PlatesSing$Shelves"
def TX8 : u_T := fun k => match k with
  | 0 => ("PlatesSing$Shelves", "sort", "[I", true)
  | 1 => ("PlatesSing$Shelves", "size", "[I", true)
  | 2 => ("PlatesSing$Shelves", "body", "[I", true)
  | _ => ("PlatesSing$Shelves", "elements", "[[J", true)
def tyX8 : Nat → FieldType := fun k => match k with
  | 0 => .array .int
  | 1 => .array .int
  | 2 => .array .int
  | _ => .array (.array .long)
abbrev wsX80 : List Cond := u_ws RX8 TX8 4
theorem nmX8 : ∀ a, a < 4 → ∀ b, b < 4 → a ≠ b → (TX8 a).2.1 ≠ (TX8 b).2.1 := by decide +kernel
theorem tyX8_ok : ∀ k, k < 4 → parseFieldDescriptor (TX8 k).2.2.1 = some (tyX8 k) := by decide +kernel
abbrev cX8_init : ByteArray := prog_10_method_1_code
def yX8_init : MethodName := ⟨RX8, "<init>", "()V"⟩
abbrev cX8_hold : ByteArray := prog_10_method_2_code
def yX8_hold : MethodName := ⟨RX8, "hold", "(II)V"⟩
abbrev cX8_holdRow : ByteArray := prog_10_method_3_code
def yX8_holdRow : MethodName := ⟨RX8, "holdRow", "(III)V"⟩
abbrev cX8_refusesRow : ByteArray := prog_10_method_4_code
def yX8_refusesRow : MethodName := ⟨RX8, "refusesRow", "(I)I"⟩
abbrev cX8_refusesNumbers : ByteArray := prog_10_method_5_code
def yX8_refusesNumbers : MethodName := ⟨RX8, "refusesNumbers", "(I)I"⟩
abbrev cX8_hasPlace : ByteArray := prog_10_method_6_code
def yX8_hasPlace : MethodName := ⟨RX8, "hasPlace", "(II)Z"⟩
abbrev cX8_hasSpan : ByteArray := prog_10_method_7_code
def yX8_hasSpan : MethodName := ⟨RX8, "hasSpan", "(III)Z"⟩
abbrev cX8_set : ByteArray := prog_10_method_8_code
def yX8_set : MethodName := ⟨RX8, "set", "(IIJ)V"⟩
abbrev cX8_cut : ByteArray := prog_10_method_9_code
def yX8_cut : MethodName := ⟨RX8, "cut", "(IJ)J"⟩
abbrev cX8_greatest : ByteArray := prog_10_method_10_code
def yX8_greatest : MethodName := ⟨RX8, "greatest", "(I)J"⟩
abbrev cX8_setHeard : ByteArray := prog_10_method_11_code
def yX8_setHeard : MethodName := ⟨RX8, "setHeard", "(III)V"⟩
abbrev cX8_present : ByteArray := prog_10_method_12_code
def yX8_present : MethodName := ⟨RX8, "present", "(II)J"⟩
abbrev cX8_loudnessOf : ByteArray := prog_10_method_13_code
def yX8_loudnessOf : MethodName := ⟨RX8, "loudnessOf", "(II)J"⟩
abbrev cX8_wave : ByteArray := prog_10_method_14_code
def yX8_wave : MethodName := ⟨RX8, "wave", "(II)I"⟩
abbrev cX8_strongestPeriod : ByteArray := prog_10_method_15_code
def yX8_strongestPeriod : MethodName := ⟨RX8, "strongestPeriod", "(I)I"⟩
def RX9 : String := "PlatesSing$Tape"
def TX9 : u_T := fun k => match k with
  | 0 => ("PlatesSing$Tape", "bytes", "[I", true)
  | 1 => ("PlatesSing$Tape", "length", "I", false)
  | _ => ("PlatesSing$Tape", "at", "I", false)
def tyX9 : Nat → FieldType := fun k => match k with
  | 0 => .array .int
  | 1 => .int
  | _ => .int
abbrev wsX90 : List Cond := u_ws RX9 TX9 3
theorem nmX9 : ∀ a, a < 3 → ∀ b, b < 3 → a ≠ b → (TX9 a).2.1 ≠ (TX9 b).2.1 := by decide +kernel
theorem tyX9_ok : ∀ k, k < 3 → parseFieldDescriptor (TX9 k).2.2.1 = some (tyX9 k) := by decide +kernel
abbrev cX9_init : ByteArray := prog_11_method_1_code
def yX9_init : MethodName := ⟨RX9, "<init>", "()V"⟩
abbrev cX9_add : ByteArray := prog_11_method_2_code
def yX9_add : MethodName := ⟨RX9, "add", "(II)V"⟩
abbrev cX9_read : ByteArray := prog_11_method_3_code
def yX9_read : MethodName := ⟨RX9, "read", "(LPlatesSing$Shape;)I"⟩
abbrev cX9_readCorners : ByteArray := prog_11_method_4_code
def yX9_readCorners : MethodName := ⟨RX9, "readCorners", "(LPlatesSing$Shape;)Z"⟩
abbrev cX9_readPart : ByteArray := prog_11_method_5_code
def yX9_readPart : MethodName := ⟨RX9, "readPart", "(LPlatesSing$Shape;)Z"⟩
abbrev cX9_readPiece : ByteArray := prog_11_method_6_code
def yX9_readPiece : MethodName := ⟨RX9, "readPiece", "(LPlatesSing$Shape;)Z"⟩
abbrev cX9_readHold : ByteArray := prog_11_method_7_code
def yX9_readHold : MethodName := ⟨RX9, "readHold", "(LPlatesSing$Shape;)Z"⟩
abbrev cX9_readNumber : ByteArray := prog_11_method_8_code
def yX9_readNumber : MethodName := ⟨RX9, "readNumber", "(LPlatesSing$Shape;[I)Z"⟩
abbrev cX9_peek : ByteArray := prog_11_method_9_code
def yX9_peek : MethodName := ⟨RX9, "peek", "()I"⟩
abbrev cX9_digit : ByteArray := prog_11_method_10_code
def yX9_digit : MethodName := ⟨RX9, "digit", "()I"⟩
abbrev cX9_corner : ByteArray := prog_11_method_11_code
def yX9_corner : MethodName := ⟨RX9, "corner", "(LPlatesSing$Shape;)I"⟩
def RX10 : String := "PlatesSing$Turns"
def TX10 : u_T := fun k => match k with
  | 0 => ("PlatesSing$Turns", "found", "I", false)
  | 1 => ("PlatesSing$Turns", "firstFound", "I", false)
  | 2 => ("PlatesSing$Turns", "orbits", "[I", true)
  | 3 => ("PlatesSing$Turns", "order", "[I", true)
  | 4 => ("PlatesSing$Turns", "from", "LPlatesSing$Net;", true)
  | _ => ("PlatesSing$Turns", "to", "LPlatesSing$Net;", true)
def tyX10 : Nat → FieldType := fun k => match k with
  | 0 => .int
  | 1 => .int
  | 2 => .array .int
  | 3 => .array .int
  | 4 => .object "PlatesSing$Net"
  | _ => .object "PlatesSing$Net"
abbrev wsX100 : List Cond := u_ws RX10 TX10 6
theorem nmX10 : ∀ a, a < 6 → ∀ b, b < 6 → a ≠ b → (TX10 a).2.1 ≠ (TX10 b).2.1 := by decide +kernel
theorem tyX10_ok : ∀ k, k < 6 → parseFieldDescriptor (TX10 k).2.2.1 = some (tyX10 k) := by decide +kernel
abbrev cX10_init : ByteArray := prog_12_method_1_code
def yX10_init : MethodName := ⟨RX10, "<init>", "()V"⟩
abbrev cX10_seek : ByteArray := prog_12_method_2_code
def yX10_seek : MethodName := ⟨RX10, "seek", "(LPlatesSing$Shape;LPlatesSing$Shape;)V"⟩
abbrev cX10_extend : ByteArray := prog_12_method_3_code
def yX10_extend : MethodName := ⟨RX10, "extend", "(LPlatesSing$Shape;LPlatesSing$Shape;I)V"⟩
abbrev cX10_isLike : ByteArray := prog_12_method_4_code
def yX10_isLike : MethodName := ⟨RX10, "isLike", "(LPlatesSing$Shape;ILPlatesSing$Shape;I)Z"⟩
abbrev cX10_keepsPieces : ByteArray := prog_12_method_5_code
def yX10_keepsPieces : MethodName := ⟨RX10, "keepsPieces", "(II)Z"⟩
abbrev cX10_noteFound : ByteArray := prog_12_method_6_code
def yX10_noteFound : MethodName := ⟨RX10, "noteFound", "(I)V"⟩
def RX11 : String := "PlatesSing"
def TX11 : u_T := fun k => match k with
  | 0 => ("PlatesSing", "tape", "LPlatesSing$Tape;", true)
  | 1 => ("PlatesSing", "shapes", "[LPlatesSing$Shape;", true)
  | 2 => ("PlatesSing", "shapeCount", "I", false)
  | 3 => ("PlatesSing", "draft", "LPlatesSing$Shape;", false)
  | 4 => ("PlatesSing", "net", "LPlatesSing$Net;", true)
  | 5 => ("PlatesSing", "otherNet", "LPlatesSing$Net;", true)
  | 6 => ("PlatesSing", "turns", "LPlatesSing$Turns;", true)
  | 7 => ("PlatesSing", "plan", "LPlatesSing$Plan;", true)
  | 8 => ("PlatesSing", "hearing", "LPlatesSing$Hearing;", true)
  | 9 => ("PlatesSing", "blows", "LPlatesSing$Blows;", true)
  | 10 => ("PlatesSing", "ratios", "LPlatesSing$Ratios;", true)
  | 11 => ("PlatesSing", "history", "LPlatesSing$History;", true)
  | 12 => ("PlatesSing", "parts", "LPlatesSing$Parts;", true)
  | _ => ("PlatesSing", "shelves", "LPlatesSing$Shelves;", true)
def tyX11 : Nat → FieldType := fun k => match k with
  | 0 => .object "PlatesSing$Tape"
  | 1 => .array (.object "PlatesSing$Shape")
  | 2 => .int
  | 3 => .object "PlatesSing$Shape"
  | 4 => .object "PlatesSing$Net"
  | 5 => .object "PlatesSing$Net"
  | 6 => .object "PlatesSing$Turns"
  | 7 => .object "PlatesSing$Plan"
  | 8 => .object "PlatesSing$Hearing"
  | 9 => .object "PlatesSing$Blows"
  | 10 => .object "PlatesSing$Ratios"
  | 11 => .object "PlatesSing$History"
  | 12 => .object "PlatesSing$Parts"
  | _ => .object "PlatesSing$Shelves"
abbrev wsX110 : List Cond := u_ws RX11 TX11 14
theorem nmX11 : ∀ a, a < 14 → ∀ b, b < 14 → a ≠ b → (TX11 a).2.1 ≠ (TX11 b).2.1 := by decide +kernel
theorem tyX11_ok : ∀ k, k < 14 → parseFieldDescriptor (TX11 k).2.2.1 = some (tyX11 k) := by decide +kernel
abbrev cX11_init : ByteArray := prog_1_method_1_code
def yX11_init : MethodName := ⟨RX11, "<init>", "()V"⟩
abbrev cX11_feed : ByteArray := prog_1_method_2_code
def yX11_feed : MethodName := ⟨RX11, "feed", "(II)I"⟩
abbrev cX11_shape : ByteArray := prog_1_method_3_code
def yX11_shape : MethodName := ⟨RX11, "shape", "()I"⟩
abbrev cX11_of : ByteArray := prog_1_method_4_code
def yX11_of : MethodName := ⟨RX11, "of", "(II)I"⟩
abbrev cX11_piece : ByteArray := prog_1_method_5_code
def yX11_piece : MethodName := ⟨RX11, "piece", "(IIII)I"⟩
abbrev cX11_put : ByteArray := prog_1_method_6_code
def yX11_put : MethodName := ⟨RX11, "put", "(IIII)I"⟩
abbrev cX11_crack : ByteArray := prog_1_method_7_code
def yX11_crack : MethodName := ⟨RX11, "crack", "(IIII)I"⟩
abbrev cX11_stroke : ByteArray := prog_1_method_8_code
def yX11_stroke : MethodName := ⟨RX11, "stroke", "(III)I"⟩
abbrev cX11_below : ByteArray := prog_1_method_9_code
def yX11_below : MethodName := ⟨RX11, "below", "(III)I"⟩
abbrev cX11_sums : ByteArray := prog_1_method_10_code
def yX11_sums : MethodName := ⟨RX11, "sums", "(III)J"⟩
abbrev cX11_shut : ByteArray := prog_1_method_11_code
def yX11_shut : MethodName := ⟨RX11, "shut", "(III)I"⟩
abbrev cX11_still : ByteArray := prog_1_method_12_code
def yX11_still : MethodName := ⟨RX11, "still", "(III)I"⟩
abbrev cX11_split : ByteArray := prog_1_method_13_code
def yX11_split : MethodName := ⟨RX11, "split", "(IIII)I"⟩
abbrev cX11_bounds : ByteArray := prog_1_method_14_code
def yX11_bounds : MethodName := ⟨RX11, "bounds", "(IIIII)I"⟩
abbrev cX11_led : ByteArray := prog_1_method_15_code
def yX11_led : MethodName := ⟨RX11, "led", "(IIII)I"⟩
abbrev cX11_turnsOf : ByteArray := prog_1_method_16_code
def yX11_turnsOf : MethodName := ⟨RX11, "turnsOf", "(I)I"⟩
abbrev cX11_orbit : ByteArray := prog_1_method_17_code
def yX11_orbit : MethodName := ⟨RX11, "orbit", "(II)I"⟩
abbrev cX11_table : ByteArray := prog_1_method_18_code
def yX11_table : MethodName := ⟨RX11, "table", "(II)I"⟩
abbrev cX11_alike : ByteArray := prog_1_method_19_code
def yX11_alike : MethodName := ⟨RX11, "alike", "(III)I"⟩
abbrev cX11_plan : ByteArray := prog_1_method_20_code
def yX11_plan : MethodName := ⟨RX11, "plan", "(IIII)I"⟩
abbrev cX11_wish : ByteArray := prog_1_method_21_code
def yX11_wish : MethodName := ⟨RX11, "wish", "(III)I"⟩
abbrev cX11_moved : ByteArray := prog_1_method_22_code
def yX11_moved : MethodName := ⟨RX11, "moved", "(III)I"⟩
abbrev cX11_tune : ByteArray := prog_1_method_23_code
def yX11_tune : MethodName := ⟨RX11, "tune", "(I)I"⟩
abbrev cX11_forget : ByteArray := prog_1_method_24_code
def yX11_forget : MethodName := ⟨RX11, "forget", "()I"⟩
abbrev cX11_hear : ByteArray := prog_1_method_25_code
def yX11_hear : MethodName := ⟨RX11, "hear", "(I)I"⟩
abbrev cX11_fits : ByteArray := prog_1_method_26_code
def yX11_fits : MethodName := ⟨RX11, "fits", "(III)I"⟩
abbrev cX11_next : ByteArray := prog_1_method_27_code
def yX11_next : MethodName := ⟨RX11, "next", "(II)I"⟩
abbrev cX11_unhear : ByteArray := prog_1_method_28_code
def yX11_unhear : MethodName := ⟨RX11, "unhear", "()I"⟩
abbrev cX11_damp : ByteArray := prog_1_method_29_code
def yX11_damp : MethodName := ⟨RX11, "damp", "(I)I"⟩
abbrev cX11_ear : ByteArray := prog_1_method_30_code
def yX11_ear : MethodName := ⟨RX11, "ear", "(II)I"⟩
abbrev cX11_blow : ByteArray := prog_1_method_31_code
def yX11_blow : MethodName := ⟨RX11, "blow", "(IIII)I"⟩
abbrev cX11_roll : ByteArray := prog_1_method_32_code
def yX11_roll : MethodName := ⟨RX11, "roll", "(III)I"⟩
abbrev cX11_rolled : ByteArray := prog_1_method_33_code
def yX11_rolled : MethodName := ⟨RX11, "rolled", "(II)I"⟩
abbrev cX11_heard : ByteArray := prog_1_method_34_code
def yX11_heard : MethodName := ⟨RX11, "heard", "(II)I"⟩
abbrev cX11_loud : ByteArray := prog_1_method_35_code
def yX11_loud : MethodName := ⟨RX11, "loud", "(II)I"⟩
abbrev cX11_write : ByteArray := prog_1_method_36_code
def yX11_write : MethodName := ⟨RX11, "write", "(IIII)I"⟩
abbrev cX11_loudness : ByteArray := prog_1_method_37_code
def yX11_loudness : MethodName := ⟨RX11, "loudness", "(II)I"⟩
abbrev cX11_strongest : ByteArray := prog_1_method_38_code
def yX11_strongest : MethodName := ⟨RX11, "strongest", "(I)I"⟩
abbrev cX11_ratio : ByteArray := prog_1_method_39_code
def yX11_ratio : MethodName := ⟨RX11, "ratio", "(II)I"⟩
abbrev cX11_agree : ByteArray := prog_1_method_40_code
def yX11_agree : MethodName := ⟨RX11, "agree", "(IIII)I"⟩
abbrev cX11_unratio : ByteArray := prog_1_method_41_code
def yX11_unratio : MethodName := ⟨RX11, "unratio", "()I"⟩
abbrev cX11_join : ByteArray := prog_1_method_42_code
def yX11_join : MethodName := ⟨RX11, "join", "(IIII)I"⟩
abbrev cX11_law : ByteArray := prog_1_method_43_code
def yX11_law : MethodName := ⟨RX11, "law", "(II)I"⟩
abbrev cX11_undo : ByteArray := prog_1_method_44_code
def yX11_undo : MethodName := ⟨RX11, "undo", "()I"⟩
abbrev cX11_redo : ByteArray := prog_1_method_45_code
def yX11_redo : MethodName := ⟨RX11, "redo", "()I"⟩
abbrev cX11_digest : ByteArray := prog_1_method_46_code
def yX11_digest : MethodName := ⟨RX11, "digest", "()I"⟩
abbrev cX11_body : ByteArray := prog_1_method_47_code
def yX11_body : MethodName := ⟨RX11, "body", "(I)I"⟩
abbrev cX11_act : ByteArray := prog_1_method_48_code
def yX11_act : MethodName := ⟨RX11, "act", "(III)I"⟩
abbrev cX11_trace : ByteArray := prog_1_method_49_code
def yX11_trace : MethodName := ⟨RX11, "trace", "(I)I"⟩
abbrev cX11_keep : ByteArray := prog_1_method_50_code
def yX11_keep : MethodName := ⟨RX11, "keep", "(II)I"⟩
abbrev cX11_row : ByteArray := prog_1_method_51_code
def yX11_row : MethodName := ⟨RX11, "row", "(III)I"⟩
abbrev cX11_place : ByteArray := prog_1_method_52_code
def yX11_place : MethodName := ⟨RX11, "place", "(IIJ)I"⟩
abbrev cX11_element : ByteArray := prog_1_method_53_code
def yX11_element : MethodName := ⟨RX11, "element", "(II)J"⟩
abbrev cX11_shift : ByteArray := prog_1_method_54_code
def yX11_shift : MethodName := ⟨RX11, "shift", "(IIIII)I"⟩
abbrev cX11_taken : ByteArray := prog_1_method_55_code
def yX11_taken : MethodName := ⟨RX11, "taken", "(II)I"⟩
abbrev cX11_count : ByteArray := prog_1_method_56_code
def yX11_count : MethodName := ⟨RX11, "count", "(I)I"⟩
abbrev cX11_within : ByteArray := prog_1_method_57_code
def yX11_within : MethodName := ⟨RX11, "within", "(III)Z"⟩
abbrev cX11_isMark : ByteArray := prog_1_method_58_code
def yX11_isMark : MethodName := ⟨RX11, "isMark", "(I)Z"⟩
abbrev cX11_isForce : ByteArray := prog_1_method_59_code
def yX11_isForce : MethodName := ⟨RX11, "isForce", "(I)Z"⟩
abbrev cX11_isEar : ByteArray := prog_1_method_60_code
def yX11_isEar : MethodName := ⟨RX11, "isEar", "(I)Z"⟩
abbrev cX11_isShelf : ByteArray := prog_1_method_61_code
def yX11_isShelf : MethodName := ⟨RX11, "isShelf", "(I)Z"⟩
abbrev cX11_isKind : ByteArray := prog_1_method_62_code
def yX11_isKind : MethodName := ⟨RX11, "isKind", "(I)Z"⟩
abbrev cX11_isBody : ByteArray := prog_1_method_63_code
def yX11_isBody : MethodName := ⟨RX11, "isBody", "(I)Z"⟩
abbrev cX11_isCorner : ByteArray := prog_1_method_64_code
def yX11_isCorner : MethodName := ⟨RX11, "isCorner", "(LPlatesSing$Shape;I)Z"⟩
abbrev cX11_isTone : ByteArray := prog_1_method_65_code
def yX11_isTone : MethodName := ⟨RX11, "isTone", "(LPlatesSing$Shape;II)Z"⟩
abbrev cX11_shapeAt : ByteArray := prog_1_method_66_code
def yX11_shapeAt : MethodName := ⟨RX11, "shapeAt", "(I)LPlatesSing$Shape;"⟩
abbrev cX11_planned : ByteArray := prog_1_method_67_code
def yX11_planned : MethodName := ⟨RX11, "planned", "()LPlatesSing$Shape;"⟩
abbrev cX11_isFullFor : ByteArray := prog_1_method_68_code
def yX11_isFullFor : MethodName := ⟨RX11, "isFullFor", "(I)Z"⟩
abbrev cX11_addDraft : ByteArray := prog_1_method_69_code
def yX11_addDraft : MethodName := ⟨RX11, "addDraft", "()I"⟩
abbrev cX11_change : ByteArray := prog_1_method_70_code
def yX11_change : MethodName := ⟨RX11, "change", "(LPlatesSing$Shape;III)I"⟩
abbrev cX11_under : ByteArray := prog_1_method_71_code
def yX11_under : MethodName := ⟨RX11, "under", "(LPlatesSing$Shape;I)I"⟩
def RX12 : String := "PlatesSingModel"
def TX12 : u_T := fun k => match k with
  | 0 => ("PlatesSingModel", "code", "I", false)
  | 1 => ("PlatesSingModel", "shapes", "I", false)
  | 2 => ("PlatesSingModel", "corners", "[I", true)
  | 3 => ("PlatesSingModel", "heavy", "[I", true)
  | 4 => ("PlatesSingModel", "pads", "[I", true)
  | 5 => ("PlatesSingModel", "weights", "[I", true)
  | 6 => ("PlatesSingModel", "isHeld", "[Z", true)
  | 7 => ("PlatesSingModel", "stiff", "[I", true)
  | 8 => ("PlatesSingModel", "cracks", "[I", true)
  | 9 => ("PlatesSingModel", "bodyOf", "[I", true)
  | 10 => ("PlatesSingModel", "joinedOf", "[I", true)
  | 11 => ("PlatesSingModel", "joinedTo", "[I", true)
  | 12 => ("PlatesSingModel", "bodies", "I", false)
  | 13 => ("PlatesSingModel", "kind", "[I", true)
  | 14 => ("PlatesSingModel", "lies", "[I", true)
  | 15 => ("PlatesSingModel", "tape", "[B", true)
  | 16 => ("PlatesSingModel", "taped", "I", false)
  | 17 => ("PlatesSingModel", "here", "I", false)
  | 18 => ("PlatesSingModel", "fault", "I", false)
  | 19 => ("PlatesSingModel", "newPieces", "I", false)
  | 20 => ("PlatesSingModel", "newA", "[I", true)
  | 21 => ("PlatesSingModel", "newB", "[I", true)
  | 22 => ("PlatesSingModel", "isPadded", "[Z", true)
  | 23 => ("PlatesSingModel", "isWeighted", "[Z", true)
  | 24 => ("PlatesSingModel", "doneMany", "I", false)
  | 25 => ("PlatesSingModel", "undoneMany", "I", false)
  | 26 => ("PlatesSingModel", "actOf", "[I", true)
  | 27 => ("PlatesSingModel", "actAt", "[I", true)
  | 28 => ("PlatesSingModel", "before", "[I", true)
  | 29 => ("PlatesSingModel", "behind", "[I", true)
  | 30 => ("PlatesSingModel", "crackBefore", "[I", true)
  | 31 => ("PlatesSingModel", "mass", "[I", true)
  | 32 => ("PlatesSingModel", "pad", "[I", true)
  | 33 => ("PlatesSingModel", "held", "[Z", true)
  | 34 => ("PlatesSingModel", "counts", "[I", true)
  | 35 => ("PlatesSingModel", "many", "I", false)
  | 36 => ("PlatesSingModel", "matrix", "[J", true)
  | 37 => ("PlatesSingModel", "rows", "I", false)
  | 38 => ("PlatesSingModel", "sums", "[J", true)
  | 39 => ("PlatesSingModel", "rowOf", "[I", true)
  | 40 => ("PlatesSingModel", "minorOf", "[J", true)
  | 41 => ("PlatesSingModel", "minorAt", "[I", true)
  | 42 => ("PlatesSingModel", "stamp", "I", false)
  | 43 => ("PlatesSingModel", "changesBy", "[I", true)
  | 44 => ("PlatesSingModel", "shuts", "[I", true)
  | 45 => ("PlatesSingModel", "row", "[I", true)
  | 46 => ("PlatesSingModel", "turnMany", "I", false)
  | 47 => ("PlatesSingModel", "orbitBits", "I", false)
  | 48 => ("PlatesSingModel", "orbitOf", "I", false)
  | 49 => ("PlatesSingModel", "isLooked", "Z", false)
  | 50 => ("PlatesSingModel", "lookedRow", "I", false)
  | 51 => ("PlatesSingModel", "planMany", "I", false)
  | 52 => ("PlatesSingModel", "planShape", "I", false)
  | 53 => ("PlatesSingModel", "planA", "[I", true)
  | 54 => ("PlatesSingModel", "planB", "[I", true)
  | 55 => ("PlatesSingModel", "planOften", "[I", true)
  | 56 => ("PlatesSingModel", "wishMany", "I", false)
  | 57 => ("PlatesSingModel", "wishTone", "[I", true)
  | 58 => ("PlatesSingModel", "wishBy", "[I", true)
  | 59 => ("PlatesSingModel", "wishIs", "[I", true)
  | 60 => ("PlatesSingModel", "trial", "[I", true)
  | 61 => ("PlatesSingModel", "fewest", "I", false)
  | 62 => ("PlatesSingModel", "digits", "I", false)
  | 63 => ("PlatesSingModel", "closest", "I", false)
  | 64 => ("PlatesSingModel", "closestMany", "I", false)
  | 65 => ("PlatesSingModel", "heardMany", "I", false)
  | 66 => ("PlatesSingModel", "heardIs", "[I", true)
  | 67 => ("PlatesSingModel", "fitMany", "I", false)
  | 68 => ("PlatesSingModel", "fitBody", "I", false)
  | 69 => ("PlatesSingModel", "fitCrack", "I", false)
  | 70 => ("PlatesSingModel", "alikeBy", "[I", true)
  | 71 => ("PlatesSingModel", "dampIs", "I", false)
  | 72 => ("PlatesSingModel", "earAt", "[I", true)
  | 73 => ("PlatesSingModel", "earWas", "[I", true)
  | 74 => ("PlatesSingModel", "steps", "I", false)
  | 75 => ("PlatesSingModel", "x", "[I", true)
  | 76 => ("PlatesSingModel", "u", "[I", true)
  | 77 => ("PlatesSingModel", "pull", "[I", true)
  | 78 => ("PlatesSingModel", "heardAt", "[I", true)
  | 79 => ("PlatesSingModel", "rollMany", "I", false)
  | 80 => ("PlatesSingModel", "rollCorner", "[I", true)
  | 81 => ("PlatesSingModel", "rollV", "[I", true)
  | 82 => ("PlatesSingModel", "rollWhen", "[I", true)
  | 83 => ("PlatesSingModel", "ratios", "I", false)
  | 84 => ("PlatesSingModel", "ratioA", "[I", true)
  | 85 => ("PlatesSingModel", "ratioB", "[I", true)
  | 86 => ("PlatesSingModel", "inOrder", "[I", true)
  | 87 => ("PlatesSingModel", "lowest", "[I", true)
  | 88 => ("PlatesSingModel", "traces", "I", false)
  | 89 => ("PlatesSingModel", "traced", "[I", true)
  | 90 => ("PlatesSingModel", "holds", "[I", true)
  | 91 => ("PlatesSingModel", "size", "[I", true)
  | 92 => ("PlatesSingModel", "elements", "[J", true)
  | _ => ("PlatesSingModel", "shifted", "[J", true)
def tyX12 : Nat → FieldType := fun k => match k with
  | 0 => .int
  | 1 => .int
  | 2 => .array .int
  | 3 => .array .int
  | 4 => .array .int
  | 5 => .array .int
  | 6 => .array .boolean
  | 7 => .array .int
  | 8 => .array .int
  | 9 => .array .int
  | 10 => .array .int
  | 11 => .array .int
  | 12 => .int
  | 13 => .array .int
  | 14 => .array .int
  | 15 => .array .byte
  | 16 => .int
  | 17 => .int
  | 18 => .int
  | 19 => .int
  | 20 => .array .int
  | 21 => .array .int
  | 22 => .array .boolean
  | 23 => .array .boolean
  | 24 => .int
  | 25 => .int
  | 26 => .array .int
  | 27 => .array .int
  | 28 => .array .int
  | 29 => .array .int
  | 30 => .array .int
  | 31 => .array .int
  | 32 => .array .int
  | 33 => .array .boolean
  | 34 => .array .int
  | 35 => .int
  | 36 => .array .long
  | 37 => .int
  | 38 => .array .long
  | 39 => .array .int
  | 40 => .array .long
  | 41 => .array .int
  | 42 => .int
  | 43 => .array .int
  | 44 => .array .int
  | 45 => .array .int
  | 46 => .int
  | 47 => .int
  | 48 => .int
  | 49 => .boolean
  | 50 => .int
  | 51 => .int
  | 52 => .int
  | 53 => .array .int
  | 54 => .array .int
  | 55 => .array .int
  | 56 => .int
  | 57 => .array .int
  | 58 => .array .int
  | 59 => .array .int
  | 60 => .array .int
  | 61 => .int
  | 62 => .int
  | 63 => .int
  | 64 => .int
  | 65 => .int
  | 66 => .array .int
  | 67 => .int
  | 68 => .int
  | 69 => .int
  | 70 => .array .int
  | 71 => .int
  | 72 => .array .int
  | 73 => .array .int
  | 74 => .int
  | 75 => .array .int
  | 76 => .array .int
  | 77 => .array .int
  | 78 => .array .int
  | 79 => .int
  | 80 => .array .int
  | 81 => .array .int
  | 82 => .array .int
  | 83 => .int
  | 84 => .array .int
  | 85 => .array .int
  | 86 => .array .int
  | 87 => .array .int
  | 88 => .int
  | 89 => .array .int
  | 90 => .array .int
  | 91 => .array .int
  | 92 => .array .long
  | _ => .array .long
abbrev wsX120 : List Cond := u_ws RX12 TX12 94
theorem nmX12 : ∀ a, a < 94 → ∀ b, b < 94 → a ≠ b → (TX12 a).2.1 ≠ (TX12 b).2.1 := by decide +kernel
theorem tyX12_ok : ∀ k, k < 94 → parseFieldDescriptor (TX12 k).2.2.1 = some (tyX12 k) := by decide +kernel
abbrev cX12_init : ByteArray := prog_14_method_1_code
def yX12_init : MethodName := ⟨RX12, "<init>", "()V"⟩
abbrev cX12_in : ByteArray := prog_14_method_3_code
def yX12_in : MethodName := ⟨RX12, "in", "(III)Z"⟩
abbrev cX12_lesser : ByteArray := prog_14_method_4_code
def yX12_lesser : MethodName := ⟨RX12, "lesser", "(II)I"⟩
abbrev cX12_greater : ByteArray := prog_14_method_5_code
def yX12_greater : MethodName := ⟨RX12, "greater", "(II)I"⟩
abbrev cX12_sizeOf : ByteArray := prog_14_method_6_code
def yX12_sizeOf : MethodName := ⟨RX12, "sizeOf", "(I)I"⟩
abbrev cX12_isShape : ByteArray := prog_14_method_7_code
def yX12_isShape : MethodName := ⟨RX12, "isShape", "(I)Z"⟩
abbrev cX12_isCorner : ByteArray := prog_14_method_8_code
def yX12_isCorner : MethodName := ⟨RX12, "isCorner", "(II)Z"⟩
abbrev cX12_at : ByteArray := prog_14_method_9_code
def yX12_at : MethodName := ⟨RX12, "at", "(III)I"⟩
abbrev cX12_hasPiece : ByteArray := prog_14_method_10_code
def yX12_hasPiece : MethodName := ⟨RX12, "hasPiece", "(III)Z"⟩
abbrev cX12_setPiece : ByteArray := prog_14_method_11_code
def yX12_setPiece : MethodName := ⟨RX12, "setPiece", "(IIIIII)V"⟩
abbrev cX12_clear : ByteArray := prog_14_method_12_code
def yX12_clear : MethodName := ⟨RX12, "clear", "(I)V"⟩
abbrev cX12_piecesOf : ByteArray := prog_14_method_13_code
def yX12_piecesOf : MethodName := ⟨RX12, "piecesOf", "(I)I"⟩
abbrev cX12_feed : ByteArray := prog_14_method_14_code
def yX12_feed : MethodName := ⟨RX12, "feed", "(II)I"⟩
abbrev cX12_look : ByteArray := prog_14_method_15_code
def yX12_look : MethodName := ⟨RX12, "look", "()I"⟩
abbrev cX12_wrong : ByteArray := prog_14_method_16_code
def yX12_wrong : MethodName := ⟨RX12, "wrong", "()V"⟩
abbrev cX12_isDigit : ByteArray := prog_14_method_17_code
def yX12_isDigit : MethodName := ⟨RX12, "isDigit", "()Z"⟩
abbrev cX12_digit : ByteArray := prog_14_method_18_code
def yX12_digit : MethodName := ⟨RX12, "digit", "()I"⟩
abbrev cX12_letter : ByteArray := prog_14_method_19_code
def yX12_letter : MethodName := ⟨RX12, "letter", "()I"⟩
abbrev cX12_readPiece : ByteArray := prog_14_method_20_code
def yX12_readPiece : MethodName := ⟨RX12, "readPiece", "()V"⟩
abbrev cX12_readPart : ByteArray := prog_14_method_21_code
def yX12_readPart : MethodName := ⟨RX12, "readPart", "()V"⟩
abbrev cX12_readShape : ByteArray := prog_14_method_22_code
def yX12_readShape : MethodName := ⟨RX12, "readShape", "()V"⟩
abbrev cX12_bear : ByteArray := prog_14_method_23_code
def yX12_bear : MethodName := ⟨RX12, "bear", "(III)V"⟩
abbrev cX12_shape : ByteArray := prog_14_method_24_code
def yX12_shape : MethodName := ⟨RX12, "shape", "()I"⟩
abbrev cX12_tonesOf : ByteArray := prog_14_method_25_code
def yX12_tonesOf : MethodName := ⟨RX12, "tonesOf", "(I)I"⟩
abbrev cX12_of : ByteArray := prog_14_method_26_code
def yX12_of : MethodName := ⟨RX12, "of", "(II)I"⟩
abbrev cX12_piece : ByteArray := prog_14_method_27_code
def yX12_piece : MethodName := ⟨RX12, "piece", "(IIII)I"⟩
abbrev cX12_kept : ByteArray := prog_14_method_28_code
def yX12_kept : MethodName := ⟨RX12, "kept", "(IIIII)V"⟩
abbrev cX12_setStiff : ByteArray := prog_14_method_29_code
def yX12_setStiff : MethodName := ⟨RX12, "setStiff", "(III)V"⟩
abbrev cX12_set : ByteArray := prog_14_method_30_code
def yX12_set : MethodName := ⟨RX12, "set", "(IIII)V"⟩
abbrev cX12_put : ByteArray := prog_14_method_31_code
def yX12_put : MethodName := ⟨RX12, "put", "(IIII)I"⟩
abbrev cX12_crack : ByteArray := prog_14_method_32_code
def yX12_crack : MethodName := ⟨RX12, "crack", "(IIII)I"⟩
abbrev cX12_stroke : ByteArray := prog_14_method_33_code
def yX12_stroke : MethodName := ⟨RX12, "stroke", "(III)I"⟩
abbrev cX12_undo : ByteArray := prog_14_method_34_code
def yX12_undo : MethodName := ⟨RX12, "undo", "()I"⟩
abbrev cX12_redo : ByteArray := prog_14_method_35_code
def yX12_redo : MethodName := ⟨RX12, "redo", "()I"⟩
abbrev cX12_digest : ByteArray := prog_14_method_36_code
def yX12_digest : MethodName := ⟨RX12, "digest", "()I"⟩
abbrev cX12_massOf : ByteArray := prog_14_method_37_code
def yX12_massOf : MethodName := ⟨RX12, "massOf", "(II)I"⟩
abbrev cX12_take : ByteArray := prog_14_method_38_code
def yX12_take : MethodName := ⟨RX12, "take", "(I)V"⟩
abbrev cX12_layMatrix : ByteArray := prog_14_method_39_code
def yX12_layMatrix : MethodName := ⟨RX12, "layMatrix", "(II)V"⟩
abbrev cX12_minor : ByteArray := prog_14_method_40_code
def yX12_minor : MethodName := ⟨RX12, "minor", "(II)J"⟩
abbrev cX12_bitsOf : ByteArray := prog_14_method_41_code
def yX12_bitsOf : MethodName := ⟨RX12, "bitsOf", "(I)I"⟩
abbrev cX12_findSums : ByteArray := prog_14_method_42_code
def yX12_findSums : MethodName := ⟨RX12, "findSums", "(II)V"⟩
abbrev cX12_changes : ByteArray := prog_14_method_43_code
def yX12_changes : MethodName := ⟨RX12, "changes", "(II)I"⟩
abbrev cX12_atMark : ByteArray := prog_14_method_44_code
def yX12_atMark : MethodName := ⟨RX12, "atMark", "(II)I"⟩
abbrev cX12_isMark : ByteArray := prog_14_method_45_code
def yX12_isMark : MethodName := ⟨RX12, "isMark", "(I)Z"⟩
abbrev cX12_below : ByteArray := prog_14_method_46_code
def yX12_below : MethodName := ⟨RX12, "below", "(III)I"⟩
abbrev cX12_sums : ByteArray := prog_14_method_47_code
def yX12_sums : MethodName := ⟨RX12, "sums", "(III)J"⟩
abbrev cX12_forgetChanges : ByteArray := prog_14_method_48_code
def yX12_forgetChanges : MethodName := ⟨RX12, "forgetChanges", "()V"⟩
abbrev cX12_shutOf : ByteArray := prog_14_method_49_code
def yX12_shutOf : MethodName := ⟨RX12, "shutOf", "(II)I"⟩
abbrev cX12_shutNow : ByteArray := prog_14_method_50_code
def yX12_shutNow : MethodName := ⟨RX12, "shutNow", "(II)I"⟩
abbrev cX12_shut : ByteArray := prog_14_method_51_code
def yX12_shut : MethodName := ⟨RX12, "shut", "(III)I"⟩
abbrev cX12_still : ByteArray := prog_14_method_52_code
def yX12_still : MethodName := ⟨RX12, "still", "(III)I"⟩
abbrev cX12_split : ByteArray := prog_14_method_53_code
def yX12_split : MethodName := ⟨RX12, "split", "(IIII)I"⟩
abbrev cX12_bounds : ByteArray := prog_14_method_54_code
def yX12_bounds : MethodName := ⟨RX12, "bounds", "(IIIII)I"⟩
abbrev cX12_setCount : ByteArray := prog_14_method_55_code
def yX12_setCount : MethodName := ⟨RX12, "setCount", "(III)V"⟩
abbrev cX12_led : ByteArray := prog_14_method_56_code
def yX12_led : MethodName := ⟨RX12, "led", "(IIII)I"⟩
abbrev cX12_areLike : ByteArray := prog_14_method_57_code
def yX12_areLike : MethodName := ⟨RX12, "areLike", "(IIII)Z"⟩
abbrev cX12_countBetween : ByteArray := prog_14_method_58_code
def yX12_countBetween : MethodName := ⟨RX12, "countBetween", "(III)I"⟩
abbrev cX12_turnOn : ByteArray := prog_14_method_59_code
def yX12_turnOn : MethodName := ⟨RX12, "turnOn", "(IIII)V"⟩
abbrev cX12_findTurns : ByteArray := prog_14_method_60_code
def yX12_findTurns : MethodName := ⟨RX12, "findTurns", "(III)V"⟩
abbrev cX12_turnsOf : ByteArray := prog_14_method_61_code
def yX12_turnsOf : MethodName := ⟨RX12, "turnsOf", "(I)I"⟩
abbrev cX12_orbit : ByteArray := prog_14_method_62_code
def yX12_orbit : MethodName := ⟨RX12, "orbit", "(II)I"⟩
abbrev cX12_tableOf : ByteArray := prog_14_method_63_code
def yX12_tableOf : MethodName := ⟨RX12, "tableOf", "(II)I"⟩
abbrev cX12_table : ByteArray := prog_14_method_64_code
def yX12_table : MethodName := ⟨RX12, "table", "(II)I"⟩
abbrev cX12_divisor : ByteArray := prog_14_method_65_code
def yX12_divisor : MethodName := ⟨RX12, "divisor", "(I)J"⟩
abbrev cX12_lastSum : ByteArray := prog_14_method_66_code
def yX12_lastSum : MethodName := ⟨RX12, "lastSum", "(II)J"⟩
abbrev cX12_soundAlike : ByteArray := prog_14_method_67_code
def yX12_soundAlike : MethodName := ⟨RX12, "soundAlike", "(II)Z"⟩
abbrev cX12_alike : ByteArray := prog_14_method_68_code
def yX12_alike : MethodName := ⟨RX12, "alike", "(III)I"⟩
abbrev cX12_plan : ByteArray := prog_14_method_69_code
def yX12_plan : MethodName := ⟨RX12, "plan", "(IIII)I"⟩
abbrev cX12_wish : ByteArray := prog_14_method_70_code
def yX12_wish : MethodName := ⟨RX12, "wish", "(III)I"⟩
abbrev cX12_struck : ByteArray := prog_14_method_71_code
def yX12_struck : MethodName := ⟨RX12, "struck", "(II)Z"⟩
abbrev cX12_moved : ByteArray := prog_14_method_72_code
def yX12_moved : MethodName := ⟨RX12, "moved", "(III)I"⟩
abbrev cX12_lacks : ByteArray := prog_14_method_73_code
def yX12_lacks : MethodName := ⟨RX12, "lacks", "()I"⟩
abbrev cX12_digitsOf : ByteArray := prog_14_method_74_code
def yX12_digitsOf : MethodName := ⟨RX12, "digitsOf", "()I"⟩
abbrev cX12_tuneOn : ByteArray := prog_14_method_75_code
def yX12_tuneOn : MethodName := ⟨RX12, "tuneOn", "(II)V"⟩
abbrev cX12_tune : ByteArray := prog_14_method_76_code
def yX12_tune : MethodName := ⟨RX12, "tune", "(I)I"⟩
abbrev cX12_forget : ByteArray := prog_14_method_77_code
def yX12_forget : MethodName := ⟨RX12, "forget", "()I"⟩
abbrev cX12_hear : ByteArray := prog_14_method_78_code
def yX12_hear : MethodName := ⟨RX12, "hear", "(I)I"⟩
abbrev cX12_unhear : ByteArray := prog_14_method_79_code
def yX12_unhear : MethodName := ⟨RX12, "unhear", "()I"⟩
abbrev cX12_tryFit : ByteArray := prog_14_method_80_code
def yX12_tryFit : MethodName := ⟨RX12, "tryFit", "(IIII)V"⟩
abbrev cX12_findFits : ByteArray := prog_14_method_81_code
def yX12_findFits : MethodName := ⟨RX12, "findFits", "(II)V"⟩
abbrev cX12_fits : ByteArray := prog_14_method_82_code
def yX12_fits : MethodName := ⟨RX12, "fits", "(III)I"⟩
abbrev cX12_next : ByteArray := prog_14_method_83_code
def yX12_next : MethodName := ⟨RX12, "next", "(II)I"⟩
abbrev cX12_damp : ByteArray := prog_14_method_84_code
def yX12_damp : MethodName := ⟨RX12, "damp", "(I)I"⟩
abbrev cX12_isEar : ByteArray := prog_14_method_85_code
def yX12_isEar : MethodName := ⟨RX12, "isEar", "(I)Z"⟩
abbrev cX12_ear : ByteArray := prog_14_method_86_code
def yX12_ear : MethodName := ⟨RX12, "ear", "(II)I"⟩
abbrev cX12_begin : ByteArray := prog_14_method_87_code
def yX12_begin : MethodName := ⟨RX12, "begin", "(I)V"⟩
abbrev cX12_step : ByteArray := prog_14_method_88_code
def yX12_step : MethodName := ⟨RX12, "step", "()I"⟩
abbrev cX12_blow : ByteArray := prog_14_method_89_code
def yX12_blow : MethodName := ⟨RX12, "blow", "(IIII)I"⟩
abbrev cX12_roll : ByteArray := prog_14_method_90_code
def yX12_roll : MethodName := ⟨RX12, "roll", "(III)I"⟩
abbrev cX12_rolled : ByteArray := prog_14_method_91_code
def yX12_rolled : MethodName := ⟨RX12, "rolled", "(II)I"⟩
abbrev cX12_heard : ByteArray := prog_14_method_92_code
def yX12_heard : MethodName := ⟨RX12, "heard", "(II)I"⟩
abbrev cX12_loud : ByteArray := prog_14_method_93_code
def yX12_loud : MethodName := ⟨RX12, "loud", "(II)I"⟩
abbrev cX12_isWhole : ByteArray := prog_14_method_94_code
def yX12_isWhole : MethodName := ⟨RX12, "isWhole", "(I)Z"⟩
abbrev cX12_mostOf : ByteArray := prog_14_method_95_code
def yX12_mostOf : MethodName := ⟨RX12, "mostOf", "(I)I"⟩
abbrev cX12_write : ByteArray := prog_14_method_96_code
def yX12_write : MethodName := ⟨RX12, "write", "(IIII)I"⟩
abbrev cX12_heardIn : ByteArray := prog_14_method_97_code
def yX12_heardIn : MethodName := ⟨RX12, "heardIn", "(II)J"⟩
abbrev cX12_signOf : ByteArray := prog_14_method_98_code
def yX12_signOf : MethodName := ⟨RX12, "signOf", "(II)I"⟩
abbrev cX12_loudnessOf : ByteArray := prog_14_method_99_code
def yX12_loudnessOf : MethodName := ⟨RX12, "loudnessOf", "(II)J"⟩
abbrev cX12_whyNoRow : ByteArray := prog_14_method_100_code
def yX12_whyNoRow : MethodName := ⟨RX12, "whyNoRow", "(I)I"⟩
abbrev cX12_loudness : ByteArray := prog_14_method_101_code
def yX12_loudness : MethodName := ⟨RX12, "loudness", "(II)I"⟩
abbrev cX12_strongest : ByteArray := prog_14_method_102_code
def yX12_strongest : MethodName := ⟨RX12, "strongest", "(I)I"⟩
abbrev cX12_ratio : ByteArray := prog_14_method_103_code
def yX12_ratio : MethodName := ⟨RX12, "ratio", "(II)I"⟩
abbrev cX12_unratio : ByteArray := prog_14_method_104_code
def yX12_unratio : MethodName := ⟨RX12, "unratio", "()I"⟩
abbrev cX12_doAgree : ByteArray := prog_14_method_105_code
def yX12_doAgree : MethodName := ⟨RX12, "doAgree", "(IIII)Z"⟩
abbrev cX12_allAgree : ByteArray := prog_14_method_106_code
def yX12_allAgree : MethodName := ⟨RX12, "allAgree", "(III)Z"⟩
abbrev cX12_agree : ByteArray := prog_14_method_107_code
def yX12_agree : MethodName := ⟨RX12, "agree", "(IIII)I"⟩
abbrev cX12_copyPieces : ByteArray := prog_14_method_108_code
def yX12_copyPieces : MethodName := ⟨RX12, "copyPieces", "(III)V"⟩
abbrev cX12_copyCorners : ByteArray := prog_14_method_109_code
def yX12_copyCorners : MethodName := ⟨RX12, "copyCorners", "(III)V"⟩
abbrev cX12_join : ByteArray := prog_14_method_110_code
def yX12_join : MethodName := ⟨RX12, "join", "(IIII)I"⟩
abbrev cX12_changesOf : ByteArray := prog_14_method_111_code
def yX12_changesOf : MethodName := ⟨RX12, "changesOf", "(II)I"⟩
abbrev cX12_law : ByteArray := prog_14_method_112_code
def yX12_law : MethodName := ⟨RX12, "law", "(II)I"⟩
abbrev cX12_isBody : ByteArray := prog_14_method_113_code
def yX12_isBody : MethodName := ⟨RX12, "isBody", "(I)Z"⟩
abbrev cX12_isUnder : ByteArray := prog_14_method_114_code
def yX12_isUnder : MethodName := ⟨RX12, "isUnder", "(II)Z"⟩
abbrev cX12_body : ByteArray := prog_14_method_115_code
def yX12_body : MethodName := ⟨RX12, "body", "(I)I"⟩
abbrev cX12_ran : ByteArray := prog_14_method_116_code
def yX12_ran : MethodName := ⟨RX12, "ran", "(I)V"⟩
abbrev cX12_plainStiffens : ByteArray := prog_14_method_117_code
def yX12_plainStiffens : MethodName := ⟨RX12, "plainStiffens", "(II)I"⟩
abbrev cX12_pieceStiffens : ByteArray := prog_14_method_118_code
def yX12_pieceStiffens : MethodName := ⟨RX12, "pieceStiffens", "(II)I"⟩
abbrev cX12_stiffens : ByteArray := prog_14_method_119_code
def yX12_stiffens : MethodName := ⟨RX12, "stiffens", "(II)I"⟩
abbrev cX12_plainWeighs : ByteArray := prog_14_method_120_code
def yX12_plainWeighs : MethodName := ⟨RX12, "plainWeighs", "(II)I"⟩
abbrev cX12_weighs : ByteArray := prog_14_method_121_code
def yX12_weighs : MethodName := ⟨RX12, "weighs", "(II)I"⟩
abbrev cX12_plainSounds : ByteArray := prog_14_method_122_code
def yX12_plainSounds : MethodName := ⟨RX12, "plainSounds", "(II)I"⟩
abbrev cX12_sounds : ByteArray := prog_14_method_123_code
def yX12_sounds : MethodName := ⟨RX12, "sounds", "(II)I"⟩
abbrev cX12_plainTells : ByteArray := prog_14_method_124_code
def yX12_plainTells : MethodName := ⟨RX12, "plainTells", "(II)I"⟩
abbrev cX12_crackedTells : ByteArray := prog_14_method_125_code
def yX12_crackedTells : MethodName := ⟨RX12, "crackedTells", "(II)I"⟩
abbrev cX12_tells : ByteArray := prog_14_method_126_code
def yX12_tells : MethodName := ⟨RX12, "tells", "(II)I"⟩
abbrev cX12_act : ByteArray := prog_14_method_127_code
def yX12_act : MethodName := ⟨RX12, "act", "(III)I"⟩
abbrev cX12_trace : ByteArray := prog_14_method_128_code
def yX12_trace : MethodName := ⟨RX12, "trace", "(I)I"⟩
abbrev cX12_count : ByteArray := prog_14_method_129_code
def yX12_count : MethodName := ⟨RX12, "count", "(I)I"⟩
abbrev cX12_isShelf : ByteArray := prog_14_method_130_code
def yX12_isShelf : MethodName := ⟨RX12, "isShelf", "(I)Z"⟩
abbrev cX12_keep : ByteArray := prog_14_method_131_code
def yX12_keep : MethodName := ⟨RX12, "keep", "(II)I"⟩
abbrev cX12_row : ByteArray := prog_14_method_132_code
def yX12_row : MethodName := ⟨RX12, "row", "(III)I"⟩
abbrev cX12_whyNoPlace : ByteArray := prog_14_method_133_code
def yX12_whyNoPlace : MethodName := ⟨RX12, "whyNoPlace", "(II)I"⟩
abbrev cX12_place : ByteArray := prog_14_method_134_code
def yX12_place : MethodName := ⟨RX12, "place", "(IIJ)I"⟩
abbrev cX12_element : ByteArray := prog_14_method_135_code
def yX12_element : MethodName := ⟨RX12, "element", "(II)J"⟩
abbrev cX12_shift : ByteArray := prog_14_method_136_code
def yX12_shift : MethodName := ⟨RX12, "shift", "(IIIII)I"⟩
abbrev cX12_taken : ByteArray := prog_14_method_137_code
def yX12_taken : MethodName := ⟨RX12, "taken", "(II)I"⟩
def RJ6 : String := "java/lang/Integer"
def TJ6 : u_T := fun k => match k with
  | _ => ("", "", "", false)
def tyJ6 : Nat → FieldType := fun k => match k with
  | _ => .int
abbrev wsJ60 : List Cond := u_ws RJ6 TJ6 0
abbrev cJ6_compare_7cf53 : ByteArray := prog_15_method_40_code
def yJ6_compare_7cf53 : MethodName := ⟨RJ6, "compare", "(II)I"⟩
abbrev cJ6_bitCount_0f7a4 : ByteArray := prog_15_method_49_code
def yJ6_bitCount_0f7a4 : MethodName := ⟨RJ6, "bitCount", "(I)I"⟩
def RJ9 : String := "java/lang/Math"
def TJ9 : u_T := fun k => match k with
  | _ => ("", "", "", false)
def tyJ9 : Nat → FieldType := fun k => match k with
  | _ => .int
abbrev wsJ90 : List Cond := u_ws RJ9 TJ9 0
abbrev cJ9_abs_0f7a4 : ByteArray := prog_16_method_59_code
def yJ9_abs_0f7a4 : MethodName := ⟨RJ9, "abs", "(I)I"⟩
abbrev cJ9_abs_067f4 : ByteArray := prog_16_method_61_code
def yJ9_abs_067f4 : MethodName := ⟨RJ9, "abs", "(J)J"⟩
abbrev cJ9_max_7cf53 : ByteArray := prog_16_method_65_code
def yJ9_max_7cf53 : MethodName := ⟨RJ9, "max", "(II)I"⟩
abbrev cJ9_max_f86c9 : ByteArray := prog_16_method_66_code
def yJ9_max_f86c9 : MethodName := ⟨RJ9, "max", "(JJ)J"⟩
abbrev cJ9_min_7cf53 : ByteArray := prog_16_method_69_code
def yJ9_min_7cf53 : MethodName := ⟨RJ9, "min", "(II)I"⟩
abbrev cJ9_min_f86c9 : ByteArray := prog_16_method_70_code
def yJ9_min_f86c9 : MethodName := ⟨RJ9, "min", "(JJ)J"⟩
def RJ10 : String := "java/lang/System"
def TJ10 : u_T := fun k => match k with
  | _ => ("", "", "", false)
def tyJ10 : Nat → FieldType := fun k => match k with
  | _ => .int
abbrev wsJ100 : List Cond := u_ws RJ10 TJ10 0
def RJ7 : String := "java/util/Arrays"
def TJ7 : u_T := fun k => match k with
  | _ => ("", "", "", false)
def tyJ7 : Nat → FieldType := fun k => match k with
  | _ => .int
abbrev wsJ70 : List Cond := u_ws RJ7 TJ7 0
abbrev cJ7_fill_d0a16 : ByteArray := prog_18_method_101_code
def yJ7_fill_d0a16 : MethodName := ⟨RJ7, "fill", "([JJ)V"⟩
abbrev cJ7_fill_53178 : ByteArray := prog_18_method_103_code
def yJ7_fill_53178 : MethodName := ⟨RJ7, "fill", "([II)V"⟩
def RL : String := "PlatesSingLaw"
abbrev cL_law : ByteArray := code
def yL_law : MethodName := ⟨RL, "law", "([I)Z"⟩
abbrev vwCl : List vw_C := [(RX0, TX0, 11), (RX1, TX1, 6), (RX2, TX2, 7), (RX3, TX3, 12), (RX4, TX4, 5), (RX5, TX5, 13), (RX6, TX6, 4), (RX7, TX7, 13), (RX8, TX8, 4), (RX9, TX9, 3), (RX10, TX10, 6), (RX11, TX11, 14), (RX12, TX12, 94)]
theorem inX0 : ∀ w ∈ wsX00, w ∈ lw_tbl := by decide +kernel
theorem inX1 : ∀ w ∈ wsX10, w ∈ lw_tbl := by decide +kernel
theorem inX2 : ∀ w ∈ wsX20, w ∈ lw_tbl := by decide +kernel
theorem inX3 : ∀ w ∈ wsX30, w ∈ lw_tbl := by decide +kernel
theorem inX4 : ∀ w ∈ wsX40, w ∈ lw_tbl := by decide +kernel
theorem inX5 : ∀ w ∈ wsX50, w ∈ lw_tbl := by decide +kernel
theorem inX6 : ∀ w ∈ wsX60, w ∈ lw_tbl := by decide +kernel
theorem inX7 : ∀ w ∈ wsX70, w ∈ lw_tbl := by decide +kernel
theorem inX8 : ∀ w ∈ wsX80, w ∈ lw_tbl := by decide +kernel
theorem inX9 : ∀ w ∈ wsX90, w ∈ lw_tbl := by decide +kernel
theorem inX10 : ∀ w ∈ wsX100, w ∈ lw_tbl := by decide +kernel
theorem inX11 : ∀ w ∈ wsX110, w ∈ lw_tbl := by decide +kernel
theorem inX12 : ∀ w ∈ wsX120, w ∈ lw_tbl := by decide +kernel
end
section
/-! the mini machine's data: cells in the order in which they are made, methods by number -/
abbrev mx_A : Type := Nat ⊕ (Nat × Nat)
abbrev mx_V : Type := Value ⊕ mx_A
abbrev mx_H : Type := Nat × (mx_A → Nat → Int32) × (mx_A → Nat → Int64) × (mx_A → Nat → Option mx_A)
abbrev mx_Lv : Type := List (Nat × mx_V)
abbrev mx_En : Type := Nat × Instr × Nat × Nat × Nat × Nat × Int32 × Int64
def mx_loT : List (List (Nat × Nat)) := [[(11, 14), (9, 3), (100, 120), (104, 12), (7, 13), (100, 6), (100, 6), (100, 6), (100, 6), (100, 15), (100, 15), (100, 15), (100, 15), (3, 12), (100, 6), (100, 6)], [(100, 6), (100, 36), (101, 7), (100, 6), (101, 36), (101, 7), (101, 6), (101, 6), (3, 12), (100, 6), (100, 6), (100, 6), (100, 36), (101, 7), (100, 6), (101, 36)], [(101, 7), (101, 6), (101, 6), (10, 6), (100, 6), (100, 6), (3, 12), (100, 6), (100, 6), (100, 6), (100, 36), (101, 7), (100, 6), (101, 36), (101, 7), (101, 6)], [(101, 6), (3, 12), (100, 6), (100, 6), (100, 6), (100, 36), (101, 7), (100, 6), (101, 36), (101, 7), (101, 6), (101, 6), (5, 13), (100, 6), (100, 6), (100, 6)], [(100, 6), (100, 6), (100, 6), (100, 6), (1, 6), (100, 6), (100, 600), (0, 11), (100, 4), (100, 4), (100, 800), (100, 6), (100, 6), (100, 6), (100, 6), (100, 6)], [(6, 4), (100, 6), (100, 6), (100, 7), (2, 7), (104, 40), (100, 40), (100, 40), (100, 40), (100, 40), (4, 5), (100, 200), (104, 200), (100, 24), (8, 4), (100, 6)], [(100, 6), (100, 6), (105, 6), (101, 60), (101, 60), (101, 60), (101, 60), (101, 60), (101, 60), (12, 94), (100, 13), (100, 78), (100, 78), (100, 78), (103, 78), (100, 468)], [(100, 468), (100, 468), (100, 12), (100, 12), (100, 200), (100, 200), (102, 120), (100, 15), (100, 15), (103, 6), (103, 6), (100, 40), (100, 40), (100, 40), (100, 40), (100, 40)], [(100, 6), (100, 6), (103, 6), (100, 36), (101, 36), (101, 7), (100, 6), (101, 4096), (100, 4096), (100, 100), (100, 6), (100, 6), (100, 8), (100, 8), (100, 8), (100, 6)], [(100, 6), (100, 6), (100, 8), (100, 6), (100, 600), (100, 4), (100, 4), (100, 6), (100, 6), (100, 6), (100, 800), (100, 6), (100, 6), (100, 6), (100, 6), (100, 6)], [(100, 7), (100, 7), (100, 24), (100, 6), (100, 6), (101, 360), (101, 60)]]
def mx_loS : List (Nat × Nat) := [(7, 13), (100, 6), (100, 6), (100, 6), (100, 6), (100, 15), (100, 15), (100, 15), (100, 15)]
def mx_loN : List (Nat × Nat) := [(3, 12), (100, 6), (100, 6), (100, 6), (100, 36), (101, 7), (100, 6), (101, 36), (101, 7), (101, 6), (101, 6)]
def mx_lo : mx_A → Nat × Nat
  | .inl k => (mx_loT.getD (k / 16) []).getD (k % 16) (999, 0)
  | .inr (_, o) => bif Nat.blt o 9 then mx_loS.getD o (999, 0) else bif Nat.beq o 20 then (101, 60) else mx_loN.getD (o - 30) (999, 0)
def mx_ffT : List (List Nat) := [[0, 2, 0, 2, 2, 2, 2, 0, 2, 2, 2], [0, 2, 0, 0, 0, 2], [0, 0, 2, 2, 2, 2, 2], [0, 2, 2, 2, 2, 2, 2, 0, 2, 2, 2, 2], [0, 2, 2, 0, 2], [0, 0, 2, 2, 2, 0, 2, 2, 2, 2, 0, 0, 0], [0, 2, 2, 2], [0, 2, 2, 2, 2, 0, 0, 2, 2, 2, 2, 0, 0], [2, 2, 2, 2], [2, 0, 0], [0, 0, 2, 2, 2, 2], [2, 2, 0, 2, 2, 2, 2, 2, 2, 2, 2, 2, 2, 2], [0, 0, 2, 2, 2, 2, 2, 2, 2, 2, 2, 2, 0, 2, 2, 2, 0, 0, 0, 0, 2, 2, 2, 2, 0, 0, 2, 2, 2, 2, 2, 2, 2, 2, 2, 0, 2, 0, 2, 2, 2, 2, 0, 2, 2, 2, 0, 0, 0, 1, 0, 0, 0, 2, 2, 2, 0, 2, 2, 2, 2, 0, 0, 0, 0, 0, 2, 0, 0, 0, 2, 0, 2, 2, 0, 2, 2, 2, 2, 0, 2, 2, 2, 0, 2, 2, 2, 2, 0, 2, 2, 2, 2, 2]]
def mx_ff (ci k : Nat) : Nat := (mx_ffT.getD ci []).getD k 0
def mx_fr0 : List (Option mx_A) := [some (.inl 1), some (.inl 3), none, none, some (.inr (0, 30)), some (.inr (1, 30)), some (.inl 35), some (.inl 60), some (.inl 68), some (.inl 71), some (.inl 80), some (.inl 84), some (.inl 90), some (.inl 94)]
def mx_fr1 : List (Option mx_A) := [some (.inl 2), none, none]
def mx_fr35 : List (Option mx_A) := [none, none, some (.inl 36), some (.inl 37), some (.inr (2, 30)), some (.inr (3, 30))]
def mx_fr60 : List (Option mx_A) := [none, none, some (.inl 61), some (.inl 62), some (.inl 63), none, some (.inl 64), some (.inl 65), some (.inl 66), some (.inl 67), none, none, none]
def mx_fr68 : List (Option mx_A) := [none, some (.inl 69), none, none, none, some (.inl 70)]
def mx_fr71 : List (Option mx_A) := [none, some (.inl 72), none, some (.inl 73), some (.inl 74), some (.inl 75), some (.inl 76), none, some (.inl 77), some (.inl 78), some (.inl 79)]
def mx_fr80 : List (Option mx_A) := [none, some (.inl 81), some (.inl 82), some (.inl 83)]
def mx_fr84 : List (Option mx_A) := [none, none, some (.inl 85), some (.inl 86), some (.inl 87), some (.inl 88), some (.inl 89)]
def mx_fr90 : List (Option mx_A) := [none, some (.inl 91), some (.inl 92), none, some (.inl 93)]
def mx_fr94 : List (Option mx_A) := [some (.inl 95), some (.inl 96), some (.inl 97), some (.inl 98)]
def mx_fr105 : List (Option mx_A) := [none, none, some (.inl 106), some (.inl 107), some (.inl 108), some (.inl 109), some (.inl 110), some (.inl 111), some (.inl 112), some (.inl 113), some (.inl 114), some (.inl 115), none, some (.inl 116), some (.inl 117), some (.inl 118), none, none, none, none, some (.inl 119), some (.inl 120), some (.inl 121), some (.inl 122), none, none, some (.inl 123), some (.inl 124), some (.inl 125), some (.inl 126), some (.inl 127), some (.inl 128), some (.inl 129), some (.inl 130), some (.inl 131), none, some (.inl 132), none, some (.inl 133), some (.inl 134), some (.inl 135), some (.inl 136), none, some (.inl 137), some (.inl 138), some (.inl 139), none, none, none, none, none, none, none, some (.inl 140), some (.inl 141), some (.inl 142), none, some (.inl 143), some (.inl 144), some (.inl 145), some (.inl 146), none, none, none, none, none, some (.inl 147), none, none, none, some (.inl 148), none, some (.inl 149), some (.inl 150), none, some (.inl 151), some (.inl 152), some (.inl 153), some (.inl 154), none, some (.inl 155), some (.inl 156), some (.inl 157), none, some (.inl 158), some (.inl 159), some (.inl 160), some (.inl 161), none, some (.inl 162), some (.inl 163), some (.inl 164), some (.inl 165), some (.inl 166)]
def mx_frS : List (Option Nat) := [none, some 1, some 2, some 3, some 4, none, none, some 5, some 6, some 7, some 8, none, none]
def mx_frN : List (Option Nat) := [none, some 31, some 32, some 33, some 34, some 35, some 36, none, some 37, some 38, some 39, some 40]
def mx_frT (k : Nat) : List (Option mx_A) := (bif Nat.blt k 71 then (bif Nat.blt k 35 then (bif Nat.blt k 1 then (bif Nat.beq k 0 then mx_fr0 else []) else (bif Nat.beq k 1 then mx_fr1 else [])) else (bif Nat.blt k 60 then (bif Nat.beq k 35 then mx_fr35 else []) else (bif Nat.blt k 68 then (bif Nat.beq k 60 then mx_fr60 else []) else (bif Nat.beq k 68 then mx_fr68 else [])))) else (bif Nat.blt k 90 then (bif Nat.blt k 80 then (bif Nat.beq k 71 then mx_fr71 else []) else (bif Nat.blt k 84 then (bif Nat.beq k 80 then mx_fr80 else []) else (bif Nat.beq k 84 then mx_fr84 else []))) else (bif Nat.blt k 94 then (bif Nat.beq k 90 then mx_fr90 else []) else (bif Nat.blt k 105 then (bif Nat.beq k 94 then mx_fr94 else []) else (bif Nat.beq k 105 then mx_fr105 else [])))))
def mx_fr : mx_A → Nat → Option mx_A
  | .inl k, f => (mx_frT k).getD f none
  | .inr (j, o), f => bif Nat.beq o 0 then (mx_frS.getD f none).map (fun x => .inr (j, x)) else bif Nat.beq o 30 then (mx_frN.getD f none).map (fun x => .inr (j, x)) else none
abbrev mx_Me : Type := Nat × MethodName × ByteArray × Nat × Option FieldType
def mx_m0 : mx_Me := (17, yL_law, cL_law, 4, (some .boolean))
def mx_m1 : mx_Me := (0, yX0_init, cX0_init, 1, none)
def mx_m2 : mx_Me := (0, yX0_add, cX0_add, 4, none)
def mx_m3 : mx_Me := (0, yX0_begin, cX0_begin, 3, none)
def mx_m4 : mx_Me := (0, yX0_push, cX0_push, 4, none)
def mx_m5 : mx_Me := (0, yX0_run, cX0_run, 7, (some .int))
def mx_m6 : mx_Me := (0, yX0_pull, cX0_pull, 5, none)
def mx_m7 : mx_Me := (0, yX0_wasAnywhere, cX0_wasAnywhere, 2, (some .boolean))
def mx_m8 : mx_Me := (0, yX0_kept, cX0_kept, 3, (some .int))
def mx_m9 : mx_Me := (0, yX0_loudest, cX0_loudest, 4, (some .int))
def mx_m10 : mx_Me := (0, yX0_diesAt, cX0_diesAt, 5, (some .int))
def mx_m11 : mx_Me := (1, yX1_init, cX1_init, 1, none)
def mx_m12 : mx_Me := (1, yX1_add, cX1_add, 2, none)
def mx_m13 : mx_Me := (1, yX1_search, cX1_search, 7, none)
def mx_m14 : mx_Me := (1, yX1_tryNet, cX1_tryNet, 7, none)
def mx_m15 : mx_Me := (1, yX1_bestParting, cX1_bestParting, 7, (some .int))
def mx_m16 : mx_Me := (2, yX2_init, cX2_init, 1, none)
def mx_m17 : mx_Me := (2, yX2_add, cX2_add, 6, none)
def mx_m18 : mx_Me := (2, yX2_dropOldest, cX2_dropOldest, 2, none)
def mx_m19 : mx_Me := (2, yX2_takeBack, cX2_takeBack, 1, none)
def mx_m20 : mx_Me := (2, yX2_bringBack, cX2_bringBack, 1, none)
def mx_m21 : mx_Me := (3, yX3_init, cX3_init, 1, none)
def mx_m22 : mx_Me := (3, yX3_load, cX3_load, 2, none)
def mx_m23 : mx_Me := (3, yX3_loadStiffer, cX3_loadStiffer, 5, none)
def mx_m24 : mx_Me := (3, yX3_oneToNine, cX3_oneToNine, 1, (some .int))
def mx_m25 : mx_Me := (3, yX3_weigh, cX3_weigh, 4, none)
def mx_m26 : mx_Me := (3, yX3_link, cX3_link, 4, none)
def mx_m27 : mx_Me := (3, yX3_linkOf, cX3_linkOf, 3, (some .int))
def mx_m28 : mx_Me := (3, yX3_fillMatrix, cX3_fillMatrix, 8, none)
def mx_m29 : mx_Me := (3, yX3_sumMinors, cX3_sumMinors, 8, none)
def mx_m30 : mx_Me := (3, yX3_fillFactor, cX3_fillFactor, 8, none)
def mx_m31 : mx_Me := (3, yX3_tonesUnder, cX3_tonesUnder, 6, (some .int))
def mx_m32 : mx_Me := (3, yX3_tonesAt, cX3_tonesAt, 5, (some .int))
def mx_m33 : mx_Me := (3, yX3_tone, cX3_tone, 5, (some .int))
def mx_m34 : mx_Me := (3, yX3_soundsLike, cX3_soundsLike, 3, (some .boolean))
def mx_m35 : mx_Me := (3, yX3_divisor, cX3_divisor, 4, (some .long))
def mx_m36 : mx_Me := (4, yX4_init, cX4_init, 1, none)
def mx_m37 : mx_Me := (4, yX4_add, cX4_add, 3, (some .int))
def mx_m38 : mx_Me := (4, yX4_isUnder, cX4_isUnder, 4, (some .boolean))
def mx_m39 : mx_Me := (4, yX4_stiffOf, cX4_stiffOf, 3, (some .int))
def mx_m40 : mx_Me := (4, yX4_run, cX4_run, 11, (some .int))
def mx_m41 : mx_Me := (4, yX4_begin, cX4_begin, 2, none)
def mx_m42 : mx_Me := (5, yX5_init, cX5_init, 1, none)
def mx_m43 : mx_Me := (5, yX5_hasStroke, cX5_hasStroke, 4, (some .boolean))
def mx_m44 : mx_Me := (5, yX5_addStroke, cX5_addStroke, 4, none)
def mx_m45 : mx_Me := (5, yX5_hasWish, cX5_hasWish, 4, (some .boolean))
def mx_m46 : mx_Me := (5, yX5_addWish, cX5_addWish, 4, none)
def mx_m47 : mx_Me := (5, yX5_highestWish, cX5_highestWish, 3, (some .int))
def mx_m48 : mx_Me := (5, yX5_applies, cX5_applies, 7, (some .boolean))
def mx_m49 : mx_Me := (5, yX5_search, cX5_search, 4, none)
def mx_m50 : mx_Me := (5, yX5_extend, cX5_extend, 8, none)
def mx_m51 : mx_Me := (5, yX5_compare, cX5_compare, 7, none)
def mx_m52 : mx_Me := (6, yX6_init, cX6_init, 1, none)
def mx_m53 : mx_Me := (6, yX6_add, cX6_add, 3, none)
def mx_m54 : mx_Me := (6, yX6_fit, cX6_fit, 5, (some .boolean))
def mx_m55 : mx_Me := (6, yX6_agreeing, cX6_agreeing, 5, (some .int))
def mx_m56 : mx_Me := (6, yX6_fewestOut, cX6_fewestOut, 5, (some .int))
def mx_m57 : mx_Me := (6, yX6_allFit, cX6_allFit, 7, (some .boolean))
def mx_m58 : mx_Me := (7, yX7_init, cX7_init, 1, none)
def mx_m59 : mx_Me := (7, yX7_clear, cX7_clear, 1, none)
def mx_m60 : mx_Me := (7, yX7_toneCount, cX7_toneCount, 3, (some .int))
def mx_m61 : mx_Me := (7, yX7_pieceBetween, cX7_pieceBetween, 4, (some .int))
def mx_m62 : mx_Me := (7, yX7_counting, cX7_counting, 2, (some .int))
def mx_m63 : mx_Me := (7, yX7_addPiece, cX7_addPiece, 4, none)
def mx_m64 : mx_Me := (7, yX7_addAllOf, cX7_addAllOf, 4, none)
def mx_m65 : mx_Me := (7, yX7_packed, cX7_packed, 2, (some .int))
def mx_m66 : mx_Me := (7, yX7_get, cX7_get, 3, (some .int))
def mx_m67 : mx_Me := (7, yX7_set, cX7_set, 4, none)
def mx_m68 : mx_Me := (7, yX7_addedTo, cX7_addedTo, 4, (some .int))
def mx_m69 : mx_Me := (8, yX8_init, cX8_init, 1, none)
def mx_m70 : mx_Me := (8, yX8_hold, cX8_hold, 3, none)
def mx_m71 : mx_Me := (8, yX8_holdRow, cX8_holdRow, 4, none)
def mx_m72 : mx_Me := (8, yX8_refusesRow, cX8_refusesRow, 2, (some .int))
def mx_m73 : mx_Me := (8, yX8_refusesNumbers, cX8_refusesNumbers, 2, (some .int))
def mx_m74 : mx_Me := (8, yX8_hasPlace, cX8_hasPlace, 3, (some .boolean))
def mx_m75 : mx_Me := (8, yX8_hasSpan, cX8_hasSpan, 4, (some .boolean))
def mx_m76 : mx_Me := (8, yX8_set, cX8_set, 5, none)
def mx_m77 : mx_Me := (8, yX8_cut, cX8_cut, 3, (some .long))
def mx_m78 : mx_Me := (8, yX8_greatest, cX8_greatest, 1, (some .long))
def mx_m79 : mx_Me := (8, yX8_setHeard, cX8_setHeard, 6, none)
def mx_m80 : mx_Me := (8, yX8_present, cX8_present, 5, (some .long))
def mx_m81 : mx_Me := (8, yX8_loudnessOf, cX8_loudnessOf, 8, (some .long))
def mx_m82 : mx_Me := (8, yX8_wave, cX8_wave, 2, (some .int))
def mx_m83 : mx_Me := (8, yX8_strongestPeriod, cX8_strongestPeriod, 8, (some .int))
def mx_m84 : mx_Me := (9, yX9_init, cX9_init, 1, none)
def mx_m85 : mx_Me := (9, yX9_add, cX9_add, 4, none)
def mx_m86 : mx_Me := (9, yX9_read, cX9_read, 4, (some .int))
def mx_m87 : mx_Me := (9, yX9_readCorners, cX9_readCorners, 3, (some .boolean))
def mx_m88 : mx_Me := (9, yX9_readPart, cX9_readPart, 3, (some .boolean))
def mx_m89 : mx_Me := (9, yX9_readPiece, cX9_readPiece, 4, (some .boolean))
def mx_m90 : mx_Me := (9, yX9_readHold, cX9_readHold, 3, (some .boolean))
def mx_m91 : mx_Me := (9, yX9_readNumber, cX9_readNumber, 4, (some .boolean))
def mx_m92 : mx_Me := (9, yX9_peek, cX9_peek, 1, (some .int))
def mx_m93 : mx_Me := (9, yX9_digit, cX9_digit, 2, (some .int))
def mx_m94 : mx_Me := (9, yX9_corner, cX9_corner, 3, (some .int))
def mx_m95 : mx_Me := (10, yX10_init, cX10_init, 1, none)
def mx_m96 : mx_Me := (10, yX10_seek, cX10_seek, 3, none)
def mx_m97 : mx_Me := (10, yX10_extend, cX10_extend, 5, none)
def mx_m98 : mx_Me := (10, yX10_isLike, cX10_isLike, 4, (some .boolean))
def mx_m99 : mx_Me := (10, yX10_keepsPieces, cX10_keepsPieces, 4, (some .boolean))
def mx_m100 : mx_Me := (10, yX10_noteFound, cX10_noteFound, 4, none)
def mx_m101 : mx_Me := (11, yX11_init, cX11_init, 1, none)
def mx_m102 : mx_Me := (11, yX11_feed, cX11_feed, 3, (some .int))
def mx_m103 : mx_Me := (11, yX11_shape, cX11_shape, 2, (some .int))
def mx_m104 : mx_Me := (11, yX11_of, cX11_of, 4, (some .int))
def mx_m105 : mx_Me := (11, yX11_piece, cX11_piece, 7, (some .int))
def mx_m106 : mx_Me := (11, yX11_put, cX11_put, 6, (some .int))
def mx_m107 : mx_Me := (11, yX11_crack, cX11_crack, 7, (some .int))
def mx_m108 : mx_Me := (11, yX11_stroke, cX11_stroke, 7, (some .int))
def mx_m109 : mx_Me := (11, yX11_below, cX11_below, 5, (some .int))
def mx_m110 : mx_Me := (11, yX11_sums, cX11_sums, 5, (some .long))
def mx_m111 : mx_Me := (11, yX11_shut, cX11_shut, 5, (some .int))
def mx_m112 : mx_Me := (11, yX11_still, cX11_still, 6, (some .int))
def mx_m113 : mx_Me := (11, yX11_split, cX11_split, 10, (some .int))
def mx_m114 : mx_Me := (11, yX11_bounds, cX11_bounds, 7, (some .int))
def mx_m115 : mx_Me := (11, yX11_led, cX11_led, 11, (some .int))
def mx_m116 : mx_Me := (11, yX11_turnsOf, cX11_turnsOf, 3, (some .int))
def mx_m117 : mx_Me := (11, yX11_orbit, cX11_orbit, 4, (some .int))
def mx_m118 : mx_Me := (11, yX11_table, cX11_table, 5, (some .int))
def mx_m119 : mx_Me := (11, yX11_alike, cX11_alike, 6, (some .int))
def mx_m120 : mx_Me := (11, yX11_plan, cX11_plan, 8, (some .int))
def mx_m121 : mx_Me := (11, yX11_wish, cX11_wish, 5, (some .int))
def mx_m122 : mx_Me := (11, yX11_moved, cX11_moved, 5, (some .int))
def mx_m123 : mx_Me := (11, yX11_tune, cX11_tune, 3, (some .int))
def mx_m124 : mx_Me := (11, yX11_forget, cX11_forget, 2, (some .int))
def mx_m125 : mx_Me := (11, yX11_hear, cX11_hear, 2, (some .int))
def mx_m126 : mx_Me := (11, yX11_fits, cX11_fits, 5, (some .int))
def mx_m127 : mx_Me := (11, yX11_next, cX11_next, 4, (some .int))
def mx_m128 : mx_Me := (11, yX11_unhear, cX11_unhear, 2, (some .int))
def mx_m129 : mx_Me := (11, yX11_damp, cX11_damp, 3, (some .int))
def mx_m130 : mx_Me := (11, yX11_ear, cX11_ear, 4, (some .int))
def mx_m131 : mx_Me := (11, yX11_blow, cX11_blow, 6, (some .int))
def mx_m132 : mx_Me := (11, yX11_roll, cX11_roll, 4, (some .int))
def mx_m133 : mx_Me := (11, yX11_rolled, cX11_rolled, 5, (some .int))
def mx_m134 : mx_Me := (11, yX11_heard, cX11_heard, 3, (some .int))
def mx_m135 : mx_Me := (11, yX11_loud, cX11_loud, 3, (some .int))
def mx_m136 : mx_Me := (11, yX11_write, cX11_write, 8, (some .int))
def mx_m137 : mx_Me := (11, yX11_loudness, cX11_loudness, 4, (some .int))
def mx_m138 : mx_Me := (11, yX11_strongest, cX11_strongest, 3, (some .int))
def mx_m139 : mx_Me := (11, yX11_ratio, cX11_ratio, 3, (some .int))
def mx_m140 : mx_Me := (11, yX11_agree, cX11_agree, 7, (some .int))
def mx_m141 : mx_Me := (11, yX11_unratio, cX11_unratio, 2, (some .int))
def mx_m142 : mx_Me := (11, yX11_join, cX11_join, 7, (some .int))
def mx_m143 : mx_Me := (11, yX11_law, cX11_law, 7, (some .int))
def mx_m144 : mx_Me := (11, yX11_undo, cX11_undo, 1, (some .int))
def mx_m145 : mx_Me := (11, yX11_redo, cX11_redo, 1, (some .int))
def mx_m146 : mx_Me := (11, yX11_digest, cX11_digest, 4, (some .int))
def mx_m147 : mx_Me := (11, yX11_body, cX11_body, 2, (some .int))
def mx_m148 : mx_Me := (11, yX11_act, cX11_act, 4, (some .int))
def mx_m149 : mx_Me := (11, yX11_trace, cX11_trace, 2, (some .int))
def mx_m150 : mx_Me := (11, yX11_keep, cX11_keep, 3, (some .int))
def mx_m151 : mx_Me := (11, yX11_row, cX11_row, 4, (some .int))
def mx_m152 : mx_Me := (11, yX11_place, cX11_place, 6, (some .int))
def mx_m153 : mx_Me := (11, yX11_element, cX11_element, 3, (some .long))
def mx_m154 : mx_Me := (11, yX11_shift, cX11_shift, 7, (some .int))
def mx_m155 : mx_Me := (11, yX11_taken, cX11_taken, 5, (some .int))
def mx_m156 : mx_Me := (11, yX11_count, cX11_count, 2, (some .int))
def mx_m157 : mx_Me := (11, yX11_within, cX11_within, 3, (some .boolean))
def mx_m158 : mx_Me := (11, yX11_isMark, cX11_isMark, 1, (some .boolean))
def mx_m159 : mx_Me := (11, yX11_isForce, cX11_isForce, 1, (some .boolean))
def mx_m160 : mx_Me := (11, yX11_isEar, cX11_isEar, 1, (some .boolean))
def mx_m161 : mx_Me := (11, yX11_isShelf, cX11_isShelf, 1, (some .boolean))
def mx_m162 : mx_Me := (11, yX11_isKind, cX11_isKind, 1, (some .boolean))
def mx_m163 : mx_Me := (11, yX11_isBody, cX11_isBody, 2, (some .boolean))
def mx_m164 : mx_Me := (11, yX11_isCorner, cX11_isCorner, 2, (some .boolean))
def mx_m165 : mx_Me := (11, yX11_isTone, cX11_isTone, 3, (some .boolean))
def mx_m166 : mx_Me := (11, yX11_shapeAt, cX11_shapeAt, 2, (some (.object "PlatesSing$Shape")))
def mx_m167 : mx_Me := (11, yX11_planned, cX11_planned, 1, (some (.object "PlatesSing$Shape")))
def mx_m168 : mx_Me := (11, yX11_isFullFor, cX11_isFullFor, 2, (some .boolean))
def mx_m169 : mx_Me := (11, yX11_addDraft, cX11_addDraft, 2, (some .int))
def mx_m170 : mx_Me := (11, yX11_change, cX11_change, 6, (some .int))
def mx_m171 : mx_Me := (11, yX11_under, cX11_under, 3, (some .int))
def mx_m172 : mx_Me := (12, yX12_init, cX12_init, 1, none)
def mx_m173 : mx_Me := (12, yX12_in, cX12_in, 3, (some .boolean))
def mx_m174 : mx_Me := (12, yX12_lesser, cX12_lesser, 2, (some .int))
def mx_m175 : mx_Me := (12, yX12_greater, cX12_greater, 2, (some .int))
def mx_m176 : mx_Me := (12, yX12_sizeOf, cX12_sizeOf, 1, (some .int))
def mx_m177 : mx_Me := (12, yX12_isShape, cX12_isShape, 2, (some .boolean))
def mx_m178 : mx_Me := (12, yX12_isCorner, cX12_isCorner, 3, (some .boolean))
def mx_m179 : mx_Me := (12, yX12_at, cX12_at, 3, (some .int))
def mx_m180 : mx_Me := (12, yX12_hasPiece, cX12_hasPiece, 4, (some .boolean))
def mx_m181 : mx_Me := (12, yX12_setPiece, cX12_setPiece, 9, none)
def mx_m182 : mx_Me := (12, yX12_clear, cX12_clear, 3, none)
def mx_m183 : mx_Me := (12, yX12_piecesOf, cX12_piecesOf, 5, (some .int))
def mx_m184 : mx_Me := (12, yX12_feed, cX12_feed, 4, (some .int))
def mx_m185 : mx_Me := (12, yX12_look, cX12_look, 1, (some .int))
def mx_m186 : mx_Me := (12, yX12_wrong, cX12_wrong, 1, none)
def mx_m187 : mx_Me := (12, yX12_isDigit, cX12_isDigit, 1, (some .boolean))
def mx_m188 : mx_Me := (12, yX12_digit, cX12_digit, 2, (some .int))
def mx_m189 : mx_Me := (12, yX12_letter, cX12_letter, 2, (some .int))
def mx_m190 : mx_Me := (12, yX12_readPiece, cX12_readPiece, 4, none)
def mx_m191 : mx_Me := (12, yX12_readPart, cX12_readPart, 6, none)
def mx_m192 : mx_Me := (12, yX12_readShape, cX12_readShape, 2, none)
def mx_m193 : mx_Me := (12, yX12_bear, cX12_bear, 4, none)
def mx_m194 : mx_Me := (12, yX12_shape, cX12_shape, 2, (some .int))
def mx_m195 : mx_Me := (12, yX12_tonesOf, cX12_tonesOf, 4, (some .int))
def mx_m196 : mx_Me := (12, yX12_of, cX12_of, 4, (some .int))
def mx_m197 : mx_Me := (12, yX12_piece, cX12_piece, 6, (some .int))
def mx_m198 : mx_Me := (12, yX12_kept, cX12_kept, 7, none)
def mx_m199 : mx_Me := (12, yX12_setStiff, cX12_setStiff, 7, none)
def mx_m200 : mx_Me := (12, yX12_set, cX12_set, 5, none)
def mx_m201 : mx_Me := (12, yX12_put, cX12_put, 7, (some .int))
def mx_m202 : mx_Me := (12, yX12_crack, cX12_crack, 7, (some .int))
def mx_m203 : mx_Me := (12, yX12_stroke, cX12_stroke, 5, (some .int))
def mx_m204 : mx_Me := (12, yX12_undo, cX12_undo, 1, (some .int))
def mx_m205 : mx_Me := (12, yX12_redo, cX12_redo, 1, (some .int))
def mx_m206 : mx_Me := (12, yX12_digest, cX12_digest, 5, (some .int))
def mx_m207 : mx_Me := (12, yX12_massOf, cX12_massOf, 2, (some .int))
def mx_m208 : mx_Me := (12, yX12_take, cX12_take, 4, none)
def mx_m209 : mx_Me := (12, yX12_layMatrix, cX12_layMatrix, 7, none)
def mx_m210 : mx_Me := (12, yX12_minor, cX12_minor, 11, (some .long))
def mx_m211 : mx_Me := (12, yX12_bitsOf, cX12_bitsOf, 3, (some .int))
def mx_m212 : mx_Me := (12, yX12_findSums, cX12_findSums, 4, none)
def mx_m213 : mx_Me := (12, yX12_changes, cX12_changes, 6, (some .int))
def mx_m214 : mx_Me := (12, yX12_atMark, cX12_atMark, 5, (some .int))
def mx_m215 : mx_Me := (12, yX12_isMark, cX12_isMark, 1, (some .boolean))
def mx_m216 : mx_Me := (12, yX12_below, cX12_below, 4, (some .int))
def mx_m217 : mx_Me := (12, yX12_sums, cX12_sums, 4, (some .long))
def mx_m218 : mx_Me := (12, yX12_forgetChanges, cX12_forgetChanges, 2, none)
def mx_m219 : mx_Me := (12, yX12_shutOf, cX12_shutOf, 6, (some .int))
def mx_m220 : mx_Me := (12, yX12_shutNow, cX12_shutNow, 3, (some .int))
def mx_m221 : mx_Me := (12, yX12_shut, cX12_shut, 4, (some .int))
def mx_m222 : mx_Me := (12, yX12_still, cX12_still, 5, (some .int))
def mx_m223 : mx_Me := (12, yX12_split, cX12_split, 9, (some .int))
def mx_m224 : mx_Me := (12, yX12_bounds, cX12_bounds, 10, (some .int))
def mx_m225 : mx_Me := (12, yX12_setCount, cX12_setCount, 4, none)
def mx_m226 : mx_Me := (12, yX12_led, cX12_led, 14, (some .int))
def mx_m227 : mx_Me := (12, yX12_areLike, cX12_areLike, 7, (some .boolean))
def mx_m228 : mx_Me := (12, yX12_countBetween, cX12_countBetween, 4, (some .int))
def mx_m229 : mx_Me := (12, yX12_turnOn, cX12_turnOn, 8, none)
def mx_m230 : mx_Me := (12, yX12_findTurns, cX12_findTurns, 4, none)
def mx_m231 : mx_Me := (12, yX12_turnsOf, cX12_turnsOf, 2, (some .int))
def mx_m232 : mx_Me := (12, yX12_orbit, cX12_orbit, 3, (some .int))
def mx_m233 : mx_Me := (12, yX12_tableOf, cX12_tableOf, 3, (some .int))
def mx_m234 : mx_Me := (12, yX12_table, cX12_table, 3, (some .int))
def mx_m235 : mx_Me := (12, yX12_divisor, cX12_divisor, 5, (some .long))
def mx_m236 : mx_Me := (12, yX12_lastSum, cX12_lastSum, 3, (some .long))
def mx_m237 : mx_Me := (12, yX12_soundAlike, cX12_soundAlike, 4, (some .boolean))
def mx_m238 : mx_Me := (12, yX12_alike, cX12_alike, 4, (some .int))
def mx_m239 : mx_Me := (12, yX12_plan, cX12_plan, 6, (some .int))
def mx_m240 : mx_Me := (12, yX12_wish, cX12_wish, 5, (some .int))
def mx_m241 : mx_Me := (12, yX12_struck, cX12_struck, 7, (some .boolean))
def mx_m242 : mx_Me := (12, yX12_moved, cX12_moved, 4, (some .int))
def mx_m243 : mx_Me := (12, yX12_lacks, cX12_lacks, 4, (some .int))
def mx_m244 : mx_Me := (12, yX12_digitsOf, cX12_digitsOf, 4, (some .int))
def mx_m245 : mx_Me := (12, yX12_tuneOn, cX12_tuneOn, 4, none)
def mx_m246 : mx_Me := (12, yX12_tune, cX12_tune, 3, (some .int))
def mx_m247 : mx_Me := (12, yX12_forget, cX12_forget, 2, (some .int))
def mx_m248 : mx_Me := (12, yX12_hear, cX12_hear, 2, (some .int))
def mx_m249 : mx_Me := (12, yX12_unhear, cX12_unhear, 2, (some .int))
def mx_m250 : mx_Me := (12, yX12_tryFit, cX12_tryFit, 6, none)
def mx_m251 : mx_Me := (12, yX12_findFits, cX12_findFits, 6, none)
def mx_m252 : mx_Me := (12, yX12_fits, cX12_fits, 4, (some .int))
def mx_m253 : mx_Me := (12, yX12_next, cX12_next, 8, (some .int))
def mx_m254 : mx_Me := (12, yX12_damp, cX12_damp, 3, (some .int))
def mx_m255 : mx_Me := (12, yX12_isEar, cX12_isEar, 1, (some .boolean))
def mx_m256 : mx_Me := (12, yX12_ear, cX12_ear, 4, (some .int))
def mx_m257 : mx_Me := (12, yX12_begin, cX12_begin, 3, none)
def mx_m258 : mx_Me := (12, yX12_step, cX12_step, 4, (some .int))
def mx_m259 : mx_Me := (12, yX12_blow, cX12_blow, 7, (some .int))
def mx_m260 : mx_Me := (12, yX12_roll, cX12_roll, 4, (some .int))
def mx_m261 : mx_Me := (12, yX12_rolled, cX12_rolled, 6, (some .int))
def mx_m262 : mx_Me := (12, yX12_heard, cX12_heard, 3, (some .int))
def mx_m263 : mx_Me := (12, yX12_loud, cX12_loud, 5, (some .int))
def mx_m264 : mx_Me := (12, yX12_isWhole, cX12_isWhole, 2, (some .boolean))
def mx_m265 : mx_Me := (12, yX12_mostOf, cX12_mostOf, 1, (some .int))
def mx_m266 : mx_Me := (12, yX12_write, cX12_write, 8, (some .int))
def mx_m267 : mx_Me := (12, yX12_heardIn, cX12_heardIn, 5, (some .long))
def mx_m268 : mx_Me := (12, yX12_signOf, cX12_signOf, 3, (some .int))
def mx_m269 : mx_Me := (12, yX12_loudnessOf, cX12_loudnessOf, 8, (some .long))
def mx_m270 : mx_Me := (12, yX12_whyNoRow, cX12_whyNoRow, 2, (some .int))
def mx_m271 : mx_Me := (12, yX12_loudness, cX12_loudness, 5, (some .int))
def mx_m272 : mx_Me := (12, yX12_strongest, cX12_strongest, 8, (some .int))
def mx_m273 : mx_Me := (12, yX12_ratio, cX12_ratio, 3, (some .int))
def mx_m274 : mx_Me := (12, yX12_unratio, cX12_unratio, 2, (some .int))
def mx_m275 : mx_Me := (12, yX12_doAgree, cX12_doAgree, 5, (some .boolean))
def mx_m276 : mx_Me := (12, yX12_allAgree, cX12_allAgree, 7, (some .boolean))
def mx_m277 : mx_Me := (12, yX12_agree, cX12_agree, 8, (some .int))
def mx_m278 : mx_Me := (12, yX12_copyPieces, cX12_copyPieces, 9, none)
def mx_m279 : mx_Me := (12, yX12_copyCorners, cX12_copyCorners, 7, none)
def mx_m280 : mx_Me := (12, yX12_join, cX12_join, 6, (some .int))
def mx_m281 : mx_Me := (12, yX12_changesOf, cX12_changesOf, 3, (some .int))
def mx_m282 : mx_Me := (12, yX12_law, cX12_law, 5, (some .int))
def mx_m283 : mx_Me := (12, yX12_isBody, cX12_isBody, 2, (some .boolean))
def mx_m284 : mx_Me := (12, yX12_isUnder, cX12_isUnder, 2, (some .boolean))
def mx_m285 : mx_Me := (12, yX12_body, cX12_body, 2, (some .int))
def mx_m286 : mx_Me := (12, yX12_ran, cX12_ran, 2, none)
def mx_m287 : mx_Me := (12, yX12_plainStiffens, cX12_plainStiffens, 3, (some .int))
def mx_m288 : mx_Me := (12, yX12_pieceStiffens, cX12_pieceStiffens, 3, (some .int))
def mx_m289 : mx_Me := (12, yX12_stiffens, cX12_stiffens, 3, (some .int))
def mx_m290 : mx_Me := (12, yX12_plainWeighs, cX12_plainWeighs, 3, (some .int))
def mx_m291 : mx_Me := (12, yX12_weighs, cX12_weighs, 4, (some .int))
def mx_m292 : mx_Me := (12, yX12_plainSounds, cX12_plainSounds, 3, (some .int))
def mx_m293 : mx_Me := (12, yX12_sounds, cX12_sounds, 4, (some .int))
def mx_m294 : mx_Me := (12, yX12_plainTells, cX12_plainTells, 4, (some .int))
def mx_m295 : mx_Me := (12, yX12_crackedTells, cX12_crackedTells, 3, (some .int))
def mx_m296 : mx_Me := (12, yX12_tells, cX12_tells, 3, (some .int))
def mx_m297 : mx_Me := (12, yX12_act, cX12_act, 4, (some .int))
def mx_m298 : mx_Me := (12, yX12_trace, cX12_trace, 2, (some .int))
def mx_m299 : mx_Me := (12, yX12_count, cX12_count, 2, (some .int))
def mx_m300 : mx_Me := (12, yX12_isShelf, cX12_isShelf, 1, (some .boolean))
def mx_m301 : mx_Me := (12, yX12_keep, cX12_keep, 3, (some .int))
def mx_m302 : mx_Me := (12, yX12_row, cX12_row, 5, (some .int))
def mx_m303 : mx_Me := (12, yX12_whyNoPlace, cX12_whyNoPlace, 3, (some .int))
def mx_m304 : mx_Me := (12, yX12_place, cX12_place, 7, (some .int))
def mx_m305 : mx_Me := (12, yX12_element, cX12_element, 3, (some .long))
def mx_m306 : mx_Me := (12, yX12_shift, cX12_shift, 7, (some .int))
def mx_m307 : mx_Me := (12, yX12_taken, cX12_taken, 3, (some .int))
def mx_m308 : mx_Me := (13, yJ6_compare_7cf53, cJ6_compare_7cf53, 2, (some .int))
def mx_m309 : mx_Me := (13, yJ6_bitCount_0f7a4, cJ6_bitCount_0f7a4, 1, (some .int))
def mx_m310 : mx_Me := (14, yJ9_abs_0f7a4, cJ9_abs_0f7a4, 1, (some .int))
def mx_m311 : mx_Me := (14, yJ9_abs_067f4, cJ9_abs_067f4, 2, (some .long))
def mx_m312 : mx_Me := (14, yJ9_max_7cf53, cJ9_max_7cf53, 2, (some .int))
def mx_m313 : mx_Me := (14, yJ9_max_f86c9, cJ9_max_f86c9, 4, (some .long))
def mx_m314 : mx_Me := (14, yJ9_min_7cf53, cJ9_min_7cf53, 2, (some .int))
def mx_m315 : mx_Me := (14, yJ9_min_f86c9, cJ9_min_f86c9, 4, (some .long))
def mx_m316 : mx_Me := (16, yJ7_fill_d0a16, cJ7_fill_d0a16, 5, none)
def mx_m317 : mx_Me := (16, yJ7_fill_53178, cJ7_fill_53178, 4, none)
def mx_meT : List (List mx_Me) := [[mx_m0, mx_m1, mx_m2, mx_m3, mx_m4, mx_m5, mx_m6, mx_m7, mx_m8, mx_m9, mx_m10, mx_m11, mx_m12, mx_m13, mx_m14, mx_m15], [mx_m16, mx_m17, mx_m18, mx_m19, mx_m20, mx_m21, mx_m22, mx_m23, mx_m24, mx_m25, mx_m26, mx_m27, mx_m28, mx_m29, mx_m30, mx_m31], [mx_m32, mx_m33, mx_m34, mx_m35, mx_m36, mx_m37, mx_m38, mx_m39, mx_m40, mx_m41, mx_m42, mx_m43, mx_m44, mx_m45, mx_m46, mx_m47], [mx_m48, mx_m49, mx_m50, mx_m51, mx_m52, mx_m53, mx_m54, mx_m55, mx_m56, mx_m57, mx_m58, mx_m59, mx_m60, mx_m61, mx_m62, mx_m63], [mx_m64, mx_m65, mx_m66, mx_m67, mx_m68, mx_m69, mx_m70, mx_m71, mx_m72, mx_m73, mx_m74, mx_m75, mx_m76, mx_m77, mx_m78, mx_m79], [mx_m80, mx_m81, mx_m82, mx_m83, mx_m84, mx_m85, mx_m86, mx_m87, mx_m88, mx_m89, mx_m90, mx_m91, mx_m92, mx_m93, mx_m94, mx_m95], [mx_m96, mx_m97, mx_m98, mx_m99, mx_m100, mx_m101, mx_m102, mx_m103, mx_m104, mx_m105, mx_m106, mx_m107, mx_m108, mx_m109, mx_m110, mx_m111], [mx_m112, mx_m113, mx_m114, mx_m115, mx_m116, mx_m117, mx_m118, mx_m119, mx_m120, mx_m121, mx_m122, mx_m123, mx_m124, mx_m125, mx_m126, mx_m127], [mx_m128, mx_m129, mx_m130, mx_m131, mx_m132, mx_m133, mx_m134, mx_m135, mx_m136, mx_m137, mx_m138, mx_m139, mx_m140, mx_m141, mx_m142, mx_m143], [mx_m144, mx_m145, mx_m146, mx_m147, mx_m148, mx_m149, mx_m150, mx_m151, mx_m152, mx_m153, mx_m154, mx_m155, mx_m156, mx_m157, mx_m158, mx_m159], [mx_m160, mx_m161, mx_m162, mx_m163, mx_m164, mx_m165, mx_m166, mx_m167, mx_m168, mx_m169, mx_m170, mx_m171, mx_m172, mx_m173, mx_m174, mx_m175], [mx_m176, mx_m177, mx_m178, mx_m179, mx_m180, mx_m181, mx_m182, mx_m183, mx_m184, mx_m185, mx_m186, mx_m187, mx_m188, mx_m189, mx_m190, mx_m191], [mx_m192, mx_m193, mx_m194, mx_m195, mx_m196, mx_m197, mx_m198, mx_m199, mx_m200, mx_m201, mx_m202, mx_m203, mx_m204, mx_m205, mx_m206, mx_m207], [mx_m208, mx_m209, mx_m210, mx_m211, mx_m212, mx_m213, mx_m214, mx_m215, mx_m216, mx_m217, mx_m218, mx_m219, mx_m220, mx_m221, mx_m222, mx_m223], [mx_m224, mx_m225, mx_m226, mx_m227, mx_m228, mx_m229, mx_m230, mx_m231, mx_m232, mx_m233, mx_m234, mx_m235, mx_m236, mx_m237, mx_m238, mx_m239], [mx_m240, mx_m241, mx_m242, mx_m243, mx_m244, mx_m245, mx_m246, mx_m247, mx_m248, mx_m249, mx_m250, mx_m251, mx_m252, mx_m253, mx_m254, mx_m255], [mx_m256, mx_m257, mx_m258, mx_m259, mx_m260, mx_m261, mx_m262, mx_m263, mx_m264, mx_m265, mx_m266, mx_m267, mx_m268, mx_m269, mx_m270, mx_m271], [mx_m272, mx_m273, mx_m274, mx_m275, mx_m276, mx_m277, mx_m278, mx_m279, mx_m280, mx_m281, mx_m282, mx_m283, mx_m284, mx_m285, mx_m286, mx_m287], [mx_m288, mx_m289, mx_m290, mx_m291, mx_m292, mx_m293, mx_m294, mx_m295, mx_m296, mx_m297, mx_m298, mx_m299, mx_m300, mx_m301, mx_m302, mx_m303], [mx_m304, mx_m305, mx_m306, mx_m307, mx_m308, mx_m309, mx_m310, mx_m311, mx_m312, mx_m313, mx_m314, mx_m315, mx_m316, mx_m317]]
def mx_me (i : Nat) : mx_Me := (mx_meT.getD (i / 16) []).getD (i % 16) mx_m0
def mx_cnT : List String := [RX0, RX1, RX2, RX3, RX4, RX5, RX6, RX7, RX8, RX9, RX10, RX11, RX12, RJ6, RJ9, RJ10, RJ7, RL]
def mx_cn (i : Nat) : String := mx_cnT.getD i RL
/-- cells and slots that a call of the method makes at most: only the constructors, shape, join and addDraft make any -/
def mx_buT : List (Nat × Nat × Nat) := [(1, 8, 838), (11, 2, 606), (16, 5, 200), (21, 10, 122), (36, 3, 424), (42, 7, 42), (52, 3, 19), (58, 8, 84), (69, 10, 384), (84, 1, 120), (95, 24, 280), (101, 104, 3349), (103, 9, 97), (142, 9, 97), (169, 9, 97), (172, 61, 12904)]
def mx_bu (i : Nat) : Nat × Nat := ((mx_buT.find? (fun q => Nat.beq q.1 i)).map (fun q => q.2)).getD (0, 0)
end
section
/-! ===== the mini machine: cells by number, states, the judgement mx_T ===== -/
def mx_nb (j : Nat) : Nat := if j = 0 then 13 else if j = 1 then 24 else if j = 2 then 38 else 49
def mx_pos : mx_A → Nat
  | .inl k => k
  | .inr (j, o) => if o < 9 then (if j = 0 then 4 + o else 158 + 9 * j + o) else if o = 20 then 99 + j else mx_nb j + (o - 30)
/-- a number of a cell as the machine makes it -/
def mx_va : mx_A → Prop
  | .inl k => k < 4 ∨ (35 ≤ k ∧ k < 38) ∨ (60 ≤ k ∧ k < 99) ∨ (105 ≤ k ∧ k < 167)
  | .inr (j, o) => o < 9 ∨ (o = 20 ∧ j < 6) ∨ (30 ≤ o ∧ o < 41 ∧ j < 4)
def mx_adr (n : Nat) : mx_A :=
  if n < 4 then .inl n else if n < 13 then .inr (0, n - 4) else if n < 24 then .inr (0, 30 + (n - 13)) else if n < 35 then .inr (1, 30 + (n - 24)) else if n < 38 then .inl n
  else if n < 49 then .inr (2, 30 + (n - 38)) else if n < 60 then .inr (3, 30 + (n - 49)) else if n < 99 then .inl n else if n < 105 then .inr (n - 99, 20) else if n < 167 then .inl n
  else .inr ((n - 158) / 9, (n - 158) % 9)
theorem mx_pos_s (j : Nat) {o : Nat} (h : o < 9) : mx_pos (.inr (j, o)) = if j = 0 then 4 + o else 158 + 9 * j + o := if_pos h
theorem mx_pos_r (j : Nat) : mx_pos (.inr (j, 20)) = 99 + j := rfl
theorem mx_pos_n (j : Nat) {o : Nat} (h : 30 ≤ o) : mx_pos (.inr (j, o)) = mx_nb j + (o - 30) := by
  show (if o < 9 then _ else if o = 20 then _ else _) = _
  rw [if_neg (by omega), if_neg (by omega)]
theorem mx_nb0 : mx_nb 0 = 13 := rfl
theorem mx_nb1 : mx_nb 1 = 24 := rfl
theorem mx_nb2 : mx_nb 2 = 38 := rfl
theorem mx_nb3 : mx_nb 3 = 49 := rfl
theorem mx_va_adr (n : Nat) : mx_va (mx_adr n) := by
  unfold mx_adr
  split; · exact Or.inl (by assumption)
  split; · exact Or.inl (by omega)
  split; · exact Or.inr (Or.inr (by omega))
  split; · exact Or.inr (Or.inr (by omega))
  split; · exact Or.inr (Or.inl (by omega))
  split; · exact Or.inr (Or.inr (by omega))
  split; · exact Or.inr (Or.inr (by omega))
  split; · exact Or.inr (Or.inr (Or.inl (by omega)))
  split; · exact Or.inr (Or.inl ⟨rfl, by omega⟩)
  split; · exact Or.inr (Or.inr (Or.inr (by omega)))
  exact Or.inl (Nat.mod_lt _ (by decide))
theorem mx_pos_adr (n : Nat) : mx_pos (mx_adr n) = n := by
  unfold mx_adr
  split; · rfl
  split; · (rw [mx_pos_s 0 (by omega), if_pos rfl]; omega)
  split; · (rw [mx_pos_n 0 (by omega), mx_nb0]; omega)
  split; · (rw [mx_pos_n 1 (by omega), mx_nb1]; omega)
  split; · rfl
  split; · (rw [mx_pos_n 2 (by omega), mx_nb2]; omega)
  split; · (rw [mx_pos_n 3 (by omega), mx_nb3]; omega)
  split; · rfl
  split; · (rw [mx_pos_r]; omega)
  split; · rfl
  rw [mx_pos_s _ (Nat.mod_lt _ (by decide)), if_neg (by omega)]
  omega
theorem mx_adr_pos {a : mx_A} (h : mx_va a) : mx_adr (mx_pos a) = a := by
  rcases a with k | ⟨j, o⟩
  · have h : k < 4 ∨ (35 ≤ k ∧ k < 38) ∨ (60 ≤ k ∧ k < 99) ∨ (105 ≤ k ∧ k < 167) := h
    show mx_adr k = _
    unfold mx_adr
    split; · rfl
    split; · (exfalso; omega)
    split; · (exfalso; omega)
    split; · (exfalso; omega)
    split; · rfl
    split; · (exfalso; omega)
    split; · (exfalso; omega)
    split; · rfl
    split; · (exfalso; omega)
    split; · rfl
    exfalso; omega
  · have h : o < 9 ∨ (o = 20 ∧ j < 6) ∨ (30 ≤ o ∧ o < 41 ∧ j < 4) := h
    rcases h with h | ⟨rfl, h⟩ | ⟨h1, h2, h3⟩
    · rw [mx_pos_s j h]
      by_cases hj : j = 0
      · subst hj
        rw [if_pos rfl]
        unfold mx_adr
        rw [if_neg (by omega), if_pos (by omega), show 4 + o - 4 = o by omega]
      · rw [if_neg hj]
        unfold mx_adr
        rw [if_neg (by omega), if_neg (by omega), if_neg (by omega), if_neg (by omega), if_neg (by omega), if_neg (by omega), if_neg (by omega), if_neg (by omega), if_neg (by omega), if_neg (by omega), show (158 + 9 * j + o - 158) / 9 = j by omega, show (158 + 9 * j + o - 158) % 9 = o by omega]
    · rw [mx_pos_r]
      unfold mx_adr
      rw [if_neg (by omega), if_neg (by omega), if_neg (by omega), if_neg (by omega), if_neg (by omega), if_neg (by omega), if_neg (by omega), if_neg (by omega), if_pos (by omega), show 99 + j - 99 = j by omega]
    · rw [mx_pos_n j h1]
      have hj : j = 0 ∨ j = 1 ∨ j = 2 ∨ j = 3 := by omega
      rcases hj with rfl | rfl | rfl | rfl
      · rw [mx_nb0]
        unfold mx_adr
        rw [if_neg (by omega), if_neg (by omega), if_pos (by omega), show 30 + (13 + (o - 30) - 13) = o by omega]
      · rw [mx_nb1]
        unfold mx_adr
        rw [if_neg (by omega), if_neg (by omega), if_neg (by omega), if_pos (by omega), show 30 + (24 + (o - 30) - 24) = o by omega]
      · rw [mx_nb2]
        unfold mx_adr
        rw [if_neg (by omega), if_neg (by omega), if_neg (by omega), if_neg (by omega), if_neg (by omega), if_pos (by omega), show 30 + (38 + (o - 30) - 38) = o by omega]
      · rw [mx_nb3]
        unfold mx_adr
        rw [if_neg (by omega), if_neg (by omega), if_neg (by omega), if_neg (by omega), if_neg (by omega), if_neg (by omega), if_pos (by omega), show 30 + (49 + (o - 30) - 49) = o by omega]
theorem mx_pos_inj {a b : mx_A} (ha : mx_va a) (hb : mx_va b) (h : mx_pos a = mx_pos b) : a = b := by
  rw [← mx_adr_pos ha, ← mx_adr_pos hb, h]
/-- launch; base, tables' numbers of classes and slots, array classes, static arrays' cells; the script -/
abbrev mx_Ev : Type := Launch × Nat × va_G × (Nat → ClassId) × (Nat → Nat) × Nat × (Nat → Int32)
abbrev mx_B (E : mx_Ev) : Nat := E.2.1
abbrev mx_G (E : mx_Ev) : va_G := E.2.2.1
abbrev mx_aC (E : mx_Ev) : Nat → ClassId := E.2.2.2.1
abbrev mx_sa (E : mx_Ev) : Nat → Nat := E.2.2.2.2.1
abbrev mx_sn (E : mx_Ev) : Nat := E.2.2.2.2.2.1
abbrev mx_sx (E : mx_Ev) : Nat → Int32 := E.2.2.2.2.2.2
def mx_ad (E : mx_Ev) (a : mx_A) : Nat := mx_B E + mx_pos a
def mx_sh (E : mx_Ev) : mx_V → Value
  | .inr a => .ref (mx_ad E a)
  | .inl (.float u) => .ref (mx_sa E u.toNat)
  | .inl v => v
def mx_shl (E : mx_Ev) (q : Nat × mx_V) : Nat × Value := (q.1, mx_sh E q.2)
def mx_cat : mx_V → Nat
  | .inr _ => 1
  | .inl v => v.category
theorem mx_cat_sh (E : mx_Ev) (v : mx_V) : (mx_sh E v).category = mx_cat v := by
  rcases v with v | a
  · cases v <;> rfl
  · rfl
def mx_fv (E : mx_Ev) (h : mx_H) (a : mx_A) (ci j : Nat) : Value := if mx_ff ci j = 2 then va_rf ((h.2.2.2 a j).map (mx_ad E)) else .int (h.2.1 a j)
def mx_ar (E : mx_Ev) (h : mx_H) (a : mx_A) (kd : Nat) : (Nat → Int32) ⊕ (Nat → Int64) ⊕ (Nat → UInt32) ⊕ (Nat → UInt64) ⊕ (Nat → Option Nat) :=
  if kd = 101 then .inr (.inl (h.2.2.1 a)) else if kd ≤ 103 then .inl (h.2.1 a) else .inr (.inr (.inr (.inr (fun j => (h.2.2.2 a j).map (mx_ad E)))))
def mx_cell (E : mx_Ev) (h : mx_H) (a : mx_A) : va_E :=
  if (mx_lo a).1 < 100 then .inr ((mx_lo a).1, (List.range (mx_lo a).2).map (mx_fv E h a (mx_lo a).1)) else .inl (mx_aC E ((mx_lo a).1 - 100), (mx_lo a).2, mx_ar E h a (mx_lo a).1)
def mx_W (E : mx_Ev) (h : mx_H) : va_W := (List.range h.1).map (fun k => (mx_B E + k, mx_cell E h (mx_adr k)))
def mx_wfa (n : Nat) (a : mx_A) : Prop := mx_va a ∧ mx_pos a < n
def mx_wf (n : Nat) : mx_V → Prop
  | .inr a => mx_wfa n a
  | .inl (.ref _) => False
  | .inl _ => True
theorem mx_wf.mono {n n' : Nat} {v : mx_V} (h : mx_wf n v) (hn : n ≤ n') : mx_wf n' v := by
  rcases v with v | a
  · cases v <;> first | trivial | exact h
  · exact ⟨h.1, Nat.lt_of_lt_of_le h.2 hn⟩
theorem mx_W_get {E : mx_Ev} {h : mx_H} {a : mx_A} (ha : mx_wfa h.1 a) : (mx_W E h)[mx_pos a]? = some (mx_ad E a, mx_cell E h a) := by
  unfold mx_W
  rw [List.getElem?_map, List.getElem?_range ha.2]
  simp only [Option.map_some, mx_adr_pos ha.1]
  rfl
theorem mx_W_ext {E : mx_Ev} {h h' : mx_H} {a : mx_A} (hn : h'.1 = h.1) (ha : mx_wfa h.1 a) (hs : ∀ b, mx_va b → b ≠ a → mx_cell E h' b = mx_cell E h b) :
    mx_W E h' = (mx_W E h).set (mx_pos a) (mx_ad E a, mx_cell E h' a) := by
  apply List.ext_getElem?
  intro k
  rw [List.getElem?_set]
  unfold mx_W
  rw [List.getElem?_map, List.getElem?_map, hn]
  by_cases hk : mx_pos a = k
  · subst hk
    rw [if_pos rfl, List.getElem?_range ha.2]
    have hl : mx_pos a < ((List.range h.1).map (fun k => (mx_B E + k, mx_cell E h (mx_adr k)))).length := by simpa using ha.2
    rw [if_pos hl]
    simp only [Option.map_some, mx_adr_pos ha.1]
    rfl
  · rw [if_neg hk]
    by_cases hl : k < h.1
    · rw [List.getElem?_range hl]
      simp only [Option.map_some]
      rw [hs (mx_adr k) (mx_va_adr k) (fun e => hk (by rw [← e, mx_pos_adr]))]
    · rw [List.getElem?_eq_none (by simpa using hl)]
      rfl
theorem mx_W_push {E : mx_Ev} {h h' : mx_H} {a : mx_A} (hp : mx_pos a = h.1) (hv : mx_va a) (hn : h'.1 = h.1 + 1) (hs : ∀ b, mx_va b → b ≠ a → mx_cell E h' b = mx_cell E h b) :
    mx_W E h' = mx_W E h ++ [(mx_ad E a, mx_cell E h' a)] := by
  unfold mx_W
  rw [hn, List.range_succ, List.map_append]
  congr 1
  · apply List.map_congr_left
    intro k hk
    have hk := List.mem_range.mp hk
    rw [hs (mx_adr k) (mx_va_adr k) (fun e => by rw [← e, mx_pos_adr] at hp; omega)]
  · simp only [List.map_cons, List.map_nil, ← hp, mx_adr_pos hv]
    rfl
def mx_tys (E : mx_Ev) : List (ClassId × FieldType) := [(mx_aC E 0, .int), (mx_aC E 1, .long), (mx_aC E 2, .byte), (mx_aC E 3, .boolean), (mx_aC E 4, .object RX7), (mx_aC E 5, .array .long)]
def mx_ws : List Cond := lw_tbl.filter goodWord
def mx_nest : List Cond := tables_1.filter (fun w => match w with | .methodLinkNest _ _ _ _ => true | _ => false)
def mx_k0 : Nat → Int32 := fun j => [-1, 0, 1, 0, 1, 4].getD j 0
def mx_k1 : Nat → Int32 := fun j => [1, 10, 11, 2, 20, 0, 0, 0, 0, 31, 30, 0, 0, 40, 0, 0, 50, 0, 0, 51, 0, 0, 60, 61].getD j 0
def mx_ra (E : mx_Ev) : Nat → Prop := fun q => mx_B E ≤ q
/-- what holds of the tables and of the static cells -/
def mx_Nv (E : mx_Ev) (U : State) (H : Heap) : Prop :=
  va_K (mx_G E) vwCl (mx_tys E) U ∧ (∀ w ∈ mx_nest, va_Nw w U) ∧ va_AO RX7 U ∧ (Cond.arrayOver (.array .long)).before #[] U = true ∧
  va_Z RX4 "KIND_ABOVE" "[I" (.ref (mx_sa E 0)) (mx_ra E) U H ∧ va_Z RX4 "ACTS" "[I" (.ref (mx_sa E 1)) (mx_ra E) U H ∧
  va_X (mx_sa E 0) 6 mx_k0 U H ∧ va_X (mx_sa E 1) 24 mx_k1 U H ∧ va_X (mx_sa E 2) (mx_sn E) (mx_sx E) U H ∧
  mx_sa E 0 < mx_B E ∧ mx_sa E 1 < mx_B E ∧ mx_sa E 2 < mx_B E ∧ mx_sn E < 2147483648 ∧ mx_B E ≤ H.size
abbrev mx_ow (i : Nat) : String := mx_cn (mx_me i).1
abbrev mx_y (i : Nat) : MethodName := (mx_me i).2.1
abbrev mx_by (i : Nat) : ByteArray := (mx_me i).2.2.1
abbrev mx_nL (i : Nat) : Nat := (mx_me i).2.2.2.1
abbrev mx_rt (i : Nat) : Option FieldType := (mx_me i).2.2.2.2
/-- what holds of a method's frame from its start to its end -/
def mx_S (E : mx_Ev) (d mid : Nat) (p : Program) (R : Room) (s : State) (m : MethodId) (args : Array Value) (meth : Method) (c : Code) : Prop :=
  p.tables.exec = Jvm.exec ∧ c.code = mx_by mid ∧ c.maxLocals = mx_nL mid ∧ meth.sig.returnType = mx_rt mid ∧ meth.locks = false ∧ s.vm.findClass (mx_ow mid) = some m.cls ∧
  (∀ w ∈ mx_ws, w.before args s = true) ∧ ((mx_y mid).name = "<init>" → meth.name = "<init>") ∧ mx_Nv E s s.heap ∧ d ≤ R.frames ∧ 40 * d ≤ R.locals
/-- the heap holds the mini machine's -/
def mx_D (E : mx_Ev) (fin : mx_A → Nat → Option mx_A) (h : mx_H) (s : State) (H : Heap) (locs : List Loc) : Prop :=
  va_P (mx_G E) vwCl (mx_W E h) H ∧ va_D (mx_ra E) (mx_W E h) ∧ va_S (mx_ra E) s.heap H locs ∧ H.size = mx_B E + h.1 ∧
  (∀ a k b, h.2.2.2 a k = some b → mx_wfa h.1 b) ∧ (∀ a k b, fin a k = some b → mx_wfa h.1 a → h.2.2.2 a k = some b)
def mx_rk (r : Option FieldType) (ins : Instr) (v : Option mx_V) : Prop :=
  (ins = .return_ ∧ v = none ∧ r = none) ∨ (∃ x, ins = .ireturn ∧ v = some (.inl (.int x)) ∧ (r = some .int ∨ (r = some .boolean ∧ narrow .boolean (.int x) = .int x))) ∨
  (∃ x, ins = .lreturn ∧ v = some (.inl (.long x)) ∧ r = some .long) ∨ (ins = .areturn ∧ (v = some (.inl .null) ∨ ∃ a, v = some (.inr a)) ∧ r = some (.object RX7))
/-- from pc, with these locals and this stack and heap, the method ends, with Q of answer and heap; it makes bc cells and bs slots at most, and calls d deep -/
def mx_T (E : mx_Ev) (fin : mx_A → Nat → Option mx_A) (d bc bs mid pc : Nat) (lv : mx_Lv) (st : List mx_V) (h : mx_H) (Q : Option mx_V → mx_H → Prop) : Prop :=
  ∀ (p : Program) (e : Env) (R : Room) (s : State) (m : MethodId) (args : Array Value) (below : List Frame) (meth : Method) (c : Code) (H : Heap) (locs : List Loc) (cells slots : Nat) (Qw : State → Prop) (ls : Array Slot),
    mx_S E d mid p R s m args meth c → mx_D E fin h s H locs → cells + bc ≤ R.cells → slots + bs ≤ R.slots → (∀ q ∈ lv, mx_wf h.1 q.2) → (∀ v ∈ st, mx_wf h.1 v) → lv_has ls (mx_nL mid) (lv.map (mx_shl E)) →
    (∀ (v : Option mx_V) (h' : mx_H) (H' : Heap) (locs' : List Loc) (cells' slots' pc' : Nat) (ls' : Array Slot) (ins : Instr), Q v h' → mx_D E fin h' s H' locs' → h.1 ≤ h'.1 → cells' ≤ cells + bc → slots' ≤ slots + bs →
      (∀ x, v = some x → mx_wf h'.1 x) → decode (mx_by mid) pc' = .ok (ins, 1) → mx_rk (mx_rt mid) ins v → W p E.1 e R s m args below meth c H' locs' cells' slots' Qw (F0 m pc' ls' (v.toList.map (mx_sh E)))) →
    W p E.1 e R s m args below meth c H locs cells slots Qw (F0 m pc ls (st.map (mx_sh E)))
/-- the locals at a method's entry -/
def mx_ent : Nat → List mx_V → mx_Lv
  | _, [] => []
  | i, v :: r => (i, v) :: mx_ent (i + mx_cat v) r
def mx_C (E : mx_Ev) (fin : mx_A → Nat → Option mx_A) (d mid : Nat) (av : List mx_V) (h : mx_H) (Q : Option mx_V → mx_H → Prop) : Prop :=
  mx_T E fin d (mx_bu mid).1 (mx_bu mid).2 mid 0 (mx_ent 0 av) [] h Q
theorem mx_T.mono {E : mx_Ev} {fin : mx_A → Nat → Option mx_A} {d bc bs mid pc : Nat} {lv : mx_Lv} {st : List mx_V} {h : mx_H} {Q Q' : Option mx_V → mx_H → Prop} (hT : mx_T E fin d bc bs mid pc lv st h Q) (hQ : ∀ v h', Q v h' → Q' v h') : mx_T E fin d bc bs mid pc lv st h Q' :=
  fun p e R s m args below meth c H locs cells slots Qw ls hS hD h1 h2 h3 h4 h5 h6 => hT p e R s m args below meth c H locs cells slots Qw ls hS hD h1 h2 h3 h4 h5 (fun v h' H' locs' cells' slots' pc' ls' ins q => h6 v h' H' locs' cells' slots' pc' ls' ins (hQ v h' q))
/-- a step that touches stack and locals alone -/
theorem mx_go {E : mx_Ev} {fin : mx_A → Nat → Option mx_A} {d bc bs mid pc pc' : Nat} {lv lv' : mx_Lv} {st st' : List mx_V} {h : mx_H} {Q : Option mx_V → mx_H → Prop}
    (hw : (∀ q ∈ lv, mx_wf h.1 q.2) → (∀ v ∈ st, mx_wf h.1 v) → (∀ q ∈ lv', mx_wf h.1 q.2) ∧ (∀ v ∈ st', mx_wf h.1 v))
    (hstep : ∀ (p : Program) (e : Env) (R : Room) (s : State) (m : MethodId) (args : Array Value) (below : List Frame) (meth : Method) (c : Code) (H : Heap) (locs : List Loc) (cells slots : Nat) (Qw : State → Prop) (ls : Array Slot),
      mx_S E d mid p R s m args meth c → mx_D E fin h s H locs → lv_has ls (mx_nL mid) (lv.map (mx_shl E)) →
      (∀ ls', lv_has ls' (mx_nL mid) (lv'.map (mx_shl E)) → W p E.1 e R s m args below meth c H locs cells slots Qw (F0 m pc' ls' (st'.map (mx_sh E)))) → W p E.1 e R s m args below meth c H locs cells slots Qw (F0 m pc ls (st.map (mx_sh E))))
    (hk : mx_T E fin d bc bs mid pc' lv' st' h Q) : mx_T E fin d bc bs mid pc lv st h Q :=
  fun p e R s m args below meth c H locs cells slots Qw ls hS hD h1 h2 h3 h4 h5 h6 =>
    hstep p e R s m args below meth c H locs cells slots Qw ls hS hD h5 (fun ls' hl => hk p e R s m args below meth c H locs cells slots Qw ls' hS hD h1 h2 (hw h3 h4).1 (hw h3 h4).2 hl h6)
end
section
/-! ===== one instruction at a time: stack and locals ===== -/
def mx_get (lv : mx_Lv) (i : Nat) : Option mx_V := (lv.find? (fun q => q.1 == i)).map (fun q => q.2)
def mx_set1 (lv : mx_Lv) (i : Nat) (v : mx_V) : mx_Lv := (i, v) :: lv.filter (fun q => !(q.1 == i) && !(q.1 + 1 == i && mx_cat q.2 == 2))
def mx_set2 (lv : mx_Lv) (i : Nat) (v : mx_V) : mx_Lv := (i, v) :: lv.filter (fun q => !(q.1 == i) && (!(q.1 == i + 1) && !(q.1 + 1 == i && mx_cat q.2 == 2)))
theorem mx_get_mem {lv : mx_Lv} {i : Nat} {v : mx_V} (h : mx_get lv i = some v) : (i, v) ∈ lv := by
  unfold mx_get at h
  cases hf : lv.find? (fun q => q.1 == i) with
  | none => rw [hf] at h; cases h
  | some q =>
    rw [hf] at h
    have h1 := List.mem_of_find?_eq_some hf
    have h2 := List.find?_some hf
    cases h
    have h3 : q.1 = i := by simpa using h2
    subst h3
    exact h1
theorem mx_has {E : mx_Ev} {ls : Array Slot} {n i : Nat} {lv : mx_Lv} {v : mx_V} (hl : lv_has ls n (lv.map (mx_shl E))) (h : mx_get lv i = some v) : ls[i]? = some (.val (mx_sh E v)) :=
  hl.2.2 (i, mx_sh E v) (List.mem_map.mpr ⟨(i, v), mx_get_mem h, rfl⟩)
theorem mx_set1_map (E : mx_Ev) (lv : mx_Lv) (i : Nat) (v : mx_V) : (i, mx_sh E v) :: (lv.map (mx_shl E)).filter (fun q => !(q.1 == i) && !(q.1 + 1 == i && q.2.category == 2)) = (mx_set1 lv i v).map (mx_shl E) := by
  unfold mx_set1
  rw [List.map_cons, List.filter_map]
  congr 2
  apply List.filter_congr
  intro q _
  simp only [Function.comp, mx_shl, mx_cat_sh]
theorem mx_set2_map (E : mx_Ev) (lv : mx_Lv) (i : Nat) (v : mx_V) : (i, mx_sh E v) :: (lv.map (mx_shl E)).filter (fun q => !(q.1 == i) && (!(q.1 == i + 1) && !(q.1 + 1 == i && q.2.category == 2))) = (mx_set2 lv i v).map (mx_shl E) := by
  unfold mx_set2
  rw [List.map_cons, List.filter_map]
  congr 2
  apply List.filter_congr
  intro q _
  simp only [Function.comp, mx_shl, mx_cat_sh]
theorem mx_set1_wf {n : Nat} {lv : mx_Lv} {i : Nat} {v : mx_V} (h : ∀ q ∈ lv, mx_wf n q.2) (hv : mx_wf n v) : ∀ q ∈ mx_set1 lv i v, mx_wf n q.2 := by
  intro q hq
  rcases List.mem_cons.mp hq with rfl | hq
  · exact hv
  · exact h q (List.mem_filter.mp hq).1
theorem mx_set2_wf {n : Nat} {lv : mx_Lv} {i : Nat} {v : mx_V} (h : ∀ q ∈ lv, mx_wf n q.2) (hv : mx_wf n v) : ∀ q ∈ mx_set2 lv i v, mx_wf n q.2 := by
  intro q hq
  rcases List.mem_cons.mp hq with rfl | hq
  · exact hv
  · exact h q (List.mem_filter.mp hq).1
section MXR
variable {E : mx_Ev} {fin : mx_A → Nat → Option mx_A} {d bc bs mid pc : Nat} {lv : mx_Lv} {st : List mx_V} {h : mx_H} {Q : Option mx_V → mx_H → Prop}
/-- a value is pushed -/
theorem mx_push {v : mx_V} {k : Nat} (hv : (∀ q ∈ lv, mx_wf h.1 q.2) → mx_wf h.1 v)
    (hstep : ∀ (p : Program) (e : Env) (R : Room) (s : State) (m : MethodId) (args : Array Value) (below : List Frame) (meth : Method) (c : Code) (H : Heap) (locs : List Loc) (cells slots : Nat) (Qw : State → Prop) (ls : Array Slot),
      mx_S E d mid p R s m args meth c → mx_D E fin h s H locs → lv_has ls (mx_nL mid) (lv.map (mx_shl E)) → W p E.1 e R s m args below meth c H locs cells slots Qw (F0 m (pc + k) ls (mx_sh E v :: st.map (mx_sh E))) → W p E.1 e R s m args below meth c H locs cells slots Qw (F0 m pc ls (st.map (mx_sh E))))
    (hk : mx_T E fin d bc bs mid (pc + k) lv (v :: st) h Q) : mx_T E fin d bc bs mid pc lv st h Q :=
  mx_go (fun h1 h2 => ⟨h1, fun x hx => (List.mem_cons.mp hx).elim (fun e => e ▸ hv h1) (h2 x)⟩) (fun p e R s m args below meth c H locs cells slots Qw ls hS hD hl kk => hstep p e R s m args below meth c H locs cells slots Qw ls hS hD hl (kk ls hl)) hk
theorem mx_iconst {n : Int} (hd : decode (mx_by mid) pc = .ok (.iconst n, 1)) (hk : mx_T E fin d bc bs mid (pc + 1) lv (.inl (.int (Int32.ofInt n)) :: st) h Q) : mx_T E fin d bc bs mid pc lv st h Q :=
  mx_push (fun _ => by exact True.intro) (fun _ _ _ _ _ _ _ _ _ _ _ _ _ _ _ hS _ _ k => lv_iconst hS.1 hS.2.1 hd rfl k) hk
theorem mx_bipush {n : Int} (hd : decode (mx_by mid) pc = .ok (.bipush n, 2)) (hk : mx_T E fin d bc bs mid (pc + 2) lv (.inl (.int (Int8.ofInt n).toInt32) :: st) h Q) : mx_T E fin d bc bs mid pc lv st h Q :=
  mx_push (fun _ => by exact True.intro) (fun _ _ _ _ _ _ _ _ _ _ _ _ _ _ _ hS _ _ k => lv_bipush hS.1 hS.2.1 hd rfl k) hk
theorem mx_sipush {n : Int} (hd : decode (mx_by mid) pc = .ok (.sipush n, 3)) (hk : mx_T E fin d bc bs mid (pc + 3) lv (.inl (.int (Int16.ofInt n).toInt32) :: st) h Q) : mx_T E fin d bc bs mid pc lv st h Q :=
  mx_push (fun _ => by exact True.intro) (fun _ _ _ _ _ _ _ _ _ _ _ _ _ _ _ hS _ _ k => lv_sipush hS.1 hS.2.1 hd rfl k) hk
theorem mx_lconst {n : Fin 2} (hd : decode (mx_by mid) pc = .ok (.lconst n, 1)) (hk : mx_T E fin d bc bs mid (pc + 1) lv (.inl (.long (Int64.ofNat (n : Nat))) :: st) h Q) : mx_T E fin d bc bs mid pc lv st h Q :=
  mx_push (fun _ => by exact True.intro) (fun _ _ _ _ _ _ _ _ _ _ _ _ _ _ _ hS _ _ k => lv_lconst hS.1 hS.2.1 hd rfl k) hk
theorem mx_null (hd : decode (mx_by mid) pc = .ok (.aconst_null, 1)) (hk : mx_T E fin d bc bs mid (pc + 1) lv (.inl .null :: st) h Q) : mx_T E fin d bc bs mid pc lv st h Q :=
  mx_push (fun _ => by exact True.intro) (fun _ _ _ _ _ _ _ _ _ _ _ _ _ _ _ hS _ _ k => lv_null hS.1 hS.2.1 hd k) hk
theorem mx_ldc {i : Nat} {v : Int32} (hw : Cond.constant (mx_ow mid) i v ∈ mx_ws) (hd : decode (mx_by mid) pc = .ok (.ldc i, 2)) (hk : mx_T E fin d bc bs mid (pc + 2) lv (.inl (.int v) :: st) h Q) : mx_T E fin d bc bs mid pc lv st h Q :=
  mx_push (fun _ => by exact True.intro) (fun _ _ _ _ _ _ _ _ _ _ _ _ _ _ _ hS _ _ k => lv_ldc hS.1 hS.2.1 hS.2.2.2.2.2.1 (hS.2.2.2.2.2.2.1 _ hw) hd k) hk
theorem mx_ldcw {i : Nat} {v : Int32} (hw : Cond.constant (mx_ow mid) i v ∈ mx_ws) (hd : decode (mx_by mid) pc = .ok (.ldc_w i, 3)) (hk : mx_T E fin d bc bs mid (pc + 3) lv (.inl (.int v) :: st) h Q) : mx_T E fin d bc bs mid pc lv st h Q :=
  mx_push (fun _ => by exact True.intro) (fun _ _ _ _ _ _ _ _ _ _ _ _ _ _ _ hS _ _ k => lv_ldcw hS.1 hS.2.1 hS.2.2.2.2.2.1 (hS.2.2.2.2.2.2.1 _ hw) hd k) hk
theorem mx_ldc2 {i : Nat} {v : Int64} (hw : Cond.constantLong (mx_ow mid) i v ∈ mx_ws) (hd : decode (mx_by mid) pc = .ok (.ldc2_w i, 3)) (hk : mx_T E fin d bc bs mid (pc + 3) lv (.inl (.long v) :: st) h Q) : mx_T E fin d bc bs mid pc lv st h Q :=
  mx_push (fun _ => by exact True.intro) (fun _ _ _ _ _ _ _ _ _ _ _ _ _ _ _ hS _ _ k => lv_ldc2 hS.1 hS.2.1 hS.2.2.2.2.2.1 (hS.2.2.2.2.2.2.1 _ hw) hd k) hk
theorem mx_getwf {i : Nat} {v : mx_V} (hg : mx_get lv i = some v) (h1 : ∀ q ∈ lv, mx_wf h.1 q.2) : mx_wf h.1 v := h1 _ (mx_get_mem hg)
theorem mx_iload_n {i : Fin 4} {x : Int32} (hd : decode (mx_by mid) pc = .ok (.iload_n i, 1)) (hg : mx_get lv i.val = some (.inl (.int x))) (hk : mx_T E fin d bc bs mid (pc + 1) lv (.inl (.int x) :: st) h Q) : mx_T E fin d bc bs mid pc lv st h Q :=
  mx_push (mx_getwf hg) (fun _ _ _ _ _ _ _ _ _ _ _ _ _ _ _ hS _ hl k => lv_iload_n hS.1 hS.2.1 hd rfl (mx_has hl hg) k) hk
theorem mx_iload {i : Nat} {x : Int32} (hd : decode (mx_by mid) pc = .ok (.iload i, 2)) (hg : mx_get lv i = some (.inl (.int x))) (hk : mx_T E fin d bc bs mid (pc + 2) lv (.inl (.int x) :: st) h Q) : mx_T E fin d bc bs mid pc lv st h Q :=
  mx_push (mx_getwf hg) (fun _ _ _ _ _ _ _ _ _ _ _ _ _ _ _ hS _ hl k => lv_iload hS.1 hS.2.1 hd (mx_has hl hg) k) hk
theorem mx_lload_n {i : Fin 4} {x : Int64} (hd : decode (mx_by mid) pc = .ok (.lload_n i, 1)) (hg : mx_get lv i.val = some (.inl (.long x))) (hk : mx_T E fin d bc bs mid (pc + 1) lv (.inl (.long x) :: st) h Q) : mx_T E fin d bc bs mid pc lv st h Q :=
  mx_push (mx_getwf hg) (fun _ _ _ _ _ _ _ _ _ _ _ _ _ _ _ hS _ hl k => lv_lload_n hS.1 hS.2.1 hd rfl (mx_has hl hg) k) hk
theorem mx_lload {i : Nat} {x : Int64} (hd : decode (mx_by mid) pc = .ok (.lload i, 2)) (hg : mx_get lv i = some (.inl (.long x))) (hk : mx_T E fin d bc bs mid (pc + 2) lv (.inl (.long x) :: st) h Q) : mx_T E fin d bc bs mid pc lv st h Q :=
  mx_push (mx_getwf hg) (fun _ _ _ _ _ _ _ _ _ _ _ _ _ _ _ hS _ hl k => lv_lload hS.1 hS.2.1 hd (mx_has hl hg) k) hk
def mx_isr : mx_V → Bool
  | .inr _ => true
  | .inl .null => true
  | .inl (.float _) => true
  | _ => false
theorem mx_aload_n {i : Fin 4} {v : mx_V} (hd : decode (mx_by mid) pc = .ok (.aload_n i, 1)) (hg : mx_get lv i.val = some v) (hr : mx_isr v = true) (hk : mx_T E fin d bc bs mid (pc + 1) lv (v :: st) h Q) : mx_T E fin d bc bs mid pc lv st h Q := by
  refine mx_push (mx_getwf hg) (fun _ _ _ _ _ _ _ _ _ _ _ _ _ _ _ hS _ hl k => ?_) hk
  have hh := mx_has hl hg
  rcases v with v | a
  · cases v with
    | null => exact lv_aload_nN hS.1 hS.2.1 hd rfl hh k
    | float u => exact lv_aload_n hS.1 hS.2.1 hd rfl hh k
    | _ => cases hr
  · exact lv_aload_n hS.1 hS.2.1 hd rfl hh k
theorem mx_aload {i : Nat} {v : mx_V} (hd : decode (mx_by mid) pc = .ok (.aload i, 2)) (hg : mx_get lv i = some v) (hr : mx_isr v = true) (hk : mx_T E fin d bc bs mid (pc + 2) lv (v :: st) h Q) : mx_T E fin d bc bs mid pc lv st h Q := by
  refine mx_push (mx_getwf hg) (fun _ _ _ _ _ _ _ _ _ _ _ _ _ _ _ hS _ hl k => ?_) hk
  have hh := mx_has hl hg
  rcases v with v | a
  · cases v with
    | null => exact lv_aloadN hS.1 hS.2.1 hd hh k
    | float u => exact lv_aload hS.1 hS.2.1 hd hh k
    | _ => cases hr
  · exact lv_aload hS.1 hS.2.1 hd hh k
theorem mx_st1 {v : mx_V} {i k : Nat} 
    (hstep : ∀ (p : Program) (e : Env) (R : Room) (s : State) (m : MethodId) (args : Array Value) (below : List Frame) (meth : Method) (c : Code) (H : Heap) (locs : List Loc) (cells slots : Nat) (Qw : State → Prop) (ls : Array Slot),
      mx_S E d mid p R s m args meth c → lv_has ls (mx_nL mid) (lv.map (mx_shl E)) → (∀ ls', lv_has ls' (mx_nL mid) ((mx_set1 lv i v).map (mx_shl E)) → W p E.1 e R s m args below meth c H locs cells slots Qw (F0 m (pc + k) ls' (st.map (mx_sh E)))) → W p E.1 e R s m args below meth c H locs cells slots Qw (F0 m pc ls (mx_sh E v :: st.map (mx_sh E))))
    (hk : mx_T E fin d bc bs mid (pc + k) (mx_set1 lv i v) st h Q) : mx_T E fin d bc bs mid pc lv (v :: st) h Q :=
  mx_go (fun h1 h2 => ⟨mx_set1_wf h1 (h2 v List.mem_cons_self), fun x hx => h2 x (List.mem_cons_of_mem _ hx)⟩) (fun p e R s m args below meth c H locs cells slots Qw ls hS _ hl kk => hstep p e R s m args below meth c H locs cells slots Qw ls hS hl kk) hk
theorem mx_st2 {v : mx_V} {i k : Nat} 
    (hstep : ∀ (p : Program) (e : Env) (R : Room) (s : State) (m : MethodId) (args : Array Value) (below : List Frame) (meth : Method) (c : Code) (H : Heap) (locs : List Loc) (cells slots : Nat) (Qw : State → Prop) (ls : Array Slot),
      mx_S E d mid p R s m args meth c → lv_has ls (mx_nL mid) (lv.map (mx_shl E)) → (∀ ls', lv_has ls' (mx_nL mid) ((mx_set2 lv i v).map (mx_shl E)) → W p E.1 e R s m args below meth c H locs cells slots Qw (F0 m (pc + k) ls' (st.map (mx_sh E)))) → W p E.1 e R s m args below meth c H locs cells slots Qw (F0 m pc ls (mx_sh E v :: st.map (mx_sh E))))
    (hk : mx_T E fin d bc bs mid (pc + k) (mx_set2 lv i v) st h Q) : mx_T E fin d bc bs mid pc lv (v :: st) h Q :=
  mx_go (fun h1 h2 => ⟨mx_set2_wf h1 (h2 v List.mem_cons_self), fun x hx => h2 x (List.mem_cons_of_mem _ hx)⟩) (fun p e R s m args below meth c H locs cells slots Qw ls hS _ hl kk => hstep p e R s m args below meth c H locs cells slots Qw ls hS hl kk) hk
theorem mx_istore_n {i : Fin 4} {x : Int32} (hd : decode (mx_by mid) pc = .ok (.istore_n i, 1)) (hn : i.val < mx_nL mid) (hk : mx_T E fin d bc bs mid (pc + 1) (mx_set1 lv i.val (.inl (.int x))) st h Q) : mx_T E fin d bc bs mid pc lv (.inl (.int x) :: st) h Q :=
  mx_st1 (fun _ _ _ _ _ _ _ _ _ _ _ _ _ _ _ hS hl kk => lv_istore_n hS.1 hS.2.1 hd rfl hl hn (mx_set1_map E lv i.val (.inl (.int x))) kk) hk
theorem mx_istore {i : Nat} {x : Int32} (hd : decode (mx_by mid) pc = .ok (.istore i, 2)) (hn : i < mx_nL mid) (hk : mx_T E fin d bc bs mid (pc + 2) (mx_set1 lv i (.inl (.int x))) st h Q) : mx_T E fin d bc bs mid pc lv (.inl (.int x) :: st) h Q :=
  mx_st1 (fun _ _ _ _ _ _ _ _ _ _ _ _ _ _ _ hS hl kk => lv_istore hS.1 hS.2.1 hd hl hn (mx_set1_map E lv i (.inl (.int x))) kk) hk
theorem mx_lstore_n {i : Fin 4} {x : Int64} (hd : decode (mx_by mid) pc = .ok (.lstore_n i, 1)) (hn : i.val + 1 < mx_nL mid) (hk : mx_T E fin d bc bs mid (pc + 1) (mx_set2 lv i.val (.inl (.long x))) st h Q) : mx_T E fin d bc bs mid pc lv (.inl (.long x) :: st) h Q :=
  mx_st2 (fun _ _ _ _ _ _ _ _ _ _ _ _ _ _ _ hS hl kk => lv_lstore_n hS.1 hS.2.1 hd rfl hl hn (mx_set2_map E lv i.val (.inl (.long x))) kk) hk
theorem mx_lstore {i : Nat} {x : Int64} (hd : decode (mx_by mid) pc = .ok (.lstore i, 2)) (hn : i + 1 < mx_nL mid) (hk : mx_T E fin d bc bs mid (pc + 2) (mx_set2 lv i (.inl (.long x))) st h Q) : mx_T E fin d bc bs mid pc lv (.inl (.long x) :: st) h Q :=
  mx_st2 (fun _ _ _ _ _ _ _ _ _ _ _ _ _ _ _ hS hl kk => lv_lstore hS.1 hS.2.1 hd hl hn (mx_set2_map E lv i (.inl (.long x))) kk) hk
theorem mx_astore_n {i : Fin 4} {v : mx_V} (hd : decode (mx_by mid) pc = .ok (.astore_n i, 1)) (hr : mx_isr v = true) (hn : i.val < mx_nL mid) (hk : mx_T E fin d bc bs mid (pc + 1) (mx_set1 lv i.val v) st h Q) : mx_T E fin d bc bs mid pc lv (v :: st) h Q := by
  refine mx_st1 (fun _ _ _ _ _ _ _ _ _ _ _ _ _ _ _ hS hl kk => ?_) hk
  rcases v with v | a
  · cases v with
    | null => exact lv_astore_nN hS.1 hS.2.1 hd rfl hl hn (mx_set1_map E lv i.val (.inl .null)) kk
    | float u => exact lv_astore_n hS.1 hS.2.1 hd rfl hl hn (mx_set1_map E lv i.val (.inl (.float u))) kk
    | _ => cases hr
  · exact lv_astore_n hS.1 hS.2.1 hd rfl hl hn (mx_set1_map E lv i.val (.inr a)) kk
theorem mx_astore {i : Nat} {v : mx_V} (hd : decode (mx_by mid) pc = .ok (.astore i, 2)) (hr : mx_isr v = true) (hn : i < mx_nL mid) (hk : mx_T E fin d bc bs mid (pc + 2) (mx_set1 lv i v) st h Q) : mx_T E fin d bc bs mid pc lv (v :: st) h Q := by
  refine mx_st1 (fun _ _ _ _ _ _ _ _ _ _ _ _ _ _ _ hS hl kk => ?_) hk
  rcases v with v | a
  · cases v with
    | null => exact lv_astoreN hS.1 hS.2.1 hd hl hn (mx_set1_map E lv i (.inl .null)) kk
    | float u => exact lv_astore hS.1 hS.2.1 hd hl hn (mx_set1_map E lv i (.inl (.float u))) kk
    | _ => cases hr
  · exact lv_astore hS.1 hS.2.1 hd hl hn (mx_set1_map E lv i (.inr a)) kk
theorem mx_iinc {i : Nat} {n : Int} {x : Int32} (hd : decode (mx_by mid) pc = .ok (.iinc i n, 3)) (hg : mx_get lv i = some (.inl (.int x))) (hn : i < mx_nL mid) (hk : mx_T E fin d bc bs mid (pc + 3) (mx_set1 lv i (.inl (.int (x + Int32.ofInt n)))) st h Q) : mx_T E fin d bc bs mid pc lv st h Q := by
  refine mx_go (fun h1 h2 => ⟨mx_set1_wf h1 (by exact True.intro), h2⟩) (fun p e R s m args below meth c H locs cells slots Qw ls hS _ hl kk => ?_) hk
  have hm : (i, mx_sh E (.inl (.int x))) ∈ lv.map (mx_shl E) := List.mem_map.mpr ⟨_, mx_get_mem hg, rfl⟩
  obtain ⟨k, hk1, hk2⟩ := List.mem_iff_getElem.mp hm
  exact lv_iinc (k := k) hS.1 hS.2.1 hd hl (by rw [List.getElem?_eq_getElem hk1, hk2]; rfl) rfl hn (mx_set1_map E lv i (.inl (.int (x + Int32.ofInt n)))) kk
/-- one value made of the topmost -/
theorem mx_op1 {u v : mx_V} {k : Nat} (hv : mx_wf h.1 v)
    (hstep : ∀ (p : Program) (e : Env) (R : Room) (s : State) (m : MethodId) (args : Array Value) (below : List Frame) (meth : Method) (c : Code) (H : Heap) (locs : List Loc) (cells slots : Nat) (Qw : State → Prop) (ls : Array Slot),
      mx_S E d mid p R s m args meth c → W p E.1 e R s m args below meth c H locs cells slots Qw (F0 m (pc + k) ls (mx_sh E v :: st.map (mx_sh E))) → W p E.1 e R s m args below meth c H locs cells slots Qw (F0 m pc ls (mx_sh E u :: st.map (mx_sh E))))
    (hk : mx_T E fin d bc bs mid (pc + k) lv (v :: st) h Q) : mx_T E fin d bc bs mid pc lv (u :: st) h Q :=
  mx_go (fun h1 h2 => ⟨h1, fun x hx => (List.mem_cons.mp hx).elim (fun e => e ▸ hv) (fun hx => h2 x (List.mem_cons_of_mem _ hx))⟩) (fun p e R s m args below meth c H locs cells slots Qw ls hS _ hl kk => hstep p e R s m args below meth c H locs cells slots Qw ls hS (kk ls hl)) hk
theorem mx_op2 {u w v : mx_V} {k : Nat} (hv : mx_wf h.1 v)
    (hstep : ∀ (p : Program) (e : Env) (R : Room) (s : State) (m : MethodId) (args : Array Value) (below : List Frame) (meth : Method) (c : Code) (H : Heap) (locs : List Loc) (cells slots : Nat) (Qw : State → Prop) (ls : Array Slot),
      mx_S E d mid p R s m args meth c → W p E.1 e R s m args below meth c H locs cells slots Qw (F0 m (pc + k) ls (mx_sh E v :: st.map (mx_sh E))) → W p E.1 e R s m args below meth c H locs cells slots Qw (F0 m pc ls (mx_sh E u :: mx_sh E w :: st.map (mx_sh E))))
    (hk : mx_T E fin d bc bs mid (pc + k) lv (v :: st) h Q) : mx_T E fin d bc bs mid pc lv (u :: w :: st) h Q :=
  mx_go (fun h1 h2 => ⟨h1, fun x hx => (List.mem_cons.mp hx).elim (fun e => e ▸ hv) (fun hx => h2 x (List.mem_cons_of_mem _ (List.mem_cons_of_mem _ hx)))⟩) (fun p e R s m args below meth c H locs cells slots Qw ls hS _ hl kk => hstep p e R s m args below meth c H locs cells slots Qw ls hS (kk ls hl)) hk
theorem mx_iadd {x y : Int32} (hd : decode (mx_by mid) pc = .ok (.iadd, 1)) (hk : mx_T E fin d bc bs mid (pc + 1) lv (.inl (.int (x + y)) :: st) h Q) : mx_T E fin d bc bs mid pc lv (.inl (.int y) :: .inl (.int x) :: st) h Q :=
  mx_op2 (by exact True.intro) (fun _ _ _ _ _ _ _ _ _ _ _ _ _ _ _ hS k => lv_iadd hS.1 hS.2.1 hd k) hk
theorem mx_isub {x y : Int32} (hd : decode (mx_by mid) pc = .ok (.isub, 1)) (hk : mx_T E fin d bc bs mid (pc + 1) lv (.inl (.int (x - y)) :: st) h Q) : mx_T E fin d bc bs mid pc lv (.inl (.int y) :: .inl (.int x) :: st) h Q :=
  mx_op2 (by exact True.intro) (fun _ _ _ _ _ _ _ _ _ _ _ _ _ _ _ hS k => lv_isub hS.1 hS.2.1 hd k) hk
theorem mx_imul {x y : Int32} (hd : decode (mx_by mid) pc = .ok (.imul, 1)) (hk : mx_T E fin d bc bs mid (pc + 1) lv (.inl (.int (x * y)) :: st) h Q) : mx_T E fin d bc bs mid pc lv (.inl (.int y) :: .inl (.int x) :: st) h Q :=
  mx_op2 (by exact True.intro) (fun _ _ _ _ _ _ _ _ _ _ _ _ _ _ _ hS k => lv_imul hS.1 hS.2.1 hd k) hk
theorem mx_iand {x y : Int32} (hd : decode (mx_by mid) pc = .ok (.iand, 1)) (hk : mx_T E fin d bc bs mid (pc + 1) lv (.inl (.int (x &&& y)) :: st) h Q) : mx_T E fin d bc bs mid pc lv (.inl (.int y) :: .inl (.int x) :: st) h Q :=
  mx_op2 (by exact True.intro) (fun _ _ _ _ _ _ _ _ _ _ _ _ _ _ _ hS k => lv_iand hS.1 hS.2.1 hd k) hk
theorem mx_ior {x y : Int32} (hd : decode (mx_by mid) pc = .ok (.ior, 1)) (hk : mx_T E fin d bc bs mid (pc + 1) lv (.inl (.int (x ||| y)) :: st) h Q) : mx_T E fin d bc bs mid pc lv (.inl (.int y) :: .inl (.int x) :: st) h Q :=
  mx_op2 (by exact True.intro) (fun _ _ _ _ _ _ _ _ _ _ _ _ _ _ _ hS k => lv_ior hS.1 hS.2.1 hd k) hk
theorem mx_ixor {x y : Int32} (hd : decode (mx_by mid) pc = .ok (.ixor, 1)) (hk : mx_T E fin d bc bs mid (pc + 1) lv (.inl (.int (x ^^^ y)) :: st) h Q) : mx_T E fin d bc bs mid pc lv (.inl (.int y) :: .inl (.int x) :: st) h Q :=
  mx_op2 (by exact True.intro) (fun _ _ _ _ _ _ _ _ _ _ _ _ _ _ _ hS k => lv_ixor hS.1 hS.2.1 hd k) hk
theorem mx_ishl {x y : Int32} (hd : decode (mx_by mid) pc = .ok (.ishl, 1)) (hk : mx_T E fin d bc bs mid (pc + 1) lv (.inl (.int (x <<< (y &&& 31))) :: st) h Q) : mx_T E fin d bc bs mid pc lv (.inl (.int y) :: .inl (.int x) :: st) h Q :=
  mx_op2 (by exact True.intro) (fun _ _ _ _ _ _ _ _ _ _ _ _ _ _ _ hS k => lv_ishl hS.1 hS.2.1 hd k) hk
theorem mx_ishr {x y : Int32} (hd : decode (mx_by mid) pc = .ok (.ishr, 1)) (hk : mx_T E fin d bc bs mid (pc + 1) lv (.inl (.int (x >>> (y &&& 31))) :: st) h Q) : mx_T E fin d bc bs mid pc lv (.inl (.int y) :: .inl (.int x) :: st) h Q :=
  mx_op2 (by exact True.intro) (fun _ _ _ _ _ _ _ _ _ _ _ _ _ _ _ hS k => lv_ishr hS.1 hS.2.1 hd k) hk
theorem mx_iushr {x y : Int32} (hd : decode (mx_by mid) pc = .ok (.iushr, 1)) (hk : mx_T E fin d bc bs mid (pc + 1) lv (.inl (.int (x.toUInt32 >>> (y.toUInt32 &&& Int32.toUInt32 31)).toInt32) :: st) h Q) : mx_T E fin d bc bs mid pc lv (.inl (.int y) :: .inl (.int x) :: st) h Q :=
  mx_op2 (by exact True.intro) (fun _ _ _ _ _ _ _ _ _ _ _ _ _ _ _ hS k => lv_iushr hS.1 hS.2.1 hd rfl k) hk
theorem mx_idiv {x y : Int32} (hd : decode (mx_by mid) pc = .ok (.idiv, 1)) (hne : ¬ y = 0) (hk : mx_T E fin d bc bs mid (pc + 1) lv (.inl (.int (x / y)) :: st) h Q) : mx_T E fin d bc bs mid pc lv (.inl (.int y) :: .inl (.int x) :: st) h Q :=
  mx_op2 (by exact True.intro) (fun _ _ _ _ _ _ _ _ _ _ _ _ _ _ _ hS k => lv_idiv hS.1 hS.2.1 hd hne k) hk
theorem mx_irem {x y : Int32} (hd : decode (mx_by mid) pc = .ok (.irem, 1)) (hne : ¬ y = 0) (hk : mx_T E fin d bc bs mid (pc + 1) lv (.inl (.int (x - x / y * y)) :: st) h Q) : mx_T E fin d bc bs mid pc lv (.inl (.int y) :: .inl (.int x) :: st) h Q :=
  mx_op2 (by exact True.intro) (fun _ _ _ _ _ _ _ _ _ _ _ _ _ _ _ hS k => lv_irem hS.1 hS.2.1 hd hne k) hk
theorem mx_ladd {x y : Int64} (hd : decode (mx_by mid) pc = .ok (.ladd, 1)) (hk : mx_T E fin d bc bs mid (pc + 1) lv (.inl (.long (x + y)) :: st) h Q) : mx_T E fin d bc bs mid pc lv (.inl (.long y) :: .inl (.long x) :: st) h Q :=
  mx_op2 (by exact True.intro) (fun _ _ _ _ _ _ _ _ _ _ _ _ _ _ _ hS k => lv_ladd hS.1 hS.2.1 hd k) hk
theorem mx_lsub {x y : Int64} (hd : decode (mx_by mid) pc = .ok (.lsub, 1)) (hk : mx_T E fin d bc bs mid (pc + 1) lv (.inl (.long (x - y)) :: st) h Q) : mx_T E fin d bc bs mid pc lv (.inl (.long y) :: .inl (.long x) :: st) h Q :=
  mx_op2 (by exact True.intro) (fun _ _ _ _ _ _ _ _ _ _ _ _ _ _ _ hS k => lv_lsub hS.1 hS.2.1 hd k) hk
theorem mx_lmul {x y : Int64} (hd : decode (mx_by mid) pc = .ok (.lmul, 1)) (hk : mx_T E fin d bc bs mid (pc + 1) lv (.inl (.long (x * y)) :: st) h Q) : mx_T E fin d bc bs mid pc lv (.inl (.long y) :: .inl (.long x) :: st) h Q :=
  mx_op2 (by exact True.intro) (fun _ _ _ _ _ _ _ _ _ _ _ _ _ _ _ hS k => lv_lmul hS.1 hS.2.1 hd k) hk
theorem mx_land {x y : Int64} (hd : decode (mx_by mid) pc = .ok (.land, 1)) (hk : mx_T E fin d bc bs mid (pc + 1) lv (.inl (.long (x &&& y)) :: st) h Q) : mx_T E fin d bc bs mid pc lv (.inl (.long y) :: .inl (.long x) :: st) h Q :=
  mx_op2 (by exact True.intro) (fun _ _ _ _ _ _ _ _ _ _ _ _ _ _ _ hS k => lv_land hS.1 hS.2.1 hd k) hk
theorem mx_lor {x y : Int64} (hd : decode (mx_by mid) pc = .ok (.lor, 1)) (hk : mx_T E fin d bc bs mid (pc + 1) lv (.inl (.long (x ||| y)) :: st) h Q) : mx_T E fin d bc bs mid pc lv (.inl (.long y) :: .inl (.long x) :: st) h Q :=
  mx_op2 (by exact True.intro) (fun _ _ _ _ _ _ _ _ _ _ _ _ _ _ _ hS k => lv_lor hS.1 hS.2.1 hd k) hk
theorem mx_ldiv {x y : Int64} (hd : decode (mx_by mid) pc = .ok (.ldiv, 1)) (hne : ¬ y = 0) (hk : mx_T E fin d bc bs mid (pc + 1) lv (.inl (.long (x / y)) :: st) h Q) : mx_T E fin d bc bs mid pc lv (.inl (.long y) :: .inl (.long x) :: st) h Q :=
  mx_op2 (by exact True.intro) (fun _ _ _ _ _ _ _ _ _ _ _ _ _ _ _ hS k => lv_ldiv hS.1 hS.2.1 hd hne k) hk
theorem mx_lshl {x : Int64} {y : Int32} (hd : decode (mx_by mid) pc = .ok (.lshl, 1)) (hk : mx_T E fin d bc bs mid (pc + 1) lv (.inl (.long (x <<< (y.toInt64 &&& 63))) :: st) h Q) : mx_T E fin d bc bs mid pc lv (.inl (.int y) :: .inl (.long x) :: st) h Q :=
  mx_op2 (by exact True.intro) (fun _ _ _ _ _ _ _ _ _ _ _ _ _ _ _ hS k => lv_lshl hS.1 hS.2.1 hd rfl k) hk
theorem mx_lcmp {x y : Int64} (hd : decode (mx_by mid) pc = .ok (.lcmp, 1)) (hk : mx_T E fin d bc bs mid (pc + 1) lv (.inl (.int (lg_cmp x y)) :: st) h Q) : mx_T E fin d bc bs mid pc lv (.inl (.long y) :: .inl (.long x) :: st) h Q :=
  mx_op2 (by exact True.intro) (fun _ _ _ _ _ _ _ _ _ _ _ _ _ _ _ hS k => W.lcmp hS.1 hS.2.1 hd k) hk
theorem mx_ineg {x : Int32} (hd : decode (mx_by mid) pc = .ok (.ineg, 1)) (hk : mx_T E fin d bc bs mid (pc + 1) lv (.inl (.int (-x)) :: st) h Q) : mx_T E fin d bc bs mid pc lv (.inl (.int x) :: st) h Q :=
  mx_op1 (by exact True.intro) (fun _ _ _ _ _ _ _ _ _ _ _ _ _ _ _ hS k => lv_ineg hS.1 hS.2.1 hd k) hk
theorem mx_lneg {x : Int64} (hd : decode (mx_by mid) pc = .ok (.lneg, 1)) (hk : mx_T E fin d bc bs mid (pc + 1) lv (.inl (.long (-x)) :: st) h Q) : mx_T E fin d bc bs mid pc lv (.inl (.long x) :: st) h Q :=
  mx_op1 (by exact True.intro) (fun _ _ _ _ _ _ _ _ _ _ _ _ _ _ _ hS k => lv_lneg hS.1 hS.2.1 hd k) hk
theorem mx_i2l {x : Int32} (hd : decode (mx_by mid) pc = .ok (.i2l, 1)) (hk : mx_T E fin d bc bs mid (pc + 1) lv (.inl (.long x.toInt64) :: st) h Q) : mx_T E fin d bc bs mid pc lv (.inl (.int x) :: st) h Q :=
  mx_op1 (by exact True.intro) (fun _ _ _ _ _ _ _ _ _ _ _ _ _ _ _ hS k => lv_i2l hS.1 hS.2.1 hd rfl k) hk
theorem mx_l2i {x : Int64} (hd : decode (mx_by mid) pc = .ok (.l2i, 1)) (hk : mx_T E fin d bc bs mid (pc + 1) lv (.inl (.int x.toInt32) :: st) h Q) : mx_T E fin d bc bs mid pc lv (.inl (.long x) :: st) h Q :=
  mx_op1 (by exact True.intro) (fun _ _ _ _ _ _ _ _ _ _ _ _ _ _ _ hS k => lv_l2i hS.1 hS.2.1 hd rfl k) hk
theorem mx_i2b {x : Int32} (hd : decode (mx_by mid) pc = .ok (.i2b, 1)) (hk : mx_T E fin d bc bs mid (pc + 1) lv (.inl (.int x.toInt8.toInt32) :: st) h Q) : mx_T E fin d bc bs mid pc lv (.inl (.int x) :: st) h Q :=
  mx_op1 (by exact True.intro) (fun _ _ _ _ _ _ _ _ _ _ _ _ _ _ _ hS k => lv_i2b hS.1 hS.2.1 hd rfl k) hk
theorem mx_i2s {x : Int32} (hd : decode (mx_by mid) pc = .ok (.i2s, 1)) (hk : mx_T E fin d bc bs mid (pc + 1) lv (.inl (.int x.toInt16.toInt32) :: st) h Q) : mx_T E fin d bc bs mid pc lv (.inl (.int x) :: st) h Q :=
  mx_op1 (by exact True.intro) (fun _ _ _ _ _ _ _ _ _ _ _ _ _ _ _ hS k => lv_i2s hS.1 hS.2.1 hd rfl k) hk
theorem mx_goto {off : Int} {tgt : Nat} (hd : decode (mx_by mid) pc = .ok (.goto off, 3)) (ht : (pc : Int) + off = (tgt : Int)) (hk : mx_T E fin d bc bs mid tgt lv st h Q) : mx_T E fin d bc bs mid pc lv st h Q :=
  mx_go (fun h1 h2 => ⟨h1, h2⟩) (fun _ _ _ _ _ _ _ _ _ _ _ _ _ _ ls hS _ hl k => lv_goto hS.1 hS.2.1 hd ht (k ls hl)) hk
theorem mx_pop {v : mx_V} (hd : decode (mx_by mid) pc = .ok (.pop, 1)) (hv : mx_cat v = 1) (hk : mx_T E fin d bc bs mid (pc + 1) lv st h Q) : mx_T E fin d bc bs mid pc lv (v :: st) h Q :=
  mx_go (fun h1 h2 => ⟨h1, fun x hx => h2 x (List.mem_cons_of_mem _ hx)⟩) (fun _ _ _ _ _ _ _ _ _ _ _ _ _ _ ls hS _ hl k => lv_pop hS.1 hS.2.1 hd (by rw [mx_cat_sh]; exact hv) (k ls hl)) hk
theorem mx_dup {v : mx_V} (hd : decode (mx_by mid) pc = .ok (.dup, 1)) (hv : mx_cat v = 1) (hk : mx_T E fin d bc bs mid (pc + 1) lv (v :: v :: st) h Q) : mx_T E fin d bc bs mid pc lv (v :: st) h Q :=
  mx_go (fun h1 h2 => ⟨h1, fun x hx => (List.mem_cons.mp hx).elim (fun e => h2 x (e ▸ List.mem_cons_self)) (h2 x)⟩) (fun _ _ _ _ _ _ _ _ _ _ _ _ _ _ ls hS _ hl k => lv_dup hS.1 hS.2.1 hd (by rw [mx_cat_sh]; exact hv) (k ls hl)) hk
theorem mx_dup2 {v u : mx_V} (hd : decode (mx_by mid) pc = .ok (.dup2, 1)) (hv : mx_cat v = 1) (hu : mx_cat u = 1) (hk : mx_T E fin d bc bs mid (pc + 1) lv (v :: u :: v :: u :: st) h Q) : mx_T E fin d bc bs mid pc lv (v :: u :: st) h Q :=
  mx_go (fun h1 h2 => ⟨h1, fun x hx => by
    rcases List.mem_cons.mp hx with rfl | hx
    · exact h2 _ List.mem_cons_self
    · rcases List.mem_cons.mp hx with rfl | hx
      · exact h2 _ (List.mem_cons_of_mem _ List.mem_cons_self)
      · exact h2 x hx⟩) (fun _ _ _ _ _ _ _ _ _ _ _ _ _ _ ls hS _ hl k => lv_dup2_11 hS.1 hS.2.1 hd (by rw [mx_cat_sh]; exact hv) (by rw [mx_cat_sh]; exact hu) (k ls hl)) hk
/-- a branch on the topmost: both ways -/
theorem mx_br {c : Prop} {u : List mx_V} {t1 t2 : Nat}
    (hstep : ∀ (p : Program) (e : Env) (R : Room) (s : State) (m : MethodId) (args : Array Value) (below : List Frame) (meth : Method) (cd : Code) (H : Heap) (locs : List Loc) (cells slots : Nat) (Qw : State → Prop) (ls : Array Slot),
      mx_S E d mid p R s m args meth cd → (c → W p E.1 e R s m args below meth cd H locs cells slots Qw (F0 m t1 ls (st.map (mx_sh E)))) → (¬ c → W p E.1 e R s m args below meth cd H locs cells slots Qw (F0 m t2 ls (st.map (mx_sh E)))) → W p E.1 e R s m args below meth cd H locs cells slots Qw (F0 m pc ls ((u ++ st).map (mx_sh E))))
    (h1 : c → mx_T E fin d bc bs mid t1 lv st h Q) (h2 : ¬ c → mx_T E fin d bc bs mid t2 lv st h Q) : mx_T E fin d bc bs mid pc lv (u ++ st) h Q :=
  fun p e R s m args below meth cd H locs cells slots Qw ls hS hD q1 q2 q3 q4 q5 q6 =>
    hstep p e R s m args below meth cd H locs cells slots Qw ls hS (fun hc => h1 hc p e R s m args below meth cd H locs cells slots Qw ls hS hD q1 q2 q3 (fun v hv => q4 v (List.mem_append_right _ hv)) q5 q6)
      (fun hc => h2 hc p e R s m args below meth cd H locs cells slots Qw ls hS hD q1 q2 q3 (fun v hv => q4 v (List.mem_append_right _ hv)) q5 q6)
theorem mx_if_eq {x : Int32} {off : Int} {tgt : Nat} (hd : decode (mx_by mid) pc = .ok (.ifCond .eq off, 3)) (ht : (pc : Int) + off = (tgt : Int)) (h1 : x = 0 → mx_T E fin d bc bs mid tgt lv st h Q) (h2 : ¬ (x = 0) → mx_T E fin d bc bs mid (pc + 3) lv st h Q) : mx_T E fin d bc bs mid pc lv (.inl (.int x) :: st) h Q :=
  mx_br (u := [.inl (.int x)]) (fun _ _ _ _ _ _ _ _ _ _ _ _ _ _ _ hS k1 k2 => lv_if_eq hS.1 hS.2.1 hd ht k1 k2) h1 h2
theorem mx_ic_eq {x y : Int32} {off : Int} {tgt : Nat} (hd : decode (mx_by mid) pc = .ok (.if_icmp .eq off, 3)) (ht : (pc : Int) + off = (tgt : Int)) (h1 : x = y → mx_T E fin d bc bs mid tgt lv st h Q) (h2 : ¬ (x = y) → mx_T E fin d bc bs mid (pc + 3) lv st h Q) : mx_T E fin d bc bs mid pc lv (.inl (.int y) :: .inl (.int x) :: st) h Q :=
  mx_br (u := [.inl (.int y), .inl (.int x)]) (fun _ _ _ _ _ _ _ _ _ _ _ _ _ _ _ hS k1 k2 => lv_icmp_eq hS.1 hS.2.1 hd ht k1 k2) h1 h2
theorem mx_if_ne {x : Int32} {off : Int} {tgt : Nat} (hd : decode (mx_by mid) pc = .ok (.ifCond .ne off, 3)) (ht : (pc : Int) + off = (tgt : Int)) (h1 : x ≠ 0 → mx_T E fin d bc bs mid tgt lv st h Q) (h2 : ¬ (x ≠ 0) → mx_T E fin d bc bs mid (pc + 3) lv st h Q) : mx_T E fin d bc bs mid pc lv (.inl (.int x) :: st) h Q :=
  mx_br (u := [.inl (.int x)]) (fun _ _ _ _ _ _ _ _ _ _ _ _ _ _ _ hS k1 k2 => lv_if_ne hS.1 hS.2.1 hd ht k1 (fun q => k2 (fun n => n q))) h1 h2
theorem mx_ic_ne {x y : Int32} {off : Int} {tgt : Nat} (hd : decode (mx_by mid) pc = .ok (.if_icmp .ne off, 3)) (ht : (pc : Int) + off = (tgt : Int)) (h1 : x ≠ y → mx_T E fin d bc bs mid tgt lv st h Q) (h2 : ¬ (x ≠ y) → mx_T E fin d bc bs mid (pc + 3) lv st h Q) : mx_T E fin d bc bs mid pc lv (.inl (.int y) :: .inl (.int x) :: st) h Q :=
  mx_br (u := [.inl (.int y), .inl (.int x)]) (fun _ _ _ _ _ _ _ _ _ _ _ _ _ _ _ hS k1 k2 => lv_icmp_ne hS.1 hS.2.1 hd ht k1 (fun q => k2 (fun n => n q))) h1 h2
theorem mx_if_lt {x : Int32} {off : Int} {tgt : Nat} (hd : decode (mx_by mid) pc = .ok (.ifCond .lt off, 3)) (ht : (pc : Int) + off = (tgt : Int)) (h1 : x < 0 → mx_T E fin d bc bs mid tgt lv st h Q) (h2 : ¬ (x < 0) → mx_T E fin d bc bs mid (pc + 3) lv st h Q) : mx_T E fin d bc bs mid pc lv (.inl (.int x) :: st) h Q :=
  mx_br (u := [.inl (.int x)]) (fun _ _ _ _ _ _ _ _ _ _ _ _ _ _ _ hS k1 k2 => lv_if_lt hS.1 hS.2.1 hd ht k1 k2) h1 h2
theorem mx_ic_lt {x y : Int32} {off : Int} {tgt : Nat} (hd : decode (mx_by mid) pc = .ok (.if_icmp .lt off, 3)) (ht : (pc : Int) + off = (tgt : Int)) (h1 : x < y → mx_T E fin d bc bs mid tgt lv st h Q) (h2 : ¬ (x < y) → mx_T E fin d bc bs mid (pc + 3) lv st h Q) : mx_T E fin d bc bs mid pc lv (.inl (.int y) :: .inl (.int x) :: st) h Q :=
  mx_br (u := [.inl (.int y), .inl (.int x)]) (fun _ _ _ _ _ _ _ _ _ _ _ _ _ _ _ hS k1 k2 => lv_icmp_lt hS.1 hS.2.1 hd ht k1 k2) h1 h2
theorem mx_if_ge {x : Int32} {off : Int} {tgt : Nat} (hd : decode (mx_by mid) pc = .ok (.ifCond .ge off, 3)) (ht : (pc : Int) + off = (tgt : Int)) (h1 : 0 ≤ x → mx_T E fin d bc bs mid tgt lv st h Q) (h2 : ¬ (0 ≤ x) → mx_T E fin d bc bs mid (pc + 3) lv st h Q) : mx_T E fin d bc bs mid pc lv (.inl (.int x) :: st) h Q :=
  mx_br (u := [.inl (.int x)]) (fun _ _ _ _ _ _ _ _ _ _ _ _ _ _ _ hS k1 k2 => lv_if_ge hS.1 hS.2.1 hd ht k1 k2) h1 h2
theorem mx_ic_ge {x y : Int32} {off : Int} {tgt : Nat} (hd : decode (mx_by mid) pc = .ok (.if_icmp .ge off, 3)) (ht : (pc : Int) + off = (tgt : Int)) (h1 : y ≤ x → mx_T E fin d bc bs mid tgt lv st h Q) (h2 : ¬ (y ≤ x) → mx_T E fin d bc bs mid (pc + 3) lv st h Q) : mx_T E fin d bc bs mid pc lv (.inl (.int y) :: .inl (.int x) :: st) h Q :=
  mx_br (u := [.inl (.int y), .inl (.int x)]) (fun _ _ _ _ _ _ _ _ _ _ _ _ _ _ _ hS k1 k2 => lv_icmp_ge hS.1 hS.2.1 hd ht k1 k2) h1 h2
theorem mx_if_gt {x : Int32} {off : Int} {tgt : Nat} (hd : decode (mx_by mid) pc = .ok (.ifCond .gt off, 3)) (ht : (pc : Int) + off = (tgt : Int)) (h1 : 0 < x → mx_T E fin d bc bs mid tgt lv st h Q) (h2 : ¬ (0 < x) → mx_T E fin d bc bs mid (pc + 3) lv st h Q) : mx_T E fin d bc bs mid pc lv (.inl (.int x) :: st) h Q :=
  mx_br (u := [.inl (.int x)]) (fun _ _ _ _ _ _ _ _ _ _ _ _ _ _ _ hS k1 k2 => lv_if_gt hS.1 hS.2.1 hd ht k1 k2) h1 h2
theorem mx_ic_gt {x y : Int32} {off : Int} {tgt : Nat} (hd : decode (mx_by mid) pc = .ok (.if_icmp .gt off, 3)) (ht : (pc : Int) + off = (tgt : Int)) (h1 : y < x → mx_T E fin d bc bs mid tgt lv st h Q) (h2 : ¬ (y < x) → mx_T E fin d bc bs mid (pc + 3) lv st h Q) : mx_T E fin d bc bs mid pc lv (.inl (.int y) :: .inl (.int x) :: st) h Q :=
  mx_br (u := [.inl (.int y), .inl (.int x)]) (fun _ _ _ _ _ _ _ _ _ _ _ _ _ _ _ hS k1 k2 => lv_icmp_gt hS.1 hS.2.1 hd ht k1 k2) h1 h2
theorem mx_if_le {x : Int32} {off : Int} {tgt : Nat} (hd : decode (mx_by mid) pc = .ok (.ifCond .le off, 3)) (ht : (pc : Int) + off = (tgt : Int)) (h1 : x ≤ 0 → mx_T E fin d bc bs mid tgt lv st h Q) (h2 : ¬ (x ≤ 0) → mx_T E fin d bc bs mid (pc + 3) lv st h Q) : mx_T E fin d bc bs mid pc lv (.inl (.int x) :: st) h Q :=
  mx_br (u := [.inl (.int x)]) (fun _ _ _ _ _ _ _ _ _ _ _ _ _ _ _ hS k1 k2 => lv_if_le hS.1 hS.2.1 hd ht k1 k2) h1 h2
theorem mx_ic_le {x y : Int32} {off : Int} {tgt : Nat} (hd : decode (mx_by mid) pc = .ok (.if_icmp .le off, 3)) (ht : (pc : Int) + off = (tgt : Int)) (h1 : x ≤ y → mx_T E fin d bc bs mid tgt lv st h Q) (h2 : ¬ (x ≤ y) → mx_T E fin d bc bs mid (pc + 3) lv st h Q) : mx_T E fin d bc bs mid pc lv (.inl (.int y) :: .inl (.int x) :: st) h Q :=
  mx_br (u := [.inl (.int y), .inl (.int x)]) (fun _ _ _ _ _ _ _ _ _ _ _ _ _ _ _ hS k1 k2 => lv_icmp_le hS.1 hS.2.1 hd ht k1 k2) h1 h2
theorem mx_ifnull_r {a : mx_A} {off : Int} (hd : decode (mx_by mid) pc = .ok (.ifnull off, 3)) (hk : mx_T E fin d bc bs mid (pc + 3) lv st h Q) : mx_T E fin d bc bs mid pc lv (.inr a :: st) h Q :=
  mx_go (fun h1 h2 => ⟨h1, fun x hx => h2 x (List.mem_cons_of_mem _ hx)⟩) (fun _ _ _ _ _ _ _ _ _ _ _ _ _ _ ls hS _ hl k => lv_ifnull hS.1 hS.2.1 hd (k ls hl)) hk
theorem mx_ifnull_n {off : Int} {tgt : Nat} (hd : decode (mx_by mid) pc = .ok (.ifnull off, 3)) (ht : (pc : Int) + off = (tgt : Int)) (hk : mx_T E fin d bc bs mid tgt lv st h Q) : mx_T E fin d bc bs mid pc lv (.inl .null :: st) h Q :=
  mx_go (fun h1 h2 => ⟨h1, fun x hx => h2 x (List.mem_cons_of_mem _ hx)⟩) (fun _ _ _ _ _ _ _ _ _ _ _ _ _ _ ls hS _ hl k => lv_ifnullN hS.1 hS.2.1 hd ht (k ls hl)) hk
theorem mx_ifnn_r {a : mx_A} {off : Int} {tgt : Nat} (hd : decode (mx_by mid) pc = .ok (.ifnonnull off, 3)) (ht : (pc : Int) + off = (tgt : Int)) (hk : mx_T E fin d bc bs mid tgt lv st h Q) : mx_T E fin d bc bs mid pc lv (.inr a :: st) h Q :=
  mx_go (fun h1 h2 => ⟨h1, fun x hx => h2 x (List.mem_cons_of_mem _ hx)⟩) (fun _ _ _ _ _ _ _ _ _ _ _ _ _ _ ls hS _ hl k => lv_ifnonnull hS.1 hS.2.1 hd ht (k ls hl)) hk
theorem mx_ifnn_n {off : Int} (hd : decode (mx_by mid) pc = .ok (.ifnonnull off, 3)) (hk : mx_T E fin d bc bs mid (pc + 3) lv st h Q) : mx_T E fin d bc bs mid pc lv (.inl .null :: st) h Q :=
  mx_go (fun h1 h2 => ⟨h1, fun x hx => h2 x (List.mem_cons_of_mem _ hx)⟩) (fun _ _ _ _ _ _ _ _ _ _ _ _ _ _ ls hS _ hl k => lv_ifnonnullN hS.1 hS.2.1 hd (k ls hl)) hk
theorem mx_tsw {dflt lo hi : Int} {offs : Array Int} {len : Nat} {x : Int32} (hd : decode (mx_by mid) pc = .ok (.tableswitch dflt lo hi offs, len)) (h0 : 0 ≤ (pc : Int) + dflt) (h9 : ∀ o ∈ offs, 0 ≤ (pc : Int) + o) (hz : (hi - lo + 1).toNat ≤ offs.size)
    (hk : ∀ tgt : Nat, ((x.toInt < lo ∨ hi < x.toInt) ∧ (pc : Int) + dflt = tgt) ∨ (lo ≤ x.toInt ∧ x.toInt ≤ hi ∧ ∃ o, offs[(x.toInt - lo).toNat]? = some o ∧ (pc : Int) + o = tgt) → mx_T E fin d bc bs mid tgt lv st h Q) : mx_T E fin d bc bs mid pc lv (.inl (.int x) :: st) h Q := by
  by_cases hc : x.toInt < lo ∨ hi < x.toInt
  · refine mx_go (pc' := ((pc : Int) + dflt).toNat) (fun h1 h2 => ⟨h1, fun x hx => h2 x (List.mem_cons_of_mem _ hx)⟩) (fun _ _ _ _ _ _ _ _ _ _ _ _ _ _ ls hS _ hl k => lv_tableOut hS.1 hS.2.1 hd hc (by omega) (k ls hl)) (hk _ (Or.inl ⟨hc, by omega⟩))
  · have hb : (x.toInt - lo).toNat < offs.size := by omega
    have ho : offs[(x.toInt - lo).toNat]? = some offs[(x.toInt - lo).toNat] := Array.getElem?_eq_getElem hb
    have hp := h9 _ (Array.getElem_mem hb)
    refine mx_go (pc' := ((pc : Int) + offs[(x.toInt - lo).toNat]).toNat) (fun h1 h2 => ⟨h1, fun x hx => h2 x (List.mem_cons_of_mem _ hx)⟩) (fun _ _ _ _ _ _ _ _ _ _ _ _ _ _ ls hS _ hl k => lv_tableIn hS.1 hS.2.1 hd (by omega) (by omega) ho (by omega) (k ls hl)) (hk _ (Or.inr ⟨by omega, by omega, _, ho, by omega⟩))
theorem mx_lsw {dflt : Int} {ps : Array (Int × Int)} {len : Nat} {x : Int32} (hd : decode (mx_by mid) pc = .ok (.lookupswitch dflt ps, len)) (hp : (ps.toList.zip (ps.toList.drop 1)).all (fun (a, next) => a.1 < next.1) = true) (h0 : 0 ≤ (pc : Int) + Op.lookupswitch.offset ps.toList dflt x.toInt)
    (hk : mx_T E fin d bc bs mid ((pc : Int) + Op.lookupswitch.offset ps.toList dflt x.toInt).toNat lv st h Q) : mx_T E fin d bc bs mid pc lv (.inl (.int x) :: st) h Q :=
  mx_go (fun h1 h2 => ⟨h1, fun x hx => h2 x (List.mem_cons_of_mem _ hx)⟩) (fun _ _ _ _ _ _ _ _ _ _ _ _ _ _ ls hS _ hl k => lv_lookup hS.1 hS.2.1 hd hp rfl (by omega) (k ls hl)) hk
/-- the method's end -/
theorem mx_end {v : Option mx_V} {ins : Instr} (hd : decode (mx_by mid) pc = .ok (ins, 1)) (hr : mx_rk (mx_rt mid) ins v) (hq : Q v h) : mx_T E fin d bc bs mid pc lv v.toList h Q :=
  fun p e R s m args below meth cd H locs cells slots Qw ls hS hD q1 q2 q3 q4 q5 q6 => q6 v h H locs cells slots pc ls ins hq hD (Nat.le_refl _) (Nat.le_add_right _ _) (Nat.le_add_right _ _) (fun x hx => by subst hx; exact q4 x List.mem_cons_self) hd hr
end MXR
end
section
/-! ===== one instruction at a time: the heap ===== -/
def mx_up {α : Type} (f : mx_A → Nat → α) (a : mx_A) (i : Nat) (v : α) : mx_A → Nat → α := fun b j => if b = a ∧ j = i then v else f b j
def mx_uI (h : mx_H) (a : mx_A) (i : Nat) (v : Int32) : mx_H := (h.1, mx_up h.2.1 a i v, h.2.2.1, h.2.2.2)
def mx_uL (h : mx_H) (a : mx_A) (i : Nat) (v : Int64) : mx_H := (h.1, h.2.1, mx_up h.2.2.1 a i v, h.2.2.2)
def mx_uR (h : mx_H) (a : mx_A) (i : Nat) (v : Option mx_A) : mx_H := (h.1, h.2.1, h.2.2.1, mx_up h.2.2.2 a i v)
theorem mx_up_ne {α : Type} {f : mx_A → Nat → α} {a b : mx_A} {i : Nat} {v : α} (h : b ≠ a) : mx_up f a i v b = f b := by
  funext j
  exact if_neg (fun q => h q.1)
theorem mx_up_eq {α : Type} {f : mx_A → Nat → α} {a : mx_A} {i : Nat} {v : α} : mx_up f a i v a = fun j => if j = i then v else f a j := by
  funext j
  unfold mx_up
  by_cases e : j = i
  · rw [if_pos ⟨rfl, e⟩, if_pos e]
  · rw [if_neg (fun q => e q.2), if_neg e]
theorem mx_fv_uI {E : mx_Ev} {h : mx_H} {a b : mx_A} {i : Nat} {v : Int32} (hb : b ≠ a) : mx_fv E (mx_uI h a i v) b = mx_fv E h b := by
  funext ci j
  simp only [mx_fv, mx_uI, mx_up_ne hb]
theorem mx_ar_uI {E : mx_Ev} {h : mx_H} {a b : mx_A} {i : Nat} {v : Int32} (hb : b ≠ a) : mx_ar E (mx_uI h a i v) b = mx_ar E h b := by
  funext kd
  simp only [mx_ar, mx_uI, mx_up_ne hb]
theorem mx_cell_uI {E : mx_Ev} {h : mx_H} {a b : mx_A} {i : Nat} {v : Int32} (hb : b ≠ a) : mx_cell E (mx_uI h a i v) b = mx_cell E h b := by
  unfold mx_cell
  rw [mx_fv_uI hb, mx_ar_uI hb]
theorem mx_fv_uL {E : mx_Ev} {h : mx_H} {a b : mx_A} {i : Nat} {v : Int64} (hb : b ≠ a) : mx_fv E (mx_uL h a i v) b = mx_fv E h b := by
  funext ci j
  simp only [mx_fv, mx_uL, mx_up_ne hb]
theorem mx_ar_uL {E : mx_Ev} {h : mx_H} {a b : mx_A} {i : Nat} {v : Int64} (hb : b ≠ a) : mx_ar E (mx_uL h a i v) b = mx_ar E h b := by
  funext kd
  simp only [mx_ar, mx_uL, mx_up_ne hb]
theorem mx_cell_uL {E : mx_Ev} {h : mx_H} {a b : mx_A} {i : Nat} {v : Int64} (hb : b ≠ a) : mx_cell E (mx_uL h a i v) b = mx_cell E h b := by
  unfold mx_cell
  rw [mx_fv_uL hb, mx_ar_uL hb]
theorem mx_fv_uR {E : mx_Ev} {h : mx_H} {a b : mx_A} {i : Nat} {v : Option mx_A} (hb : b ≠ a) : mx_fv E (mx_uR h a i v) b = mx_fv E h b := by
  funext ci j
  simp only [mx_fv, mx_uR, mx_up_ne hb]
theorem mx_ar_uR {E : mx_Ev} {h : mx_H} {a b : mx_A} {i : Nat} {v : Option mx_A} (hb : b ≠ a) : mx_ar E (mx_uR h a i v) b = mx_ar E h b := by
  funext kd
  simp only [mx_ar, mx_uR, mx_up_ne hb]
theorem mx_cell_uR {E : mx_Ev} {h : mx_H} {a b : mx_A} {i : Nat} {v : Option mx_A} (hb : b ≠ a) : mx_cell E (mx_uR h a i v) b = mx_cell E h b := by
  unfold mx_cell
  rw [mx_fv_uR hb, mx_ar_uR hb]
theorem mx_cell_i {E : mx_Ev} {h : mx_H} {a : mx_A} {kd : Nat} (hl : (mx_lo a).1 = kd) (hk : kd = 100 ∨ kd = 102 ∨ kd = 103) : mx_cell E h a = .inl (mx_aC E (kd - 100), (mx_lo a).2, .inl (h.2.1 a)) := by
  unfold mx_cell mx_ar
  rw [hl]
  rcases hk with rfl | rfl | rfl <;> rfl
theorem mx_cell_l {E : mx_Ev} {h : mx_H} {a : mx_A} (hl : (mx_lo a).1 = 101) : mx_cell E h a = .inl (mx_aC E 1, (mx_lo a).2, .inr (.inl (h.2.2.1 a))) := by
  unfold mx_cell mx_ar
  rw [hl]
  rfl
theorem mx_cell_q {E : mx_Ev} {h : mx_H} {a : mx_A} {kd : Nat} (hl : (mx_lo a).1 = kd) (hk : kd = 104 ∨ kd = 105) : mx_cell E h a = .inl (mx_aC E (kd - 100), (mx_lo a).2, .inr (.inr (.inr (.inr (fun j => (h.2.2.2 a j).map (mx_ad E)))))) := by
  unfold mx_cell mx_ar
  rw [hl]
  rcases hk with rfl | rfl <;> rfl
theorem mx_cell_o {E : mx_Ev} {h : mx_H} {a : mx_A} {ci : Nat} (hl : (mx_lo a).1 = ci) (hc : ci < 100) : mx_cell E h a = .inr (ci, (List.range (mx_lo a).2).map (mx_fv E h a ci)) := by
  unfold mx_cell
  rw [hl, if_pos hc]
theorem mx_D_set {E : mx_Ev} {fin : mx_A → Nat → Option mx_A} {h h' : mx_H} {s : State} {H H1 : Heap} {locs : List Loc} {a : mx_A} {k : Nat} (hD : mx_D E fin h s H locs) (hn : h'.1 = h.1) (ha : mx_wfa h.1 a) (hs : ∀ b, mx_va b → b ≠ a → mx_cell E h' b = mx_cell E h b)
    (hc : va_at (mx_G E) vwCl (mx_ad E a, mx_cell E h' a) H1) (hz : H1.size = H.size) (oq : ∀ q : Nat, q ≠ mx_ad E a → H1[q]? = H[q]?) (hr : ∀ a k b, h'.2.2.2 a k = some b → mx_wfa h.1 b) (hf : ∀ a k b, fin a k = some b → mx_wfa h.1 a → h'.2.2.2 a k = some b) :
    mx_D E fin h' s H1 (locs ++ [⟨mx_ad E a, k⟩]) := by
  obtain ⟨hP, hA, hS, hZ, -, -⟩ := hD
  have hg := mx_W_get (E := E) ha
  refine ⟨?_, ?_, hS.put hz oq (Nat.le_add_right _ _), by rw [hz, hZ, hn], by rw [hn]; exact hr, by rw [hn]; exact hf⟩
  · rw [mx_W_ext hn ha hs]
    exact hP.set hA hg hc oq
  · rw [mx_W_ext hn ha hs]
    exact hA.set hg
theorem mx_old {E : mx_Ev} {fin : mx_A → Nat → Option mx_A} {h : mx_H} {s : State} {H : Heap} {locs : List Loc} (hD : mx_D E fin h s H locs) (hB : mx_B E ≤ s.heap.size) {q : Nat} (hq : q < mx_B E) : H[q]? = s.heap[q]? :=
  hD.2.2.1.2.1 q (Nat.lt_of_lt_of_le hq hB) (fun z => absurd z (Nat.not_le.mpr hq))
section MXH
variable {E : mx_Ev} {fin : mx_A → Nat → Option mx_A} {d bc bs mid pc : Nat} {lv : mx_Lv} {st : List mx_V} {h : mx_H} {Q : Option mx_V → mx_H → Prop}
/-- a value read from the heap takes the place of the topmost -/
theorem mx_read {u : List mx_V} {v : mx_V} {k : Nat} (hv : ∀ (s : State) (H : Heap) (locs : List Loc), mx_D E fin h s H locs → mx_wf h.1 v)
    (hstep : ∀ (p : Program) (e : Env) (R : Room) (s : State) (m : MethodId) (args : Array Value) (below : List Frame) (meth : Method) (c : Code) (H : Heap) (locs : List Loc) (cells slots : Nat) (Qw : State → Prop) (ls : Array Slot),
      mx_S E d mid p R s m args meth c → mx_D E fin h s H locs → (∀ x ∈ u, mx_wf h.1 x) → W p E.1 e R s m args below meth c H locs cells slots Qw (F0 m (pc + k) ls (mx_sh E v :: st.map (mx_sh E))) → W p E.1 e R s m args below meth c H locs cells slots Qw (F0 m pc ls ((u ++ st).map (mx_sh E))))
    (hk : mx_T E fin d bc bs mid (pc + k) lv (v :: st) h Q) : mx_T E fin d bc bs mid pc lv (u ++ st) h Q :=
  fun p e R s m args below meth c H locs cells slots Qw ls hS hD q1 q2 q3 q4 q5 q6 =>
    hstep p e R s m args below meth c H locs cells slots Qw ls hS hD (fun x hx => q4 x (List.mem_append_left _ hx))
      (hk p e R s m args below meth c H locs cells slots Qw ls hS hD q1 q2 q3 (fun x hx => (List.mem_cons.mp hx).elim (fun e => e ▸ hv s H locs hD) (fun hx => q4 x (List.mem_append_right _ hx))) q5 q6)
theorem mx_iaload {a : mx_A} {i : Int32} (hd : decode (mx_by mid) pc = .ok (.iaload, 1)) (hl : (mx_lo a).1 = 100) (hin : vp_in i (mx_lo a).2) (hk : mx_T E fin d bc bs mid (pc + 1) lv (.inl (.int (h.2.1 a i.toNatClampNeg)) :: st) h Q) : mx_T E fin d bc bs mid pc lv (.inl (.int i) :: .inr a :: st) h Q :=
  mx_read (u := [.inl (.int i), .inr a]) (fun _ _ _ _ => by exact True.intro) (fun _ _ _ _ _ _ _ _ _ _ _ _ _ _ _ hS hD hw k => va_iald hS.1 hS.2.1 hS.2.2.2.2.2.2.2.2.1.1 hD.1 (mx_pos a) 0 (by rw [mx_W_get (hw (.inr a) (by simp)), mx_cell_i hl (by simp)]) rfl hin hd k) hk
theorem mx_baload {a : mx_A} {i : Int32} (hd : decode (mx_by mid) pc = .ok (.baload, 1)) (hl : (mx_lo a).1 = 102) (hin : vp_in i (mx_lo a).2) (hk : mx_T E fin d bc bs mid (pc + 1) lv (.inl (.int (h.2.1 a i.toNatClampNeg)) :: st) h Q) : mx_T E fin d bc bs mid pc lv (.inl (.int i) :: .inr a :: st) h Q :=
  mx_read (u := [.inl (.int i), .inr a]) (fun _ _ _ _ => by exact True.intro) (fun _ _ _ _ _ _ _ _ _ _ _ _ _ _ _ hS hD hw k => va_bald hS.1 hS.2.1 hS.2.2.2.2.2.2.2.2.1.1 hD.1 (mx_pos a) 2 (by rw [mx_W_get (hw (.inr a) (by simp)), mx_cell_i hl (by simp)]) rfl hin hd k) hk
theorem mx_zaload {a : mx_A} {i : Int32} (hd : decode (mx_by mid) pc = .ok (.baload, 1)) (hl : (mx_lo a).1 = 103) (hin : vp_in i (mx_lo a).2) (hk : mx_T E fin d bc bs mid (pc + 1) lv (.inl (.int (h.2.1 a i.toNatClampNeg)) :: st) h Q) : mx_T E fin d bc bs mid pc lv (.inl (.int i) :: .inr a :: st) h Q :=
  mx_read (u := [.inl (.int i), .inr a]) (fun _ _ _ _ => by exact True.intro) (fun _ _ _ _ _ _ _ _ _ _ _ _ _ _ _ hS hD hw k => va_zald hS.1 hS.2.1 hS.2.2.2.2.2.2.2.2.1.1 hD.1 (mx_pos a) 3 (by rw [mx_W_get (hw (.inr a) (by simp)), mx_cell_i hl (by simp)]) rfl hin hd k) hk
theorem mx_laload {a : mx_A} {i : Int32} (hd : decode (mx_by mid) pc = .ok (.laload, 1)) (hl : (mx_lo a).1 = 101) (hin : vp_in i (mx_lo a).2) (hk : mx_T E fin d bc bs mid (pc + 1) lv (.inl (.long (h.2.2.1 a i.toNatClampNeg)) :: st) h Q) : mx_T E fin d bc bs mid pc lv (.inl (.int i) :: .inr a :: st) h Q :=
  mx_read (u := [.inl (.int i), .inr a]) (fun _ _ _ _ => by exact True.intro) (fun _ _ _ _ _ _ _ _ _ _ _ _ _ _ _ hS hD hw k => va_lald hS.1 hS.2.1 hS.2.2.2.2.2.2.2.2.1.1 hD.1 (mx_pos a) 1 (by rw [mx_W_get (hw (.inr a) (by simp)), mx_cell_l hl]) rfl hin hd k) hk
/-- a reference read: the cell's number, or null -/
def mx_ov : Option mx_A → mx_V
  | some a => .inr a
  | none => .inl .null
theorem mx_ov_sh (E : mx_Ev) (o : Option mx_A) : mx_sh E (mx_ov o) = va_rf (o.map (mx_ad E)) := by cases o <;> rfl
theorem mx_ov_wf {s : State} {H : Heap} {locs : List Loc} {a : mx_A} {k : Nat} (hD : mx_D E fin h s H locs) : mx_wf h.1 (mx_ov (h.2.2.2 a k)) := by
  cases hr : h.2.2.2 a k with
  | none => exact True.intro
  | some b => exact hD.2.2.2.2.1 a k b hr
theorem mx_aaload {a : mx_A} {i : Int32} (hd : decode (mx_by mid) pc = .ok (.aaload, 1)) (hl : (mx_lo a).1 = 104) (hin : vp_in i (mx_lo a).2) (hk : mx_T E fin d bc bs mid (pc + 1) lv (mx_ov (h.2.2.2 a i.toNatClampNeg) :: st) h Q) : mx_T E fin d bc bs mid pc lv (.inl (.int i) :: .inr a :: st) h Q :=
  mx_read (u := [.inl (.int i), .inr a]) (fun _ _ _ hD => mx_ov_wf hD) (fun _ _ _ _ _ _ _ _ _ _ _ _ _ _ _ hS hD hw k => va_aldq hS.1 hS.2.1 hS.2.2.2.2.2.2.2.2.1.1 hD.1 (mx_pos a) 4 (by rw [mx_W_get (hw (.inr a) (by simp)), mx_cell_q hl (by simp)]) rfl hin hd (by rw [mx_ov_sh] at k; exact k)) hk
theorem mx_aaload5 {a b : mx_A} {i : Int32} (hd : decode (mx_by mid) pc = .ok (.aaload, 1)) (hl : (mx_lo a).1 = 105) (hin : vp_in i (mx_lo a).2) (hfin : fin a i.toNatClampNeg = some b) (hk : mx_T E fin d bc bs mid (pc + 1) lv (.inr b :: st) h Q) : mx_T E fin d bc bs mid pc lv (.inl (.int i) :: .inr a :: st) h Q := by
  intro p e R s m args below meth c H locs cells slots Qw ls hS hD q1 q2 q3 q4 q5 q6
  have hwa : mx_wfa h.1 a := q4 (.inr a) (by simp)
  have hr : h.2.2.2 a i.toNatClampNeg = some b := hD.2.2.2.2.2 a _ b hfin hwa
  have kk := hk p e R s m args below meth c H locs cells slots Qw ls hS hD q1 q2 q3 (fun x hx => (List.mem_cons.mp hx).elim (fun e => e ▸ hD.2.2.2.2.1 a _ b hr) (fun hx => q4 x (List.mem_cons_of_mem _ (List.mem_cons_of_mem _ hx)))) q5 q6
  have hlt : i.toNatClampNeg < (mx_lo a).2 := Nat.not_le.mp fun q => hin (Or.inr q)
  have hc0 := hD.1 (mx_pos a) _ (mx_W_get hwa)
  rw [mx_cell_q hl (by simp)] at hc0
  have hc : H[mx_ad E a]? = some (arrV (mx_aC E 5) (mx_lo a).2 (fun j => va_rf ((h.2.2.2 a j).map (mx_ad E)))) := hc0
  refine W.aald hS.1 hS.2.1 hc ((hS.2.2.2.2.2.2.2.2.1.1.2 5 _ rfl).1 _ _) rfl (fun q => by cases q) (by rw [arrV_size]; exact hin) (arrV_read _ _ hlt) rfl rfl hd ?_
  rw [hr]
  exact kk
/-- arrays that stand still: the script, and the two of Parts -/
def mx_slen (E : mx_Ev) (u : UInt32) : Nat := if u = 0 then 6 else if u = 1 then 24 else mx_sn E
def mx_sval (E : mx_Ev) (u : UInt32) : Nat → Int32 := if u = 0 then mx_k0 else if u = 1 then mx_k1 else mx_sx E
theorem mx_sX {s : State} {H : Heap} {locs : List Loc} {u : UInt32} (hu : u = 0 ∨ u = 1 ∨ u = 2) (hN : mx_Nv E s s.heap) (hD : mx_D E fin h s H locs) : va_X (mx_sa E u.toNat) (mx_slen E u) (mx_sval E u) s H := by
  obtain ⟨-, -, -, -, -, -, x0, x1, x2, l0, l1, l2, -, hB⟩ := hN
  rcases hu with rfl | rfl | rfl
  · exact x0.kept (mx_old hD hB l0)
  · exact x1.kept (mx_old hD hB l1)
  · exact x2.kept (mx_old hD hB l2)
theorem mx_siald {u : UInt32} {i : Int32} (hu : u = 0 ∨ u = 1 ∨ u = 2) (hd : decode (mx_by mid) pc = .ok (.iaload, 1)) (hin : vp_in i (mx_slen E u)) (hk : mx_T E fin d bc bs mid (pc + 1) lv (.inl (.int (mx_sval E u i.toNatClampNeg)) :: st) h Q) : mx_T E fin d bc bs mid pc lv (.inl (.int i) :: .inl (.float u) :: st) h Q :=
  mx_read (u := [.inl (.int i), .inl (.float u)]) (fun _ _ _ _ => by exact True.intro) (fun _ _ _ _ _ _ _ _ _ _ _ _ _ _ _ hS hD hw k => by
    obtain ⟨scr, x1, x2, x3, x4, x5⟩ := mx_sX hu hS.2.2.2.2.2.2.2.2.1 hD
    exact W.iald hS.1 hS.2.1 x1 x2 x3 (by rw [x4]; exact hin) (x5 _ (Nat.not_le.mp fun q => hin (Or.inr q))) rfl rfl hd k) hk
theorem mx_salen {u : UInt32} (hu : u = 0 ∨ u = 1 ∨ u = 2) (hd : decode (mx_by mid) pc = .ok (.arraylength, 1)) (hk : mx_T E fin d bc bs mid (pc + 1) lv (.inl (.int (Int32.ofNat (mx_slen E u))) :: st) h Q) : mx_T E fin d bc bs mid pc lv (.inl (.float u) :: st) h Q :=
  mx_read (u := [.inl (.float u)]) (fun _ _ _ _ => by exact True.intro) (fun _ _ _ _ _ _ _ _ _ _ _ _ _ _ _ hS hD hw k => by
    obtain ⟨scr, x1, x2, x3, x4, x5⟩ := mx_sX hu hS.2.2.2.2.2.2.2.2.1 hD
    exact W.alen hS.1 hS.2.1 x1 x2 (by rw [x4]) rfl rfl hd k) hk
theorem mx_alen {a : mx_A} (hd : decode (mx_by mid) pc = .ok (.arraylength, 1)) (hl : (mx_lo a).1 = 100 ∨ (mx_lo a).1 = 101) (hk : mx_T E fin d bc bs mid (pc + 1) lv (.inl (.int (Int32.ofNat (mx_lo a).2)) :: st) h Q) : mx_T E fin d bc bs mid pc lv (.inr a :: st) h Q :=
  mx_read (u := [.inr a]) (fun _ _ _ _ => by exact True.intro) (fun _ _ _ _ _ _ _ _ _ _ _ _ _ _ _ hS hD hw k => by
    rcases hl with hl | hl
    · exact va_alen (x := ((mx_lo a).2, Sum.inl (h.2.1 a))) hS.1 hS.2.1 hS.2.2.2.2.2.2.2.2.1.1 hD.1 (mx_pos a) 0 (by rw [mx_W_get (hw (.inr a) (by simp)), mx_cell_i hl (by simp)]) rfl rfl hd k
    · exact va_alen (x := ((mx_lo a).2, Sum.inr (Sum.inl (h.2.2.1 a)))) hS.1 hS.2.1 hS.2.2.2.2.2.2.2.2.1.1 hD.1 (mx_pos a) 1 (by rw [mx_W_get (hw (.inr a) (by simp)), mx_cell_l hl]) rfl rfl hd k) hk
/-- a store: the heap changes in one cell -/
theorem mx_write {u : List mx_V} {a : mx_A} {h' : mx_H} {k : Nat} (hn : h'.1 = h.1)
    (hstep : ∀ (p : Program) (e : Env) (R : Room) (s : State) (m : MethodId) (args : Array Value) (below : List Frame) (meth : Method) (c : Code) (H : Heap) (locs : List Loc) (cells slots : Nat) (Qw : State → Prop) (ls : Array Slot),
      mx_S E d mid p R s m args meth c → mx_D E fin h s H locs → (∀ x ∈ u, mx_wf h.1 x) → (∀ (H1 : Heap) (locs1 : List Loc), mx_D E fin h' s H1 locs1 → W p E.1 e R s m args below meth c H1 locs1 cells slots Qw (F0 m (pc + k) ls (st.map (mx_sh E)))) → W p E.1 e R s m args below meth c H locs cells slots Qw (F0 m pc ls ((u ++ st).map (mx_sh E))))
    (hk : mx_T E fin d bc bs mid (pc + k) lv st h' Q) : mx_T E fin d bc bs mid pc lv (u ++ st) h Q :=
  fun p e R s m args below meth c H locs cells slots Qw ls hS hD q1 q2 q3 q4 q5 q6 =>
    hstep p e R s m args below meth c H locs cells slots Qw ls hS hD (fun x hx => q4 x (List.mem_append_left _ hx)) (fun H1 locs1 hD1 =>
      hk p e R s m args below meth c H1 locs1 cells slots Qw ls hS hD1 q1 q2 (by rw [hn]; exact q3) (by rw [hn]; exact fun x hx => q4 x (List.mem_append_right _ hx)) q5 (by rw [hn]; exact q6))
theorem mx_iastore {a : mx_A} {i : Int32} {x : Int32} (hd : decode (mx_by mid) pc = .ok (.iastore, 1)) (hl : (mx_lo a).1 = 100) (hin : vp_in i (mx_lo a).2) (hk : mx_T E fin d bc bs mid (pc + 1) lv st (mx_uI h a i.toNatClampNeg x) Q) : mx_T E fin d bc bs mid pc lv (.inl (.int x) :: .inl (.int i) :: .inr a :: st) h Q :=
  mx_write (h' := mx_uI h a i.toNatClampNeg x) (u := [.inl (.int x), .inl (.int i), .inr a]) (a := a) rfl (fun _ _ _ _ _ _ _ _ _ H _ _ _ _ _ hS hD hw k => by
    have hwa : mx_wfa h.1 a := hw (.inr a) (by simp)
    have hc0 := hD.1 (mx_pos a) _ (mx_W_get hwa)
    rw [mx_cell_i hl (by simp)] at hc0
    have hc : H[mx_ad E a]? = some (arrV (mx_aC E 0) (mx_lo a).2 (fun j => Value.int (h.2.1 a j))) := hc0
    refine W.iast hS.1 hS.2.1 hc ((hS.2.2.2.2.2.2.2.2.1.1.2 0 _ rfl).1 _ _) (fun q => by cases q) (by rw [arrV_size]; exact hin) rfl rfl hd fun H1 e z oq => ?_
    refine k H1 _ (mx_D_set (a := a) hD rfl hwa (fun b _ hb => mx_cell_uI hb) ?_ z oq hD.2.2.2.2.1 hD.2.2.2.2.2)
    rw [mx_cell_i hl (by simp)]
    show H1[mx_ad E a]? = some (vp_cell _ _)
    rw [e, vp_cell_i, arrV_store]
    refine congrArg some (congrArg (arrV _ _) (funext fun j => ?_))
    show updV _ _ _ j = Value.int (mx_up h.2.1 a _ x a j)
    rw [mx_up_eq]
    dsimp only [updV]
    split <;> rfl) hk
theorem mx_bastore {a : mx_A} {i : Int32} {x : Int32} (hd : decode (mx_by mid) pc = .ok (.bastore, 1)) (hl : (mx_lo a).1 = 102) (hin : vp_in i (mx_lo a).2) (hk : mx_T E fin d bc bs mid (pc + 1) lv st (mx_uI h a i.toNatClampNeg (vp_nar .byte x)) Q) : mx_T E fin d bc bs mid pc lv (.inl (.int x) :: .inl (.int i) :: .inr a :: st) h Q :=
  mx_write (h' := mx_uI h a i.toNatClampNeg (vp_nar .byte x)) (u := [.inl (.int x), .inl (.int i), .inr a]) (a := a) rfl (fun _ _ _ _ _ _ _ _ _ H _ _ _ _ _ hS hD hw k => by
    have hwa : mx_wfa h.1 a := hw (.inr a) (by simp)
    have hc0 := hD.1 (mx_pos a) _ (mx_W_get hwa)
    rw [mx_cell_i hl (by simp)] at hc0
    have hc : H[mx_ad E a]? = some (arrV (mx_aC E 2) (mx_lo a).2 (fun j => Value.int (h.2.1 a j))) := hc0
    refine W.bast hS.1 hS.2.1 hc ((hS.2.2.2.2.2.2.2.2.1.1.2 2 _ rfl).1 _ _) (fun q => by cases q) (by rw [arrV_size]; exact hin) rfl rfl hd fun H1 e z oq => ?_
    refine k H1 _ (mx_D_set (a := a) hD rfl hwa (fun b _ hb => mx_cell_uI hb) ?_ z oq hD.2.2.2.2.1 hD.2.2.2.2.2)
    rw [mx_cell_i hl (by simp)]
    show H1[mx_ad E a]? = some (vp_cell _ _)
    rw [e, vp_cell_i, arrV_store]
    refine congrArg some (congrArg (arrV _ _) (funext fun j => ?_))
    show updV _ _ _ j = Value.int (mx_up h.2.1 a _ (vp_nar .byte x) a j)
    rw [mx_up_eq]
    dsimp only [updV]
    split <;> rfl) hk
theorem mx_zastore {a : mx_A} {i : Int32} {x : Int32} (hd : decode (mx_by mid) pc = .ok (.bastore, 1)) (hl : (mx_lo a).1 = 103) (hin : vp_in i (mx_lo a).2) (hk : mx_T E fin d bc bs mid (pc + 1) lv st (mx_uI h a i.toNatClampNeg (vp_nar .boolean x)) Q) : mx_T E fin d bc bs mid pc lv (.inl (.int x) :: .inl (.int i) :: .inr a :: st) h Q :=
  mx_write (h' := mx_uI h a i.toNatClampNeg (vp_nar .boolean x)) (u := [.inl (.int x), .inl (.int i), .inr a]) (a := a) rfl (fun _ _ _ _ _ _ _ _ _ H _ _ _ _ _ hS hD hw k => by
    have hwa : mx_wfa h.1 a := hw (.inr a) (by simp)
    have hc0 := hD.1 (mx_pos a) _ (mx_W_get hwa)
    rw [mx_cell_i hl (by simp)] at hc0
    have hc : H[mx_ad E a]? = some (arrV (mx_aC E 3) (mx_lo a).2 (fun j => Value.int (h.2.1 a j))) := hc0
    refine W.zast hS.1 hS.2.1 hc ((hS.2.2.2.2.2.2.2.2.1.1.2 3 _ rfl).1 _ _) (fun q => by cases q) (by rw [arrV_size]; exact hin) rfl rfl hd fun H1 e z oq => ?_
    refine k H1 _ (mx_D_set (a := a) hD rfl hwa (fun b _ hb => mx_cell_uI hb) ?_ z oq hD.2.2.2.2.1 hD.2.2.2.2.2)
    rw [mx_cell_i hl (by simp)]
    show H1[mx_ad E a]? = some (vp_cell _ _)
    rw [e, vp_cell_i, arrV_store]
    refine congrArg some (congrArg (arrV _ _) (funext fun j => ?_))
    show updV _ _ _ j = Value.int (mx_up h.2.1 a _ (vp_nar .boolean x) a j)
    rw [mx_up_eq]
    dsimp only [updV]
    split <;> rfl) hk
theorem mx_lastore {a : mx_A} {i : Int32} {x : Int64} (hd : decode (mx_by mid) pc = .ok (.lastore, 1)) (hl : (mx_lo a).1 = 101) (hin : vp_in i (mx_lo a).2) (hk : mx_T E fin d bc bs mid (pc + 1) lv st (mx_uL h a i.toNatClampNeg x) Q) : mx_T E fin d bc bs mid pc lv (.inl (.long x) :: .inl (.int i) :: .inr a :: st) h Q :=
  mx_write (h' := mx_uL h a i.toNatClampNeg x) (u := [.inl (.long x), .inl (.int i), .inr a]) (a := a) rfl (fun _ _ _ _ _ _ _ _ _ H _ _ _ _ _ hS hD hw k => by
    have hwa : mx_wfa h.1 a := hw (.inr a) (by simp)
    have hc0 := hD.1 (mx_pos a) _ (mx_W_get hwa)
    rw [mx_cell_l hl] at hc0
    have hc : H[mx_ad E a]? = some (arrV (mx_aC E 1) (mx_lo a).2 (fun j => Value.long (h.2.2.1 a j))) := hc0
    refine W.last hS.1 hS.2.1 hc ((hS.2.2.2.2.2.2.2.2.1.1.2 1 _ rfl).1 _ _) (fun q => by cases q) (by rw [arrV_size]; exact hin) rfl rfl hd fun H1 e z oq => ?_
    refine k H1 _ (mx_D_set (a := a) hD rfl hwa (fun b _ hb => mx_cell_uL hb) ?_ z oq hD.2.2.2.2.1 hD.2.2.2.2.2)
    rw [mx_cell_l hl]
    show H1[mx_ad E a]? = some (vp_cell _ _)
    rw [e, vp_cell_l, arrV_store]
    refine congrArg some (congrArg (arrV _ _) (funext fun j => ?_))
    show updV _ _ _ j = Value.long (mx_up h.2.2.1 a _ x a j)
    rw [mx_up_eq]
    dsimp only [updV]
    split <;> rfl) hk
theorem mx_uR_r {s : State} {H : Heap} {locs : List Loc} {a : mx_A} {i : Nat} {t : Option mx_A} (hD : mx_D E fin h s H locs) (ht : ∀ b, t = some b → mx_wfa h.1 b) : ∀ c k b, (mx_uR h a i t).2.2.2 c k = some b → mx_wfa h.1 b := by
  intro c k b hb
  by_cases e : c = a ∧ k = i
  · exact ht b (by rw [← hb]; exact (if_pos e).symm)
  · exact hD.2.2.2.2.1 c k b (by rw [← hb]; exact (if_neg e).symm)
theorem mx_uR_f {s : State} {H : Heap} {locs : List Loc} {a : mx_A} {i : Nat} {t : Option mx_A} (hD : mx_D E fin h s H locs) (hf : fin a i = none) : ∀ c k b, fin c k = some b → mx_wfa h.1 c → (mx_uR h a i t).2.2.2 c k = some b := by
  intro c k b hb hw
  have hne : ¬ (c = a ∧ k = i) := fun e => by rw [e.1, e.2, hf] at hb; cases hb
  rw [← hD.2.2.2.2.2 c k b hb hw]
  exact if_neg hne
/-- a shape into an array of shapes -/
theorem mx_aastore {a t : mx_A} {i : Int32} (hd : decode (mx_by mid) pc = .ok (.aastore, 1)) (hl : (mx_lo a).1 = 104) (ht : (mx_lo t).1 = 7) (hf : fin a i.toNatClampNeg = none) (hin : vp_in i (mx_lo a).2) (hk : mx_T E fin d bc bs mid (pc + 1) lv st (mx_uR h a i.toNatClampNeg (some t)) Q) : mx_T E fin d bc bs mid pc lv (.inr t :: .inl (.int i) :: .inr a :: st) h Q :=
  mx_write (h' := mx_uR h a i.toNatClampNeg (some t)) (u := [.inr t, .inl (.int i), .inr a]) (a := a) rfl (fun _ _ _ _ _ _ _ _ _ H _ _ _ _ _ hS hD hw k => by
    have hwa : mx_wfa h.1 a := hw (.inr a) (by simp)
    have hwt : mx_wfa h.1 t := hw (.inr t) (by simp)
    have hlt : i.toNatClampNeg < (mx_lo a).2 := Nat.not_le.mp fun q => hin (Or.inr q)
    have hc0 := hD.1 (mx_pos a) _ (mx_W_get hwa)
    rw [mx_cell_q hl (by simp)] at hc0
    have hc : H[mx_ad E a]? = some (arrV (mx_aC E 4) (mx_lo a).2 (fun j => va_rf ((h.2.2.2 a j).map (mx_ad E)))) := hc0
    have hv0 := hD.1 (mx_pos t) _ (mx_W_get hwt)
    rw [mx_cell_o ht (by decide)] at hv0
    obtain ⟨r, r1, cv, r2, r3, r4, -⟩ := hv0
    obtain rfl : (RX7, TX7, 13) = r := Option.some.inj r1
    obtain ⟨-, hfc, kv, hkv, hkd⟩ := hS.2.2.2.2.2.2.2.2.1.1.1 7 _ rfl
    obtain ⟨kA, comp, g1, g2, g3, g4⟩ := (hS.2.2.2.2.2.2.2.2.1.1.2 4 _ rfl).2
    have hcc : comp = (mx_G E).1 7 := Option.some.inj (g3.symm.trans hfc)
    subst hcc
    refine W.aast (cv := cv) (k := kA) (kv := kv) (kcomp := kv) hS.1 hS.2.1 hc (fun q z => by cases z) (fun q => by cases q) g1 g2 rfl hkv ⟨fun z => hin (Or.inl z), by rw [arrV_size]; exact hlt⟩ r2 (fun q z => by rw [r4] at z; cases z) (by rw [r3]; exact hkv) (by rw [r3]; exact va_assign ⟨hfc, kv, hkv, hkd⟩) rfl rfl hd fun H1 e z oq => ?_
    refine k H1 _ (mx_D_set (a := a) hD rfl hwa (fun b _ hb => mx_cell_uR hb) ?_ z oq (mx_uR_r hD (fun b e => by cases e; exact hwt)) (mx_uR_f hD hf))
    rw [mx_cell_q hl (by simp)]
    show H1[mx_ad E a]? = some (vp_cell _ _)
    rw [e, vp_cell_q, arrV_store]
    refine congrArg some (congrArg (arrV _ _) (funext fun j => ?_))
    show updV _ _ _ j = va_rf ((mx_up h.2.2.2 a _ (some t) a j).map (mx_ad E))
    rw [mx_up_eq]
    dsimp only [updV]
    split <;> rfl) hk
/-- null into an array of shapes -/
theorem mx_aastoreN {a : mx_A} {i : Int32} (hd : decode (mx_by mid) pc = .ok (.aastore, 1)) (hl : (mx_lo a).1 = 104) (hf : fin a i.toNatClampNeg = none) (hin : vp_in i (mx_lo a).2) (hk : mx_T E fin d bc bs mid (pc + 1) lv st (mx_uR h a i.toNatClampNeg none) Q) : mx_T E fin d bc bs mid pc lv (.inl .null :: .inl (.int i) :: .inr a :: st) h Q :=
  mx_write (h' := mx_uR h a i.toNatClampNeg none) (u := [.inl .null, .inl (.int i), .inr a]) (a := a) rfl (fun _ _ _ _ _ _ _ _ _ H _ _ _ _ _ hS hD hw k => by
    have hwa : mx_wfa h.1 a := hw (.inr a) (by simp)
    have hc0 := hD.1 (mx_pos a) _ (mx_W_get hwa)
    rw [mx_cell_q hl (by simp)] at hc0
    have hc : H[mx_ad E a]? = some (arrV (mx_aC E 4) (mx_lo a).2 (fun j => va_rf ((h.2.2.2 a j).map (mx_ad E)))) := hc0
    refine va_WaastN (C := RX7) hS.1 hS.2.1 hc ((hS.2.2.2.2.2.2.2.2.1.1.2 4 _ rfl).1 _ _) (fun q => by cases q) (by rw [arrV_size]; exact hin) rfl rfl hd fun H1 e z oq => ?_
    refine k H1 _ (mx_D_set (a := a) hD rfl hwa (fun b _ hb => mx_cell_uR hb) ?_ z oq (mx_uR_r hD (fun b e => by cases e)) (mx_uR_f hD hf))
    rw [mx_cell_q hl (by simp)]
    show H1[mx_ad E a]? = some (vp_cell _ _)
    rw [e, vp_cell_q, arrV_store]
    refine congrArg some (congrArg (arrV _ _) (funext fun j => ?_))
    show updV _ _ _ j = va_rf ((mx_up h.2.2.2 a _ none a j).map (mx_ad E))
    rw [mx_up_eq]
    dsimp only [updV]
    split <;> rfl) hk
end MXH
/-! the classes' rows -/
def mx_cr (ci : Nat) : vw_C := vwCl.getD ci (RX0, TX0, 11)
def mx_ty (ci : Nat) : Nat → FieldType := [tyX0, tyX1, tyX2, tyX3, tyX4, tyX5, tyX6, tyX7, tyX8, tyX9, tyX10, tyX11, tyX12].getD ci tyX0
/-- what is known of class ci -/
def mx_CK (ci : Nat) : Prop := vwCl[ci]? = some (mx_cr ci) ∧ (∀ w ∈ u_ws (mx_cr ci).1 (mx_cr ci).2.1 (mx_cr ci).2.2, w ∈ mx_ws) ∧ (∀ k, k < (mx_cr ci).2.2 → parseFieldDescriptor ((mx_cr ci).2.1 k).2.2.1 = some (mx_ty ci k)) ∧
  (∀ a, a < (mx_cr ci).2.2 → ∀ b, b < (mx_cr ci).2.2 → a ≠ b → ((mx_cr ci).2.1 a).2.1 ≠ ((mx_cr ci).2.1 b).2.1)
theorem mx_in_ws {ws : List Cond} (h : ∀ w ∈ ws, w ∈ lw_tbl) (hg : ws.all goodWord = true) : ∀ w ∈ ws, w ∈ mx_ws := fun w hw => List.mem_filter.mpr ⟨h w hw, List.all_eq_true.mp hg w hw⟩
theorem mx_ck0 : mx_CK 0 := ⟨rfl, mx_in_ws inX0 (by decide +kernel), tyX0_ok, nmX0⟩
theorem mx_ck1 : mx_CK 1 := ⟨rfl, mx_in_ws inX1 (by decide +kernel), tyX1_ok, nmX1⟩
theorem mx_ck2 : mx_CK 2 := ⟨rfl, mx_in_ws inX2 (by decide +kernel), tyX2_ok, nmX2⟩
theorem mx_ck3 : mx_CK 3 := ⟨rfl, mx_in_ws inX3 (by decide +kernel), tyX3_ok, nmX3⟩
theorem mx_ck4 : mx_CK 4 := ⟨rfl, mx_in_ws inX4 (by decide +kernel), tyX4_ok, nmX4⟩
theorem mx_ck5 : mx_CK 5 := ⟨rfl, mx_in_ws inX5 (by decide +kernel), tyX5_ok, nmX5⟩
theorem mx_ck6 : mx_CK 6 := ⟨rfl, mx_in_ws inX6 (by decide +kernel), tyX6_ok, nmX6⟩
theorem mx_ck7 : mx_CK 7 := ⟨rfl, mx_in_ws inX7 (by decide +kernel), tyX7_ok, nmX7⟩
theorem mx_ck8 : mx_CK 8 := ⟨rfl, mx_in_ws inX8 (by decide +kernel), tyX8_ok, nmX8⟩
theorem mx_ck9 : mx_CK 9 := ⟨rfl, mx_in_ws inX9 (by decide +kernel), tyX9_ok, nmX9⟩
theorem mx_ck10 : mx_CK 10 := ⟨rfl, mx_in_ws inX10 (by decide +kernel), tyX10_ok, nmX10⟩
theorem mx_ck11 : mx_CK 11 := ⟨rfl, mx_in_ws inX11 (by decide +kernel), tyX11_ok, nmX11⟩
theorem mx_ck12 : mx_CK 12 := ⟨rfl, mx_in_ws inX12 (by decide +kernel), tyX12_ok, nmX12⟩
theorem mx_ck {ci : Nat} (h : ci < 13) : mx_CK ci := by
  rcases (show ci = 0 ∨ ci = 1 ∨ ci = 2 ∨ ci = 3 ∨ ci = 4 ∨ ci = 5 ∨ ci = 6 ∨ ci = 7 ∨ ci = 8 ∨ ci = 9 ∨ ci = 10 ∨ ci = 11 ∨ ci = 12 by omega) with rfl | rfl | rfl | rfl | rfl | rfl | rfl | rfl | rfl | rfl | rfl | rfl | rfl
  · exact mx_ck0
  · exact mx_ck1
  · exact mx_ck2
  · exact mx_ck3
  · exact mx_ck4
  · exact mx_ck5
  · exact mx_ck6
  · exact mx_ck7
  · exact mx_ck8
  · exact mx_ck9
  · exact mx_ck10
  · exact mx_ck11
  · exact mx_ck12
abbrev mx_fT (ci k : Nat) : String × String × String × Bool := (mx_cr ci).2.1 k
/-- a field's value as the mini machine reads it -/
def mx_fw (h : mx_H) (a : mx_A) (ci k : Nat) : mx_V := if mx_ff ci k = 2 then mx_ov (h.2.2.2 a k) else .inl (.int (h.2.1 a k))
/-- the field's kind, by its type -/
def mx_fok (ci k : Nat) : Prop := (mx_ff ci k = 0 ∧ mx_ty ci k = .int) ∨ (mx_ff ci k = 1 ∧ mx_ty ci k = .boolean) ∨ (mx_ff ci k = 2 ∧ (∃ n, mx_ty ci k = .object n) ∨ (mx_ff ci k = 2 ∧ ∃ t, mx_ty ci k = .array t))
section MXF
variable {E : mx_Ev} {fin : mx_A → Nat → Option mx_A} {d bc bs mid pc : Nat} {lv : mx_Lv} {st : List mx_V} {h : mx_H} {Q : Option mx_V → mx_H → Prop}
theorem mx_getfield {a : mx_A} {ci k idx : Nat} (hd : decode (mx_by mid) pc = .ok (.getfield idx, 3)) (hci : ci < 13) (hl : mx_lo a = (ci, (mx_cr ci).2.2)) (hkN : k < (mx_cr ci).2.2) (hlk : Cond.fieldLink (mx_ow mid) idx (mx_fT ci k).1 (mx_fT ci k).2.1 (mx_fT ci k).2.2.1 ∈ mx_ws)
    (hk : mx_T E fin d bc bs mid (pc + 3) lv (mx_fw h a ci k :: st) h Q) : mx_T E fin d bc bs mid pc lv (.inr a :: st) h Q := by
  obtain ⟨c1, c2, c3, c4⟩ := mx_ck hci
  refine mx_read (u := [.inr a]) (fun s H locs hD => ?_) (fun _ _ _ _ _ _ _ _ _ _ _ _ _ _ _ hS hD hw k9 => ?_) hk
  · unfold mx_fw
    split
    · exact mx_ov_wf hD
    · exact True.intro
  · have hwa : mx_wfa h.1 a := hw (.inr a) (by simp)
    have e0 := mx_W_get (E := E) hwa
    rw [mx_cell_o (ci := ci) (by rw [hl]) (by omega)] at e0
    refine va_get hS.1 hS.2.1 hS.2.2.2.2.2.2.1 c2 hS.2.2.2.2.2.1 hS.2.2.2.2.2.2.2.2.1.1 hD.1 (mx_pos a) e0 c1 k hkN (hS.2.2.2.2.2.2.1 _ hlk) (fun x hx => hx) (v := mx_fv E h a ci k) ?_ hd ?_
    · rw [hl, List.getElem?_map, List.getElem?_range hkN]
      rfl
    · have e : mx_fv E h a ci k = mx_sh E (mx_fw h a ci k) := by
        unfold mx_fv mx_fw
        split
        · rw [mx_ov_sh]
        · rfl
      rw [e]
      exact k9
/-- what a store of v into field k of class ci does to the mini heap -/
def mx_pf (h : mx_H) (a : mx_A) (k : Nat) : mx_V → mx_H
  | .inl (.int x) => mx_uI h a k x
  | .inr t => mx_uR h a k (some t)
  | _ => mx_uR h a k none
/-- v is of the field's kind -/
def mx_pk (ci k : Nat) : mx_V → Prop
  | .inl (.int x) => mx_ty ci k = .int ∨ (mx_ty ci k = .boolean ∧ (x = 0 ∨ x = 1))
  | .inr _ => (∃ n, mx_ty ci k = .object n) ∨ ∃ t, mx_ty ci k = .array t
  | .inl .null => (∃ n, mx_ty ci k = .object n) ∨ ∃ t, mx_ty ci k = .array t
  | _ => False
theorem mx_pk_n {E : mx_Ev} {ci k : Nat} {v : mx_V} (hv : mx_pk ci k v) : narrow (mx_ty ci k) (mx_sh E v) = mx_sh E v ∧ fits (mx_ty ci k) (mx_sh E v) = true := by
  rcases v with v | a
  · cases v with
    | int x =>
      rcases hv with hv | ⟨hv, hn⟩
      · rw [hv]; exact ⟨rfl, rfl⟩
      · rw [hv]
        rcases hn with rfl | rfl <;> exact ⟨rfl, rfl⟩
    | null => rcases hv with ⟨n, hv⟩ | ⟨n, hv⟩ <;> rw [hv] <;> exact ⟨rfl, rfl⟩
    | _ => exact hv.elim
  · rcases hv with ⟨n, hv⟩ | ⟨n, hv⟩ <;> rw [hv] <;> exact ⟨rfl, rfl⟩
end MXF
end
section
/-! ===== fields stored, statics read, cells made ===== -/
section MXP
variable {E : mx_Ev} {fin : mx_A → Nat → Option mx_A} {d bc bs mid pc : Nat} {lv : mx_Lv} {st : List mx_V} {h : mx_H} {Q : Option mx_V → mx_H → Prop}
theorem mx_pf_n (h : mx_H) (a : mx_A) (k : Nat) (v : mx_V) : (mx_pf h a k v).1 = h.1 := by
  rcases v with v | t
  · cases v <;> rfl
  · rfl
theorem mx_pf_ne {E : mx_Ev} {h : mx_H} {a b : mx_A} {k : Nat} {v : mx_V} (hb : b ≠ a) : mx_cell E (mx_pf h a k v) b = mx_cell E h b := by
  rcases v with v | t
  · cases v <;> first | exact mx_cell_uI hb | exact mx_cell_uR hb
  · exact mx_cell_uR hb
/-- the fields behind a store -/
theorem mx_pf_fv {E : mx_Ev} {h : mx_H} {a : mx_A} {ci k : Nat} {v : mx_V} (hff : mx_fok ci k) (hv : mx_pk ci k v) (j : Nat) : mx_fv E (mx_pf h a k v) a ci j = if j = k then mx_sh E v else mx_fv E h a ci j := by
  by_cases e : j = k
  · subst e
    rw [if_pos rfl]
    rcases v with v | t
    · cases v with
      | int x =>
        have h2 : mx_ff ci j ≠ 2 := by
          intro h2
          rcases hff with ⟨q, -⟩ | ⟨q, -⟩ | ⟨-, n, q⟩ | ⟨-, n, q⟩
          · rw [q] at h2; cases h2
          · rw [q] at h2; cases h2
          · rcases hv with hv | ⟨hv, -⟩ <;> rw [q] at hv <;> cases hv
          · rcases hv with hv | ⟨hv, -⟩ <;> rw [q] at hv <;> cases hv
        simp only [mx_fv, if_neg h2, mx_pf, mx_uI, mx_up_eq, mx_sh, if_true]
      | null =>
        have h2 : mx_ff ci j = 2 := by
          rcases hff with ⟨-, q⟩ | ⟨-, q⟩ | ⟨q, -⟩ | ⟨q, -⟩
          · rcases hv with ⟨n, hv⟩ | ⟨n, hv⟩ <;> rw [q] at hv <;> cases hv
          · rcases hv with ⟨n, hv⟩ | ⟨n, hv⟩ <;> rw [q] at hv <;> cases hv
          · exact q
          · exact q
        simp only [mx_fv, if_pos h2, mx_pf, mx_uR, mx_up_eq, mx_sh, if_true, Option.map_none, va_rf]
      | _ => exact hv.elim
    · have h2 : mx_ff ci j = 2 := by
        rcases hff with ⟨-, q⟩ | ⟨-, q⟩ | ⟨q, -⟩ | ⟨q, -⟩
        · rcases hv with ⟨n, hv⟩ | ⟨n, hv⟩ <;> rw [q] at hv <;> cases hv
        · rcases hv with ⟨n, hv⟩ | ⟨n, hv⟩ <;> rw [q] at hv <;> cases hv
        · exact q
        · exact q
      simp only [mx_fv, if_pos h2, mx_pf, mx_uR, mx_up_eq, mx_sh, if_true, Option.map_some, va_rf]
  · rw [if_neg e]
    rcases v with v | t
    · cases v <;> simp only [mx_fv, mx_pf, mx_uI, mx_uR, mx_up_eq, if_neg e]
    · simp only [mx_fv, mx_pf, mx_uR, mx_up_eq, if_neg e]
theorem mx_pf_r {s : State} {H : Heap} {locs : List Loc} {a : mx_A} {k : Nat} {v : mx_V} (hD : mx_D E fin h s H locs) (hv : mx_wf h.1 v) : ∀ c j b, (mx_pf h a k v).2.2.2 c j = some b → mx_wfa h.1 b := by
  rcases v with v | t
  · cases v <;> first | exact hD.2.2.2.2.1 | exact mx_uR_r hD (fun b e => by cases e)
  · exact mx_uR_r hD (fun b e => by cases e; exact hv)
theorem mx_pf_f {s : State} {H : Heap} {locs : List Loc} {a : mx_A} {k : Nat} {v : mx_V} (hD : mx_D E fin h s H locs) (hf : fin a k = none) : ∀ c j b, fin c j = some b → mx_wfa h.1 c → (mx_pf h a k v).2.2.2 c j = some b := by
  rcases v with v | t
  · cases v <;> first | exact hD.2.2.2.2.2 | exact mx_uR_f hD hf
  · exact mx_uR_f hD hf
theorem mx_putfield {a : mx_A} {ci k idx : Nat} {v : mx_V} (hd : decode (mx_by mid) pc = .ok (.putfield idx, 3)) (hci : ci < 13) (hl : mx_lo a = (ci, (mx_cr ci).2.2)) (hkN : k < (mx_cr ci).2.2) (hlk : Cond.fieldLink (mx_ow mid) idx (mx_fT ci k).1 (mx_fT ci k).2.1 (mx_fT ci k).2.2.1 ∈ mx_ws)
    (hfi : (mx_fT ci k).2.2.2 = false ∨ ((mx_fT ci k).2.2.2 = true ∧ (mx_y mid).name = "<init>" ∧ (mx_fT ci k).1 = mx_ow mid)) (hff : mx_fok ci k) (hv : mx_pk ci k v) (hf : fin a k = none)
    (hk : mx_T E fin d bc bs mid (pc + 3) lv st (mx_pf h a k v) Q) : mx_T E fin d bc bs mid pc lv (v :: .inr a :: st) h Q := by
  obtain ⟨c1, c2, c3, c4⟩ := mx_ck hci
  obtain ⟨hn, hfit⟩ := mx_pk_n (E := E) hv
  refine mx_write (h' := mx_pf h a k v) (u := [v, .inr a]) (a := a) (mx_pf_n h a k v) (fun p e R s m args below meth c H locs cells slots Qw ls hS hD hw k9 => ?_) hk
  have hwa : mx_wfa h.1 a := hw (.inr a) (by simp)
  have hwv : mx_wf h.1 v := hw v (by simp)
  have hts := hS.2.2.2.2.2.2.1
  have hown := hS.2.2.2.2.2.1
  have hK := hS.2.2.2.2.2.2.2.2.1.1
  have hap := va_apart (own := mx_ow mid) hts c2 (mx_ty ci) c3 c4 hK c1
  have hc0 := hD.1 (mx_pos a) _ (mx_W_get hwa)
  rw [mx_cell_o (ci := ci) (by rw [hl]) (by omega), hl] at hc0
  obtain ⟨r, h1, cell, q1, q2, q3, q4⟩ := hc0
  have hr : r = mx_cr ci := Option.some.inj (h1.symm.trans c1)
  subst hr
  obtain ⟨hSl, hfc, kC, hkC, hkind⟩ := hK.1 ci _ c1
  obtain ⟨cf, kf, fi, f, hi, hsl⟩ := hSl k hkN
  have hlay := hts _ (c2 _ (u_in_lay hkN))
  unfold u_lay at hlay
  have hst := (u_facts hfc hkC (u_lays hts c2 hkN) hi).1
  have hend : ∀ H1 : Heap, H1[mx_ad E a]? = some (cell.setSlot f.slot (mx_sh E v)) → H1.size = H.size → (∀ q, q ≠ mx_ad E a → H1[q]? = H[q]?) → mx_D E fin (mx_pf h a k v) s H1 (locs ++ [⟨mx_ad E a, f.slot⟩]) := by
    intro H1 e1 e2 e3
    refine mx_D_set (a := a) hD (mx_pf_n h a k v) hwa (fun b _ hb => mx_pf_ne hb) ?_ e2 e3 (mx_pf_r hD hwv) (mx_pf_f hD hf)
    rw [mx_cell_o (ci := ci) (by rw [hl]) (by omega), hl]
    refine ⟨_, c1, t_OB.to (V := updV (vp_V ((List.range (mx_cr ci).2.2).map (mx_fv E h a ci))) k (mx_sh E v)) ⟨_, e1, q2, q3, ?_⟩ (fun j hj => ?_)⟩
    · rw [hsl]
      exact t_set q4 hap hkN _
    · unfold updV vp_V
      rw [List.getD_eq_getElem?_getD, List.getElem?_map, List.getElem?_range hj, List.getD_eq_getElem?_getD, List.getElem?_map, List.getElem?_range hj]
      simp only [Option.map_some, Option.getD_some]
      rw [mx_pf_fv hff hv]
  rcases hfi with hfi | ⟨hfi, hin2, hdecl⟩
  · rw [if_neg (by rw [hfi]; decide)] at hlay
    have h6 := u_store hfc hkC hkind hlay hi (c3 k hkN) hn hfit
    exact W.putK hS.1 hS.2.1 (f := f) ⟨hown, hts _ hlk, ⟨_, _, _, hi⟩, hst⟩ (by rw [q2]; exact h6) q1 q3 (by rw [hsl]; exact k2_hasslot (q4 k hkN)) rfl rfl hd fun H1 e1 e2 e3 => k9 H1 _ (hend H1 e1 e2 e3)
  · rw [if_pos hfi] at hlay
    have hcf : m.cls = cf := by
      obtain ⟨_, _, c', _, _, _, -, -, hf', -, -, -, hown2, -⟩ := Cond.laysFinal_spec hlay
      have e1 : c' = cf := by have := hi.symm.trans hf'; simp at this; exact this.1.symm
      rw [hdecl] at hown2
      rw [← e1]; exact Option.some.inj (hown.symm.trans hown2)
    have h6 := u_fits hfc hkC hkind (Or.inr hlay) hi (c3 k hkN) hn hfit
    exact W.putFinK hS.1 hS.2.1 hown (hts _ hlk) hi hst hcf (hS.2.2.2.2.2.2.2.1 hin2) (by rw [q2]; exact h6) q1 q3 (by rw [hsl]; exact k2_hasslot (q4 k hkN)) rfl rfl hd fun H1 e1 e2 e3 => k9 H1 _ (hend H1 e1 e2 e3)
theorem mx_gets0 {idx : Nat} (hd : decode (mx_by mid) pc = .ok (.getstatic idx, 3)) (hlk : Cond.fieldLink (mx_ow mid) idx RX4 "KIND_ABOVE" "[I" ∈ mx_ws) (hk : mx_T E fin d bc bs mid (pc + 3) lv (.inl (.float 0) :: st) h Q) : mx_T E fin d bc bs mid pc lv st h Q :=
  mx_push (fun _ => by exact True.intro) (fun _ _ _ _ _ _ _ _ _ _ _ _ _ _ _ hS hD _ k => va_gets hS.1 hS.2.1 hS.2.2.2.2.2.2.2.2.1.2.2.2.2.1 hD.2.2.1 hS.2.2.2.2.2.1 (hS.2.2.2.2.2.2.1 _ hlk) (fun x hx => hx) hd k) hk
theorem mx_gets1 {idx : Nat} (hd : decode (mx_by mid) pc = .ok (.getstatic idx, 3)) (hlk : Cond.fieldLink (mx_ow mid) idx RX4 "ACTS" "[I" ∈ mx_ws) (hk : mx_T E fin d bc bs mid (pc + 3) lv (.inl (.float 1) :: st) h Q) : mx_T E fin d bc bs mid pc lv st h Q :=
  mx_push (fun _ => by exact True.intro) (fun _ _ _ _ _ _ _ _ _ _ _ _ _ _ _ hS hD _ k => va_gets hS.1 hS.2.1 hS.2.2.2.2.2.2.2.2.1.2.2.2.2.2.1 hD.2.2.1 hS.2.2.2.2.2.1 (hS.2.2.2.2.2.2.1 _ hlk) (fun x hx => hx) hd k) hk
end MXP
end
section
/-! ===== calls: a method's judgement as a contract, and a call by it ===== -/
theorem mx_nest_m {w : Cond} (h : w ∈ mx_nest) : ∃ a i x o, w = .methodLinkNest a i x o := by
  have h2 := (List.mem_filter.mp h).2
  cases w with
  | methodLinkNest a i x o => exact ⟨a, i, x, o, rfl⟩
  | _ => simp at h2
theorem mx_AO_moved {u U : State} (hvm : u.vm.Alike U.vm) (h : (Cond.arrayOver (.array .long)).before #[] u = true) : (Cond.arrayOver (.array .long)).before #[] U = true := by
  have h2 := Cond.arrayOver_setVmC (args := #[]) (s := u) (vm' := U.vm) hvm (.array .long)
  rw [h] at h2
  exact h2
theorem mx_Nv.moved {E : mx_Ev} {u U : State} {H H1 : Heap} (h : mx_Nv E u H) (hvm : u.vm.Alike U.vm) (hw : ∀ a i x o, va_Nw (.methodLinkNest a i x o) u → va_Nw (.methodLinkNest a i x o) U) (hz : H.size ≤ H1.size) (hq : ∀ q : Nat, q < H.size → q < mx_B E → H1[q]? = H[q]?) : mx_Nv E U H1 := by
  obtain ⟨k, n, ao, aa, z0, z1, x0, x1, x2, l0, l1, l2, hn, hB⟩ := h
  have hk : ∀ a : Nat, a < H.size → ¬ mx_ra E a → H1[a]? = H[a]? := fun a h1 h2 => hq a h1 (Nat.not_le.mp h2)
  have hl : ∀ a : Nat, a < mx_B E → H1[a]? = H[a]? := fun a ha => hq a (Nat.lt_of_lt_of_le ha hB) ha
  refine ⟨k.moved hvm, fun w hm => ?_, ao.moved hvm, mx_AO_moved hvm aa, (z0.moved hvm).kept hk, (z1.moved hvm).kept hk, (x0.moved hvm).kept (hl _ l0), (x1.moved hvm).kept (hl _ l1), (x2.moved hvm).kept (hl _ l2), l0, l1, l2, hn, Nat.le_trans hB hz⟩
  obtain ⟨a, i, x, o, rfl⟩ := mx_nest_m hm
  exact hw a i x o (n _ hm)
/-- the heap's part of mx_D -/
def mx_HF (E : mx_Ev) (fin : mx_A → Nat → Option mx_A) (h : mx_H) (H : Heap) : Prop :=
  va_P (mx_G E) vwCl (mx_W E h) H ∧ va_D (mx_ra E) (mx_W E h) ∧ H.size = mx_B E + h.1 ∧ (∀ a k b, h.2.2.2 a k = some b → mx_wfa h.1 b) ∧ (∀ a k b, fin a k = some b → mx_wfa h.1 a → h.2.2.2 a k = some b)
def mx_Qc (E : mx_Ev) (fin : mx_A → Nat → Option mx_A) (h : mx_H) (Q : Option mx_V → mx_H → Prop) : Array Value → State → Outcome → State → Prop := fun _ st oc t =>
  ∃ (v : Option mx_V) (h' : mx_H), oc = .returned (v.map (mx_sh E)) ∧ Q v h' ∧ h.1 ≤ h'.1 ∧ (∀ x, v = some x → mx_wf h'.1 x) ∧ mx_HF E fin h' t.heap ∧ va_F (mx_ra E) st t
def mx_Pc (E : mx_Ev) (fin : mx_A → Nat → Option mx_A) (h : mx_H) (av : List mx_V) : Array Value → State → Prop := fun a U => a = (av.map (mx_sh E)).toArray ∧ mx_Nv E U U.heap ∧ mx_HF E fin h U.heap
abbrev mx_rm (d mid : Nat) : Room := { frames := d, cells := (mx_bu mid).1, slots := (mx_bu mid).2, locals := 40 * d }
abbrev mx_wm (mid : Nat) : List Cond := Cond.code (mx_y mid) (mx_by mid) (mx_nL mid) (mx_rt mid) :: mx_ws
theorem mx_ent_map (E : mx_Ev) : ∀ (i : Nat) (av : List mx_V), (mx_ent i av).map (mx_shl E) = lv_args i (av.map (mx_sh E))
  | _, [] => rfl
  | i, v :: r => by
    show (i, mx_sh E v) :: (mx_ent (i + mx_cat v) r).map (mx_shl E) = (i, mx_sh E v) :: lv_args _ _
    rw [mx_ent_map E _ r]
    congr 2
    rw [mx_cat_sh]
    rcases v with v | a
    · cases v <;> rfl
    · rfl
theorem mx_ent_wf {n : Nat} : ∀ {i : Nat} {av : List mx_V}, (∀ v ∈ av, mx_wf n v) → ∀ q ∈ mx_ent i av, mx_wf n q.2
  | _, [], _ => fun q hq => by cases hq
  | i, v :: r, h => fun q hq => by
    rcases List.mem_cons.mp hq with rfl | hq
    · exact h v List.mem_cons_self
    · exact mx_ent_wf (fun v hv => h v (List.mem_cons_of_mem _ hv)) q hq
theorem mx_sl_len (E : mx_Ev) : ∀ av : List mx_V, (lg_sl (av.map (mx_sh E))).length = (av.map mx_cat).sum
  | [] => rfl
  | v :: r => by
    have h : lg_sl ((v :: r).map (mx_sh E)) = (if (mx_sh E v).category = 2 then [.val (mx_sh E v), .second] else [.val (mx_sh E v)]) ++ lg_sl (r.map (mx_sh E)) := rfl
    rw [h, List.length_append, mx_sl_len E r, List.map_cons, List.sum_cons, mx_cat_sh]
    congr 1
    rcases v with v | a
    · cases v <;> rfl
    · rfl
set_option maxHeartbeats 4000000 in
theorem mx_met {E : mx_Ev} {fin : mx_A → Nat → Option mx_A} {d mid : Nat} {av : List mx_V} {h : mx_H} {Q : Option mx_V → mx_H → Prop} (hy : plainName (mx_y mid).cls = true) (hcn : (mx_y mid).cls = mx_ow mid) (hlen : (av.map mx_cat).sum ≤ mx_nL mid) (hwf : ∀ v ∈ av, mx_wf h.1 v) (hC : mx_C E fin d mid av h Q) :
    Met E.1 (mx_y mid) (mx_wm mid) (mx_rm d mid) (mx_Pc E fin h av) (mx_Qc E fin h Q) (mx_bu mid).1 (mx_bu mid).2 (mx_ra E) := by
  refine Met.ofW (cc := mx_by mid) (maxL := mx_nL mid) (ret := mx_rt mid) hy rfl ?_
  intro p e s m args below meth c s₁ B hml hv
  obtain ⟨rfl, hN, hP, hD, hz, hr, hf⟩ := hv
  have hts := atoms_spec (ws := mx_wm mid) B.pre
  have hS : mx_S E d mid p (headSpec (mx_wm mid) (mx_rm d mid)).room s m ((av.map (mx_sh E)).toArray) meth c :=
    ⟨B.exec, B.bytes, hml, B.returns, B.notSynchronized, by rw [← hcn]; exact findClass_of_methodNamed B.named, fun w hw => hts w (List.mem_cons_of_mem _ hw), fun hi => (name_of_methodNamed B.named B.method).1.trans hi, hN, Nat.le_refl _, Nat.le_refl _⟩
  have hl := lv_entry (av.map (mx_sh E)) (n := mx_nL mid) (by rw [mx_sl_len]; exact hlen)
  rw [lg_entry_eq]
  generalize (lg_sl (av.map (mx_sh E)) ++ List.replicate (mx_nL mid - (lg_sl (av.map (mx_sh E))).length) Slot.unset).toArray = ls at hl ⊢
  rw [← mx_ent_map] at hl
  refine hC p e _ s m _ below meth c s.heap [] 0 0 _ ls hS ⟨hP, hD, va_S.rf, hz, hr, hf⟩ (Nat.le_of_eq (Nat.zero_add _)) (Nat.le_of_eq (Nat.zero_add _)) (mx_ent_wf hwf) (fun v hv => by cases hv) hl ?_
  intro v h' H' locs' cells' slots' pc' ls' ins hQ hD' hm hc' hs' hwv hd hrk
  refine W.widen (k := (mx_bu mid).1) (n := (mx_bu mid).2) (by omega) (by omega) ?_
  have hq : ∀ t : State, t.heap = H' → s.WarmedH t.vm → mx_Qc E fin h Q (av.map (mx_sh E)).toArray s (.returned (v.map (mx_sh E))) t := fun t ht _ =>
    ⟨v, h', rfl, hQ, hm, hwv, by rw [ht]; exact ⟨hD'.1, hD'.2.1, hD'.2.2.2.1, hD'.2.2.2.2.1, hD'.2.2.2.2.2⟩, hD'.2.2.1.F ht⟩
  have hlk := hS.2.2.2.2.1
  rcases hrk with ⟨rfl, rfl, hr1⟩ | ⟨x, rfl, rfl, hr1⟩ | ⟨x, rfl, rfl, hr1⟩ | ⟨rfl, hv, hr1⟩
  · exact W.vret hS.1 hS.2.1 (hS.2.2.2.1.trans hr1) hq hD'.2.2.1.2.2 hd
  · rcases hr1 with hr1 | ⟨hr1, hn⟩
    · exact W.iret hS.1 hS.2.1 (hS.2.2.2.1.trans hr1) hq hD'.2.2.1.2.2 hd
    · exact W.zret hS.1 hS.2.1 (hS.2.2.2.1.trans hr1) hn hq hD'.2.2.1.2.2 hd
  · exact W.lret hS.1 hS.2.1 (hS.2.2.2.1.trans hr1) hq hD'.2.2.1.2.2 hd
  · rcases hv with rfl | ⟨a, rfl⟩
    · exact W.aret hS.1 hS.2.1 (hS.2.2.2.1.trans hr1) (Or.inl ⟨_, rfl⟩) (Or.inl rfl) hq hD'.2.2.1.2.2 hd
    · exact W.aret hS.1 hS.2.1 (hS.2.2.2.1.trans hr1) (Or.inl ⟨_, rfl⟩) (Or.inr ⟨_, rfl⟩) hq hD'.2.2.1.2.2 hd
/-! a method's own words -/
def mx_MK (mid : Nat) : Prop := plainName (mx_y mid).cls = true ∧ (mx_y mid).cls = mx_ow mid ∧ Cond.code (mx_y mid) (mx_by mid) (mx_nL mid) (mx_rt mid) ∈ mx_ws ∧ Cond.initialized (mx_y mid).cls ∈ mx_ws ∧
  ((mx_y mid).cls ≠ "java/lang/invoke/MethodHandle" ∧ (mx_y mid).cls ≠ "java/lang/invoke/VarHandle") ∧ mx_nL mid ≤ 21
/-- a call's own words: by opcode (0 static, 1 virtual, 2 special), and as a nest mate's or not -/
def mx_LK (mid idx callee n kd : Nat) (nest : Bool) : Prop :=
  (parseMethodDescriptor (mx_y callee).desc).map (fun d => d.parameters.length) = some n ∧
  (if nest then ∃ host, Cond.methodLinkNest (mx_ow mid) idx (mx_y callee) host ∈ mx_nest else Cond.methodLink (mx_ow mid) idx (mx_y callee) ∈ mx_ws) ∧
  (if kd = 0 then Cond.static (mx_y callee) ∈ mx_ws else if kd = 1 then Cond.instanceMethod (mx_y callee) ∈ mx_ws ∧ Cond.selects (mx_y callee).cls (mx_y callee) (mx_y callee) ∈ mx_ws else Cond.instanceMethod (mx_y callee) ∈ mx_ws ∧ (mx_y callee).name = "<init>" ∧ mx_rt callee = none)
theorem mx_ws_warm {args : Array Value} {s : State} (h : ∀ w ∈ mx_ws, w.before args s = true) {w : Cond} (hw : w ∈ mx_ws) (a' : Array Value) (U : State) (hW : s.WarmedH U.vm) : w.before a' U = true :=
  word_at hW (good_of_word (List.mem_filter.mp hw).2) (h w hw)
theorem mx_FB (E : mx_Ev) (fin : mx_A → Nat → Option mx_A) (h : mx_H) (av : List mx_V) : FrameBlind (mx_Pc E fin h av) := fun a U g mk ⟨h1, h2, h3⟩ =>
  ⟨h1, h2.moved (U := U.calling g mk a) (Vm.Alike.refl U.vm) (fun _ _ _ _ hw => va_Nw.same rfl rfl hw) (Nat.le_refl _) (fun _ _ _ => rfl), h3⟩
theorem mx_PU {E : mx_Ev} {fin : mx_A → Nat → Option mx_A} {h : mx_H} {av : List mx_V} {s : State} {H : Heap} {locs : List Loc} (hN : mx_Nv E s s.heap) (hD : mx_D E fin h s H locs) (U : State) (hU : U.heap = H) (hW : s.WarmedH U.vm) : mx_Pc E fin h av (av.map (mx_sh E)).toArray U := by
  refine ⟨rfl, ?_, ?_⟩
  · rw [hU]
    exact hN.moved hW.alike (fun _ _ _ _ hw => hw.warmM hW) hD.2.2.1.1 (fun q h1 h2 => hD.2.2.1.2.1 q h1 (Nat.not_le.mpr h2))
  · rw [hU]
    exact ⟨hD.1, hD.2.1, hD.2.2.2.1, hD.2.2.2.2.1, hD.2.2.2.2.2⟩
section MXC
variable {E : mx_Ev} {fin : mx_A → Nat → Option mx_A} {d bc bs mid pc : Nat} {lv : mx_Lv} {st : List mx_V} {h : mx_H} {Q : Option mx_V → mx_H → Prop}
theorem mx_goes {p : Program} {e : Env} {R : Room} {s : State} {m : MethodId} {args : Array Value} {below : List Frame} {meth : Method} {c : Code} {H : Heap} {locs : List Loc} {cells slots : Nat} {Qw : State → Prop} {ls : Array Slot} {callee : Nat} {av : List mx_V} {st0 : List Value} {a : Array Value}
    (hr : va_Run p E.1 e R s m args below meth c H locs cells slots (mx_bu callee).1 (mx_bu callee).2 (F0 m pc ls st0) (st.map (mx_sh E)) (mx_Qc E fin h (fun v h' => mx_T E fin (d + 1) (bc - (mx_bu callee).1) (bs - (mx_bu callee).2) mid (pc + 3) lv (v.toList ++ st) h' Q) a) (mx_ra E))
    (hb1 : (mx_bu callee).1 ≤ bc) (hb2 : (mx_bu callee).2 ≤ bs) (hS : mx_S E (d + 1) mid p R s m args meth c) (hD : mx_D E fin h s H locs) (q1 : cells + bc ≤ R.cells) (q2 : slots + bs ≤ R.slots) (q3 : ∀ q ∈ lv, mx_wf h.1 q.2) (q4 : ∀ v ∈ st, mx_wf h.1 v) (q5 : lv_has ls (mx_nL mid) (lv.map (mx_shl E)))
    (q6 : ∀ (v : Option mx_V) (h' : mx_H) (H' : Heap) (locs' : List Loc) (cells' slots' pc' : Nat) (ls' : Array Slot) (ins : Instr), Q v h' → mx_D E fin h' s H' locs' → h.1 ≤ h'.1 → cells' ≤ cells + bc → slots' ≤ slots + bs →
      (∀ x, v = some x → mx_wf h'.1 x) → decode (mx_by mid) pc' = .ok (ins, 1) → mx_rk (mx_rt mid) ins v → W p E.1 e R s m args below meth c H' locs' cells' slots' Qw (F0 m pc' ls' (v.toList.map (mx_sh E)))) :
    W p E.1 e R s m args below meth c H locs cells slots Qw (F0 m pc ls st0) := by
  intro T hT X
  obtain ⟨v, st₀, t, T', L, h0, X', hL, e1, e2, ⟨v', h', hv, hQ, hm, hwv, hHF, hF⟩, stp⟩ := hr T hT X
  cases hv
  have hD' : mx_D E fin h' s t.heap (locs ++ L) := by
    refine ⟨hHF.1, hHF.2.1, ⟨?_, ?_, ?_⟩, hHF.2.2.1, hHF.2.2.2.1, hHF.2.2.2.2⟩
    · exact Nat.le_trans hD.2.2.1.1 (by rw [← h0]; exact hF.1)
    · intro q hq hA
      rw [hF.2 q (by rw [h0]; exact Nat.lt_of_lt_of_le hq hD.2.2.1.1) hA, h0]
      exact hD.2.2.1.2.1 q hq hA
    · intro x hx
      rcases List.mem_append.mp hx with hx | hx
      · exact hD.2.2.1.2.2 x hx
      · exact hL x hx
  have K := hQ p e R s m args below meth c t.heap (locs ++ L) (cells + (mx_bu callee).1) (slots + (mx_bu callee).2) Qw ls hS hD' (by omega) (by omega) (fun q hq => (q3 q hq).mono hm) (fun x hx => by
      rcases List.mem_append.mp hx with hx | hx
      · cases v' with
        | none => cases hx
        | some y => exact hwv x (by rw [show x = y by simpa using hx])
      · exact (q4 x hx).mono hm) q5
    (fun v h2 H' locs' cells' slots' pc' ls' ins a1 a2 a3 a4 a5 a6 a7 a8 => q6 v h2 H' locs' cells' slots' pc' ls' ins a1 a2 (Nat.le_trans hm a3) (by omega) (by omega) a6 a7 a8)
  obtain ⟨t2, b1, b2⟩ := K T' e1 X'
  refine ⟨t2, stp t2 ?_, b2⟩
  have e3 : (v'.map (mx_sh E)).toList ++ st.map (mx_sh E) = (v'.toList ++ st).map (mx_sh E) := by cases v' <;> rfl
  show Steps _ _ _ (T'.setTop (F0 m (pc + 3) ls ((v'.map (mx_sh E)).toList ++ st.map (mx_sh E)))) t2
  rw [e3]
  exact b1
theorem mx_room_sum {E : mx_Ev} : ∀ {st : List mx_V}, (st.map mx_cat).sum ≤ 8 → ((st.map (mx_sh E)).map fun v => v.category).sum ≤ 8 := by
  intro st h
  rw [List.map_map]
  have e : (fun v : Value => v.category) ∘ mx_sh E = mx_cat := funext fun v => mx_cat_sh E v
  rw [e]
  exact h
set_option maxHeartbeats 4000000 in
theorem mx_calls {idx callee n : Nat} {nest : Bool} {av : List mx_V} (hd : decode (mx_by mid) pc = .ok (.invokestatic idx, 3)) (hM : mx_MK callee) (hL : mx_LK mid idx callee n 0 nest) (hn : av.length = n) (hlen : (av.map mx_cat).sum ≤ mx_nL callee) (hst : (st.map mx_cat).sum ≤ 8) (hb1 : (mx_bu callee).1 ≤ bc) (hb2 : (mx_bu callee).2 ≤ bs)
    (hC : mx_C E fin d callee av h (fun v h' => mx_T E fin (d + 1) (bc - (mx_bu callee).1) (bs - (mx_bu callee).2) mid (pc + 3) lv (v.toList ++ st) h' Q)) : mx_T E fin (d + 1) bc bs mid pc lv (av.reverse ++ st) h Q := by
  intro p e R s m args below meth c H locs cells slots Qw ls hS hD q1 q2 q3 q4 q5 q6
  obtain ⟨m1, m2, m3, m4, m5, m6⟩ := hM
  obtain ⟨l1, l2, l3⟩ := hL
  rw [if_pos rfl] at l3
  have hts := hS.2.2.2.2.2.2.1
  have hwa : ∀ v ∈ av, mx_wf h.1 v := fun v hv => q4 v (List.mem_append_left _ (List.mem_reverse.mpr hv))
  have hMet := mx_met m1 m2 hlen hwa hC
  have hfr := hS.2.2.2.2.2.2.2.2.2.1
  have hlo := hS.2.2.2.2.2.2.2.2.2.2
  have hsig : ∀ sig, parseMethodDescriptor (mx_y callee).desc = some sig → n = sig.parameters.length := fun sig hs => by rw [hs] at l1; exact (Option.some.inj l1).symm
  have hpre : PreS s H (mx_Pc E fin h av) (av.map (mx_sh E)) := ⟨mx_FB E fin h av, mx_PU hS.2.2.2.2.2.2.2.2.1 hD⟩
  have hstk : (F0 m pc ls ((av.reverse ++ st).map (mx_sh E))).stack = (av.map (mx_sh E)).reverse ++ st.map (mx_sh E) := by
    show (av.reverse ++ st).map (mx_sh E) = _
    rw [List.map_append, List.map_reverse]
  have hrm := lv_room (m := m) (pc := pc) (ls := ls) (rest := (av.reverse ++ st).map (mx_sh E)) (mx_room_sum (E := E) hst)
  refine mx_goes (callee := callee) (av := av) (a := (av.map (mx_sh E)).toArray) ?_ hb1 hb2 hS hD q1 q2 q3 (fun v hv => q4 v (List.mem_append_right _ hv)) q5 q6
  cases nest with
  | false =>
    exact va_runS ⟨hS.1, hS.2.1, hS.2.2.1, hS.2.2.2.2.2.1, hts⟩ hMet ⟨⟨rfl, rfl, hfr, by show 8 + (mx_nL callee + 11) + 40 * d ≤ _; omega, fun w hw a' U hW => (List.mem_cons.mp hw).elim (fun e => e ▸ mx_ws_warm hts m3 a' U hW) (fun hw => mx_ws_warm hts hw a' U hW), List.mem_cons_self, hts _ m3, hts _ m4, m5, hsig, hts _ l2⟩, hts _ l3⟩ hpre rfl (by rw [List.length_map]; exact hn) q5.1 hstk hrm hd ⟨by omega, by omega⟩
  | true =>
    obtain ⟨host, l2⟩ := l2
    exact va_runSN ⟨hS.1, hS.2.1, hS.2.2.1, hS.2.2.2.2.2.1, hts⟩ hMet ⟨⟨⟨rfl, rfl, hfr, by show 8 + (mx_nL callee + 11) + 40 * d ≤ _; omega, fun w hw a' U hW => (List.mem_cons.mp hw).elim (fun e => e ▸ mx_ws_warm hts m3 a' U hW) (fun hw => mx_ws_warm hts hw a' U hW), List.mem_cons_self⟩, hts _ m3, hts _ m4, m5, hsig, va_Nw.use rfl (hS.2.2.2.2.2.2.2.2.1.2.1 _ l2)⟩, hts _ l3, trivial⟩ hpre rfl (by rw [List.length_map]; exact hn) q5.1 hstk hrm hd ⟨by omega, by omega⟩
set_option maxHeartbeats 4000000 in
theorem mx_callv {idx callee n ci : Nat} {av : List mx_V} {r : mx_A} (hd : decode (mx_by mid) pc = .ok (.invokevirtual idx, 3)) (hM : mx_MK callee) (hL : mx_LK mid idx callee n 1 false) (hci : ci < 13) (hlo : mx_lo r = (ci, (mx_cr ci).2.2)) (hcl : (mx_y callee).cls = (mx_cr ci).1) (hn : av.length = n) (hlen : 1 + (av.map mx_cat).sum ≤ mx_nL callee) (hst : (st.map mx_cat).sum ≤ 8) (hb1 : (mx_bu callee).1 ≤ bc) (hb2 : (mx_bu callee).2 ≤ bs)
    (hC : mx_C E fin d callee (.inr r :: av) h (fun v h' => mx_T E fin (d + 1) (bc - (mx_bu callee).1) (bs - (mx_bu callee).2) mid (pc + 3) lv (v.toList ++ st) h' Q)) : mx_T E fin (d + 1) bc bs mid pc lv (av.reverse ++ .inr r :: st) h Q := by
  intro p e R s m args below meth c H locs cells slots Qw ls hS hD q1 q2 q3 q4 q5 q6
  obtain ⟨m1, m2, m3, m4, m5, m6⟩ := hM
  obtain ⟨l1, l2, l3⟩ := hL
  rw [if_neg (by decide), if_pos rfl] at l3
  have hts := hS.2.2.2.2.2.2.1
  have hwr : mx_wf h.1 (.inr r) := q4 _ (List.mem_append_right _ List.mem_cons_self)
  have hwa : ∀ v ∈ (Sum.inr r :: av : List mx_V), mx_wf h.1 v := fun v hv => (List.mem_cons.mp hv).elim (fun e => e ▸ hwr) (fun hv => q4 v (List.mem_append_left _ (List.mem_reverse.mpr hv)))
  have hMet := mx_met m1 m2 (by rw [List.map_cons, List.sum_cons]; exact hlen) hwa hC
  have hfr := hS.2.2.2.2.2.2.2.2.2.1
  have hlo2 := hS.2.2.2.2.2.2.2.2.2.2
  have hsig : ∀ sig, parseMethodDescriptor (mx_y callee).desc = some sig → n = sig.parameters.length := fun sig hs => by rw [hs] at l1; exact (Option.some.inj l1).symm
  obtain ⟨c1, c2, c3, c4⟩ := mx_ck hci
  have e0 := mx_W_get (E := E) (h := h) hwr
  rw [mx_cell_o (ci := ci) (by rw [hlo]) (by omega)] at e0
  have hrc := va_recv hS.2.2.2.2.2.2.2.2.1.1 hD.1 c1 e0
  rw [← hcl] at hrc
  have hpre : PreV s H (mx_y callee).cls (mx_ad E r) (mx_Pc E fin h (.inr r :: av)) (av.map (mx_sh E)) := ⟨mx_FB E fin h _, hrc, mx_PU hS.2.2.2.2.2.2.2.2.1 hD⟩
  have hstk : (F0 m pc ls ((av.reverse ++ .inr r :: st).map (mx_sh E))).stack = (av.map (mx_sh E)).reverse ++ .ref (mx_ad E r) :: st.map (mx_sh E) := by
    show (av.reverse ++ .inr r :: st).map (mx_sh E) = _
    rw [List.map_append, List.map_reverse]
    rfl
  have hrm := lv_room (m := m) (pc := pc) (ls := ls) (rest := (av.reverse ++ .inr r :: st).map (mx_sh E)) (mx_room_sum (E := E) hst)
  refine mx_goes (callee := callee) (av := .inr r :: av) (a := ((Sum.inr r :: av : List mx_V).map (mx_sh E)).toArray) ?_ hb1 hb2 hS hD q1 q2 q3 (fun v hv => q4 v (List.mem_append_right _ (List.mem_cons_of_mem _ hv))) q5 q6
  exact va_runV ⟨hS.1, hS.2.1, hS.2.2.1, hS.2.2.2.2.2.1, hts⟩ hMet ⟨⟨rfl, rfl, hfr, by show 8 + (mx_nL callee + 11) + 40 * d ≤ _; omega, fun w hw a' U hW => (List.mem_cons.mp hw).elim (fun e => e ▸ mx_ws_warm hts m3 a' U hW) (fun hw => mx_ws_warm hts hw a' U hW), List.mem_cons_self, hts _ m3, hts _ m4, m5, hsig, hts _ l2⟩, hts _ l3.1, hts _ l3.2⟩ hpre rfl (by rw [List.length_map]; exact hn) q5.1 hstk hrm hd ⟨by omega, by omega⟩
end MXC
end
section
/-! ===== cells made; constructors called ===== -/
def mx_z {α : Type} (f : mx_A → Nat → α) (a : mx_A) (v : α) : mx_A → Nat → α := fun b j => if b = a then v else f b j
/-- a new cell a, empty -/
def mx_nw (h : mx_H) (a : mx_A) : mx_H := (h.1 + 1, mx_z h.2.1 a 0, mx_z h.2.2.1 a 0, mx_z h.2.2.2 a none)
theorem mx_z_ne {α : Type} {f : mx_A → Nat → α} {a b : mx_A} {v : α} (h : b ≠ a) : mx_z f a v b = f b := by
  funext j
  exact if_neg h
theorem mx_z_eq {α : Type} {f : mx_A → Nat → α} {a : mx_A} {v : α} : mx_z f a v a = fun _ => v := by
  funext j
  exact if_pos rfl
theorem mx_cell_nw {E : mx_Ev} {h : mx_H} {a b : mx_A} (hb : b ≠ a) : mx_cell E (mx_nw h a) b = mx_cell E h b := by
  have h1 : mx_fv E (mx_nw h a) b = mx_fv E h b := by
    funext ci j
    simp only [mx_fv, mx_nw, mx_z_ne hb]
  have h2 : mx_ar E (mx_nw h a) b = mx_ar E h b := by
    funext kd
    simp only [mx_ar, mx_nw, mx_z_ne hb]
  unfold mx_cell
  rw [h1, h2]
theorem mx_D_push {E : mx_Ev} {fin : mx_A → Nat → Option mx_A} {h : mx_H} {s : State} {H H1 : Heap} {locs : List Loc} {a : mx_A} (hD : mx_D E fin h s H locs) (hp : mx_pos a = h.1) (hv : mx_va a) (hfa : ∀ k, fin a k = none)
    (hc : va_at (mx_G E) vwCl (mx_ad E a, mx_cell E (mx_nw h a) a) H1) (hz : H1.size = H.size + 1) (oq : ∀ q : Nat, q < H.size → H1[q]? = H[q]?) : mx_D E fin (mx_nw h a) s H1 locs := by
  obtain ⟨hP, hA, hS, hZ, hr, hf⟩ := hD
  have hW := mx_W_push (E := E) (h' := mx_nw h a) hp hv rfl (fun b _ hb => mx_cell_nw hb)
  have had : mx_ad E a = H.size := by rw [hZ, ← hp]; rfl
  have hmono : ∀ b, mx_wfa h.1 b → mx_wfa (h.1 + 1) b := fun b hb => ⟨hb.1, Nat.lt_succ_of_lt hb.2⟩
  refine ⟨?_, ?_, ⟨Nat.le_trans hS.1 (by omega), fun q h1 h2 => (oq q (Nat.lt_of_lt_of_le h1 hS.1)).trans (hS.2.1 q h1 h2), hS.2.2⟩, by rw [hz, hZ]; rfl, ?_, ?_⟩
  · rw [hW]
    refine (hP.kept (fun k x hx => oq x.1 ((hP k x hx).lt))).app (fun k x hx => ?_)
    have hk : k < 1 := (List.getElem?_eq_some_iff.mp hx).1
    rw [show k = 0 by omega] at hx
    cases hx
    exact hc
  · rw [hW]
    exact hA.push hP had (Nat.le_add_right _ _)
  · intro c k b hb
    by_cases e : c = a
    · subst e
      rw [show (mx_nw h c).2.2.2 c k = none from congrFun mx_z_eq k] at hb
      cases hb
    · exact hmono b (hr c k b (by rw [← hb]; exact (congrFun (mx_z_ne e) k).symm))
  · intro c k b hb hw
    by_cases e : c = a
    · subst e
      rw [hfa k] at hb
      cases hb
    · have hlt : mx_pos c < h.1 := by
        have h1 : mx_pos c < h.1 + 1 := hw.2
        have h2 : mx_pos c ≠ h.1 := fun q => e (mx_pos_inj hw.1 hv (q.trans hp.symm))
        omega
      rw [show (mx_nw h a).2.2.2 c k = h.2.2.2 c k from congrFun (mx_z_ne e) k]
      exact hf c k b hb ⟨hw.1, hlt⟩
section MXN
variable {E : mx_Ev} {fin : mx_A → Nat → Option mx_A} {d bc bs mid pc : Nat} {lv : mx_Lv} {st : List mx_V} {h : mx_H} {Q : Option mx_V → mx_H → Prop}
theorem mx_mk {a : mx_A} {k N : Nat} {u : List mx_V} (hp : mx_pos a = h.1) (hv : mx_va a) (hb1 : 1 ≤ bc) (hb2 : N ≤ bs)
    (hstep : ∀ (p : Program) (e : Env) (R : Room) (s : State) (m : MethodId) (args : Array Value) (below : List Frame) (meth : Method) (c : Code) (H : Heap) (locs : List Loc) (cells slots : Nat) (Qw : State → Prop) (ls : Array Slot),
      mx_S E d mid p R s m args meth c → mx_D E fin h s H locs → cells + 1 ≤ R.cells → slots + N ≤ R.slots →
      (∀ H1 : Heap, mx_D E fin (mx_nw h a) s H1 locs → W p E.1 e R s m args below meth c H1 locs (cells + 1) (slots + N) Qw (F0 m (pc + k) ls (.ref (mx_ad E a) :: st.map (mx_sh E)))) → W p E.1 e R s m args below meth c H locs cells slots Qw (F0 m pc ls ((u ++ st).map (mx_sh E))))
    (hk : mx_T E fin d (bc - 1) (bs - N) mid (pc + k) lv (.inr a :: st) (mx_nw h a) Q) : mx_T E fin d bc bs mid pc lv (u ++ st) h Q := by
  intro p e R s m args below meth c H locs cells slots Qw ls hS hD q1 q2 q3 q4 q5 q6
  refine hstep p e R s m args below meth c H locs cells slots Qw ls hS hD (by omega) (by omega) (fun H1 hD1 => ?_)
  refine hk p e R s m args below meth c H1 locs (cells + 1) (slots + N) Qw ls hS hD1 (by omega) (by omega) (fun q hq => (q3 q hq).mono (Nat.le_succ _)) (fun x hx => ?_) q5
    (fun v h2 H' locs' cells' slots' pc' ls' ins a1 a2 a3 a4 a5 a6 a7 a8 => q6 v h2 H' locs' cells' slots' pc' ls' ins a1 a2 (Nat.le_trans (Nat.le_succ _) a3) (by omega) (by omega) a6 a7 a8)
  rcases List.mem_cons.mp hx with rfl | hx
  · exact ⟨hv, by show mx_pos a < h.1 + 1; omega⟩
  · exact (q4 x (List.mem_append_right _ hx)).mono (Nat.le_succ _)
theorem mx_fok_d {ci j : Nat} (h : mx_fok ci j) : defaultValue (mx_ty ci j) = if mx_ff ci j = 2 then .null else .int 0 := by
  rcases h with ⟨h1, h2⟩ | ⟨h1, h2⟩ | ⟨h1, n, h2⟩ | ⟨h1, n, h2⟩ <;> rw [h1, h2] <;> rfl
theorem mx_new {a : mx_A} {ci idx : Nat} (hd : decode (mx_by mid) pc = .ok (.new idx, 3)) (hci : ci < 13) (hl : mx_lo a = (ci, (mx_cr ci).2.2)) (hfo : ∀ j, j < (mx_cr ci).2.2 → mx_fok ci j) (hlk : Cond.classLink (mx_ow mid) idx (mx_cr ci).1 ∈ mx_ws) (hin : Cond.instantiable (mx_cr ci).1 (mx_cr ci).2.2 ∈ mx_ws) (hini : Cond.initialized (mx_cr ci).1 ∈ mx_ws)
    (hfa : ∀ k, fin a k = none) (hp : mx_pos a = h.1) (hv : mx_va a) (hb1 : 1 ≤ bc) (hb2 : (mx_cr ci).2.2 ≤ bs) (hk : mx_T E fin d (bc - 1) (bs - (mx_cr ci).2.2) mid (pc + 3) lv (.inr a :: st) (mx_nw h a) Q) : mx_T E fin d bc bs mid pc lv st h Q := by
  obtain ⟨c1, c2, c3, c4⟩ := mx_ck hci
  refine mx_mk (u := []) hp hv hb1 hb2 (fun p e R s m args below meth c H locs cells slots Qw ls hS hD r1 r2 k9 => ?_) hk
  have hts := hS.2.2.2.2.2.2.1
  have hK := hS.2.2.2.2.2.2.2.2.1.1
  have hKn := hK.1 ci _ c1
  have had : mx_ad E a = H.size := by rw [hD.2.2.2.1, ← hp]; rfl
  refine W.newcK hS.1 hS.2.1 hS.2.2.2.2.2.1 (hts _ hlk) (hts _ hin) (hts _ hini) rfl hd r1 r2 hKn.2.1 rfl fun H1 kC hkC e1 z1 o1 => ?_
  have K := k9 H1 (mx_D_push hD hp hv hfa ?_ z1 o1)
  · rw [had] at K
    exact K
  · rw [mx_cell_o (ci := ci) (by rw [hl]) (by omega), hl, had]
    refine ⟨_, c1, (u_born (mx_ty ci) hts c2 hKn hkC e1 c3).to (fun j hj => ?_)⟩
    unfold vp_V
    rw [List.getD_eq_getElem?_getD, List.getElem?_map, List.getElem?_range hj]
    simp only [Option.map_some, Option.getD_some, mx_fv, mx_nw, mx_z_eq]
    rw [mx_fok_d (hfo j hj)]
    split <;> rfl
/-- the array kinds that newarray makes -/
def mx_ak : ArrayType → Nat
  | .int => 0
  | .long => 1
  | .byte => 2
  | .boolean => 3
  | _ => 9
theorem mx_newarr {a : mx_A} {at' : ArrayType} {n : Int32} (hd : decode (mx_by mid) pc = .ok (.newarray at', 2)) (hak : mx_ak at' ≤ 3) (hl : mx_lo a = (100 + mx_ak at', n.toNatClampNeg)) (hn : ¬ n < 0) (hn2 : n.toNatClampNeg ≤ 60000) (hw : Cond.arrayClass (newarray.typeOf at') ∈ mx_ws)
    (hfa : ∀ k, fin a k = none) (hp : mx_pos a = h.1) (hv : mx_va a) (hb1 : 1 ≤ bc) (hb2 : n.toNatClampNeg ≤ bs) (hk : mx_T E fin d (bc - 1) (bs - n.toNatClampNeg) mid (pc + 2) lv (.inr a :: st) (mx_nw h a) Q) : mx_T E fin d bc bs mid pc lv (.inl (.int n) :: st) h Q := by
  refine mx_mk (u := [.inl (.int n)]) hp hv hb1 hb2 (fun p e R s m args below meth c H locs cells slots Qw ls hS hD r1 r2 k9 => ?_) hk
  have hts := hS.2.2.2.2.2.2.1
  have hK := hS.2.2.2.2.2.2.2.2.1.1
  have had : mx_ad E a = H.size := by rw [hD.2.2.2.1, ← hp]; rfl
  refine va_newaK hS.1 hS.2.1 (hts _ hw) rfl hd rfl hn rfl ?_ r1 r2 rfl fun H1 cA e1 z1 o1 hAr hNm => ?_
  · have : componentBytes (newarray.typeOf at') ≤ 8 := by cases at' <;> decide
    exact Nat.le_trans (Nat.mul_le_mul hn2 this) (by decide)
  · have K := k9 H1 (mx_D_push hD hp hv hfa ?_ z1 o1)
    · rw [had] at K
      exact K
    · rw [had]
      cases at' with
      | int =>
        have hcA : cA = mx_aC E 0 := Option.some.inj (hNm.symm.trans (hK.2 0 _ rfl).2)
        rw [mx_cell_i (kd := 100) (by rw [hl]; rfl) (by simp), hl, ← hcA]
        exact e1.trans (by simp only [mx_nw, mx_z_eq]; rfl)
      | long =>
        have hcA : cA = mx_aC E 1 := Option.some.inj (hNm.symm.trans (hK.2 1 _ rfl).2)
        rw [mx_cell_l (by rw [hl]; rfl), hl, ← hcA]
        exact e1.trans (by simp only [mx_nw, mx_z_eq]; rfl)
      | byte =>
        have hcA : cA = mx_aC E 2 := Option.some.inj (hNm.symm.trans (hK.2 2 _ rfl).2)
        rw [mx_cell_i (kd := 102) (by rw [hl]; rfl) (by simp), hl, ← hcA]
        exact e1.trans (by simp only [mx_nw, mx_z_eq]; rfl)
      | boolean =>
        have hcA : cA = mx_aC E 3 := Option.some.inj (hNm.symm.trans (hK.2 3 _ rfl).2)
        rw [mx_cell_i (kd := 103) (by rw [hl]; rfl) (by simp), hl, ← hcA]
        exact e1.trans (by simp only [mx_nw, mx_z_eq]; rfl)
      | _ => exact absurd hak (by decide)
theorem mx_anew {a : mx_A} {idx : Nat} {n : Int32} (hd : decode (mx_by mid) pc = .ok (.anewarray idx, 3)) (hl : mx_lo a = (104, n.toNatClampNeg)) (hn : ¬ n < 0) (hn2 : n.toNatClampNeg ≤ 60000) (hw : Cond.classLink (mx_ow mid) idx RX7 ∈ mx_ws)
    (hfa : ∀ k, fin a k = none) (hp : mx_pos a = h.1) (hv : mx_va a) (hb1 : 1 ≤ bc) (hb2 : n.toNatClampNeg ≤ bs) (hk : mx_T E fin d (bc - 1) (bs - n.toNatClampNeg) mid (pc + 3) lv (.inr a :: st) (mx_nw h a) Q) : mx_T E fin d bc bs mid pc lv (.inl (.int n) :: st) h Q := by
  refine mx_mk (u := [.inl (.int n)]) hp hv hb1 hb2 (fun p e R s m args below meth c H locs cells slots Qw ls hS hD r1 r2 k9 => ?_) hk
  have hts := hS.2.2.2.2.2.2.1
  have hK := hS.2.2.2.2.2.2.2.2.1.1
  have had : mx_ad E a = H.size := by rw [hD.2.2.2.1, ← hp]; rfl
  refine W.anew hS.1 hS.2.1 hS.2.2.2.2.2.1 (hts _ hw) (va_AO.use hS.2.2.2.2.2.2.2.2.1.2.2.1) rfl hd rfl hn (by omega) r1 r2 fun cA kA comp f1 f2 f3 f4 => ?_
  have hcA : cA = mx_aC E 4 := by
    obtain ⟨kA', comp', g1, g2, g3, g4⟩ := (hK.2 4 _ rfl).2
    exact Option.some.inj (f1.symm.trans g4)
  have K := k9 (H.push ({ cls := cA, slots := Array.replicate n.toNatClampNeg .null, vm := .none } : Cell)) (mx_D_push hD hp hv hfa ?_ (by rw [Array.size_push]) (fun q hq => by rw [Array.getElem?_push, if_neg (Nat.ne_of_lt hq)]))
  · rw [had] at K
    exact K
  · rw [had, mx_cell_q (kd := 104) (by rw [hl]) (by simp), hl, ← hcA]
    show (Array.push H _)[H.size]? = some (vp_cell _ _)
    rw [Array.getElem?_push_size, vp_cell_q, arrV_new]
    simp only [mx_nw, mx_z_eq]
    rfl
/-- the super constructor's call -/
theorem mx_objinit {a : mx_A} {idx : Nat} (hd : decode (mx_by mid) pc = .ok (.invokespecial idx, 3)) (hlk : Cond.methodLink (mx_ow mid) idx Lib.objectInit ∈ mx_ws) (hst : (st.map mx_cat).sum ≤ 8) (h1 : Cond.instanceMethod Lib.objectInit ∈ mx_ws) (h2 : Cond.code Lib.objectInit ⟨#[0xb1]⟩ 1 none ∈ mx_ws)
    (hk : mx_T E fin (d + 1) bc bs mid (pc + 3) lv st h Q) : mx_T E fin (d + 1) bc bs mid pc lv (.inr a :: st) h Q := by
  refine mx_go (fun h1 h2 => ⟨h1, fun x hx => h2 x (List.mem_cons_of_mem _ hx)⟩) (fun p e R s m args below meth c H locs cells slots Qw ls hS hD hl kk => ?_) hk
  have hts := hS.2.2.2.2.2.2.1
  have hfr := hS.2.2.2.2.2.2.2.2.2.1
  have hlo := hS.2.2.2.2.2.2.2.2.2.2
  have hrm := lv_room (m := m) (pc := pc) (ls := ls) (rest := (Sum.inr a :: st).map (mx_sh E)) (mx_room_sum (E := E) hst)
  exact W.objInit hS.1 hS.2.1 hS.2.2.2.2.2.1 (hts _ hlk) (hts _ h1) (hts _ h2) rfl (hl.1.trans hS.2.2.1.symm) rfl hd (by omega) (by omega) (kk ls hl)
set_option maxHeartbeats 4000000 in
theorem mx_calli {idx callee n : Nat} {nest : Bool} {av : List mx_V} {r : mx_A} (hd : decode (mx_by mid) pc = .ok (.invokespecial idx, 3)) (hM : mx_MK callee) (hL : mx_LK mid idx callee n 2 nest) (hn : av.length = n) (hlen : 1 + (av.map mx_cat).sum ≤ mx_nL callee) (hst : (st.map mx_cat).sum ≤ 8) (hb1 : (mx_bu callee).1 ≤ bc) (hb2 : (mx_bu callee).2 ≤ bs)
    (hC : mx_C E fin d callee (.inr r :: av) h (fun v h' => mx_T E fin (d + 1) (bc - (mx_bu callee).1) (bs - (mx_bu callee).2) mid (pc + 3) lv (v.toList ++ st) h' Q)) : mx_T E fin (d + 1) bc bs mid pc lv (av.reverse ++ .inr r :: st) h Q := by
  intro p e R s m args below meth c H locs cells slots Qw ls hS hD q1 q2 q3 q4 q5 q6
  obtain ⟨m1, m2, m3, m4, m5, m6⟩ := hM
  obtain ⟨l1, l2, l3⟩ := hL
  rw [if_neg (by decide), if_neg (by decide)] at l3
  have hts := hS.2.2.2.2.2.2.1
  have hwr : mx_wf h.1 (.inr r) := q4 _ (List.mem_append_right _ List.mem_cons_self)
  have hwa : ∀ v ∈ (Sum.inr r :: av : List mx_V), mx_wf h.1 v := fun v hv => (List.mem_cons.mp hv).elim (fun e => e ▸ hwr) (fun hv => q4 v (List.mem_append_left _ (List.mem_reverse.mpr hv)))
  have hMet := mx_met m1 m2 (by rw [List.map_cons, List.sum_cons]; exact hlen) hwa hC
  have hfr := hS.2.2.2.2.2.2.2.2.2.1
  have hlo2 := hS.2.2.2.2.2.2.2.2.2.2
  have hsig : ∀ sig, parseMethodDescriptor (mx_y callee).desc = some sig → n = sig.parameters.length := fun sig hs => by rw [hs] at l1; exact (Option.some.inj l1).symm
  have hpre : PreS s H (mx_Pc E fin h (.inr r :: av)) (.ref (mx_ad E r) :: av.map (mx_sh E)) := ⟨mx_FB E fin h _, mx_PU hS.2.2.2.2.2.2.2.2.1 hD⟩
  have hstk : (F0 m pc ls ((av.reverse ++ .inr r :: st).map (mx_sh E))).stack = (av.map (mx_sh E)).reverse ++ .ref (mx_ad E r) :: st.map (mx_sh E) := by
    show (av.reverse ++ .inr r :: st).map (mx_sh E) = _
    rw [List.map_append, List.map_reverse]
    rfl
  have hrm := lv_room (m := m) (pc := pc) (ls := ls) (rest := (av.reverse ++ .inr r :: st).map (mx_sh E)) (mx_room_sum (E := E) hst)
  have m3' := m3
  rw [l3.2.2] at m3'
  have hMet' : Met E.1 (mx_y callee) (Cond.code (mx_y callee) (mx_by callee) (mx_nL callee) none :: mx_ws) (mx_rm d callee) (mx_Pc E fin h (.inr r :: av)) (mx_Qc E fin h (fun v h' => mx_T E fin (d + 1) (bc - (mx_bu callee).1) (bs - (mx_bu callee).2) mid (pc + 3) lv (v.toList ++ st) h' Q)) (mx_bu callee).1 (mx_bu callee).2 (mx_ra E) := by
    rw [show mx_wm callee = Cond.code (mx_y callee) (mx_by callee) (mx_nL callee) none :: mx_ws by unfold mx_wm; rw [l3.2.2]] at hMet
    exact hMet
  refine mx_goes (callee := callee) (av := .inr r :: av) (a := ((Sum.inr r :: av : List mx_V).map (mx_sh E)).toArray) ?_ hb1 hb2 hS hD q1 q2 q3 (fun v hv => q4 v (List.mem_append_right _ (List.mem_cons_of_mem _ hv))) q5 q6
  cases nest with
  | false =>
    exact va_runI ⟨hS.1, hS.2.1, hS.2.2.1, hS.2.2.2.2.2.1, hts⟩ hMet' ⟨⟨rfl, rfl, hfr, by show 8 + (mx_nL callee + 11) + 40 * d ≤ _; omega, fun w hw a' U hW => (List.mem_cons.mp hw).elim (fun e => e ▸ mx_ws_warm hts m3' a' U hW) (fun hw => mx_ws_warm hts hw a' U hW), List.mem_cons_self, hts _ m3', hts _ m4, m5, hsig, hts _ l2⟩, l3.2.1, hts _ l3.1⟩ hpre rfl (by rw [List.length_map]; exact hn) q5.1 hstk hrm hd ⟨by omega, by omega⟩
  | true =>
    obtain ⟨host, l2⟩ := l2
    exact va_runIN ⟨hS.1, hS.2.1, hS.2.2.1, hS.2.2.2.2.2.1, hts⟩ hMet' ⟨⟨⟨rfl, rfl, hfr, by show 8 + (mx_nL callee + 11) + 40 * d ≤ _; omega, fun w hw a' U hW => (List.mem_cons.mp hw).elim (fun e => e ▸ mx_ws_warm hts m3' a' U hW) (fun hw => mx_ws_warm hts hw a' U hW), List.mem_cons_self⟩, hts _ m3', hts _ m4, m5, hsig, va_Nw.use rfl (hS.2.2.2.2.2.2.2.2.1.2.1 _ l2)⟩, l3.2.1, hts _ l3.1⟩ hpre rfl (by rw [List.length_map]; exact hn) q5.1 hstk hrm hd ⟨by omega, by omega⟩
end MXN
end
section
/-! ===== Math's own methods ===== -/
def mx_if (b : Bool) (P : Prop) : Prop := match b with
  | true => P
  | false => False
theorem mx_if_t {b : Bool} {P : Prop} (h : mx_if b P) : b = true ∧ P := by
  cases b
  · exact h.elim
  · exact ⟨rfl, h⟩
section MXM
variable {E : mx_Ev} {fin : mx_A → Nat → Option mx_A} {d bc bs mid pc : Nat} {lv : mx_Lv} {st : List mx_V} {h : mx_H} {Q : Option mx_V → mx_H → Prop}
/-- a call that answers at once -/
theorem mx_quick {u : List mx_V} {v : mx_V} (hv : mx_wf h.1 v) (hst : (st.map mx_cat).sum ≤ 8)
    (hstep : ∀ (p : Program) (e : Env) (R : Room) (s : State) (m : MethodId) (args : Array Value) (below : List Frame) (meth : Method) (c : Code) (H : Heap) (locs : List Loc) (cells slots : Nat) (Qw : State → Prop) (ls : Array Slot),
      mx_S E (d + 1) mid p R s m args meth c → c.maxLocals = ls.size → 1 ≤ R.frames → ((st.map (mx_sh E)).map fun v => v.category).sum + 15 ≤ R.locals → cells ≤ R.cells → slots ≤ R.slots →
      W p E.1 e R s m args below meth c H locs cells slots Qw (F0 m (pc + 3) ls (mx_sh E v :: st.map (mx_sh E))) → W p E.1 e R s m args below meth c H locs cells slots Qw (F0 m pc ls ((u ++ st).map (mx_sh E))))
    (hk : mx_T E fin (d + 1) bc bs mid (pc + 3) lv (v :: st) h Q) : mx_T E fin (d + 1) bc bs mid pc lv (u ++ st) h Q :=
  fun p e R s m args below meth c H locs cells slots Qw ls hS hD q1 q2 q3 q4 q5 q6 => by
    have h1 := hS.2.2.2.2.2.2.2.2.2.1
    have h2 := hS.2.2.2.2.2.2.2.2.2.2
    have h3 := mx_room_sum (E := E) hst
    exact hstep p e R s m args below meth c H locs cells slots Qw ls hS (hS.2.2.1.trans q5.1.symm) (by omega) (by omega) (by omega) (by omega)
      (hk p e R s m args below meth c H locs cells slots Qw ls hS hD q1 q2 q3 (fun x hx => (List.mem_cons.mp hx).elim (fun e => e ▸ hv) (fun hx => q4 x (List.mem_append_right _ hx))) q5 q6)
/-- the words of a Math method -/
def mx_MW (o i : Nat) (x : MethodName) (c : ByteArray) (n : Nat) (r : Option FieldType) : Prop := Cond.methodLink (mx_cn o) i x ∈ mx_ws ∧ Cond.static x ∈ mx_ws ∧ Cond.initialized "java/lang/Math" ∈ mx_ws ∧ Cond.code x c n r ∈ mx_ws
theorem mx_mabs {x : Int32} {i : Nat} (hd : decode (mx_by mid) pc = .ok (.invokestatic i, 3)) (hw : mx_MW (mx_me mid).1 i Lib.Math.abs.name Lib.Math.abs.code 1 (some .int)) (hst : (st.map mx_cat).sum ≤ 8) (hk : mx_T E fin (d + 1) bc bs mid (pc + 3) lv (.inl (.int (if 0 ≤ x then x else 0 - x)) :: st) h Q) : mx_T E fin (d + 1) bc bs mid pc lv (.inl (.int x) :: st) h Q :=
  mx_quick (v := .inl (.int (if 0 ≤ x then x else 0 - x))) (u := [.inl (.int x)]) (by exact True.intro) hst (fun _ _ _ _ _ _ _ _ _ _ _ _ _ _ _ hS hml hfr hlo hc hs k => va_mabs hS.1 hS.2.1 hml hS.2.2.2.2.2.1 (hS.2.2.2.2.2.2.1 _ hw.1) (hS.2.2.2.2.2.2.1 _ hw.2.1) (hS.2.2.2.2.2.2.1 _ hw.2.2.1) (hS.2.2.2.2.2.2.1 _ hw.2.2.2) hfr (by show ((st.map (mx_sh E)).map fun v => v.category).sum + _ ≤ _; omega) hc hs hd k) hk
theorem mx_mabsl {x : Int64} {i : Nat} (hd : decode (mx_by mid) pc = .ok (.invokestatic i, 3)) (hw : mx_MW (mx_me mid).1 i Lib.MathLoose.abs_long.x Lib.MathLoose.abs_long.code 2 (some .long)) (hst : (st.map mx_cat).sum ≤ 8) (hk : mx_T E fin (d + 1) bc bs mid (pc + 3) lv (.inl (.long (if 0 < x then x else -x)) :: st) h Q) : mx_T E fin (d + 1) bc bs mid pc lv (.inl (.long x) :: st) h Q :=
  mx_quick (v := .inl (.long (if 0 < x then x else -x))) (u := [.inl (.long x)]) (by exact True.intro) hst (fun _ _ _ _ _ _ _ _ _ _ _ _ _ _ _ hS hml hfr hlo hc hs k => va_mabs_long hS.1 hS.2.1 hml hS.2.2.2.2.2.1 (hS.2.2.2.2.2.2.1 _ hw.1) (hS.2.2.2.2.2.2.1 _ hw.2.1) (hS.2.2.2.2.2.2.1 _ hw.2.2.1) (hS.2.2.2.2.2.2.1 _ hw.2.2.2) hfr (by show ((st.map (mx_sh E)).map fun v => v.category).sum + _ ≤ _; omega) hc hs hd k) hk
theorem mx_mmax {x y : Int32} {i : Nat} (hd : decode (mx_by mid) pc = .ok (.invokestatic i, 3)) (hw : mx_MW (mx_me mid).1 i Lib.Math.max.name Lib.Math.max.code 2 (some .int)) (hst : (st.map mx_cat).sum ≤ 8) (hk : mx_T E fin (d + 1) bc bs mid (pc + 3) lv (.inl (.int (if x < y then y else x)) :: st) h Q) : mx_T E fin (d + 1) bc bs mid pc lv (.inl (.int y) :: .inl (.int x) :: st) h Q :=
  mx_quick (v := .inl (.int (if x < y then y else x))) (u := [.inl (.int y), .inl (.int x)]) (by exact True.intro) hst (fun _ _ _ _ _ _ _ _ _ _ _ _ _ _ _ hS hml hfr hlo hc hs k => va_mmax hS.1 hS.2.1 hml hS.2.2.2.2.2.1 (hS.2.2.2.2.2.2.1 _ hw.1) (hS.2.2.2.2.2.2.1 _ hw.2.1) (hS.2.2.2.2.2.2.1 _ hw.2.2.1) (hS.2.2.2.2.2.2.1 _ hw.2.2.2) hfr (by show ((st.map (mx_sh E)).map fun v => v.category).sum + _ ≤ _; omega) hc hs hd k) hk
theorem mx_mmaxl {x y : Int64} {i : Nat} (hd : decode (mx_by mid) pc = .ok (.invokestatic i, 3)) (hw : mx_MW (mx_me mid).1 i Lib.MathLoose.max_long.x Lib.MathLoose.max_long.code 4 (some .long)) (hst : (st.map mx_cat).sum ≤ 8) (hk : mx_T E fin (d + 1) bc bs mid (pc + 3) lv (.inl (.long (if y < x then x else y)) :: st) h Q) : mx_T E fin (d + 1) bc bs mid pc lv (.inl (.long y) :: .inl (.long x) :: st) h Q :=
  mx_quick (v := .inl (.long (if y < x then x else y))) (u := [.inl (.long y), .inl (.long x)]) (by exact True.intro) hst (fun _ _ _ _ _ _ _ _ _ _ _ _ _ _ _ hS hml hfr hlo hc hs k => va_mmax_long hS.1 hS.2.1 hml hS.2.2.2.2.2.1 (hS.2.2.2.2.2.2.1 _ hw.1) (hS.2.2.2.2.2.2.1 _ hw.2.1) (hS.2.2.2.2.2.2.1 _ hw.2.2.1) (hS.2.2.2.2.2.2.1 _ hw.2.2.2) hfr (by show ((st.map (mx_sh E)).map fun v => v.category).sum + _ ≤ _; omega) hc hs hd k) hk
theorem mx_mmin {x y : Int32} {i : Nat} (hd : decode (mx_by mid) pc = .ok (.invokestatic i, 3)) (hw : mx_MW (mx_me mid).1 i Lib.Math.min.name Lib.Math.min.code 2 (some .int)) (hst : (st.map mx_cat).sum ≤ 8) (hk : mx_T E fin (d + 1) bc bs mid (pc + 3) lv (.inl (.int (if y < x then y else x)) :: st) h Q) : mx_T E fin (d + 1) bc bs mid pc lv (.inl (.int y) :: .inl (.int x) :: st) h Q :=
  mx_quick (v := .inl (.int (if y < x then y else x))) (u := [.inl (.int y), .inl (.int x)]) (by exact True.intro) hst (fun _ _ _ _ _ _ _ _ _ _ _ _ _ _ _ hS hml hfr hlo hc hs k => va_mmin hS.1 hS.2.1 hml hS.2.2.2.2.2.1 (hS.2.2.2.2.2.2.1 _ hw.1) (hS.2.2.2.2.2.2.1 _ hw.2.1) (hS.2.2.2.2.2.2.1 _ hw.2.2.1) (hS.2.2.2.2.2.2.1 _ hw.2.2.2) hfr (by show ((st.map (mx_sh E)).map fun v => v.category).sum + _ ≤ _; omega) hc hs hd k) hk
theorem mx_mminl {x y : Int64} {i : Nat} (hd : decode (mx_by mid) pc = .ok (.invokestatic i, 3)) (hw : mx_MW (mx_me mid).1 i Lib.MathLoose.min_long.x Lib.MathLoose.min_long.code 4 (some .long)) (hst : (st.map mx_cat).sum ≤ 8) (hk : mx_T E fin (d + 1) bc bs mid (pc + 3) lv (.inl (.long (if y < x then y else x)) :: st) h Q) : mx_T E fin (d + 1) bc bs mid pc lv (.inl (.long y) :: .inl (.long x) :: st) h Q :=
  mx_quick (v := .inl (.long (if y < x then y else x))) (u := [.inl (.long y), .inl (.long x)]) (by exact True.intro) hst (fun _ _ _ _ _ _ _ _ _ _ _ _ _ _ _ hS hml hfr hlo hc hs k => va_mmin_long hS.1 hS.2.1 hml hS.2.2.2.2.2.1 (hS.2.2.2.2.2.2.1 _ hw.1) (hS.2.2.2.2.2.2.1 _ hw.2.1) (hS.2.2.2.2.2.2.1 _ hw.2.2.1) (hS.2.2.2.2.2.2.1 _ hw.2.2.2) hfr (by show ((st.map (mx_sh E)).map fun v => v.category).sum + _ ≤ _; omega) hc hs hd k) hk
end MXM
def mx_mw (o i a : Nat) : Prop := match a with
  | 0 => mx_MW o i Lib.Math.abs.name Lib.Math.abs.code 1 (some .int)
  | 1 => mx_MW o i Lib.MathLoose.abs_long.x Lib.MathLoose.abs_long.code 2 (some .long)
  | 2 => mx_MW o i Lib.Math.max.name Lib.Math.max.code 2 (some .int)
  | 3 => mx_MW o i Lib.MathLoose.max_long.x Lib.MathLoose.max_long.code 4 (some .long)
  | 4 => mx_MW o i Lib.Math.min.name Lib.Math.min.code 2 (some .int)
  | 5 => mx_MW o i Lib.MathLoose.min_long.x Lib.MathLoose.min_long.code 4 (some .long)
  | _ => False
def mx_mth (a : Nat) (st : List mx_V) (κ : List mx_V → Prop) : Prop := match a, st with
  | 0, .inl (.int x) :: r => mx_if (Nat.ble ((r.map mx_cat).sum) 8) (κ (.inl (.int (if 0 ≤ x then x else 0 - x)) :: r))
  | 1, .inl (.long x) :: r => mx_if (Nat.ble ((r.map mx_cat).sum) 8) (κ (.inl (.long (if 0 < x then x else -x)) :: r))
  | 2, .inl (.int y) :: .inl (.int x) :: r => mx_if (Nat.ble ((r.map mx_cat).sum) 8) (κ (.inl (.int (if x < y then y else x)) :: r))
  | 3, .inl (.long y) :: .inl (.long x) :: r => mx_if (Nat.ble ((r.map mx_cat).sum) 8) (κ (.inl (.long (if y < x then x else y)) :: r))
  | 4, .inl (.int y) :: .inl (.int x) :: r => mx_if (Nat.ble ((r.map mx_cat).sum) 8) (κ (.inl (.int (if y < x then y else x)) :: r))
  | 5, .inl (.long y) :: .inl (.long x) :: r => mx_if (Nat.ble ((r.map mx_cat).sum) 8) (κ (.inl (.long (if y < x then y else x)) :: r))
  | _, _ => False
theorem mx_mth_s {E : mx_Ev} {fin : mx_A → Nat → Option mx_A} {d bc bs mid pc : Nat} {lv : mx_Lv} {st : List mx_V} {h : mx_H} {Q : Option mx_V → mx_H → Prop} {i a : Nat} {κ : List mx_V → Prop} (hd : decode (mx_by mid) pc = .ok (.invokestatic i, 3)) (hw : mx_mw (mx_me mid).1 i a) (kk : ∀ r, κ r → mx_T E fin (d + 1) bc bs mid (pc + 3) lv r h Q) (hk : mx_mth a st κ) : mx_T E fin (d + 1) bc bs mid pc lv st h Q := by
  unfold mx_mth at hk
  unfold mx_mw at hw
  split at hk
  · obtain ⟨q1, q2⟩ := mx_if_t hk; exact mx_mabs hd hw (Nat.le_of_ble_eq_true q1) (kk _ q2)
  · obtain ⟨q1, q2⟩ := mx_if_t hk; exact mx_mabsl hd hw (Nat.le_of_ble_eq_true q1) (kk _ q2)
  · obtain ⟨q1, q2⟩ := mx_if_t hk; exact mx_mmax hd hw (Nat.le_of_ble_eq_true q1) (kk _ q2)
  · obtain ⟨q1, q2⟩ := mx_if_t hk; exact mx_mmaxl hd hw (Nat.le_of_ble_eq_true q1) (kk _ q2)
  · obtain ⟨q1, q2⟩ := mx_if_t hk; exact mx_mmin hd hw (Nat.le_of_ble_eq_true q1) (kk _ q2)
  · obtain ⟨q1, q2⟩ := mx_if_t hk; exact mx_mminl hd hw (Nat.le_of_ble_eq_true q1) (kk _ q2)
  · exact hk.elim
end
section
/-! ===== what a stretch of code asks: computed, and sound ===== -/
/-- the constant references, once a cell is ready -/
def mx_fn (md : Bool) (a : mx_A) (k : Nat) : Option mx_A := match md with
  | true => mx_fr a k
  | false => none
def mx_lt (mid i : Nat) : Bool := Nat.blt i (mx_nL mid)
/-- what a field holds: a constant cell, a shape or null, a number -/
def mx_rdf (md : Bool) (h : mx_H) (a : mx_A) (ci k : Nat) (κ : mx_V → Prop) : Prop :=
  match mx_ff ci k with
  | 2 => match mx_fn md a k with
    | some b => κ (.inr b)
    | none => (∀ j, h.2.2.2 a k = some (.inr (j, 0)) → κ (.inr (.inr (j, 0)))) ∧ (h.2.2.2 a k = none → κ (.inl .null)) ∧ (∀ b, h.2.2.2 a k = some b → ∃ j, b = .inr (j, 0))
  | _ => κ (.inl (.int (h.2.1 a k)))
def mx_pkb (ci k : Nat) (v : mx_V) (P : Prop) : Prop := match mx_ff ci k, v with
  | 0, .inl (.int _) => P
  | 1, .inl (.int x) => (x = 0 ∨ x = 1) ∧ P
  | 2, .inr _ => P
  | 2, .inl .null => P
  | _, _ => False
def mx_cnd (c : Jvm.ClassFile.Cond) (x y : Int32) : Prop := match c with
  | .eq => x = y
  | .ne => x ≠ y
  | .lt => x < y
  | .ge => y ≤ x
  | .gt => y < x
  | .le => x ≤ y
def mx_fl (mid idx ci k : Nat) : Prop := ci < 13 ∧ k < (mx_cr ci).2.2 ∧ Cond.fieldLink (mx_ow mid) idx (mx_fT ci k).1 (mx_fT ci k).2.1 (mx_fT ci k).2.2.1 ∈ mx_ws ∧ mx_fok ci k
theorem mx_rdf_s {md : Bool} {h : mx_H} {x : mx_A} {ci k : Nat} {κ : mx_V → Prop} {E : mx_Ev} {d bc bs mid pc pc' : Nat} {lv : mx_Lv} {r : List mx_V} {Q : Option mx_V → mx_H → Prop}
    (rule : mx_T E (mx_fn md) d bc bs mid pc' lv (mx_fw h x ci k :: r) h Q → mx_T E (mx_fn md) d bc bs mid pc lv (.inr x :: r) h Q) (h2 : ∀ v, κ v → mx_T E (mx_fn md) d bc bs mid pc' lv (v :: r) h Q) (hk : mx_rdf md h x ci k κ) : mx_T E (mx_fn md) d bc bs mid pc lv (.inr x :: r) h Q := by
  intro p e R s m args below meth c H locs cells slots Qw ls hS hD q1 q2 q3 q4 q5 q6
  have hwx : mx_wfa h.1 x := q4 (.inr x) List.mem_cons_self
  refine rule ?_ p e R s m args below meth c H locs cells slots Qw ls hS hD q1 q2 q3 q4 q5 q6
  unfold mx_rdf at hk
  unfold mx_fw
  split at hk
  · next hf =>
    rw [if_pos hf]
    split at hk
    · next b hb =>
      rw [hD.2.2.2.2.2 x k b hb hwx]
      exact h2 _ hk
    · obtain ⟨k1, k2, k3⟩ := hk
      cases hr : h.2.2.2 x k with
      | none => exact h2 _ (k2 hr)
      | some t =>
        obtain ⟨j, rfl⟩ := k3 t hr
        exact h2 _ (k1 j hr)
  · next hf =>
    rw [if_neg hf]
    exact h2 _ hk
theorem mx_pkb_s {ci k : Nat} {v : mx_V} {P : Prop} (hf : mx_fok ci k) (h : mx_pkb ci k v P) : mx_pk ci k v ∧ P := by
  unfold mx_pkb at h
  split at h
  · next h1 => exact ⟨by rcases hf with ⟨q, q2⟩ | ⟨q, -⟩ | ⟨q, -⟩ | ⟨q, -⟩ <;> first | exact Or.inl q2 | (rw [h1] at q; cases q), h⟩
  · next h1 => exact ⟨by rcases hf with ⟨q, -⟩ | ⟨q, q2⟩ | ⟨q, -⟩ | ⟨q, -⟩ <;> first | exact Or.inr ⟨q2, h.1⟩ | (rw [h1] at q; cases q), h.2⟩
  · next h1 => exact ⟨by rcases hf with ⟨q, -⟩ | ⟨q, -⟩ | ⟨q, q2⟩ | ⟨q, q2⟩ <;> first | exact Or.inl q2 | exact Or.inr q2 | (rw [h1] at q; cases q), h⟩
  · next h1 => exact ⟨by rcases hf with ⟨q, -⟩ | ⟨q, -⟩ | ⟨q, q2⟩ | ⟨q, q2⟩ <;> first | exact Or.inl q2 | exact Or.inr q2 | (rw [h1] at q; cases q), h⟩
  · exact h.elim
def mx_ax (mid pc : Nat) (ins : Instr) (len a b z : Nat) (c : Int32) (l : Int64) : Prop := match ins with
  | .iconst n => len = 1 ∧ (Int32.ofInt n = c)
  | .bipush n => len = 2 ∧ ((Int8.ofInt n).toInt32 = c)
  | .sipush n => len = 3 ∧ ((Int16.ofInt n).toInt32 = c)
  | .lconst n => len = 1 ∧ (Int64.ofNat (n : Nat) = l)
  | .ldc n => len = 2 ∧ (Cond.constant (mx_ow mid) n c ∈ mx_ws)
  | .ldc_w n => len = 3 ∧ (Cond.constant (mx_ow mid) n c ∈ mx_ws)
  | .ldc2_w n => len = 3 ∧ (Cond.constantLong (mx_ow mid) n l ∈ mx_ws)
  | .aconst_null => len = 1 ∧ (True)
  | .iload_n n => len = 1 ∧ (True)
  | .iload n => len = 2 ∧ (True)
  | .lload_n n => len = 1 ∧ (True)
  | .lload n => len = 2 ∧ (True)
  | .aload_n n => len = 1 ∧ (True)
  | .aload n => len = 2 ∧ (True)
  | .istore_n n => len = 1 ∧ (n.val < mx_nL mid)
  | .istore n => len = 2 ∧ (n < mx_nL mid)
  | .lstore_n n => len = 1 ∧ (n.val + 1 < mx_nL mid)
  | .lstore n => len = 2 ∧ (n + 1 < mx_nL mid)
  | .astore_n n => len = 1 ∧ (n.val < mx_nL mid)
  | .astore n => len = 2 ∧ (n < mx_nL mid)
  | .iinc n k => len = 3 ∧ (Int32.ofInt k = c ∧ n < mx_nL mid)
  | .iadd => len = 1 ∧ (True)
  | .isub => len = 1 ∧ (True)
  | .imul => len = 1 ∧ (True)
  | .iand => len = 1 ∧ (True)
  | .ior => len = 1 ∧ (True)
  | .ixor => len = 1 ∧ (True)
  | .ishl => len = 1 ∧ (True)
  | .ishr => len = 1 ∧ (True)
  | .iushr => len = 1 ∧ (True)
  | .idiv => len = 1 ∧ (True)
  | .irem => len = 1 ∧ (True)
  | .ladd => len = 1 ∧ (True)
  | .lsub => len = 1 ∧ (True)
  | .lmul => len = 1 ∧ (True)
  | .land => len = 1 ∧ (True)
  | .lor => len = 1 ∧ (True)
  | .ldiv => len = 1 ∧ (True)
  | .lshl => len = 1 ∧ (True)
  | .lcmp => len = 1 ∧ (True)
  | .ineg => len = 1 ∧ (True)
  | .lneg => len = 1 ∧ (True)
  | .i2l => len = 1 ∧ (True)
  | .l2i => len = 1 ∧ (True)
  | .i2b => len = 1 ∧ (True)
  | .i2s => len = 1 ∧ (True)
  | .goto k => len = 3 ∧ ((pc : Int) + k = a)
  | .pop => len = 1 ∧ (True)
  | .dup => len = 1 ∧ (True)
  | .dup2 => len = 1 ∧ (True)
  | .ifCond cd k => len = 3 ∧ ((pc : Int) + k = a)
  | .if_icmp cd k => len = 3 ∧ ((pc : Int) + k = a)
  | .ifnull k => len = 3 ∧ ((pc : Int) + k = a)
  | .ifnonnull k => len = 3 ∧ ((pc : Int) + k = a)
  | .tableswitch df lo hi offs => (0 ≤ (pc : Int) + df ∧ (∀ o ∈ offs, 0 ≤ (pc : Int) + o) ∧ (hi - lo + 1).toNat ≤ offs.size)
  | .lookupswitch df ps => ((ps.toList.zip (ps.toList.drop 1)).all (fun (a, next) => a.1 < next.1) = true)
  | .ireturn => len = 1 ∧ (mx_rt mid = some .int ∨ mx_rt mid = some .boolean)
  | .lreturn => len = 1 ∧ (mx_rt mid = some .long)
  | .areturn => len = 1 ∧ (mx_rt mid = some (.object RX7))
  | .return_ => len = 1 ∧ (mx_rt mid = none)
  | .iaload => len = 1 ∧ (True)
  | .baload => len = 1 ∧ (True)
  | .laload => len = 1 ∧ (True)
  | .aaload => len = 1 ∧ (True)
  | .arraylength => len = 1 ∧ (True)
  | .iastore => len = 1 ∧ (True)
  | .lastore => len = 1 ∧ (True)
  | .bastore => len = 1 ∧ (True)
  | .aastore => len = 1 ∧ (True)
  | .getfield n => len = 3 ∧ (mx_fl mid n a b)
  | .putfield n => len = 3 ∧ (mx_fl mid n a b ∧ ((mx_fT a b).2.2.2 = false ∨ ((mx_fT a b).2.2.2 = true ∧ (mx_y mid).name = "<init>" ∧ (mx_fT a b).1 = mx_ow mid)))
  | .getstatic n => len = 3 ∧ ((a = 0 ∧ Cond.fieldLink (mx_ow mid) n RX4 "KIND_ABOVE" "[I" ∈ mx_ws) ∨ (a = 1 ∧ Cond.fieldLink (mx_ow mid) n RX4 "ACTS" "[I" ∈ mx_ws))
  | .new n => len = 3 ∧ (a < 13 ∧ (∀ j, j < (mx_cr a).2.2 → mx_fok a j) ∧ Cond.classLink (mx_ow mid) n (mx_cr a).1 ∈ mx_ws ∧ Cond.instantiable (mx_cr a).1 (mx_cr a).2.2 ∈ mx_ws ∧ Cond.initialized (mx_cr a).1 ∈ mx_ws)
  | .newarray t => len = 2 ∧ (mx_ak t ≤ 3 ∧ Cond.arrayClass (newarray.typeOf t) ∈ mx_ws)
  | .anewarray n => len = 3 ∧ (Cond.classLink (mx_ow mid) n RX7 ∈ mx_ws)
  | .invokestatic n => len = 3 ∧ ((Nat.beq z 2 = false ∧ mx_MK a ∧ mx_LK mid n a b 0 (Nat.beq z 1)) ∨ (Nat.beq z 2 = true ∧ mx_mw (mx_me mid).1 n a))
  | .invokevirtual n => len = 3 ∧ (mx_MK a ∧ mx_LK mid n a b 1 false ∧ (mx_me a).1 < 13 ∧ (mx_y a).cls = (mx_cr (mx_me a).1).1)
  | .invokespecial n => len = 3 ∧ ((a = 1000 ∧ Cond.methodLink (mx_ow mid) n Lib.objectInit ∈ mx_ws ∧ Cond.instanceMethod Lib.objectInit ∈ mx_ws ∧ Cond.code Lib.objectInit ⟨#[0xb1]⟩ 1 none ∈ mx_ws) ∨ (a ≠ 1000 ∧ mx_MK a ∧ mx_LK mid n a b 2 (Nat.beq z 1)))
  | _ => False
def mx_gd (mid : Nat) (en : mx_En) : Prop := decode (mx_by mid) en.1 = .ok (en.2.1, en.2.2.1) ∧ mx_ax mid en.1 en.2.1 en.2.2.1 en.2.2.2.1 en.2.2.2.2.1 en.2.2.2.2.2.1 en.2.2.2.2.2.2.1 en.2.2.2.2.2.2.2
/-- one instruction: what it asks of what follows -/
def mx_one (E : mx_Ev) (md : Bool) (d bc bs mid pc : Nat) (ins : Instr) (a b z : Nat) (c : Int32) (l : Int64) (lv : mx_Lv) (st : List mx_V) (h : mx_H) (Q : Option mx_V → mx_H → Prop) (κ TT : Nat → Nat → Nat → mx_Lv → List mx_V → mx_H → Prop) : Prop := match ins with
  | .iconst n => κ bc bs (pc + 1) lv (.inl (.int c) :: st) h
  | .bipush n => κ bc bs (pc + 2) lv (.inl (.int c) :: st) h
  | .sipush n => κ bc bs (pc + 3) lv (.inl (.int c) :: st) h
  | .lconst n => κ bc bs (pc + 1) lv (.inl (.long l) :: st) h
  | .ldc n => κ bc bs (pc + 2) lv (.inl (.int c) :: st) h
  | .ldc_w n => κ bc bs (pc + 3) lv (.inl (.int c) :: st) h
  | .ldc2_w n => κ bc bs (pc + 3) lv (.inl (.long l) :: st) h
  | .aconst_null => κ bc bs (pc + 1) lv (.inl .null :: st) h
  | .iload_n n => match mx_get lv n.val with | some (.inl (.int x)) => κ bc bs (pc + 1) lv (.inl (.int x) :: st) h | _ => False
  | .iload n => match mx_get lv n with | some (.inl (.int x)) => κ bc bs (pc + 2) lv (.inl (.int x) :: st) h | _ => False
  | .lload_n n => match mx_get lv n.val with | some (.inl (.long x)) => κ bc bs (pc + 1) lv (.inl (.long x) :: st) h | _ => False
  | .lload n => match mx_get lv n with | some (.inl (.long x)) => κ bc bs (pc + 2) lv (.inl (.long x) :: st) h | _ => False
  | .aload_n n => match mx_get lv n.val with | some x => mx_if (mx_isr x) (κ bc bs (pc + 1) lv (x :: st) h) | none => False
  | .aload n => match mx_get lv n with | some x => mx_if (mx_isr x) (κ bc bs (pc + 2) lv (x :: st) h) | none => False
  | .istore_n n => match st with | .inl (.int x) :: r => κ bc bs (pc + 1) (mx_set1 lv n.val (.inl (.int x))) r h | _ => False
  | .istore n => match st with | .inl (.int x) :: r => κ bc bs (pc + 2) (mx_set1 lv n (.inl (.int x))) r h | _ => False
  | .lstore_n n => match st with | .inl (.long x) :: r => κ bc bs (pc + 1) (mx_set2 lv n.val (.inl (.long x))) r h | _ => False
  | .lstore n => match st with | .inl (.long x) :: r => κ bc bs (pc + 2) (mx_set2 lv n (.inl (.long x))) r h | _ => False
  | .astore_n n => match st with | x :: r => mx_if (mx_isr x) (κ bc bs (pc + 1) (mx_set1 lv n.val x) r h) | _ => False
  | .astore n => match st with | x :: r => mx_if (mx_isr x) (κ bc bs (pc + 2) (mx_set1 lv n x) r h) | _ => False
  | .iinc n k => match mx_get lv n with | some (.inl (.int x)) => κ bc bs (pc + 3) (mx_set1 lv n (.inl (.int (x + c)))) st h | _ => False
  | .iadd => match st with | .inl (.int y) :: .inl (.int x) :: r => κ bc bs (pc + 1) lv (.inl (.int (x + y)) :: r) h | _ => False
  | .isub => match st with | .inl (.int y) :: .inl (.int x) :: r => κ bc bs (pc + 1) lv (.inl (.int (x - y)) :: r) h | _ => False
  | .imul => match st with | .inl (.int y) :: .inl (.int x) :: r => κ bc bs (pc + 1) lv (.inl (.int (x * y)) :: r) h | _ => False
  | .iand => match st with | .inl (.int y) :: .inl (.int x) :: r => κ bc bs (pc + 1) lv (.inl (.int (x &&& y)) :: r) h | _ => False
  | .ior => match st with | .inl (.int y) :: .inl (.int x) :: r => κ bc bs (pc + 1) lv (.inl (.int (x ||| y)) :: r) h | _ => False
  | .ixor => match st with | .inl (.int y) :: .inl (.int x) :: r => κ bc bs (pc + 1) lv (.inl (.int (x ^^^ y)) :: r) h | _ => False
  | .ishl => match st with | .inl (.int y) :: .inl (.int x) :: r => κ bc bs (pc + 1) lv (.inl (.int (x <<< (y &&& 31))) :: r) h | _ => False
  | .ishr => match st with | .inl (.int y) :: .inl (.int x) :: r => κ bc bs (pc + 1) lv (.inl (.int (x >>> (y &&& 31))) :: r) h | _ => False
  | .iushr => match st with | .inl (.int y) :: .inl (.int x) :: r => κ bc bs (pc + 1) lv (.inl (.int ((x.toUInt32 >>> (y.toUInt32 &&& Int32.toUInt32 31)).toInt32)) :: r) h | _ => False
  | .idiv => match st with | .inl (.int y) :: .inl (.int x) :: r => (¬ y = 0) ∧ κ bc bs (pc + 1) lv (.inl (.int (x / y)) :: r) h | _ => False
  | .irem => match st with | .inl (.int y) :: .inl (.int x) :: r => (¬ y = 0) ∧ κ bc bs (pc + 1) lv (.inl (.int (x - x / y * y)) :: r) h | _ => False
  | .ladd => match st with | .inl (.long y) :: .inl (.long x) :: r => κ bc bs (pc + 1) lv (.inl (.long (x + y)) :: r) h | _ => False
  | .lsub => match st with | .inl (.long y) :: .inl (.long x) :: r => κ bc bs (pc + 1) lv (.inl (.long (x - y)) :: r) h | _ => False
  | .lmul => match st with | .inl (.long y) :: .inl (.long x) :: r => κ bc bs (pc + 1) lv (.inl (.long (x * y)) :: r) h | _ => False
  | .land => match st with | .inl (.long y) :: .inl (.long x) :: r => κ bc bs (pc + 1) lv (.inl (.long (x &&& y)) :: r) h | _ => False
  | .lor => match st with | .inl (.long y) :: .inl (.long x) :: r => κ bc bs (pc + 1) lv (.inl (.long (x ||| y)) :: r) h | _ => False
  | .ldiv => match st with | .inl (.long y) :: .inl (.long x) :: r => (¬ y = 0) ∧ κ bc bs (pc + 1) lv (.inl (.long (x / y)) :: r) h | _ => False
  | .lshl => match st with | .inl (.int y) :: .inl (.long x) :: r => κ bc bs (pc + 1) lv (.inl (.long (x <<< (y.toInt64 &&& 63))) :: r) h | _ => False
  | .lcmp => match st with | .inl (.long y) :: .inl (.long x) :: r => κ bc bs (pc + 1) lv (.inl (.int (lg_cmp x y)) :: r) h | _ => False
  | .ineg => match st with | .inl (.int x) :: r => κ bc bs (pc + 1) lv (.inl (.int (-x)) :: r) h | _ => False
  | .lneg => match st with | .inl (.long x) :: r => κ bc bs (pc + 1) lv (.inl (.long (-x)) :: r) h | _ => False
  | .i2l => match st with | .inl (.int x) :: r => κ bc bs (pc + 1) lv (.inl (.long (x.toInt64)) :: r) h | _ => False
  | .l2i => match st with | .inl (.long x) :: r => κ bc bs (pc + 1) lv (.inl (.int (x.toInt32)) :: r) h | _ => False
  | .i2b => match st with | .inl (.int x) :: r => κ bc bs (pc + 1) lv (.inl (.int (x.toInt8.toInt32)) :: r) h | _ => False
  | .i2s => match st with | .inl (.int x) :: r => κ bc bs (pc + 1) lv (.inl (.int (x.toInt16.toInt32)) :: r) h | _ => False
  | .goto k => κ bc bs a lv st h
  | .pop => match st with | x :: r => mx_if (Nat.beq (mx_cat x) 1) (κ bc bs (pc + 1) lv r h) | _ => False
  | .dup => match st with | x :: r => mx_if (Nat.beq (mx_cat x) 1) (κ bc bs (pc + 1) lv (x :: x :: r) h) | _ => False
  | .dup2 => match st with | x :: y :: r => mx_if (Nat.beq (mx_cat x) 1 && Nat.beq (mx_cat y) 1) (κ bc bs (pc + 1) lv (x :: y :: x :: y :: r) h) | _ => False
  | .ifCond cd k => match st with | .inl (.int x) :: r => (mx_cnd cd x 0 → κ bc bs a lv r h) ∧ (¬ mx_cnd cd x 0 → κ bc bs (pc + 3) lv r h) | _ => False
  | .if_icmp cd k => match st with | .inl (.int y) :: .inl (.int x) :: r => (mx_cnd cd x y → κ bc bs a lv r h) ∧ (¬ mx_cnd cd x y → κ bc bs (pc + 3) lv r h) | _ => False
  | .ifnull k => match st with | .inr _ :: r => κ bc bs (pc + 3) lv r h | .inl .null :: r => κ bc bs a lv r h | _ => False
  | .ifnonnull k => match st with | .inr _ :: r => κ bc bs a lv r h | .inl .null :: r => κ bc bs (pc + 3) lv r h | _ => False
  | .tableswitch df lo hi offs => match st with | .inl (.int x) :: r => ∀ tgt : Nat, ((x.toInt < lo ∨ hi < x.toInt) ∧ (pc : Int) + df = tgt) ∨ (lo ≤ x.toInt ∧ x.toInt ≤ hi ∧ ∃ o, offs[(x.toInt - lo).toNat]? = some o ∧ (pc : Int) + o = tgt) → TT bc bs tgt lv r h | _ => False
  | .lookupswitch df ps => match st with | .inl (.int x) :: r => (0 ≤ (pc : Int) + Op.lookupswitch.offset ps.toList df x.toInt) ∧ TT bc bs ((pc : Int) + Op.lookupswitch.offset ps.toList df x.toInt).toNat lv r h | _ => False
  | .ireturn => match st with | [.inl (.int x)] => (match mx_rt mid with | some .boolean => (x = 0 ∨ x = 1) ∧ Q (some (.inl (.int x))) h | _ => Q (some (.inl (.int x))) h) | _ => False
  | .lreturn => match st with | [.inl (.long x)] => Q (some (.inl (.long x))) h | _ => False
  | .areturn => match st with | [.inl .null] => Q (some (.inl .null)) h | [.inr x] => Q (some (.inr x)) h | _ => False
  | .return_ => match st with | [] => Q none h | _ => False
  | .iaload => match st with | .inl (.int i) :: .inr x :: r => mx_if (Nat.beq (mx_lo x).1 100) (vp_in i (mx_lo x).2 ∧ κ bc bs (pc + 1) lv (.inl (.int (h.2.1 x i.toNatClampNeg)) :: r) h) | .inl (.int i) :: .inl (.float u) :: r => (u = 0 ∨ u = 1 ∨ u = 2) ∧ vp_in i (mx_slen E u) ∧ κ bc bs (pc + 1) lv (.inl (.int (mx_sval E u i.toNatClampNeg)) :: r) h | _ => False
  | .baload => match st with | .inl (.int i) :: .inr x :: r => mx_if (Nat.beq (mx_lo x).1 102 || Nat.beq (mx_lo x).1 103) (vp_in i (mx_lo x).2 ∧ κ bc bs (pc + 1) lv (.inl (.int (h.2.1 x i.toNatClampNeg)) :: r) h) | _ => False
  | .laload => match st with | .inl (.int i) :: .inr x :: r => mx_if (Nat.beq (mx_lo x).1 101) (vp_in i (mx_lo x).2 ∧ κ bc bs (pc + 1) lv (.inl (.long (h.2.2.1 x i.toNatClampNeg)) :: r) h) | _ => False
  | .aaload => match st with | .inl (.int i) :: .inr x :: r => (match (mx_lo x).1 with | 104 => vp_in i (mx_lo x).2 ∧ (∀ j, h.2.2.2 x i.toNatClampNeg = some (.inr (j, 0)) → κ bc bs (pc + 1) lv (.inr (.inr (j, 0)) :: r) h) ∧ (h.2.2.2 x i.toNatClampNeg = none → κ bc bs (pc + 1) lv (.inl .null :: r) h) ∧ (∀ t, h.2.2.2 x i.toNatClampNeg = some t → ∃ j, t = .inr (j, 0)) | 105 => vp_in i (mx_lo x).2 ∧ mx_fn md x i.toNatClampNeg = some (.inr (i.toNatClampNeg, 20)) ∧ κ bc bs (pc + 1) lv (.inr (.inr (i.toNatClampNeg, 20)) :: r) h | _ => False) | _ => False
  | .arraylength => match st with | .inr x :: r => mx_if (Nat.beq (mx_lo x).1 100 || Nat.beq (mx_lo x).1 101) (κ bc bs (pc + 1) lv (.inl (.int (Int32.ofNat (mx_lo x).2)) :: r) h) | .inl (.float u) :: r => (u = 0 ∨ u = 1 ∨ u = 2) ∧ κ bc bs (pc + 1) lv (.inl (.int (Int32.ofNat (mx_slen E u))) :: r) h | _ => False
  | .iastore => match st with | .inl (.int y) :: .inl (.int i) :: .inr x :: r => mx_if (Nat.beq (mx_lo x).1 100) (vp_in i (mx_lo x).2 ∧ κ bc bs (pc + 1) lv r (mx_uI h x i.toNatClampNeg y)) | _ => False
  | .lastore => match st with | .inl (.long y) :: .inl (.int i) :: .inr x :: r => mx_if (Nat.beq (mx_lo x).1 101) (vp_in i (mx_lo x).2 ∧ κ bc bs (pc + 1) lv r (mx_uL h x i.toNatClampNeg y)) | _ => False
  | .bastore => match st with | .inl (.int y) :: .inl (.int i) :: .inr x :: r => (match (mx_lo x).1 with | 102 => vp_in i (mx_lo x).2 ∧ κ bc bs (pc + 1) lv r (mx_uI h x i.toNatClampNeg (vp_nar .byte y)) | 103 => vp_in i (mx_lo x).2 ∧ κ bc bs (pc + 1) lv r (mx_uI h x i.toNatClampNeg (vp_nar .boolean y)) | _ => False) | _ => False
  | .aastore => match st with | .inr (.inr (j, 0)) :: .inl (.int i) :: .inr x :: r => mx_if (Nat.beq (mx_lo x).1 104) (vp_in i (mx_lo x).2 ∧ mx_fn md x i.toNatClampNeg = none ∧ κ bc bs (pc + 1) lv r (mx_uR h x i.toNatClampNeg (some (.inr (j, 0))))) | .inl .null :: .inl (.int i) :: .inr x :: r => mx_if (Nat.beq (mx_lo x).1 104) (vp_in i (mx_lo x).2 ∧ mx_fn md x i.toNatClampNeg = none ∧ κ bc bs (pc + 1) lv r (mx_uR h x i.toNatClampNeg none)) | _ => False
  | .getfield n => match st with | .inr x :: r => mx_if (mx_lo x == (a, (mx_cr a).2.2)) (mx_rdf md h x a b (fun v => κ bc bs (pc + 3) lv (v :: r) h)) | _ => False
  | .putfield n => match st with | v :: .inr x :: r => mx_if (mx_lo x == (a, (mx_cr a).2.2)) (mx_pkb a b v (match mx_fn md x b with | none => κ bc bs (pc + 3) lv r (mx_pf h x b v) | some _ => False)) | _ => False
  | .getstatic n => match a with | 0 => κ bc bs (pc + 3) lv (.inl (.float 0) :: st) h | 1 => κ bc bs (pc + 3) lv (.inl (.float 1) :: st) h | _ => False
  | .new n => mx_if (!md && Nat.ble 1 bc && Nat.ble (mx_cr a).2.2 bs) (∃ x, mx_pos x = h.1 ∧ mx_va x ∧ mx_lo x = (a, (mx_cr a).2.2) ∧ κ (bc - 1) (bs - (mx_cr a).2.2) (pc + 3) lv (.inr x :: st) (mx_nw h x))
  | .newarray t => match st with | .inl (.int n) :: r => mx_if (!md && Nat.ble 1 bc && Nat.ble n.toNatClampNeg bs && Nat.ble n.toNatClampNeg 60000) (¬ n < 0 ∧ ∃ x, mx_pos x = h.1 ∧ mx_va x ∧ mx_lo x = (100 + mx_ak t, n.toNatClampNeg) ∧ κ (bc - 1) (bs - n.toNatClampNeg) (pc + 2) lv (.inr x :: r) (mx_nw h x)) | _ => False
  | .anewarray n => match st with | .inl (.int n) :: r => mx_if (!md && Nat.ble 1 bc && Nat.ble n.toNatClampNeg bs && Nat.ble n.toNatClampNeg 60000) (¬ n < 0 ∧ ∃ x, mx_pos x = h.1 ∧ mx_va x ∧ mx_lo x = (104, n.toNatClampNeg) ∧ κ (bc - 1) (bs - n.toNatClampNeg) (pc + 3) lv (.inr x :: r) (mx_nw h x)) | _ => False
  | .invokestatic n => match d with | 0 => False | e + 1 => match Nat.beq z 2 with | true => mx_mth a st (fun r => κ bc bs (pc + 3) lv r h) | false => mx_if (Nat.ble b st.length && Nat.ble (((st.take b).map mx_cat).sum) (mx_nL a) && Nat.ble (((st.drop b).map mx_cat).sum) 8 && Nat.ble (mx_bu a).1 bc && Nat.ble (mx_bu a).2 bs) (mx_C E (mx_fn md) e a (st.take b).reverse h (fun v h' => κ (bc - (mx_bu a).1) (bs - (mx_bu a).2) (pc + 3) lv (v.toList ++ st.drop b) h'))
  | .invokevirtual n => match d with | 0 => False | e + 1 => (match st.drop b with | .inr x :: r => mx_if (Nat.ble b st.length && Nat.ble (1 + ((st.take b).map mx_cat).sum) (mx_nL a) && Nat.ble ((r.map mx_cat).sum) 8 && Nat.ble (mx_bu a).1 bc && Nat.ble (mx_bu a).2 bs && (mx_lo x == ((mx_me a).1, (mx_cr (mx_me a).1).2.2))) (mx_C E (mx_fn md) e a (.inr x :: (st.take b).reverse) h (fun v h' => κ (bc - (mx_bu a).1) (bs - (mx_bu a).2) (pc + 3) lv (v.toList ++ r) h')) | _ => False)
  | .invokespecial n => match d with | 0 => False | e + 1 => (match Nat.beq a 1000 with | true => (match st with | .inr _ :: r => mx_if (Nat.ble ((r.map mx_cat).sum) 8) (κ bc bs (pc + 3) lv r h) | _ => False) | false => (match st.drop b with | .inr x :: r => mx_if (Nat.ble b st.length && Nat.ble (1 + ((st.take b).map mx_cat).sum) (mx_nL a) && Nat.ble ((r.map mx_cat).sum) 8 && Nat.ble (mx_bu a).1 bc && Nat.ble (mx_bu a).2 bs) (mx_C E (mx_fn md) e a (.inr x :: (st.take b).reverse) h (fun v h' => κ (bc - (mx_bu a).1) (bs - (mx_bu a).2) (pc + 3) lv (v.toList ++ r) h')) | _ => False))
  | _ => False
set_option maxHeartbeats 4000000 in
theorem mx_one_sound {E : mx_Ev} {md : Bool} {d bc bs mid pc : Nat} {ins : Instr} {len a b z : Nat} {c : Int32} {l : Int64} {lv : mx_Lv} {st : List mx_V} {h : mx_H} {Q : Option mx_V → mx_H → Prop} {κ TT : Nat → Nat → Nat → mx_Lv → List mx_V → mx_H → Prop}
    (hd : decode (mx_by mid) pc = .ok (ins, len)) (hg : mx_ax mid pc ins len a b z c l) (kk : ∀ bc bs pc lv st h, κ bc bs pc lv st h → mx_T E (mx_fn md) d bc bs mid pc lv st h Q) (kt : ∀ bc bs pc lv st h, TT bc bs pc lv st h → mx_T E (mx_fn md) d bc bs mid pc lv st h Q)
    (hk : mx_one E md d bc bs mid pc ins a b z c l lv st h Q κ TT) : mx_T E (mx_fn md) d bc bs mid pc lv st h Q := by
  cases ins with
  | iconst n =>
    obtain ⟨rfl, g2⟩ := hg
    simp only [mx_one] at hk
    rw [← g2] at hk; exact mx_iconst hd (kk _ _ _ _ _ _ hk)
  | bipush n =>
    obtain ⟨rfl, g2⟩ := hg
    simp only [mx_one] at hk
    rw [← g2] at hk; exact mx_bipush hd (kk _ _ _ _ _ _ hk)
  | sipush n =>
    obtain ⟨rfl, g2⟩ := hg
    simp only [mx_one] at hk
    rw [← g2] at hk; exact mx_sipush hd (kk _ _ _ _ _ _ hk)
  | lconst n =>
    obtain ⟨rfl, g2⟩ := hg
    simp only [mx_one] at hk
    rw [← g2] at hk; exact mx_lconst hd (kk _ _ _ _ _ _ hk)
  | ldc n =>
    obtain ⟨rfl, g2⟩ := hg
    simp only [mx_one] at hk
    exact mx_ldc g2 hd (kk _ _ _ _ _ _ hk)
  | ldc_w n =>
    obtain ⟨rfl, g2⟩ := hg
    simp only [mx_one] at hk
    exact mx_ldcw g2 hd (kk _ _ _ _ _ _ hk)
  | ldc2_w n =>
    obtain ⟨rfl, g2⟩ := hg
    simp only [mx_one] at hk
    exact mx_ldc2 g2 hd (kk _ _ _ _ _ _ hk)
  | aconst_null =>
    obtain ⟨rfl, g2⟩ := hg
    simp only [mx_one] at hk
    exact mx_null hd (kk _ _ _ _ _ _ hk)
  | iload_n n =>
    obtain ⟨rfl, g2⟩ := hg
    simp only [mx_one] at hk
    split at hk
    · next x hx => exact mx_iload_n hd hx (kk _ _ _ _ _ _ hk)
    · exact hk.elim
  | iload n =>
    obtain ⟨rfl, g2⟩ := hg
    simp only [mx_one] at hk
    split at hk
    · next x hx => exact mx_iload hd hx (kk _ _ _ _ _ _ hk)
    · exact hk.elim
  | lload_n n =>
    obtain ⟨rfl, g2⟩ := hg
    simp only [mx_one] at hk
    split at hk
    · next x hx => exact mx_lload_n hd hx (kk _ _ _ _ _ _ hk)
    · exact hk.elim
  | lload n =>
    obtain ⟨rfl, g2⟩ := hg
    simp only [mx_one] at hk
    split at hk
    · next x hx => exact mx_lload hd hx (kk _ _ _ _ _ _ hk)
    · exact hk.elim
  | aload_n n =>
    obtain ⟨rfl, g2⟩ := hg
    simp only [mx_one] at hk
    split at hk
    · next x hx => exact mx_aload_n hd hx (mx_if_t hk).1 (kk _ _ _ _ _ _ (mx_if_t hk).2)
    · exact hk.elim
  | aload n =>
    obtain ⟨rfl, g2⟩ := hg
    simp only [mx_one] at hk
    split at hk
    · next x hx => exact mx_aload hd hx (mx_if_t hk).1 (kk _ _ _ _ _ _ (mx_if_t hk).2)
    · exact hk.elim
  | istore_n n =>
    obtain ⟨rfl, g2⟩ := hg
    simp only [mx_one] at hk
    split at hk
    · exact mx_istore_n hd g2 (kk _ _ _ _ _ _ hk)
    · exact hk.elim
  | istore n =>
    obtain ⟨rfl, g2⟩ := hg
    simp only [mx_one] at hk
    split at hk
    · exact mx_istore hd g2 (kk _ _ _ _ _ _ hk)
    · exact hk.elim
  | lstore_n n =>
    obtain ⟨rfl, g2⟩ := hg
    simp only [mx_one] at hk
    split at hk
    · exact mx_lstore_n hd g2 (kk _ _ _ _ _ _ hk)
    · exact hk.elim
  | lstore n =>
    obtain ⟨rfl, g2⟩ := hg
    simp only [mx_one] at hk
    split at hk
    · exact mx_lstore hd g2 (kk _ _ _ _ _ _ hk)
    · exact hk.elim
  | astore_n n =>
    obtain ⟨rfl, g2⟩ := hg
    simp only [mx_one] at hk
    split at hk
    · exact mx_astore_n hd (mx_if_t hk).1 g2 (kk _ _ _ _ _ _ (mx_if_t hk).2)
    · exact hk.elim
  | astore n =>
    obtain ⟨rfl, g2⟩ := hg
    simp only [mx_one] at hk
    split at hk
    · exact mx_astore hd (mx_if_t hk).1 g2 (kk _ _ _ _ _ _ (mx_if_t hk).2)
    · exact hk.elim
  | iinc n k =>
    obtain ⟨rfl, g2⟩ := hg
    simp only [mx_one] at hk
    obtain ⟨g2, g3⟩ := g2
    split at hk
    · next x hx => rw [← g2] at hk; exact mx_iinc hd hx g3 (kk _ _ _ _ _ _ hk)
    · exact hk.elim
  | iadd =>
    obtain ⟨rfl, g2⟩ := hg
    simp only [mx_one] at hk
    split at hk
    · exact mx_iadd hd (kk _ _ _ _ _ _ hk)
    · exact hk.elim
  | isub =>
    obtain ⟨rfl, g2⟩ := hg
    simp only [mx_one] at hk
    split at hk
    · exact mx_isub hd (kk _ _ _ _ _ _ hk)
    · exact hk.elim
  | imul =>
    obtain ⟨rfl, g2⟩ := hg
    simp only [mx_one] at hk
    split at hk
    · exact mx_imul hd (kk _ _ _ _ _ _ hk)
    · exact hk.elim
  | iand =>
    obtain ⟨rfl, g2⟩ := hg
    simp only [mx_one] at hk
    split at hk
    · exact mx_iand hd (kk _ _ _ _ _ _ hk)
    · exact hk.elim
  | ior =>
    obtain ⟨rfl, g2⟩ := hg
    simp only [mx_one] at hk
    split at hk
    · exact mx_ior hd (kk _ _ _ _ _ _ hk)
    · exact hk.elim
  | ixor =>
    obtain ⟨rfl, g2⟩ := hg
    simp only [mx_one] at hk
    split at hk
    · exact mx_ixor hd (kk _ _ _ _ _ _ hk)
    · exact hk.elim
  | ishl =>
    obtain ⟨rfl, g2⟩ := hg
    simp only [mx_one] at hk
    split at hk
    · exact mx_ishl hd (kk _ _ _ _ _ _ hk)
    · exact hk.elim
  | ishr =>
    obtain ⟨rfl, g2⟩ := hg
    simp only [mx_one] at hk
    split at hk
    · exact mx_ishr hd (kk _ _ _ _ _ _ hk)
    · exact hk.elim
  | iushr =>
    obtain ⟨rfl, g2⟩ := hg
    simp only [mx_one] at hk
    split at hk
    · exact mx_iushr hd (kk _ _ _ _ _ _ hk)
    · exact hk.elim
  | idiv =>
    obtain ⟨rfl, g2⟩ := hg
    simp only [mx_one] at hk
    split at hk
    · exact mx_idiv hd hk.1 (kk _ _ _ _ _ _ hk.2)
    · exact hk.elim
  | irem =>
    obtain ⟨rfl, g2⟩ := hg
    simp only [mx_one] at hk
    split at hk
    · exact mx_irem hd hk.1 (kk _ _ _ _ _ _ hk.2)
    · exact hk.elim
  | ladd =>
    obtain ⟨rfl, g2⟩ := hg
    simp only [mx_one] at hk
    split at hk
    · exact mx_ladd hd (kk _ _ _ _ _ _ hk)
    · exact hk.elim
  | lsub =>
    obtain ⟨rfl, g2⟩ := hg
    simp only [mx_one] at hk
    split at hk
    · exact mx_lsub hd (kk _ _ _ _ _ _ hk)
    · exact hk.elim
  | lmul =>
    obtain ⟨rfl, g2⟩ := hg
    simp only [mx_one] at hk
    split at hk
    · exact mx_lmul hd (kk _ _ _ _ _ _ hk)
    · exact hk.elim
  | land =>
    obtain ⟨rfl, g2⟩ := hg
    simp only [mx_one] at hk
    split at hk
    · exact mx_land hd (kk _ _ _ _ _ _ hk)
    · exact hk.elim
  | lor =>
    obtain ⟨rfl, g2⟩ := hg
    simp only [mx_one] at hk
    split at hk
    · exact mx_lor hd (kk _ _ _ _ _ _ hk)
    · exact hk.elim
  | ldiv =>
    obtain ⟨rfl, g2⟩ := hg
    simp only [mx_one] at hk
    split at hk
    · exact mx_ldiv hd hk.1 (kk _ _ _ _ _ _ hk.2)
    · exact hk.elim
  | lshl =>
    obtain ⟨rfl, g2⟩ := hg
    simp only [mx_one] at hk
    split at hk
    · exact mx_lshl hd (kk _ _ _ _ _ _ hk)
    · exact hk.elim
  | lcmp =>
    obtain ⟨rfl, g2⟩ := hg
    simp only [mx_one] at hk
    split at hk
    · exact mx_lcmp hd (kk _ _ _ _ _ _ hk)
    · exact hk.elim
  | ineg =>
    obtain ⟨rfl, g2⟩ := hg
    simp only [mx_one] at hk
    split at hk
    · exact mx_ineg hd (kk _ _ _ _ _ _ hk)
    · exact hk.elim
  | lneg =>
    obtain ⟨rfl, g2⟩ := hg
    simp only [mx_one] at hk
    split at hk
    · exact mx_lneg hd (kk _ _ _ _ _ _ hk)
    · exact hk.elim
  | i2l =>
    obtain ⟨rfl, g2⟩ := hg
    simp only [mx_one] at hk
    split at hk
    · exact mx_i2l hd (kk _ _ _ _ _ _ hk)
    · exact hk.elim
  | l2i =>
    obtain ⟨rfl, g2⟩ := hg
    simp only [mx_one] at hk
    split at hk
    · exact mx_l2i hd (kk _ _ _ _ _ _ hk)
    · exact hk.elim
  | i2b =>
    obtain ⟨rfl, g2⟩ := hg
    simp only [mx_one] at hk
    split at hk
    · exact mx_i2b hd (kk _ _ _ _ _ _ hk)
    · exact hk.elim
  | i2s =>
    obtain ⟨rfl, g2⟩ := hg
    simp only [mx_one] at hk
    split at hk
    · exact mx_i2s hd (kk _ _ _ _ _ _ hk)
    · exact hk.elim
  | goto k =>
    obtain ⟨rfl, g2⟩ := hg
    simp only [mx_one] at hk
    exact mx_goto hd g2 (kk _ _ _ _ _ _ hk)
  | pop =>
    obtain ⟨rfl, g2⟩ := hg
    simp only [mx_one] at hk
    split at hk
    · exact mx_pop hd (Nat.eq_of_beq_eq_true (mx_if_t hk).1) (kk _ _ _ _ _ _ (mx_if_t hk).2)
    · exact hk.elim
  | dup =>
    obtain ⟨rfl, g2⟩ := hg
    simp only [mx_one] at hk
    split at hk
    · exact mx_dup hd (Nat.eq_of_beq_eq_true (mx_if_t hk).1) (kk _ _ _ _ _ _ (mx_if_t hk).2)
    · exact hk.elim
  | dup2 =>
    obtain ⟨rfl, g2⟩ := hg
    simp only [mx_one] at hk
    split at hk
    · obtain ⟨q1, q2⟩ := mx_if_t hk
      rw [Bool.and_eq_true] at q1
      exact mx_dup2 hd (Nat.eq_of_beq_eq_true q1.1) (Nat.eq_of_beq_eq_true q1.2) (kk _ _ _ _ _ _ q2)
    · exact hk.elim
  | ifCond cd k =>
    obtain ⟨rfl, g2⟩ := hg
    simp only [mx_one] at hk
    split at hk
    · cases cd
      · exact mx_if_eq hd g2 (fun q => kk _ _ _ _ _ _ (hk.1 q)) (fun q => kk _ _ _ _ _ _ (hk.2 q))
      · exact mx_if_ne hd g2 (fun q => kk _ _ _ _ _ _ (hk.1 q)) (fun q => kk _ _ _ _ _ _ (hk.2 q))
      · exact mx_if_lt hd g2 (fun q => kk _ _ _ _ _ _ (hk.1 q)) (fun q => kk _ _ _ _ _ _ (hk.2 q))
      · exact mx_if_ge hd g2 (fun q => kk _ _ _ _ _ _ (hk.1 q)) (fun q => kk _ _ _ _ _ _ (hk.2 q))
      · exact mx_if_gt hd g2 (fun q => kk _ _ _ _ _ _ (hk.1 q)) (fun q => kk _ _ _ _ _ _ (hk.2 q))
      · exact mx_if_le hd g2 (fun q => kk _ _ _ _ _ _ (hk.1 q)) (fun q => kk _ _ _ _ _ _ (hk.2 q))
    · exact hk.elim
  | if_icmp cd k =>
    obtain ⟨rfl, g2⟩ := hg
    simp only [mx_one] at hk
    split at hk
    · cases cd
      · exact mx_ic_eq hd g2 (fun q => kk _ _ _ _ _ _ (hk.1 q)) (fun q => kk _ _ _ _ _ _ (hk.2 q))
      · exact mx_ic_ne hd g2 (fun q => kk _ _ _ _ _ _ (hk.1 q)) (fun q => kk _ _ _ _ _ _ (hk.2 q))
      · exact mx_ic_lt hd g2 (fun q => kk _ _ _ _ _ _ (hk.1 q)) (fun q => kk _ _ _ _ _ _ (hk.2 q))
      · exact mx_ic_ge hd g2 (fun q => kk _ _ _ _ _ _ (hk.1 q)) (fun q => kk _ _ _ _ _ _ (hk.2 q))
      · exact mx_ic_gt hd g2 (fun q => kk _ _ _ _ _ _ (hk.1 q)) (fun q => kk _ _ _ _ _ _ (hk.2 q))
      · exact mx_ic_le hd g2 (fun q => kk _ _ _ _ _ _ (hk.1 q)) (fun q => kk _ _ _ _ _ _ (hk.2 q))
    · exact hk.elim
  | ifnull k =>
    obtain ⟨rfl, g2⟩ := hg
    simp only [mx_one] at hk
    split at hk
    · exact mx_ifnull_r hd (kk _ _ _ _ _ _ hk)
    · exact mx_ifnull_n hd g2 (kk _ _ _ _ _ _ hk)
    · exact hk.elim
  | ifnonnull k =>
    obtain ⟨rfl, g2⟩ := hg
    simp only [mx_one] at hk
    split at hk
    · exact mx_ifnn_r hd g2 (kk _ _ _ _ _ _ hk)
    · exact mx_ifnn_n hd (kk _ _ _ _ _ _ hk)
    · exact hk.elim
  | tableswitch df lo hi offs =>
    have g2 := hg
    simp only [mx_one] at hk
    split at hk
    · exact mx_tsw hd g2.1 g2.2.1 g2.2.2 (fun tgt q => kt _ _ _ _ _ _ (hk tgt q))
    · exact hk.elim
  | lookupswitch df ps =>
    have g2 := hg
    simp only [mx_one] at hk
    split at hk
    · exact mx_lsw hd g2 hk.1 (kt _ _ _ _ _ _ hk.2)
    · exact hk.elim
  | ireturn =>
    obtain ⟨rfl, g2⟩ := hg
    simp only [mx_one] at hk
    split at hk
    · next x =>
      rcases g2 with g2 | g2
      · rw [g2] at hk
        exact mx_end (v := some (.inl (.int x))) hd (Or.inr (Or.inl ⟨x, rfl, rfl, Or.inl g2⟩)) hk
      · rw [g2] at hk
        exact mx_end (v := some (.inl (.int x))) hd (Or.inr (Or.inl ⟨x, rfl, rfl, Or.inr ⟨g2, by rcases hk.1 with rfl | rfl <;> rfl⟩⟩)) hk.2
    · exact hk.elim
  | lreturn =>
    obtain ⟨rfl, g2⟩ := hg
    simp only [mx_one] at hk
    split at hk
    · next x => exact mx_end (v := some (.inl (.long x))) hd (Or.inr (Or.inr (Or.inl ⟨x, rfl, rfl, g2⟩))) hk
    · exact hk.elim
  | areturn =>
    obtain ⟨rfl, g2⟩ := hg
    simp only [mx_one] at hk
    split at hk
    · exact mx_end (v := some (.inl .null)) hd (Or.inr (Or.inr (Or.inr ⟨rfl, Or.inl rfl, g2⟩))) hk
    · next x => exact mx_end (v := some (.inr x)) hd (Or.inr (Or.inr (Or.inr ⟨rfl, Or.inr ⟨x, rfl⟩, g2⟩))) hk
    · exact hk.elim
  | return_ =>
    obtain ⟨rfl, g2⟩ := hg
    simp only [mx_one] at hk
    split at hk
    · exact mx_end (v := none) hd (Or.inl ⟨rfl, rfl, g2⟩) hk
    · exact hk.elim
  | iaload =>
    obtain ⟨rfl, g2⟩ := hg
    simp only [mx_one] at hk
    split at hk
    · obtain ⟨q1, q2, q3⟩ := mx_if_t hk
      exact mx_iaload hd (Nat.eq_of_beq_eq_true q1) q2 (kk _ _ _ _ _ _ q3)
    · exact mx_siald hk.1 hd hk.2.1 (kk _ _ _ _ _ _ hk.2.2)
    · exact hk.elim
  | baload =>
    obtain ⟨rfl, g2⟩ := hg
    simp only [mx_one] at hk
    split at hk
    · obtain ⟨q1, q2, q3⟩ := mx_if_t hk
      rcases (Bool.or_eq_true _ _).mp q1 with q1 | q1
      · exact mx_baload hd (Nat.eq_of_beq_eq_true q1) q2 (kk _ _ _ _ _ _ q3)
      · exact mx_zaload hd (Nat.eq_of_beq_eq_true q1) q2 (kk _ _ _ _ _ _ q3)
    · exact hk.elim
  | laload =>
    obtain ⟨rfl, g2⟩ := hg
    simp only [mx_one] at hk
    split at hk
    · obtain ⟨q1, q2, q3⟩ := mx_if_t hk
      exact mx_laload hd (Nat.eq_of_beq_eq_true q1) q2 (kk _ _ _ _ _ _ q3)
    · exact hk.elim
  | aaload =>
    obtain ⟨rfl, g2⟩ := hg
    simp only [mx_one] at hk
    split at hk
    · next i x r =>
      split at hk
      · next hq =>
        obtain ⟨q1, q2, q3, q4⟩ := hk
        refine mx_aaload hd hq q1 ?_
        cases hr : h.2.2.2 x i.toNatClampNeg with
        | none => exact kk _ _ _ _ _ _ (q3 hr)
        | some t =>
          obtain ⟨j, rfl⟩ := q4 t hr
          exact kk _ _ _ _ _ _ (q2 j hr)
      · next hq => exact mx_aaload5 hd hq hk.1 hk.2.1 (kk _ _ _ _ _ _ hk.2.2)
      · exact hk.elim
    · exact hk.elim
  | arraylength =>
    obtain ⟨rfl, g2⟩ := hg
    simp only [mx_one] at hk
    split at hk
    · obtain ⟨q1, q2⟩ := mx_if_t hk
      exact mx_alen hd (((Bool.or_eq_true _ _).mp q1).elim (fun q => Or.inl (Nat.eq_of_beq_eq_true q)) (fun q => Or.inr (Nat.eq_of_beq_eq_true q))) (kk _ _ _ _ _ _ q2)
    · exact mx_salen hk.1 hd (kk _ _ _ _ _ _ hk.2)
    · exact hk.elim
  | iastore =>
    obtain ⟨rfl, g2⟩ := hg
    simp only [mx_one] at hk
    split at hk
    · obtain ⟨q1, q2, q3⟩ := mx_if_t hk
      exact mx_iastore hd (Nat.eq_of_beq_eq_true q1) q2 (kk _ _ _ _ _ _ q3)
    · exact hk.elim
  | lastore =>
    obtain ⟨rfl, g2⟩ := hg
    simp only [mx_one] at hk
    split at hk
    · obtain ⟨q1, q2, q3⟩ := mx_if_t hk
      exact mx_lastore hd (Nat.eq_of_beq_eq_true q1) q2 (kk _ _ _ _ _ _ q3)
    · exact hk.elim
  | bastore =>
    obtain ⟨rfl, g2⟩ := hg
    simp only [mx_one] at hk
    split at hk
    · split at hk
      · next hq => exact mx_bastore hd hq hk.1 (kk _ _ _ _ _ _ hk.2)
      · next hq => exact mx_zastore hd hq hk.1 (kk _ _ _ _ _ _ hk.2)
      · exact hk.elim
    · exact hk.elim
  | aastore =>
    obtain ⟨rfl, g2⟩ := hg
    simp only [mx_one] at hk
    split at hk
    · obtain ⟨q1, q2, q3, q4⟩ := mx_if_t hk
      exact mx_aastore hd (Nat.eq_of_beq_eq_true q1) rfl q3 q2 (kk _ _ _ _ _ _ q4)
    · obtain ⟨q1, q2, q3, q4⟩ := mx_if_t hk
      exact mx_aastoreN hd (Nat.eq_of_beq_eq_true q1) q3 q2 (kk _ _ _ _ _ _ q4)
    · exact hk.elim
  | getfield n =>
    obtain ⟨rfl, g2⟩ := hg
    simp only [mx_one] at hk
    split at hk
    · next x r =>
      obtain ⟨q1, q2⟩ := mx_if_t hk
      obtain ⟨f1, f2, f3, f4⟩ := g2
      exact mx_rdf_s (fun q => mx_getfield hd f1 (by simpa using q1) f2 f3 q) (fun v q => kk _ _ _ _ _ _ q) q2
    · exact hk.elim
  | putfield n =>
    obtain ⟨rfl, g2⟩ := hg
    simp only [mx_one] at hk
    split at hk
    · next v x r =>
      obtain ⟨q1, q2⟩ := mx_if_t hk
      obtain ⟨⟨f1, f2, f3, f4⟩, f5⟩ := g2
      obtain ⟨q3, q4⟩ := mx_pkb_s f4 q2
      split at q4
      · next hn => exact mx_putfield hd f1 (by simpa using q1) f2 f3 f5 f4 q3 hn (kk _ _ _ _ _ _ q4)
      · exact q4.elim
    · exact hk.elim
  | getstatic n =>
    obtain ⟨rfl, g2⟩ := hg
    simp only [mx_one] at hk
    rcases g2 with ⟨rfl, g2⟩ | ⟨rfl, g2⟩
    · exact mx_gets0 hd g2 (kk _ _ _ _ _ _ hk)
    · exact mx_gets1 hd g2 (kk _ _ _ _ _ _ hk)
  | new n =>
    obtain ⟨rfl, g2⟩ := hg
    simp only [mx_one] at hk
    obtain ⟨q1, x, q2, q3, q4, q5⟩ := mx_if_t hk
    obtain ⟨g2, g3, g4, g5, g6⟩ := g2
    rw [Bool.and_eq_true, Bool.and_eq_true] at q1
    obtain ⟨⟨q6, q7⟩, q8⟩ := q1
    cases md
    · exact mx_new hd g2 q4 g3 g4 g5 g6 (fun _ => rfl) q2 q3 (Nat.le_of_ble_eq_true q7) (Nat.le_of_ble_eq_true q8) (kk _ _ _ _ _ _ q5)
    · cases q6
  | newarray t =>
    obtain ⟨rfl, g2⟩ := hg
    simp only [mx_one] at hk
    split at hk
    · obtain ⟨q1, q9, x, q2, q3, q4, q5⟩ := mx_if_t hk
      obtain ⟨g2, g3⟩ := g2
      rw [Bool.and_eq_true, Bool.and_eq_true, Bool.and_eq_true] at q1
      obtain ⟨⟨⟨q6, q7⟩, q8⟩, q10⟩ := q1
      cases md
      · exact mx_newarr hd g2 q4 q9 (Nat.le_of_ble_eq_true q10) g3 (fun _ => rfl) q2 q3 (Nat.le_of_ble_eq_true q7) (Nat.le_of_ble_eq_true q8) (kk _ _ _ _ _ _ q5)
      · cases q6
    · exact hk.elim
  | anewarray n =>
    obtain ⟨rfl, g2⟩ := hg
    simp only [mx_one] at hk
    split at hk
    · obtain ⟨q1, q9, x, q2, q3, q4, q5⟩ := mx_if_t hk
      rw [Bool.and_eq_true, Bool.and_eq_true, Bool.and_eq_true] at q1
      obtain ⟨⟨⟨q6, q7⟩, q8⟩, q10⟩ := q1
      cases md
      · exact mx_anew hd q4 q9 (Nat.le_of_ble_eq_true q10) g2 (fun _ => rfl) q2 q3 (Nat.le_of_ble_eq_true q7) (Nat.le_of_ble_eq_true q8) (kk _ _ _ _ _ _ q5)
      · cases q6
    · exact hk.elim
  | invokestatic n =>
    obtain ⟨rfl, g2⟩ := hg
    simp only [mx_one] at hk
    split at hk
    · exact hk.elim
    · split at hk
      · next hq =>
        rcases g2 with ⟨g2, -⟩ | ⟨-, g2⟩
        · rw [hq] at g2; cases g2
        · exact mx_mth_s hd g2 (fun r q => kk _ _ _ _ _ _ q) hk
      · next hq =>
        rcases g2 with ⟨-, g2⟩ | ⟨g2, -⟩
        · obtain ⟨q1, q2⟩ := mx_if_t hk
          rw [Bool.and_eq_true, Bool.and_eq_true, Bool.and_eq_true, Bool.and_eq_true] at q1
          obtain ⟨⟨⟨⟨c1, c2⟩, c3⟩, c4⟩, c5⟩ := q1
          have c1 := Nat.le_of_ble_eq_true c1
          have c2 := Nat.le_of_ble_eq_true c2
          have c3 := Nat.le_of_ble_eq_true c3
          have c4 := Nat.le_of_ble_eq_true c4
          have c5 := Nat.le_of_ble_eq_true c5
          have e1 : st = (st.take b).reverse.reverse ++ st.drop b := by rw [List.reverse_reverse, List.take_append_drop]
          rw [e1]
          refine mx_calls (av := (st.take b).reverse) hd g2.1 g2.2 (by rw [List.length_reverse, List.length_take]; omega) (by rw [List.map_reverse, List.sum_reverse]; exact c2) c3 c4 c5 (mx_T.mono q2 (fun v h2 q => kk _ _ _ _ _ _ q))
        · rw [hq] at g2; cases g2
  | invokevirtual n =>
    obtain ⟨rfl, g2⟩ := hg
    simp only [mx_one] at hk
    split at hk
    · exact hk.elim
    · split at hk
      · next x r hx =>
        obtain ⟨q0, q2⟩ := mx_if_t hk
        rw [Bool.and_eq_true] at q0
        obtain ⟨q1, q9⟩ := q0
        rw [Bool.and_eq_true, Bool.and_eq_true, Bool.and_eq_true, Bool.and_eq_true] at q1
        obtain ⟨⟨⟨⟨c1, c2⟩, c3⟩, c4⟩, c5⟩ := q1
        have c1 := Nat.le_of_ble_eq_true c1
        have c2 := Nat.le_of_ble_eq_true c2
        have c3 := Nat.le_of_ble_eq_true c3
        have c4 := Nat.le_of_ble_eq_true c4
        have c5 := Nat.le_of_ble_eq_true c5
        have e1 : st = (st.take b).reverse.reverse ++ .inr x :: r := by rw [List.reverse_reverse, ← hx, List.take_append_drop]
        rw [e1]
        refine mx_callv (av := (st.take b).reverse) hd g2.1 g2.2.1 g2.2.2.1 (by simpa using q9) g2.2.2.2 (by rw [List.length_reverse, List.length_take]; omega) (by rw [List.map_reverse, List.sum_reverse]; exact c2) c3 c4 c5 (mx_T.mono q2 (fun v h2 q => kk _ _ _ _ _ _ q))
      · exact hk.elim
  | invokespecial n =>
    obtain ⟨rfl, g2⟩ := hg
    simp only [mx_one] at hk
    split at hk
    · exact hk.elim
    · split at hk
      · next hq =>
        have ha := Nat.eq_of_beq_eq_true hq
        rcases g2 with ⟨-, g2, g3, g4⟩ | ⟨g2, -⟩
        · split at hk
          · obtain ⟨q1, q2⟩ := mx_if_t hk
            exact mx_objinit hd g2 (Nat.le_of_ble_eq_true q1) g3 g4 (kk _ _ _ _ _ _ q2)
          · exact hk.elim
        · exact absurd ha g2
      · next hq =>
        have ha : a ≠ 1000 := fun e => by subst e; cases hq
        rcases g2 with ⟨g2, -⟩ | ⟨-, g2, g3⟩
        · exact absurd g2 ha
        · split at hk
          · next x r hx =>
            obtain ⟨q1, q2⟩ := mx_if_t hk
            rw [Bool.and_eq_true, Bool.and_eq_true, Bool.and_eq_true, Bool.and_eq_true] at q1
            obtain ⟨⟨⟨⟨c1, c2⟩, c3⟩, c4⟩, c5⟩ := q1
            have c1 := Nat.le_of_ble_eq_true c1
            have c2 := Nat.le_of_ble_eq_true c2
            have c3 := Nat.le_of_ble_eq_true c3
            have c4 := Nat.le_of_ble_eq_true c4
            have c5 := Nat.le_of_ble_eq_true c5
            have e1 : st = (st.take b).reverse.reverse ++ .inr x :: r := by rw [List.reverse_reverse, ← hx, List.take_append_drop]
            rw [e1]
            refine mx_calli (av := (st.take b).reverse) hd g2 g3 (by rw [List.length_reverse, List.length_take]; omega) (by rw [List.map_reverse, List.sum_reverse]; exact c2) c3 c4 c5 (mx_T.mono q2 (fun v h2 q => kk _ _ _ _ _ _ q))
          · exact hk.elim
  | _ => exact hg.elim
end
section
/-! ===== the tables' check, by program; a stretch of code ===== -/
def mx_ft : List (Nat × List mx_En) → Nat → Option mx_En
  | [], _ => none
  | (b, l) :: r, pc => bif Nat.blt pc b then l.find? (fun e => Nat.beq e.1 pc) else mx_ft r pc
theorem mx_ft_mem : ∀ {tb : List (Nat × List mx_En)} {pc : Nat} {en : mx_En}, mx_ft tb pc = some en → en.1 = pc ∧ ∃ q ∈ tb, en ∈ q.2
  | [], _, _, h => by cases h
  | (b, l) :: r, pc, en, h => by
    unfold mx_ft at h
    cases hb : Nat.blt pc b with
    | true =>
      rw [hb, cond_true] at h
      exact ⟨Nat.eq_of_beq_eq_true (List.find?_some (p := fun e : mx_En => Nat.beq e.1 pc) h), (b, l), List.mem_cons_self, List.mem_of_find?_eq_some h⟩
    | false =>
      rw [hb, cond_false] at h
      obtain ⟨h1, q, h2, h3⟩ := mx_ft_mem h
      exact ⟨h1, q, List.mem_cons_of_mem _ h2, h3⟩
/-- what a stretch of code asks, up to the places of 'cuts' -/
def mx_wp (E : mx_Ev) (md : Bool) (d mid : Nat) (tb : List (Nat × List mx_En)) (cuts : List Nat) (Q : Option mx_V → mx_H → Prop) : Nat → Nat → Nat → Nat → mx_Lv → List mx_V → mx_H → Prop
  | 0, bc, bs, pc, lv, st, h => mx_T E (mx_fn md) d bc bs mid pc lv st h Q
  | k + 1, bc, bs, pc, lv, st, h => match mx_ft tb pc with
    | none => False
    | some (_, ins, _, a, b, z, c, l) => mx_one E md d bc bs mid pc ins a b z c l lv st h Q
        (fun bc bs pc lv st h => bif cuts.elem pc then mx_T E (mx_fn md) d bc bs mid pc lv st h Q else mx_wp E md d mid tb cuts Q k bc bs pc lv st h) (fun bc bs pc lv st h => mx_T E (mx_fn md) d bc bs mid pc lv st h Q)
theorem mx_wp_sound {E : mx_Ev} {md : Bool} {d mid : Nat} {tb : List (Nat × List mx_En)} {cuts : List Nat} {Q : Option mx_V → mx_H → Prop} (hok : ∀ q ∈ tb, ∀ en ∈ q.2, mx_gd mid en) :
    ∀ (k : Nat) {bc bs pc : Nat} {lv : mx_Lv} {st : List mx_V} {h : mx_H}, mx_wp E md d mid tb cuts Q k bc bs pc lv st h → mx_T E (mx_fn md) d bc bs mid pc lv st h Q
  | 0, _, _, _, _, _, _, h => h
  | k + 1, bc, bs, pc, lv, st, h, hk => by
    unfold mx_wp at hk
    split at hk
    · exact hk.elim
    · next pc2 ins len a b z c l hf =>
      obtain ⟨rfl, q, hq, he⟩ := mx_ft_mem hf
      obtain ⟨g1, g2⟩ := hok q hq _ he
      refine mx_one_sound g1 g2 (fun bc bs pc lv st h q => ?_) (fun _ _ _ _ _ _ q => q) hk
      cases hc : cuts.elem pc with
      | true => rw [hc, cond_true] at q; exact q
      | false => rw [hc, cond_false] at q; exact mx_wp_sound hok k q
def mx_LKo (o idx callee n kd : Nat) (nest : Bool) : Prop :=
  (parseMethodDescriptor (mx_y callee).desc).map (fun d => d.parameters.length) = some n ∧
  (if nest then ∃ host, Cond.methodLinkNest (mx_cn o) idx (mx_y callee) host ∈ mx_nest else Cond.methodLink (mx_cn o) idx (mx_y callee) ∈ mx_ws) ∧
  (if kd = 0 then Cond.static (mx_y callee) ∈ mx_ws else if kd = 1 then Cond.instanceMethod (mx_y callee) ∈ mx_ws ∧ Cond.selects (mx_y callee).cls (mx_y callee) (mx_y callee) ∈ mx_ws else Cond.instanceMethod (mx_y callee) ∈ mx_ws ∧ (mx_y callee).name = "<init>" ∧ mx_rt callee = none)
def mx_fokb (ci k : Nat) : Bool := match mx_ff ci k, mx_ty ci k with
  | 0, .int => true
  | 1, .boolean => true
  | 2, .object _ => true
  | 2, .array _ => true
  | _, _ => false
theorem mx_fokb_s {ci k : Nat} (h : mx_fokb ci k = true) : mx_fok ci k := by
  unfold mx_fokb at h
  unfold mx_fok
  split at h
  · next h1 h2 => exact Or.inl ⟨h1, h2⟩
  · next h1 h2 => exact Or.inr (Or.inl ⟨h1, h2⟩)
  · next h1 h2 => exact Or.inr (Or.inr (Or.inl ⟨h1, _, h2⟩))
  · next h1 h2 => exact Or.inr (Or.inr (Or.inr ⟨h1, _, h2⟩))
  · cases h
abbrev mx_L5 : Type := Nat × Nat × Nat × Nat × Nat
/-- the links of class o: by kind (0 field, 1 static, 2 virtual, 3 special, 4 new, 5 getstatic, 6 anewarray, 7 Object's constructor) -/
def mx_PL (o : Nat) : mx_L5 → Prop
  | (0, i, a, b, _) => a < 13 ∧ b < (mx_cr a).2.2 ∧ Cond.fieldLink (mx_cn o) i (mx_fT a b).1 (mx_fT a b).2.1 (mx_fT a b).2.2.1 ∈ mx_ws ∧ mx_fok a b
  | (8, i, a, _, _) => mx_mw o i a
  | (1, i, a, b, z) => mx_MK a ∧ mx_LKo o i a b 0 (Nat.beq z 1)
  | (2, i, a, b, _) => mx_MK a ∧ mx_LKo o i a b 1 false ∧ (mx_me a).1 < 13 ∧ (mx_y a).cls = (mx_cr (mx_me a).1).1
  | (3, i, a, b, z) => a ≠ 1000 ∧ mx_MK a ∧ mx_LKo o i a b 2 (Nat.beq z 1)
  | (4, i, a, _, _) => a < 13 ∧ (∀ j, j < (mx_cr a).2.2 → mx_fok a j) ∧ Cond.classLink (mx_cn o) i (mx_cr a).1 ∈ mx_ws ∧ Cond.instantiable (mx_cr a).1 (mx_cr a).2.2 ∈ mx_ws ∧ Cond.initialized (mx_cr a).1 ∈ mx_ws
  | (5, i, a, _, _) => (a = 0 ∧ Cond.fieldLink (mx_cn o) i RX4 "KIND_ABOVE" "[I" ∈ mx_ws) ∨ (a = 1 ∧ Cond.fieldLink (mx_cn o) i RX4 "ACTS" "[I" ∈ mx_ws)
  | (6, i, _, _, _) => Cond.classLink (mx_cn o) i RX7 ∈ mx_ws
  | (7, i, a, _, _) => a = 1000 ∧ Cond.methodLink (mx_cn o) i Lib.objectInit ∈ mx_ws ∧ Cond.instanceMethod Lib.objectInit ∈ mx_ws ∧ Cond.code Lib.objectInit ⟨#[0xb1]⟩ 1 none ∈ mx_ws
  | _ => False
theorem mx_mm0 (i : Nat) {w : Cond} (h : (k2_sels lw_privs)[i]? = some w) (hg : goodWord w = true) : w ∈ mx_ws := List.mem_filter.mpr ⟨List.mem_append_left _ (List.mem_of_getElem? h), hg⟩
theorem mx_mm1 (i : Nat) {w : Cond} (h : tables_1_1[i]? = some w) (hg : goodWord w = true) : w ∈ mx_ws := List.mem_filter.mpr ⟨List.mem_append_right _ (List.mem_append_left _ (List.mem_of_getElem? h)), hg⟩
theorem mx_mm2 (i : Nat) {w : Cond} (h : tables_1_2[i]? = some w) (hg : goodWord w = true) : w ∈ mx_ws := List.mem_filter.mpr ⟨List.mem_append_right _ (List.mem_append_right _ (List.mem_append_left _ (List.mem_of_getElem? h))), hg⟩
theorem mx_mm3 (i : Nat) {w : Cond} (h : tables_1_3[i]? = some w) (hg : goodWord w = true) : w ∈ mx_ws := List.mem_filter.mpr ⟨List.mem_append_right _ (List.mem_append_right _ (List.mem_append_right _ (List.mem_append_left _ (List.mem_of_getElem? h)))), hg⟩
theorem mx_mm4 (i : Nat) {w : Cond} (h : tables_1_4[i]? = some w) (hg : goodWord w = true) : w ∈ mx_ws := List.mem_filter.mpr ⟨List.mem_append_right _ (List.mem_append_right _ (List.mem_append_right _ (List.mem_append_right _ (List.mem_append_left _ (List.mem_of_getElem? h))))), hg⟩
theorem mx_mm5 (i : Nat) {w : Cond} (h : tables_1_5[i]? = some w) (hg : goodWord w = true) : w ∈ mx_ws := List.mem_filter.mpr ⟨List.mem_append_right _ (List.mem_append_right _ (List.mem_append_right _ (List.mem_append_right _ (List.mem_append_right _ (List.mem_append_left _ (List.mem_of_getElem? h)))))), hg⟩
theorem mx_mm6 (i : Nat) {w : Cond} (h : tables_1_6[i]? = some w) (hg : goodWord w = true) : w ∈ mx_ws := List.mem_filter.mpr ⟨List.mem_append_right _ (List.mem_append_right _ (List.mem_append_right _ (List.mem_append_right _ (List.mem_append_right _ (List.mem_append_right _ (List.mem_append_left _ (List.mem_of_getElem? h))))))), hg⟩
theorem mx_mm7 (i : Nat) {w : Cond} (h : tables_1_7[i]? = some w) (hg : goodWord w = true) : w ∈ mx_ws := List.mem_filter.mpr ⟨List.mem_append_right _ (List.mem_append_right _ (List.mem_append_right _ (List.mem_append_right _ (List.mem_append_right _ (List.mem_append_right _ (List.mem_append_right _ (List.mem_append_left _ (List.mem_of_getElem? h)))))))), hg⟩
theorem mx_mm8 (i : Nat) {w : Cond} (h : tables_1_8[i]? = some w) (hg : goodWord w = true) : w ∈ mx_ws := List.mem_filter.mpr ⟨List.mem_append_right _ (List.mem_append_right _ (List.mem_append_right _ (List.mem_append_right _ (List.mem_append_right _ (List.mem_append_right _ (List.mem_append_right _ (List.mem_append_right _ (List.mem_append_left _ (List.mem_of_getElem? h))))))))), hg⟩
theorem mx_mm9 (i : Nat) {w : Cond} (h : tables_1_9[i]? = some w) (hg : goodWord w = true) : w ∈ mx_ws := List.mem_filter.mpr ⟨List.mem_append_right _ (List.mem_append_right _ (List.mem_append_right _ (List.mem_append_right _ (List.mem_append_right _ (List.mem_append_right _ (List.mem_append_right _ (List.mem_append_right _ (List.mem_append_right _ (List.mem_of_getElem? h))))))))), hg⟩
theorem mx_mem (i : Nat) {w : Cond} (h : lw_tbl[i]? = some w) (hg : goodWord w = true) : w ∈ mx_ws := List.mem_filter.mpr ⟨List.mem_of_getElem? h, hg⟩
theorem mx_memN (i : Nat) {a : String} {k : Nat} {x : MethodName} {o : String} (h : tables_1[i]? = some (.methodLinkNest a k x o)) : Cond.methodLinkNest a k x o ∈ mx_nest := List.mem_filter.mpr ⟨List.mem_of_getElem? h, rfl⟩
def mx_gb (mid : Nat) (LL : List mx_L5) (KL : List (Nat × Int32)) (JL : List (Nat × Int64)) (pc : Nat) (ins : Instr) (len a b z : Nat) (c : Int32) (l : Int64) : Bool := match ins with
  | .iconst n => Nat.beq len 1 && decide (Int32.ofInt n = c)
  | .bipush n => Nat.beq len 2 && decide ((Int8.ofInt n).toInt32 = c)
  | .sipush n => Nat.beq len 3 && decide ((Int16.ofInt n).toInt32 = c)
  | .lconst n => Nat.beq len 1 && decide (Int64.ofNat (n : Nat) = l)
  | .ldc n => Nat.beq len 2 && KL.elem (n, c)
  | .ldc_w n => Nat.beq len 3 && KL.elem (n, c)
  | .ldc2_w n => Nat.beq len 3 && JL.elem (n, l)
  | .aconst_null => Nat.beq len 1
  | .iload_n n => Nat.beq len 1
  | .iload n => Nat.beq len 2
  | .lload_n n => Nat.beq len 1
  | .lload n => Nat.beq len 2
  | .aload_n n => Nat.beq len 1
  | .aload n => Nat.beq len 2
  | .istore_n n => Nat.beq len 1 && decide (n.val < mx_nL mid)
  | .istore n => Nat.beq len 2 && decide (n < mx_nL mid)
  | .lstore_n n => Nat.beq len 1 && decide (n.val + 1 < mx_nL mid)
  | .lstore n => Nat.beq len 2 && decide (n + 1 < mx_nL mid)
  | .astore_n n => Nat.beq len 1 && decide (n.val < mx_nL mid)
  | .astore n => Nat.beq len 2 && decide (n < mx_nL mid)
  | .iinc n k => Nat.beq len 3 && decide (Int32.ofInt k = c ∧ n < mx_nL mid)
  | .iadd => Nat.beq len 1
  | .isub => Nat.beq len 1
  | .imul => Nat.beq len 1
  | .iand => Nat.beq len 1
  | .ior => Nat.beq len 1
  | .ixor => Nat.beq len 1
  | .ishl => Nat.beq len 1
  | .ishr => Nat.beq len 1
  | .iushr => Nat.beq len 1
  | .idiv => Nat.beq len 1
  | .irem => Nat.beq len 1
  | .ladd => Nat.beq len 1
  | .lsub => Nat.beq len 1
  | .lmul => Nat.beq len 1
  | .land => Nat.beq len 1
  | .lor => Nat.beq len 1
  | .ldiv => Nat.beq len 1
  | .lshl => Nat.beq len 1
  | .lcmp => Nat.beq len 1
  | .ineg => Nat.beq len 1
  | .lneg => Nat.beq len 1
  | .i2l => Nat.beq len 1
  | .l2i => Nat.beq len 1
  | .i2b => Nat.beq len 1
  | .i2s => Nat.beq len 1
  | .goto k => Nat.beq len 3 && decide ((pc : Int) + k = a)
  | .pop => Nat.beq len 1
  | .dup => Nat.beq len 1
  | .dup2 => Nat.beq len 1
  | .ifCond cd k => Nat.beq len 3 && decide ((pc : Int) + k = a)
  | .if_icmp cd k => Nat.beq len 3 && decide ((pc : Int) + k = a)
  | .ifnull k => Nat.beq len 3 && decide ((pc : Int) + k = a)
  | .ifnonnull k => Nat.beq len 3 && decide ((pc : Int) + k = a)
  | .tableswitch df lo hi offs => true && decide (0 ≤ (pc : Int) + df ∧ (∀ o ∈ offs, 0 ≤ (pc : Int) + o) ∧ (hi - lo + 1).toNat ≤ offs.size)
  | .lookupswitch df ps => true && decide ((ps.toList.zip (ps.toList.drop 1)).all (fun (a, next) => a.1 < next.1) = true)
  | .ireturn => Nat.beq len 1 && decide (mx_rt mid = some .int ∨ mx_rt mid = some .boolean)
  | .lreturn => Nat.beq len 1 && decide (mx_rt mid = some .long)
  | .areturn => Nat.beq len 1 && decide (mx_rt mid = some (.object RX7))
  | .return_ => Nat.beq len 1 && decide (mx_rt mid = none)
  | .iaload => Nat.beq len 1
  | .baload => Nat.beq len 1
  | .laload => Nat.beq len 1
  | .aaload => Nat.beq len 1
  | .arraylength => Nat.beq len 1
  | .iastore => Nat.beq len 1
  | .lastore => Nat.beq len 1
  | .bastore => Nat.beq len 1
  | .aastore => Nat.beq len 1
  | .getfield n => Nat.beq len 3 && LL.elem (0, n, a, b, 0)
  | .putfield n => Nat.beq len 3 && (LL.elem (0, n, a, b, 0) && (!(mx_fT a b).2.2.2 || (decide ((mx_y mid).name = "<init>") && decide ((mx_fT a b).1 = mx_ow mid))))
  | .getstatic n => Nat.beq len 3 && LL.elem (5, n, a, 0, 0)
  | .new n => Nat.beq len 3 && LL.elem (4, n, a, 0, 0)
  | .newarray t => Nat.beq len 2 && (Nat.ble (mx_ak t) 3)
  | .anewarray n => Nat.beq len 3 && LL.elem (6, n, 0, 0, 0)
  | .invokestatic n => Nat.beq len 3 && ((!(Nat.beq z 2) && LL.elem (1, n, a, b, z)) || (Nat.beq z 2 && LL.elem (8, n, a, 0, 2)))
  | .invokevirtual n => Nat.beq len 3 && LL.elem (2, n, a, b, 0)
  | .invokespecial n => Nat.beq len 3 && (LL.elem (3, n, a, b, z) || LL.elem (7, n, a, 0, 0))
  | _ => false
set_option maxHeartbeats 4000000 in
theorem mx_gb_s {mid : Nat} {LL : List mx_L5} {KL : List (Nat × Int32)} {JL : List (Nat × Int64)} {pc : Nat} {ins : Instr} {len a b z : Nat} {c : Int32} {l : Int64} (hL : ∀ q ∈ LL, mx_PL (mx_me mid).1 q) (hK : ∀ q ∈ KL, Cond.constant (mx_ow mid) q.1 q.2 ∈ mx_ws) (hJ : ∀ q ∈ JL, Cond.constantLong (mx_ow mid) q.1 q.2 ∈ mx_ws) (hA : ∀ t, mx_ak t ≤ 3 → Cond.arrayClass (newarray.typeOf t) ∈ mx_ws)
    (h : mx_gb mid LL KL JL pc ins len a b z c l = true) : mx_ax mid pc ins len a b z c l := by
  cases ins with
  | iconst n =>
    have h : (Nat.beq len 1 && decide (Int32.ofInt n = c)) = true := h
    rw [Bool.and_eq_true] at h
    obtain ⟨h1, h2⟩ := h
    exact ⟨Nat.eq_of_beq_eq_true h1, of_decide_eq_true h2⟩
  | bipush n =>
    have h : (Nat.beq len 2 && decide ((Int8.ofInt n).toInt32 = c)) = true := h
    rw [Bool.and_eq_true] at h
    obtain ⟨h1, h2⟩ := h
    exact ⟨Nat.eq_of_beq_eq_true h1, of_decide_eq_true h2⟩
  | sipush n =>
    have h : (Nat.beq len 3 && decide ((Int16.ofInt n).toInt32 = c)) = true := h
    rw [Bool.and_eq_true] at h
    obtain ⟨h1, h2⟩ := h
    exact ⟨Nat.eq_of_beq_eq_true h1, of_decide_eq_true h2⟩
  | lconst n =>
    have h : (Nat.beq len 1 && decide (Int64.ofNat (n : Nat) = l)) = true := h
    rw [Bool.and_eq_true] at h
    obtain ⟨h1, h2⟩ := h
    exact ⟨Nat.eq_of_beq_eq_true h1, of_decide_eq_true h2⟩
  | ldc n =>
    have h : (Nat.beq len 2 && KL.elem (n, c)) = true := h
    rw [Bool.and_eq_true] at h
    obtain ⟨h1, h2⟩ := h
    exact ⟨Nat.eq_of_beq_eq_true h1, hK (n, c) (List.mem_of_elem_eq_true h2)⟩
  | ldc_w n =>
    have h : (Nat.beq len 3 && KL.elem (n, c)) = true := h
    rw [Bool.and_eq_true] at h
    obtain ⟨h1, h2⟩ := h
    exact ⟨Nat.eq_of_beq_eq_true h1, hK (n, c) (List.mem_of_elem_eq_true h2)⟩
  | ldc2_w n =>
    have h : (Nat.beq len 3 && JL.elem (n, l)) = true := h
    rw [Bool.and_eq_true] at h
    obtain ⟨h1, h2⟩ := h
    exact ⟨Nat.eq_of_beq_eq_true h1, hJ (n, l) (List.mem_of_elem_eq_true h2)⟩
  | aconst_null =>
    have h : (Nat.beq len 1) = true := h
    have h1 := h
    exact ⟨Nat.eq_of_beq_eq_true h1, trivial⟩
  | iload_n n =>
    have h : (Nat.beq len 1) = true := h
    have h1 := h
    exact ⟨Nat.eq_of_beq_eq_true h1, trivial⟩
  | iload n =>
    have h : (Nat.beq len 2) = true := h
    have h1 := h
    exact ⟨Nat.eq_of_beq_eq_true h1, trivial⟩
  | lload_n n =>
    have h : (Nat.beq len 1) = true := h
    have h1 := h
    exact ⟨Nat.eq_of_beq_eq_true h1, trivial⟩
  | lload n =>
    have h : (Nat.beq len 2) = true := h
    have h1 := h
    exact ⟨Nat.eq_of_beq_eq_true h1, trivial⟩
  | aload_n n =>
    have h : (Nat.beq len 1) = true := h
    have h1 := h
    exact ⟨Nat.eq_of_beq_eq_true h1, trivial⟩
  | aload n =>
    have h : (Nat.beq len 2) = true := h
    have h1 := h
    exact ⟨Nat.eq_of_beq_eq_true h1, trivial⟩
  | istore_n n =>
    have h : (Nat.beq len 1 && decide (n.val < mx_nL mid)) = true := h
    rw [Bool.and_eq_true] at h
    obtain ⟨h1, h2⟩ := h
    exact ⟨Nat.eq_of_beq_eq_true h1, of_decide_eq_true h2⟩
  | istore n =>
    have h : (Nat.beq len 2 && decide (n < mx_nL mid)) = true := h
    rw [Bool.and_eq_true] at h
    obtain ⟨h1, h2⟩ := h
    exact ⟨Nat.eq_of_beq_eq_true h1, of_decide_eq_true h2⟩
  | lstore_n n =>
    have h : (Nat.beq len 1 && decide (n.val + 1 < mx_nL mid)) = true := h
    rw [Bool.and_eq_true] at h
    obtain ⟨h1, h2⟩ := h
    exact ⟨Nat.eq_of_beq_eq_true h1, of_decide_eq_true h2⟩
  | lstore n =>
    have h : (Nat.beq len 2 && decide (n + 1 < mx_nL mid)) = true := h
    rw [Bool.and_eq_true] at h
    obtain ⟨h1, h2⟩ := h
    exact ⟨Nat.eq_of_beq_eq_true h1, of_decide_eq_true h2⟩
  | astore_n n =>
    have h : (Nat.beq len 1 && decide (n.val < mx_nL mid)) = true := h
    rw [Bool.and_eq_true] at h
    obtain ⟨h1, h2⟩ := h
    exact ⟨Nat.eq_of_beq_eq_true h1, of_decide_eq_true h2⟩
  | astore n =>
    have h : (Nat.beq len 2 && decide (n < mx_nL mid)) = true := h
    rw [Bool.and_eq_true] at h
    obtain ⟨h1, h2⟩ := h
    exact ⟨Nat.eq_of_beq_eq_true h1, of_decide_eq_true h2⟩
  | iinc n k =>
    have h : (Nat.beq len 3 && decide (Int32.ofInt k = c ∧ n < mx_nL mid)) = true := h
    rw [Bool.and_eq_true] at h
    obtain ⟨h1, h2⟩ := h
    exact ⟨Nat.eq_of_beq_eq_true h1, of_decide_eq_true h2⟩
  | iadd =>
    have h : (Nat.beq len 1) = true := h
    have h1 := h
    exact ⟨Nat.eq_of_beq_eq_true h1, trivial⟩
  | isub =>
    have h : (Nat.beq len 1) = true := h
    have h1 := h
    exact ⟨Nat.eq_of_beq_eq_true h1, trivial⟩
  | imul =>
    have h : (Nat.beq len 1) = true := h
    have h1 := h
    exact ⟨Nat.eq_of_beq_eq_true h1, trivial⟩
  | iand =>
    have h : (Nat.beq len 1) = true := h
    have h1 := h
    exact ⟨Nat.eq_of_beq_eq_true h1, trivial⟩
  | ior =>
    have h : (Nat.beq len 1) = true := h
    have h1 := h
    exact ⟨Nat.eq_of_beq_eq_true h1, trivial⟩
  | ixor =>
    have h : (Nat.beq len 1) = true := h
    have h1 := h
    exact ⟨Nat.eq_of_beq_eq_true h1, trivial⟩
  | ishl =>
    have h : (Nat.beq len 1) = true := h
    have h1 := h
    exact ⟨Nat.eq_of_beq_eq_true h1, trivial⟩
  | ishr =>
    have h : (Nat.beq len 1) = true := h
    have h1 := h
    exact ⟨Nat.eq_of_beq_eq_true h1, trivial⟩
  | iushr =>
    have h : (Nat.beq len 1) = true := h
    have h1 := h
    exact ⟨Nat.eq_of_beq_eq_true h1, trivial⟩
  | idiv =>
    have h : (Nat.beq len 1) = true := h
    have h1 := h
    exact ⟨Nat.eq_of_beq_eq_true h1, trivial⟩
  | irem =>
    have h : (Nat.beq len 1) = true := h
    have h1 := h
    exact ⟨Nat.eq_of_beq_eq_true h1, trivial⟩
  | ladd =>
    have h : (Nat.beq len 1) = true := h
    have h1 := h
    exact ⟨Nat.eq_of_beq_eq_true h1, trivial⟩
  | lsub =>
    have h : (Nat.beq len 1) = true := h
    have h1 := h
    exact ⟨Nat.eq_of_beq_eq_true h1, trivial⟩
  | lmul =>
    have h : (Nat.beq len 1) = true := h
    have h1 := h
    exact ⟨Nat.eq_of_beq_eq_true h1, trivial⟩
  | land =>
    have h : (Nat.beq len 1) = true := h
    have h1 := h
    exact ⟨Nat.eq_of_beq_eq_true h1, trivial⟩
  | lor =>
    have h : (Nat.beq len 1) = true := h
    have h1 := h
    exact ⟨Nat.eq_of_beq_eq_true h1, trivial⟩
  | ldiv =>
    have h : (Nat.beq len 1) = true := h
    have h1 := h
    exact ⟨Nat.eq_of_beq_eq_true h1, trivial⟩
  | lshl =>
    have h : (Nat.beq len 1) = true := h
    have h1 := h
    exact ⟨Nat.eq_of_beq_eq_true h1, trivial⟩
  | lcmp =>
    have h : (Nat.beq len 1) = true := h
    have h1 := h
    exact ⟨Nat.eq_of_beq_eq_true h1, trivial⟩
  | ineg =>
    have h : (Nat.beq len 1) = true := h
    have h1 := h
    exact ⟨Nat.eq_of_beq_eq_true h1, trivial⟩
  | lneg =>
    have h : (Nat.beq len 1) = true := h
    have h1 := h
    exact ⟨Nat.eq_of_beq_eq_true h1, trivial⟩
  | i2l =>
    have h : (Nat.beq len 1) = true := h
    have h1 := h
    exact ⟨Nat.eq_of_beq_eq_true h1, trivial⟩
  | l2i =>
    have h : (Nat.beq len 1) = true := h
    have h1 := h
    exact ⟨Nat.eq_of_beq_eq_true h1, trivial⟩
  | i2b =>
    have h : (Nat.beq len 1) = true := h
    have h1 := h
    exact ⟨Nat.eq_of_beq_eq_true h1, trivial⟩
  | i2s =>
    have h : (Nat.beq len 1) = true := h
    have h1 := h
    exact ⟨Nat.eq_of_beq_eq_true h1, trivial⟩
  | goto k =>
    have h : (Nat.beq len 3 && decide ((pc : Int) + k = a)) = true := h
    rw [Bool.and_eq_true] at h
    obtain ⟨h1, h2⟩ := h
    exact ⟨Nat.eq_of_beq_eq_true h1, of_decide_eq_true h2⟩
  | pop =>
    have h : (Nat.beq len 1) = true := h
    have h1 := h
    exact ⟨Nat.eq_of_beq_eq_true h1, trivial⟩
  | dup =>
    have h : (Nat.beq len 1) = true := h
    have h1 := h
    exact ⟨Nat.eq_of_beq_eq_true h1, trivial⟩
  | dup2 =>
    have h : (Nat.beq len 1) = true := h
    have h1 := h
    exact ⟨Nat.eq_of_beq_eq_true h1, trivial⟩
  | ifCond cd k =>
    have h : (Nat.beq len 3 && decide ((pc : Int) + k = a)) = true := h
    rw [Bool.and_eq_true] at h
    obtain ⟨h1, h2⟩ := h
    exact ⟨Nat.eq_of_beq_eq_true h1, of_decide_eq_true h2⟩
  | if_icmp cd k =>
    have h : (Nat.beq len 3 && decide ((pc : Int) + k = a)) = true := h
    rw [Bool.and_eq_true] at h
    obtain ⟨h1, h2⟩ := h
    exact ⟨Nat.eq_of_beq_eq_true h1, of_decide_eq_true h2⟩
  | ifnull k =>
    have h : (Nat.beq len 3 && decide ((pc : Int) + k = a)) = true := h
    rw [Bool.and_eq_true] at h
    obtain ⟨h1, h2⟩ := h
    exact ⟨Nat.eq_of_beq_eq_true h1, of_decide_eq_true h2⟩
  | ifnonnull k =>
    have h : (Nat.beq len 3 && decide ((pc : Int) + k = a)) = true := h
    rw [Bool.and_eq_true] at h
    obtain ⟨h1, h2⟩ := h
    exact ⟨Nat.eq_of_beq_eq_true h1, of_decide_eq_true h2⟩
  | tableswitch df lo hi offs =>
    have h : (true && decide (0 ≤ (pc : Int) + df ∧ (∀ o ∈ offs, 0 ≤ (pc : Int) + o) ∧ (hi - lo + 1).toNat ≤ offs.size)) = true := h
    rw [Bool.and_eq_true] at h
    obtain ⟨h1, h2⟩ := h
    have h3 := of_decide_eq_true h2
    exact h3
  | lookupswitch df ps =>
    have h : (true && decide ((ps.toList.zip (ps.toList.drop 1)).all (fun (a, next) => a.1 < next.1) = true)) = true := h
    rw [Bool.and_eq_true] at h
    obtain ⟨h1, h2⟩ := h
    have h3 := of_decide_eq_true h2
    exact h3
  | ireturn =>
    have h : (Nat.beq len 1 && decide (mx_rt mid = some .int ∨ mx_rt mid = some .boolean)) = true := h
    rw [Bool.and_eq_true] at h
    obtain ⟨h1, h2⟩ := h
    exact ⟨Nat.eq_of_beq_eq_true h1, of_decide_eq_true h2⟩
  | lreturn =>
    have h : (Nat.beq len 1 && decide (mx_rt mid = some .long)) = true := h
    rw [Bool.and_eq_true] at h
    obtain ⟨h1, h2⟩ := h
    exact ⟨Nat.eq_of_beq_eq_true h1, of_decide_eq_true h2⟩
  | areturn =>
    have h : (Nat.beq len 1 && decide (mx_rt mid = some (.object RX7))) = true := h
    rw [Bool.and_eq_true] at h
    obtain ⟨h1, h2⟩ := h
    exact ⟨Nat.eq_of_beq_eq_true h1, of_decide_eq_true h2⟩
  | return_ =>
    have h : (Nat.beq len 1 && decide (mx_rt mid = none)) = true := h
    rw [Bool.and_eq_true] at h
    obtain ⟨h1, h2⟩ := h
    exact ⟨Nat.eq_of_beq_eq_true h1, of_decide_eq_true h2⟩
  | iaload =>
    have h : (Nat.beq len 1) = true := h
    have h1 := h
    exact ⟨Nat.eq_of_beq_eq_true h1, trivial⟩
  | baload =>
    have h : (Nat.beq len 1) = true := h
    have h1 := h
    exact ⟨Nat.eq_of_beq_eq_true h1, trivial⟩
  | laload =>
    have h : (Nat.beq len 1) = true := h
    have h1 := h
    exact ⟨Nat.eq_of_beq_eq_true h1, trivial⟩
  | aaload =>
    have h : (Nat.beq len 1) = true := h
    have h1 := h
    exact ⟨Nat.eq_of_beq_eq_true h1, trivial⟩
  | arraylength =>
    have h : (Nat.beq len 1) = true := h
    have h1 := h
    exact ⟨Nat.eq_of_beq_eq_true h1, trivial⟩
  | iastore =>
    have h : (Nat.beq len 1) = true := h
    have h1 := h
    exact ⟨Nat.eq_of_beq_eq_true h1, trivial⟩
  | lastore =>
    have h : (Nat.beq len 1) = true := h
    have h1 := h
    exact ⟨Nat.eq_of_beq_eq_true h1, trivial⟩
  | bastore =>
    have h : (Nat.beq len 1) = true := h
    have h1 := h
    exact ⟨Nat.eq_of_beq_eq_true h1, trivial⟩
  | aastore =>
    have h : (Nat.beq len 1) = true := h
    have h1 := h
    exact ⟨Nat.eq_of_beq_eq_true h1, trivial⟩
  | getfield n =>
    have h : (Nat.beq len 3 && LL.elem (0, n, a, b, 0)) = true := h
    rw [Bool.and_eq_true] at h
    obtain ⟨h1, h2⟩ := h
    exact ⟨Nat.eq_of_beq_eq_true h1, hL _ (List.mem_of_elem_eq_true h2)⟩
  | putfield n =>
    have h : (Nat.beq len 3 && (LL.elem (0, n, a, b, 0) && (!(mx_fT a b).2.2.2 || (decide ((mx_y mid).name = "<init>") && decide ((mx_fT a b).1 = mx_ow mid))))) = true := h
    rw [Bool.and_eq_true] at h
    obtain ⟨h1, h2⟩ := h
    rw [Bool.and_eq_true] at h2
    refine ⟨Nat.eq_of_beq_eq_true h1, hL _ (List.mem_of_elem_eq_true h2.1), ?_⟩
    cases hq : (mx_fT a b).2.2.2 with
    | false => exact Or.inl rfl
    | true =>
      have h3 := h2.2
      rw [hq, Bool.not_true, Bool.false_or, Bool.and_eq_true] at h3
      exact Or.inr ⟨rfl, of_decide_eq_true h3.1, of_decide_eq_true h3.2⟩
  | getstatic n =>
    have h : (Nat.beq len 3 && LL.elem (5, n, a, 0, 0)) = true := h
    rw [Bool.and_eq_true] at h
    obtain ⟨h1, h2⟩ := h
    exact ⟨Nat.eq_of_beq_eq_true h1, hL _ (List.mem_of_elem_eq_true h2)⟩
  | new n =>
    have h : (Nat.beq len 3 && LL.elem (4, n, a, 0, 0)) = true := h
    rw [Bool.and_eq_true] at h
    obtain ⟨h1, h2⟩ := h
    exact ⟨Nat.eq_of_beq_eq_true h1, hL _ (List.mem_of_elem_eq_true h2)⟩
  | newarray t =>
    have h : (Nat.beq len 2 && (Nat.ble (mx_ak t) 3)) = true := h
    rw [Bool.and_eq_true] at h
    obtain ⟨h1, h2⟩ := h
    exact ⟨Nat.eq_of_beq_eq_true h1, Nat.le_of_ble_eq_true h2, hA t (Nat.le_of_ble_eq_true h2)⟩
  | anewarray n =>
    have h : (Nat.beq len 3 && LL.elem (6, n, 0, 0, 0)) = true := h
    rw [Bool.and_eq_true] at h
    obtain ⟨h1, h2⟩ := h
    exact ⟨Nat.eq_of_beq_eq_true h1, hL _ (List.mem_of_elem_eq_true h2)⟩
  | invokestatic n =>
    have h : (Nat.beq len 3 && ((!(Nat.beq z 2) && LL.elem (1, n, a, b, z)) || (Nat.beq z 2 && LL.elem (8, n, a, 0, 2)))) = true := h
    rw [Bool.and_eq_true] at h
    obtain ⟨h1, h2⟩ := h
    rcases (Bool.or_eq_true _ _).mp h2 with h2 | h2
    · rw [Bool.and_eq_true] at h2
      exact ⟨Nat.eq_of_beq_eq_true h1, Or.inl ⟨by simpa using h2.1, hL _ (List.mem_of_elem_eq_true h2.2)⟩⟩
    · rw [Bool.and_eq_true] at h2
      exact ⟨Nat.eq_of_beq_eq_true h1, Or.inr ⟨h2.1, hL _ (List.mem_of_elem_eq_true h2.2)⟩⟩
  | invokevirtual n =>
    have h : (Nat.beq len 3 && LL.elem (2, n, a, b, 0)) = true := h
    rw [Bool.and_eq_true] at h
    obtain ⟨h1, h2⟩ := h
    exact ⟨Nat.eq_of_beq_eq_true h1, hL _ (List.mem_of_elem_eq_true h2)⟩
  | invokespecial n =>
    have h : (Nat.beq len 3 && (LL.elem (3, n, a, b, z) || LL.elem (7, n, a, 0, 0))) = true := h
    rw [Bool.and_eq_true] at h
    obtain ⟨h1, h2⟩ := h
    rcases (Bool.or_eq_true _ _).mp h2 with h2 | h2
    · exact ⟨Nat.eq_of_beq_eq_true h1, Or.inr (hL _ (List.mem_of_elem_eq_true h2))⟩
    · exact ⟨Nat.eq_of_beq_eq_true h1, Or.inl (hL _ (List.mem_of_elem_eq_true h2))⟩
  | _ => cases h
def mx_gt (mid : Nat) (LL : List mx_L5) (KL : List (Nat × Int32)) (JL : List (Nat × Int64)) (tb : List (Nat × List mx_En)) : Bool :=
  tb.all (fun q => q.2.all (fun en => decide (decode (mx_by mid) en.1 = .ok (en.2.1, en.2.2.1)) && mx_gb mid LL KL JL en.1 en.2.1 en.2.2.1 en.2.2.2.1 en.2.2.2.2.1 en.2.2.2.2.2.1 en.2.2.2.2.2.2.1 en.2.2.2.2.2.2.2))
theorem mx_gt_s {mid : Nat} {LL : List mx_L5} {KL : List (Nat × Int32)} {JL : List (Nat × Int64)} {tb : List (Nat × List mx_En)} (hL : ∀ q ∈ LL, mx_PL (mx_me mid).1 q) (hK : ∀ q ∈ KL, Cond.constant (mx_ow mid) q.1 q.2 ∈ mx_ws) (hJ : ∀ q ∈ JL, Cond.constantLong (mx_ow mid) q.1 q.2 ∈ mx_ws) (hA : ∀ t, mx_ak t ≤ 3 → Cond.arrayClass (newarray.typeOf t) ∈ mx_ws)
    (h : mx_gt mid LL KL JL tb = true) : ∀ q ∈ tb, ∀ en ∈ q.2, mx_gd mid en := by
  intro q hq en he
  have h1 := List.all_eq_true.mp (List.all_eq_true.mp h q hq) en he
  rw [Bool.and_eq_true] at h1
  exact ⟨of_decide_eq_true h1.1, mx_gb_s hL hK hJ hA h1.2⟩
end
