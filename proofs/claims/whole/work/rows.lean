section
-- ===== PART A: goes FIRST, ahead of the names: the tables' words, and 'selects' of the private methods out of them =====
/-- a private method of a class that the tables say can be made, by its rows of tables_1 -/
def lw_okq (q : MethodName × Nat) : Prop := (q.1.cls ≠ "java/lang/invoke/MethodHandle" ∧ q.1.cls ≠ "java/lang/invoke/VarHandle") ∧ Cond.instantiable q.1.cls q.2 ∈ tables_1 ∧ Cond.privateMethod q.1 ∈ tables_1 ∧ Cond.instanceMethod q.1 ∈ tables_1
theorem lw_p0 : lw_okq (⟨"ShoutedHour$RuleBook", "isMet", "(I[I)Z"⟩, 7) := ⟨⟨by decide +kernel, by decide +kernel⟩, List.mem_of_getElem? (i := 37) (by decide +kernel), List.mem_of_getElem? (i := 416) (by decide +kernel), List.mem_of_getElem? (i := 417) (by decide +kernel)⟩
theorem lw_p1 : lw_okq (⟨"ShoutedHour$RuleReader", "readToken", "()V"⟩, 13) := ⟨⟨by decide +kernel, by decide +kernel⟩, List.mem_of_getElem? (i := 138) (by decide +kernel), List.mem_of_getElem? (i := 478) (by decide +kernel), List.mem_of_getElem? (i := 479) (by decide +kernel)⟩
theorem lw_p2 : lw_okq (⟨"ShoutedHour$RuleReader", "isLetter", "(I)Z"⟩, 13) := ⟨⟨by decide +kernel, by decide +kernel⟩, List.mem_of_getElem? (i := 138) (by decide +kernel), List.mem_of_getElem? (i := 482) (by decide +kernel), List.mem_of_getElem? (i := 483) (by decide +kernel)⟩
theorem lw_p3 : lw_okq (⟨"ShoutedHour$RuleReader", "isDigit", "(I)Z"⟩, 13) := ⟨⟨by decide +kernel, by decide +kernel⟩, List.mem_of_getElem? (i := 138) (by decide +kernel), List.mem_of_getElem? (i := 486) (by decide +kernel), List.mem_of_getElem? (i := 487) (by decide +kernel)⟩
theorem lw_p4 : lw_okq (⟨"ShoutedHour$RuleReader", "readNumber", "()V"⟩, 13) := ⟨⟨by decide +kernel, by decide +kernel⟩, List.mem_of_getElem? (i := 138) (by decide +kernel), List.mem_of_getElem? (i := 490) (by decide +kernel), List.mem_of_getElem? (i := 491) (by decide +kernel)⟩
theorem lw_p5 : lw_okq (⟨"ShoutedHour$RuleReader", "takesToken", "()Z"⟩, 13) := ⟨⟨by decide +kernel, by decide +kernel⟩, List.mem_of_getElem? (i := 138) (by decide +kernel), List.mem_of_getElem? (i := 494) (by decide +kernel), List.mem_of_getElem? (i := 495) (by decide +kernel)⟩
theorem lw_p6 : lw_okq (⟨"ShoutedHour$RuleReader", "takesKind", "()Z"⟩, 13) := ⟨⟨by decide +kernel, by decide +kernel⟩, List.mem_of_getElem? (i := 138) (by decide +kernel), List.mem_of_getElem? (i := 498) (by decide +kernel), List.mem_of_getElem? (i := 499) (by decide +kernel)⟩
theorem lw_p7 : lw_okq (⟨"ShoutedHour$RuleReader", "placeIn", "(Ljava/lang/String;)I"⟩, 13) := ⟨⟨by decide +kernel, by decide +kernel⟩, List.mem_of_getElem? (i := 138) (by decide +kernel), List.mem_of_getElem? (i := 503) (by decide +kernel), List.mem_of_getElem? (i := 504) (by decide +kernel)⟩
theorem lw_p8 : lw_okq (⟨"ShoutedHour$RuleReader", "isSpelt", "(Ljava/lang/String;II)Z"⟩, 13) := ⟨⟨by decide +kernel, by decide +kernel⟩, List.mem_of_getElem? (i := 138) (by decide +kernel), List.mem_of_getElem? (i := 555) (by decide +kernel), List.mem_of_getElem? (i := 556) (by decide +kernel)⟩
theorem lw_p9 : lw_okq (⟨"ShoutedHour$RuleReader", "takesIf", "()Z"⟩, 13) := ⟨⟨by decide +kernel, by decide +kernel⟩, List.mem_of_getElem? (i := 138) (by decide +kernel), List.mem_of_getElem? (i := 559) (by decide +kernel), List.mem_of_getElem? (i := 560) (by decide +kernel)⟩
theorem lw_p10 : lw_okq (⟨"ShoutedHour$RuleReader", "goesTo", "(IZ)Z"⟩, 13) := ⟨⟨by decide +kernel, by decide +kernel⟩, List.mem_of_getElem? (i := 138) (by decide +kernel), List.mem_of_getElem? (i := 564) (by decide +kernel), List.mem_of_getElem? (i := 565) (by decide +kernel)⟩
theorem lw_p11 : lw_okq (⟨"ShoutedHour$RuleReader", "takesDeed", "()Z"⟩, 13) := ⟨⟨by decide +kernel, by decide +kernel⟩, List.mem_of_getElem? (i := 138) (by decide +kernel), List.mem_of_getElem? (i := 568) (by decide +kernel), List.mem_of_getElem? (i := 569) (by decide +kernel)⟩
theorem lw_p12 : lw_okq (⟨"ShoutedHour$RuleReader", "addWaiting", "(I)V"⟩, 13) := ⟨⟨by decide +kernel, by decide +kernel⟩, List.mem_of_getElem? (i := 138) (by decide +kernel), List.mem_of_getElem? (i := 573) (by decide +kernel), List.mem_of_getElem? (i := 574) (by decide +kernel)⟩
theorem lw_p13 : lw_okq (⟨"ShoutedHour$RuleReader", "takesNot", "()Z"⟩, 13) := ⟨⟨by decide +kernel, by decide +kernel⟩, List.mem_of_getElem? (i := 138) (by decide +kernel), List.mem_of_getElem? (i := 581) (by decide +kernel), List.mem_of_getElem? (i := 582) (by decide +kernel)⟩
theorem lw_p14 : lw_okq (⟨"ShoutedHour$RuleReader", "await", "(I)V"⟩, 13) := ⟨⟨by decide +kernel, by decide +kernel⟩, List.mem_of_getElem? (i := 138) (by decide +kernel), List.mem_of_getElem? (i := 586) (by decide +kernel), List.mem_of_getElem? (i := 587) (by decide +kernel)⟩
theorem lw_p15 : lw_okq (⟨"ShoutedHour$RuleReader", "takesOpening", "()Z"⟩, 13) := ⟨⟨by decide +kernel, by decide +kernel⟩, List.mem_of_getElem? (i := 138) (by decide +kernel), List.mem_of_getElem? (i := 590) (by decide +kernel), List.mem_of_getElem? (i := 591) (by decide +kernel)⟩
def lw_privs_1 : List (MethodName × Nat) := [(⟨"ShoutedHour$RuleBook", "isMet", "(I[I)Z"⟩, 7), (⟨"ShoutedHour$RuleReader", "readToken", "()V"⟩, 13), (⟨"ShoutedHour$RuleReader", "isLetter", "(I)Z"⟩, 13), (⟨"ShoutedHour$RuleReader", "isDigit", "(I)Z"⟩, 13), (⟨"ShoutedHour$RuleReader", "readNumber", "()V"⟩, 13), (⟨"ShoutedHour$RuleReader", "takesToken", "()Z"⟩, 13), (⟨"ShoutedHour$RuleReader", "takesKind", "()Z"⟩, 13), (⟨"ShoutedHour$RuleReader", "placeIn", "(Ljava/lang/String;)I"⟩, 13), (⟨"ShoutedHour$RuleReader", "isSpelt", "(Ljava/lang/String;II)Z"⟩, 13), (⟨"ShoutedHour$RuleReader", "takesIf", "()Z"⟩, 13), (⟨"ShoutedHour$RuleReader", "goesTo", "(IZ)Z"⟩, 13), (⟨"ShoutedHour$RuleReader", "takesDeed", "()Z"⟩, 13), (⟨"ShoutedHour$RuleReader", "addWaiting", "(I)V"⟩, 13), (⟨"ShoutedHour$RuleReader", "takesNot", "()Z"⟩, 13), (⟨"ShoutedHour$RuleReader", "await", "(I)V"⟩, 13), (⟨"ShoutedHour$RuleReader", "takesOpening", "()Z"⟩, 13)]
theorem lw_r1 : ∀ q ∈ lw_privs_1, lw_okq q := List.forall_mem_cons.mpr ⟨lw_p0, List.forall_mem_cons.mpr ⟨lw_p1, List.forall_mem_cons.mpr ⟨lw_p2, List.forall_mem_cons.mpr ⟨lw_p3, List.forall_mem_cons.mpr ⟨lw_p4, List.forall_mem_cons.mpr ⟨lw_p5, List.forall_mem_cons.mpr ⟨lw_p6, List.forall_mem_cons.mpr ⟨lw_p7, List.forall_mem_cons.mpr ⟨lw_p8, List.forall_mem_cons.mpr ⟨lw_p9, List.forall_mem_cons.mpr ⟨lw_p10, List.forall_mem_cons.mpr ⟨lw_p11, List.forall_mem_cons.mpr ⟨lw_p12, List.forall_mem_cons.mpr ⟨lw_p13, List.forall_mem_cons.mpr ⟨lw_p14, List.forall_mem_cons.mpr ⟨lw_p15, fun _ h => absurd h List.not_mem_nil⟩⟩⟩⟩⟩⟩⟩⟩⟩⟩⟩⟩⟩⟩⟩⟩
theorem lw_p16 : lw_okq (⟨"ShoutedHour$RuleReader", "isSingle", "(C)Z"⟩, 13) := ⟨⟨by decide +kernel, by decide +kernel⟩, List.mem_of_getElem? (i := 138) (by decide +kernel), List.mem_of_getElem? (i := 594) (by decide +kernel), List.mem_of_getElem? (i := 595) (by decide +kernel)⟩
theorem lw_p17 : lw_okq (⟨"ShoutedHour$RuleReader", "takesLeft", "()Z"⟩, 13) := ⟨⟨by decide +kernel, by decide +kernel⟩, List.mem_of_getElem? (i := 138) (by decide +kernel), List.mem_of_getElem? (i := 598) (by decide +kernel), List.mem_of_getElem? (i := 599) (by decide +kernel)⟩
theorem lw_p18 : lw_okq (⟨"ShoutedHour$RuleReader", "operand", "()I"⟩, 13) := ⟨⟨by decide +kernel, by decide +kernel⟩, List.mem_of_getElem? (i := 138) (by decide +kernel), List.mem_of_getElem? (i := 602) (by decide +kernel), List.mem_of_getElem? (i := 603) (by decide +kernel)⟩
theorem lw_p19 : lw_okq (⟨"ShoutedHour$RuleReader", "takesSign", "()Z"⟩, 13) := ⟨⟨by decide +kernel, by decide +kernel⟩, List.mem_of_getElem? (i := 138) (by decide +kernel), List.mem_of_getElem? (i := 607) (by decide +kernel), List.mem_of_getElem? (i := 608) (by decide +kernel)⟩
theorem lw_p20 : lw_okq (⟨"ShoutedHour$RuleReader", "takesRight", "()Z"⟩, 13) := ⟨⟨by decide +kernel, by decide +kernel⟩, List.mem_of_getElem? (i := 138) (by decide +kernel), List.mem_of_getElem? (i := 611) (by decide +kernel), List.mem_of_getElem? (i := 612) (by decide +kernel)⟩
theorem lw_p21 : lw_okq (⟨"ShoutedHour$RuleReader", "takesJoint", "()Z"⟩, 13) := ⟨⟨by decide +kernel, by decide +kernel⟩, List.mem_of_getElem? (i := 138) (by decide +kernel), List.mem_of_getElem? (i := 618) (by decide +kernel), List.mem_of_getElem? (i := 619) (by decide +kernel)⟩
theorem lw_p22 : lw_okq (⟨"ShoutedHour$RuleReader", "takesClosing", "()Z"⟩, 13) := ⟨⟨by decide +kernel, by decide +kernel⟩, List.mem_of_getElem? (i := 138) (by decide +kernel), List.mem_of_getElem? (i := 623) (by decide +kernel), List.mem_of_getElem? (i := 624) (by decide +kernel)⟩
theorem lw_p23 : lw_okq (⟨"ShoutedHour$RuleReader", "takesN", "()Z"⟩, 13) := ⟨⟨by decide +kernel, by decide +kernel⟩, List.mem_of_getElem? (i := 138) (by decide +kernel), List.mem_of_getElem? (i := 627) (by decide +kernel), List.mem_of_getElem? (i := 628) (by decide +kernel)⟩
theorem lw_p24 : lw_okq (⟨"ShoutedHour$RuleReader", "takesSemicolon", "()Z"⟩, 13) := ⟨⟨by decide +kernel, by decide +kernel⟩, List.mem_of_getElem? (i := 138) (by decide +kernel), List.mem_of_getElem? (i := 631) (by decide +kernel), List.mem_of_getElem? (i := 632) (by decide +kernel)⟩
theorem lw_p25 : lw_okq (⟨"ShoutedHour", "isCry", "(II)Z"⟩, 18) := ⟨⟨by decide +kernel, by decide +kernel⟩, List.mem_of_getElem? (i := 23) (by decide +kernel), List.mem_of_getElem? (i := 646) (by decide +kernel), List.mem_of_getElem? (i := 647) (by decide +kernel)⟩
theorem lw_p26 : lw_okq (⟨"ShoutedHour", "cryOneWay", "(IIZ)V"⟩, 18) := ⟨⟨by decide +kernel, by decide +kernel⟩, List.mem_of_getElem? (i := 23) (by decide +kernel), List.mem_of_getElem? (i := 653) (by decide +kernel), List.mem_of_getElem? (i := 654) (by decide +kernel)⟩
theorem lw_p27 : lw_okq (⟨"ShoutedHour$Cry", "beginAt", "(II)V"⟩, 8) := ⟨⟨by decide +kernel, by decide +kernel⟩, List.mem_of_getElem? (i := 190) (by decide +kernel), List.mem_of_getElem? (i := 669) (by decide +kernel), List.mem_of_getElem? (i := 670) (by decide +kernel)⟩
theorem lw_p28 : lw_okq (⟨"ShoutedHour$Cry", "isBeginning", "(I)Z"⟩, 8) := ⟨⟨by decide +kernel, by decide +kernel⟩, List.mem_of_getElem? (i := 190) (by decide +kernel), List.mem_of_getElem? (i := 673) (by decide +kernel), List.mem_of_getElem? (i := 674) (by decide +kernel)⟩
theorem lw_p29 : lw_okq (⟨"ShoutedHour$Cry", "goWest", "(I)V"⟩, 8) := ⟨⟨by decide +kernel, by decide +kernel⟩, List.mem_of_getElem? (i := 190) (by decide +kernel), List.mem_of_getElem? (i := 677) (by decide +kernel), List.mem_of_getElem? (i := 678) (by decide +kernel)⟩
theorem lw_p30 : lw_okq (⟨"ShoutedHour$Cry", "bring", "(III)V"⟩, 8) := ⟨⟨by decide +kernel, by decide +kernel⟩, List.mem_of_getElem? (i := 190) (by decide +kernel), List.mem_of_getElem? (i := 681) (by decide +kernel), List.mem_of_getElem? (i := 682) (by decide +kernel)⟩
theorem lw_p31 : lw_okq (⟨"ShoutedHour$Cry", "goEast", "(I)V"⟩, 8) := ⟨⟨by decide +kernel, by decide +kernel⟩, List.mem_of_getElem? (i := 190) (by decide +kernel), List.mem_of_getElem? (i := 689) (by decide +kernel), List.mem_of_getElem? (i := 690) (by decide +kernel)⟩
def lw_privs_2 : List (MethodName × Nat) := [(⟨"ShoutedHour$RuleReader", "isSingle", "(C)Z"⟩, 13), (⟨"ShoutedHour$RuleReader", "takesLeft", "()Z"⟩, 13), (⟨"ShoutedHour$RuleReader", "operand", "()I"⟩, 13), (⟨"ShoutedHour$RuleReader", "takesSign", "()Z"⟩, 13), (⟨"ShoutedHour$RuleReader", "takesRight", "()Z"⟩, 13), (⟨"ShoutedHour$RuleReader", "takesJoint", "()Z"⟩, 13), (⟨"ShoutedHour$RuleReader", "takesClosing", "()Z"⟩, 13), (⟨"ShoutedHour$RuleReader", "takesN", "()Z"⟩, 13), (⟨"ShoutedHour$RuleReader", "takesSemicolon", "()Z"⟩, 13), (⟨"ShoutedHour", "isCry", "(II)Z"⟩, 18), (⟨"ShoutedHour", "cryOneWay", "(IIZ)V"⟩, 18), (⟨"ShoutedHour$Cry", "beginAt", "(II)V"⟩, 8), (⟨"ShoutedHour$Cry", "isBeginning", "(I)Z"⟩, 8), (⟨"ShoutedHour$Cry", "goWest", "(I)V"⟩, 8), (⟨"ShoutedHour$Cry", "bring", "(III)V"⟩, 8), (⟨"ShoutedHour$Cry", "goEast", "(I)V"⟩, 8)]
theorem lw_r2 : ∀ q ∈ lw_privs_2, lw_okq q := List.forall_mem_cons.mpr ⟨lw_p16, List.forall_mem_cons.mpr ⟨lw_p17, List.forall_mem_cons.mpr ⟨lw_p18, List.forall_mem_cons.mpr ⟨lw_p19, List.forall_mem_cons.mpr ⟨lw_p20, List.forall_mem_cons.mpr ⟨lw_p21, List.forall_mem_cons.mpr ⟨lw_p22, List.forall_mem_cons.mpr ⟨lw_p23, List.forall_mem_cons.mpr ⟨lw_p24, List.forall_mem_cons.mpr ⟨lw_p25, List.forall_mem_cons.mpr ⟨lw_p26, List.forall_mem_cons.mpr ⟨lw_p27, List.forall_mem_cons.mpr ⟨lw_p28, List.forall_mem_cons.mpr ⟨lw_p29, List.forall_mem_cons.mpr ⟨lw_p30, List.forall_mem_cons.mpr ⟨lw_p31, fun _ h => absurd h List.not_mem_nil⟩⟩⟩⟩⟩⟩⟩⟩⟩⟩⟩⟩⟩⟩⟩⟩
theorem lw_p32 : lw_okq (⟨"ShoutedHour", "cryBothWays", "(II)V"⟩, 18) := ⟨⟨by decide +kernel, by decide +kernel⟩, List.mem_of_getElem? (i := 23) (by decide +kernel), List.mem_of_getElem? (i := 720) (by decide +kernel), List.mem_of_getElem? (i := 721) (by decide +kernel)⟩
theorem lw_p33 : lw_okq (⟨"ShoutedHour", "takeUnaddedOffs", "(III)Z"⟩, 18) := ⟨⟨by decide +kernel, by decide +kernel⟩, List.mem_of_getElem? (i := 23) (by decide +kernel), List.mem_of_getElem? (i := 764) (by decide +kernel), List.mem_of_getElem? (i := 765) (by decide +kernel)⟩
theorem lw_p34 : lw_okq (⟨"ShoutedHour", "farthestOverDays", "(I)I"⟩, 18) := ⟨⟨by decide +kernel, by decide +kernel⟩, List.mem_of_getElem? (i := 23) (by decide +kernel), List.mem_of_getElem? (i := 768) (by decide +kernel), List.mem_of_getElem? (i := 769) (by decide +kernel)⟩
theorem lw_p35 : lw_okq (⟨"ShoutedHour", "isSet", "(I)Z"⟩, 18) := ⟨⟨by decide +kernel, by decide +kernel⟩, List.mem_of_getElem? (i := 23) (by decide +kernel), List.mem_of_getElem? (i := 780) (by decide +kernel), List.mem_of_getElem? (i := 781) (by decide +kernel)⟩
theorem lw_p36 : lw_okq (⟨"ShoutedHour", "wrongReports", "()I"⟩, 18) := ⟨⟨by decide +kernel, by decide +kernel⟩, List.mem_of_getElem? (i := 23) (by decide +kernel), List.mem_of_getElem? (i := 874) (by decide +kernel), List.mem_of_getElem? (i := 875) (by decide +kernel)⟩
theorem lw_p37 : lw_okq (⟨"ShoutedHour", "isInRows", "(II)Z"⟩, 18) := ⟨⟨by decide +kernel, by decide +kernel⟩, List.mem_of_getElem? (i := 23) (by decide +kernel), List.mem_of_getElem? (i := 890) (by decide +kernel), List.mem_of_getElem? (i := 891) (by decide +kernel)⟩
theorem lw_p38 : lw_okq (⟨"ShoutedHour", "isRowOfAsked", "(II)Z"⟩, 18) := ⟨⟨by decide +kernel, by decide +kernel⟩, List.mem_of_getElem? (i := 23) (by decide +kernel), List.mem_of_getElem? (i := 902) (by decide +kernel), List.mem_of_getElem? (i := 903) (by decide +kernel)⟩
theorem lw_p39 : lw_okq (⟨"ShoutedHour", "isItem", "(II)Z"⟩, 18) := ⟨⟨by decide +kernel, by decide +kernel⟩, List.mem_of_getElem? (i := 23) (by decide +kernel), List.mem_of_getElem? (i := 920) (by decide +kernel), List.mem_of_getElem? (i := 921) (by decide +kernel)⟩
theorem lw_p40 : lw_okq (⟨"ShoutedHour", "isTowerOnShelf", "(I)Z"⟩, 18) := ⟨⟨by decide +kernel, by decide +kernel⟩, List.mem_of_getElem? (i := 23) (by decide +kernel), List.mem_of_getElem? (i := 947) (by decide +kernel), List.mem_of_getElem? (i := 948) (by decide +kernel)⟩
theorem lw_p41 : lw_okq (⟨"ShoutedHourModel", "isTower", "(I)Z"⟩, 36) := ⟨⟨by decide +kernel, by decide +kernel⟩, List.mem_of_getElem? (i := 1067) (by decide +kernel), List.mem_of_getElem? (i := 1203) (by decide +kernel), List.mem_of_getElem? (i := 1204) (by decide +kernel)⟩
theorem lw_p42 : lw_okq (⟨"ShoutedHourModel", "asks", "(I)V"⟩, 36) := ⟨⟨by decide +kernel, by decide +kernel⟩, List.mem_of_getElem? (i := 1067) (by decide +kernel), List.mem_of_getElem? (i := 1208) (by decide +kernel), List.mem_of_getElem? (i := 1209) (by decide +kernel)⟩
theorem lw_p43 : lw_okq (⟨"ShoutedHourModel", "its", "(II)I"⟩, 36) := ⟨⟨by decide +kernel, by decide +kernel⟩, List.mem_of_getElem? (i := 1067) (by decide +kernel), List.mem_of_getElem? (i := 1212) (by decide +kernel), List.mem_of_getElem? (i := 1213) (by decide +kernel)⟩
theorem lw_p44 : lw_okq (⟨"ShoutedHourModel", "isSo", "(III)Z"⟩, 36) := ⟨⟨by decide +kernel, by decide +kernel⟩, List.mem_of_getElem? (i := 1067) (by decide +kernel), List.mem_of_getElem? (i := 1219) (by decide +kernel), List.mem_of_getElem? (i := 1220) (by decide +kernel)⟩
theorem lw_p45 : lw_okq (⟨"ShoutedHourModel", "fact", "(II)I"⟩, 36) := ⟨⟨by decide +kernel, by decide +kernel⟩, List.mem_of_getElem? (i := 1067) (by decide +kernel), List.mem_of_getElem? (i := 1223) (by decide +kernel), List.mem_of_getElem? (i := 1224) (by decide +kernel)⟩
theorem lw_p46 : lw_okq (⟨"ShoutedHourModel", "quiets", "()V"⟩, 36) := ⟨⟨by decide +kernel, by decide +kernel⟩, List.mem_of_getElem? (i := 1067) (by decide +kernel), List.mem_of_getElem? (i := 1264) (by decide +kernel), List.mem_of_getElem? (i := 1265) (by decide +kernel)⟩
theorem lw_p47 : lw_okq (⟨"ShoutedHourModel", "goes", "(IIZII)V"⟩, 36) := ⟨⟨by decide +kernel, by decide +kernel⟩, List.mem_of_getElem? (i := 1067) (by decide +kernel), List.mem_of_getElem? (i := 1268) (by decide +kernel), List.mem_of_getElem? (i := 1269) (by decide +kernel)⟩
def lw_privs_3 : List (MethodName × Nat) := [(⟨"ShoutedHour", "cryBothWays", "(II)V"⟩, 18), (⟨"ShoutedHour", "takeUnaddedOffs", "(III)Z"⟩, 18), (⟨"ShoutedHour", "farthestOverDays", "(I)I"⟩, 18), (⟨"ShoutedHour", "isSet", "(I)Z"⟩, 18), (⟨"ShoutedHour", "wrongReports", "()I"⟩, 18), (⟨"ShoutedHour", "isInRows", "(II)Z"⟩, 18), (⟨"ShoutedHour", "isRowOfAsked", "(II)Z"⟩, 18), (⟨"ShoutedHour", "isItem", "(II)Z"⟩, 18), (⟨"ShoutedHour", "isTowerOnShelf", "(I)Z"⟩, 18), (⟨"ShoutedHourModel", "isTower", "(I)Z"⟩, 36), (⟨"ShoutedHourModel", "asks", "(I)V"⟩, 36), (⟨"ShoutedHourModel", "its", "(II)I"⟩, 36), (⟨"ShoutedHourModel", "isSo", "(III)Z"⟩, 36), (⟨"ShoutedHourModel", "fact", "(II)I"⟩, 36), (⟨"ShoutedHourModel", "quiets", "()V"⟩, 36), (⟨"ShoutedHourModel", "goes", "(IIZII)V"⟩, 36)]
theorem lw_r3 : ∀ q ∈ lw_privs_3, lw_okq q := List.forall_mem_cons.mpr ⟨lw_p32, List.forall_mem_cons.mpr ⟨lw_p33, List.forall_mem_cons.mpr ⟨lw_p34, List.forall_mem_cons.mpr ⟨lw_p35, List.forall_mem_cons.mpr ⟨lw_p36, List.forall_mem_cons.mpr ⟨lw_p37, List.forall_mem_cons.mpr ⟨lw_p38, List.forall_mem_cons.mpr ⟨lw_p39, List.forall_mem_cons.mpr ⟨lw_p40, List.forall_mem_cons.mpr ⟨lw_p41, List.forall_mem_cons.mpr ⟨lw_p42, List.forall_mem_cons.mpr ⟨lw_p43, List.forall_mem_cons.mpr ⟨lw_p44, List.forall_mem_cons.mpr ⟨lw_p45, List.forall_mem_cons.mpr ⟨lw_p46, List.forall_mem_cons.mpr ⟨lw_p47, fun _ h => absurd h List.not_mem_nil⟩⟩⟩⟩⟩⟩⟩⟩⟩⟩⟩⟩⟩⟩⟩⟩
theorem lw_p48 : lw_okq (⟨"ShoutedHourModel", "comers", "()I"⟩, 36) := ⟨⟨by decide +kernel, by decide +kernel⟩, List.mem_of_getElem? (i := 1067) (by decide +kernel), List.mem_of_getElem? (i := 1276) (by decide +kernel), List.mem_of_getElem? (i := 1277) (by decide +kernel)⟩
theorem lw_p49 : lw_okq (⟨"ShoutedHourModel", "holders", "()I"⟩, 36) := ⟨⟨by decide +kernel, by decide +kernel⟩, List.mem_of_getElem? (i := 1067) (by decide +kernel), List.mem_of_getElem? (i := 1289) (by decide +kernel), List.mem_of_getElem? (i := 1290) (by decide +kernel)⟩
theorem lw_p50 : lw_okq (⟨"ShoutedHourModel", "isAsk", "(III)Z"⟩, 36) := ⟨⟨by decide +kernel, by decide +kernel⟩, List.mem_of_getElem? (i := 1067) (by decide +kernel), List.mem_of_getElem? (i := 1297) (by decide +kernel), List.mem_of_getElem? (i := 1298) (by decide +kernel)⟩
theorem lw_p51 : lw_okq (⟨"ShoutedHourModel", "goesBoth", "(II)V"⟩, 36) := ⟨⟨by decide +kernel, by decide +kernel⟩, List.mem_of_getElem? (i := 1067) (by decide +kernel), List.mem_of_getElem? (i := 1301) (by decide +kernel), List.mem_of_getElem? (i := 1302) (by decide +kernel)⟩
theorem lw_p52 : lw_okq (⟨"ShoutedHourModel", "offOf", "(I)I"⟩, 36) := ⟨⟨by decide +kernel, by decide +kernel⟩, List.mem_of_getElem? (i := 1067) (by decide +kernel), List.mem_of_getElem? (i := 1313) (by decide +kernel), List.mem_of_getElem? (i := 1314) (by decide +kernel)⟩
theorem lw_p53 : lw_okq (⟨"ShoutedHourModel", "farthest", "(III)I"⟩, 36) := ⟨⟨by decide +kernel, by decide +kernel⟩, List.mem_of_getElem? (i := 1067) (by decide +kernel), List.mem_of_getElem? (i := 1333) (by decide +kernel), List.mem_of_getElem? (i := 1334) (by decide +kernel)⟩
theorem lw_p54 : lw_okq (⟨"ShoutedHourModel", "clocked", "(II)I"⟩, 36) := ⟨⟨by decide +kernel, by decide +kernel⟩, List.mem_of_getElem? (i := 1067) (by decide +kernel), List.mem_of_getElem? (i := 1341) (by decide +kernel), List.mem_of_getElem? (i := 1342) (by decide +kernel)⟩
theorem lw_p55 : lw_okq (⟨"ShoutedHourModel", "fromFirst", "(II)V"⟩, 36) := ⟨⟨by decide +kernel, by decide +kernel⟩, List.mem_of_getElem? (i := 1067) (by decide +kernel), List.mem_of_getElem? (i := 1360) (by decide +kernel), List.mem_of_getElem? (i := 1361) (by decide +kernel)⟩
theorem lw_p56 : lw_okq (⟨"ShoutedHourModel", "noonOf", "(I)I"⟩, 36) := ⟨⟨by decide +kernel, by decide +kernel⟩, List.mem_of_getElem? (i := 1067) (by decide +kernel), List.mem_of_getElem? (i := 1364) (by decide +kernel), List.mem_of_getElem? (i := 1365) (by decide +kernel)⟩
theorem lw_p57 : lw_okq (⟨"ShoutedHourModel", "offs", "()I"⟩, 36) := ⟨⟨by decide +kernel, by decide +kernel⟩, List.mem_of_getElem? (i := 1067) (by decide +kernel), List.mem_of_getElem? (i := 1380) (by decide +kernel), List.mem_of_getElem? (i := 1381) (by decide +kernel)⟩
theorem lw_p58 : lw_okq (⟨"ShoutedHourModel", "draws", "(I)V"⟩, 36) := ⟨⟨by decide +kernel, by decide +kernel⟩, List.mem_of_getElem? (i := 1067) (by decide +kernel), List.mem_of_getElem? (i := 1400) (by decide +kernel), List.mem_of_getElem? (i := 1401) (by decide +kernel)⟩
theorem lw_p59 : lw_okq (⟨"ShoutedHourModel", "findFits", "(I)V"⟩, 36) := ⟨⟨by decide +kernel, by decide +kernel⟩, List.mem_of_getElem? (i := 1067) (by decide +kernel), List.mem_of_getElem? (i := 1427) (by decide +kernel), List.mem_of_getElem? (i := 1428) (by decide +kernel)⟩
theorem lw_p60 : lw_okq (⟨"ShoutedHourModel", "isFit", "(I)Z"⟩, 36) := ⟨⟨by decide +kernel, by decide +kernel⟩, List.mem_of_getElem? (i := 1067) (by decide +kernel), List.mem_of_getElem? (i := 1431) (by decide +kernel), List.mem_of_getElem? (i := 1432) (by decide +kernel)⟩
theorem lw_p61 : lw_okq (⟨"ShoutedHourModel", "isRow", "(II)Z"⟩, 36) := ⟨⟨by decide +kernel, by decide +kernel⟩, List.mem_of_getElem? (i := 1067) (by decide +kernel), List.mem_of_getElem? (i := 1447) (by decide +kernel), List.mem_of_getElem? (i := 1448) (by decide +kernel)⟩
theorem lw_p62 : lw_okq (⟨"ShoutedHourModel", "isBrought", "(IZ)Z"⟩, 36) := ⟨⟨by decide +kernel, by decide +kernel⟩, List.mem_of_getElem? (i := 1067) (by decide +kernel), List.mem_of_getElem? (i := 1459) (by decide +kernel), List.mem_of_getElem? (i := 1460) (by decide +kernel)⟩
theorem lw_p63 : lw_okq (⟨"ShoutedHourModel", "puts", "()V"⟩, 36) := ⟨⟨by decide +kernel, by decide +kernel⟩, List.mem_of_getElem? (i := 1067) (by decide +kernel), List.mem_of_getElem? (i := 1473) (by decide +kernel), List.mem_of_getElem? (i := 1474) (by decide +kernel)⟩
def lw_privs_4 : List (MethodName × Nat) := [(⟨"ShoutedHourModel", "comers", "()I"⟩, 36), (⟨"ShoutedHourModel", "holders", "()I"⟩, 36), (⟨"ShoutedHourModel", "isAsk", "(III)Z"⟩, 36), (⟨"ShoutedHourModel", "goesBoth", "(II)V"⟩, 36), (⟨"ShoutedHourModel", "offOf", "(I)I"⟩, 36), (⟨"ShoutedHourModel", "farthest", "(III)I"⟩, 36), (⟨"ShoutedHourModel", "clocked", "(II)I"⟩, 36), (⟨"ShoutedHourModel", "fromFirst", "(II)V"⟩, 36), (⟨"ShoutedHourModel", "noonOf", "(I)I"⟩, 36), (⟨"ShoutedHourModel", "offs", "()I"⟩, 36), (⟨"ShoutedHourModel", "draws", "(I)V"⟩, 36), (⟨"ShoutedHourModel", "findFits", "(I)V"⟩, 36), (⟨"ShoutedHourModel", "isFit", "(I)Z"⟩, 36), (⟨"ShoutedHourModel", "isRow", "(II)Z"⟩, 36), (⟨"ShoutedHourModel", "isBrought", "(IZ)Z"⟩, 36), (⟨"ShoutedHourModel", "puts", "()V"⟩, 36)]
theorem lw_r4 : ∀ q ∈ lw_privs_4, lw_okq q := List.forall_mem_cons.mpr ⟨lw_p48, List.forall_mem_cons.mpr ⟨lw_p49, List.forall_mem_cons.mpr ⟨lw_p50, List.forall_mem_cons.mpr ⟨lw_p51, List.forall_mem_cons.mpr ⟨lw_p52, List.forall_mem_cons.mpr ⟨lw_p53, List.forall_mem_cons.mpr ⟨lw_p54, List.forall_mem_cons.mpr ⟨lw_p55, List.forall_mem_cons.mpr ⟨lw_p56, List.forall_mem_cons.mpr ⟨lw_p57, List.forall_mem_cons.mpr ⟨lw_p58, List.forall_mem_cons.mpr ⟨lw_p59, List.forall_mem_cons.mpr ⟨lw_p60, List.forall_mem_cons.mpr ⟨lw_p61, List.forall_mem_cons.mpr ⟨lw_p62, List.forall_mem_cons.mpr ⟨lw_p63, fun _ h => absurd h List.not_mem_nil⟩⟩⟩⟩⟩⟩⟩⟩⟩⟩⟩⟩⟩⟩⟩⟩
theorem lw_p64 : lw_okq (⟨"ShoutedHourModel", "token", "()V"⟩, 36) := ⟨⟨by decide +kernel, by decide +kernel⟩, List.mem_of_getElem? (i := 1067) (by decide +kernel), List.mem_of_getElem? (i := 1477) (by decide +kernel), List.mem_of_getElem? (i := 1478) (by decide +kernel)⟩
theorem lw_p65 : lw_okq (⟨"ShoutedHourModel", "byteAt", "(I)I"⟩, 36) := ⟨⟨by decide +kernel, by decide +kernel⟩, List.mem_of_getElem? (i := 1067) (by decide +kernel), List.mem_of_getElem? (i := 1481) (by decide +kernel), List.mem_of_getElem? (i := 1482) (by decide +kernel)⟩
theorem lw_p66 : lw_okq (⟨"ShoutedHourModel", "rule", "()V"⟩, 36) := ⟨⟨by decide +kernel, by decide +kernel⟩, List.mem_of_getElem? (i := 1067) (by decide +kernel), List.mem_of_getElem? (i := 1495) (by decide +kernel), List.mem_of_getElem? (i := 1496) (by decide +kernel)⟩
theorem lw_p67 : lw_okq (⟨"ShoutedHourModel", "kindHere", "()I"⟩, 36) := ⟨⟨by decide +kernel, by decide +kernel⟩, List.mem_of_getElem? (i := 1067) (by decide +kernel), List.mem_of_getElem? (i := 1499) (by decide +kernel), List.mem_of_getElem? (i := 1500) (by decide +kernel)⟩
theorem lw_p68 : lw_okq (⟨"ShoutedHourModel", "word", "()J"⟩, 36) := ⟨⟨by decide +kernel, by decide +kernel⟩, List.mem_of_getElem? (i := 1067) (by decide +kernel), List.mem_of_getElem? (i := 1503) (by decide +kernel), List.mem_of_getElem? (i := 1504) (by decide +kernel)⟩
theorem lw_p69 : lw_okq (⟨"ShoutedHourModel", "needs", "(Z)V"⟩, 36) := ⟨⟨by decide +kernel, by decide +kernel⟩, List.mem_of_getElem? (i := 1067) (by decide +kernel), List.mem_of_getElem? (i := 1515) (by decide +kernel), List.mem_of_getElem? (i := 1516) (by decide +kernel)⟩
theorem lw_p70 : lw_okq (⟨"ShoutedHourModel", "condition", "()V"⟩, 36) := ⟨⟨by decide +kernel, by decide +kernel⟩, List.mem_of_getElem? (i := 1067) (by decide +kernel), List.mem_of_getElem? (i := 1520) (by decide +kernel), List.mem_of_getElem? (i := 1521) (by decide +kernel)⟩
theorem lw_p71 : lw_okq (⟨"ShoutedHourModel", "all", "()V"⟩, 36) := ⟨⟨by decide +kernel, by decide +kernel⟩, List.mem_of_getElem? (i := 1067) (by decide +kernel), List.mem_of_getElem? (i := 1524) (by decide +kernel), List.mem_of_getElem? (i := 1525) (by decide +kernel)⟩
theorem lw_p72 : lw_okq (⟨"ShoutedHourModel", "one", "()V"⟩, 36) := ⟨⟨by decide +kernel, by decide +kernel⟩, List.mem_of_getElem? (i := 1067) (by decide +kernel), List.mem_of_getElem? (i := 1528) (by decide +kernel), List.mem_of_getElem? (i := 1529) (by decide +kernel)⟩
theorem lw_p73 : lw_okq (⟨"ShoutedHourModel", "comparison", "()V"⟩, 36) := ⟨⟨by decide +kernel, by decide +kernel⟩, List.mem_of_getElem? (i := 1067) (by decide +kernel), List.mem_of_getElem? (i := 1533) (by decide +kernel), List.mem_of_getElem? (i := 1534) (by decide +kernel)⟩
theorem lw_p74 : lw_okq (⟨"ShoutedHourModel", "valueHere", "()V"⟩, 36) := ⟨⟨by decide +kernel, by decide +kernel⟩, List.mem_of_getElem? (i := 1067) (by decide +kernel), List.mem_of_getElem? (i := 1537) (by decide +kernel), List.mem_of_getElem? (i := 1538) (by decide +kernel)⟩
theorem lw_p75 : lw_okq (⟨"ShoutedHourModel", "factHere", "()I"⟩, 36) := ⟨⟨by decide +kernel, by decide +kernel⟩, List.mem_of_getElem? (i := 1067) (by decide +kernel), List.mem_of_getElem? (i := 1541) (by decide +kernel), List.mem_of_getElem? (i := 1542) (by decide +kernel)⟩
theorem lw_p76 : lw_okq (⟨"ShoutedHourModel", "writes", "(I)V"⟩, 36) := ⟨⟨by decide +kernel, by decide +kernel⟩, List.mem_of_getElem? (i := 1067) (by decide +kernel), List.mem_of_getElem? (i := 1551) (by decide +kernel), List.mem_of_getElem? (i := 1552) (by decide +kernel)⟩
theorem lw_p77 : lw_okq (⟨"ShoutedHourModel", "number", "(I)V"⟩, 36) := ⟨⟨by decide +kernel, by decide +kernel⟩, List.mem_of_getElem? (i := 1067) (by decide +kernel), List.mem_of_getElem? (i := 1555) (by decide +kernel), List.mem_of_getElem? (i := 1556) (by decide +kernel)⟩
theorem lw_p78 : lw_okq (⟨"ShoutedHourModel", "putsBack", "()V"⟩, 36) := ⟨⟨by decide +kernel, by decide +kernel⟩, List.mem_of_getElem? (i := 1067) (by decide +kernel), List.mem_of_getElem? (i := 1564) (by decide +kernel), List.mem_of_getElem? (i := 1565) (by decide +kernel)⟩
theorem lw_p79 : lw_okq (⟨"ShoutedHourModel", "wrong", "(II)I"⟩, 36) := ⟨⟨by decide +kernel, by decide +kernel⟩, List.mem_of_getElem? (i := 1067) (by decide +kernel), List.mem_of_getElem? (i := 1588) (by decide +kernel), List.mem_of_getElem? (i := 1589) (by decide +kernel)⟩
def lw_privs_5 : List (MethodName × Nat) := [(⟨"ShoutedHourModel", "token", "()V"⟩, 36), (⟨"ShoutedHourModel", "byteAt", "(I)I"⟩, 36), (⟨"ShoutedHourModel", "rule", "()V"⟩, 36), (⟨"ShoutedHourModel", "kindHere", "()I"⟩, 36), (⟨"ShoutedHourModel", "word", "()J"⟩, 36), (⟨"ShoutedHourModel", "needs", "(Z)V"⟩, 36), (⟨"ShoutedHourModel", "condition", "()V"⟩, 36), (⟨"ShoutedHourModel", "all", "()V"⟩, 36), (⟨"ShoutedHourModel", "one", "()V"⟩, 36), (⟨"ShoutedHourModel", "comparison", "()V"⟩, 36), (⟨"ShoutedHourModel", "valueHere", "()V"⟩, 36), (⟨"ShoutedHourModel", "factHere", "()I"⟩, 36), (⟨"ShoutedHourModel", "writes", "(I)V"⟩, 36), (⟨"ShoutedHourModel", "number", "(I)V"⟩, 36), (⟨"ShoutedHourModel", "putsBack", "()V"⟩, 36), (⟨"ShoutedHourModel", "wrong", "(II)I"⟩, 36)]
theorem lw_r5 : ∀ q ∈ lw_privs_5, lw_okq q := List.forall_mem_cons.mpr ⟨lw_p64, List.forall_mem_cons.mpr ⟨lw_p65, List.forall_mem_cons.mpr ⟨lw_p66, List.forall_mem_cons.mpr ⟨lw_p67, List.forall_mem_cons.mpr ⟨lw_p68, List.forall_mem_cons.mpr ⟨lw_p69, List.forall_mem_cons.mpr ⟨lw_p70, List.forall_mem_cons.mpr ⟨lw_p71, List.forall_mem_cons.mpr ⟨lw_p72, List.forall_mem_cons.mpr ⟨lw_p73, List.forall_mem_cons.mpr ⟨lw_p74, List.forall_mem_cons.mpr ⟨lw_p75, List.forall_mem_cons.mpr ⟨lw_p76, List.forall_mem_cons.mpr ⟨lw_p77, List.forall_mem_cons.mpr ⟨lw_p78, List.forall_mem_cons.mpr ⟨lw_p79, fun _ h => absurd h List.not_mem_nil⟩⟩⟩⟩⟩⟩⟩⟩⟩⟩⟩⟩⟩⟩⟩⟩
theorem lw_p80 : lw_okq (⟨"ShoutedHourModel", "onShelf", "(I)I"⟩, 36) := ⟨⟨by decide +kernel, by decide +kernel⟩, List.mem_of_getElem? (i := 1067) (by decide +kernel), List.mem_of_getElem? (i := 1607) (by decide +kernel), List.mem_of_getElem? (i := 1608) (by decide +kernel)⟩
theorem lw_p81 : lw_okq (⟨"ShoutedHourModel", "cries", "(I)I"⟩, 36) := ⟨⟨by decide +kernel, by decide +kernel⟩, List.mem_of_getElem? (i := 1067) (by decide +kernel), List.mem_of_getElem? (i := 1615) (by decide +kernel), List.mem_of_getElem? (i := 1616) (by decide +kernel)⟩
theorem lw_p82 : lw_okq (⟨"ShoutedHourModel", "runs", "(I)V"⟩, 36) := ⟨⟨by decide +kernel, by decide +kernel⟩, List.mem_of_getElem? (i := 1067) (by decide +kernel), List.mem_of_getElem? (i := 1619) (by decide +kernel), List.mem_of_getElem? (i := 1620) (by decide +kernel)⟩
theorem lw_p83 : lw_okq (⟨"ShoutedHourModel", "hears", "(I)I"⟩, 36) := ⟨⟨by decide +kernel, by decide +kernel⟩, List.mem_of_getElem? (i := 1067) (by decide +kernel), List.mem_of_getElem? (i := 1623) (by decide +kernel), List.mem_of_getElem? (i := 1624) (by decide +kernel)⟩
theorem lw_p84 : lw_okq (⟨"ShoutedHourModel", "shares", "(I)I"⟩, 36) := ⟨⟨by decide +kernel, by decide +kernel⟩, List.mem_of_getElem? (i := 1067) (by decide +kernel), List.mem_of_getElem? (i := 1627) (by decide +kernel), List.mem_of_getElem? (i := 1628) (by decide +kernel)⟩
theorem lw_p85 : lw_okq (⟨"ShoutedHourModel", "parts", "(I)I"⟩, 36) := ⟨⟨by decide +kernel, by decide +kernel⟩, List.mem_of_getElem? (i := 1067) (by decide +kernel), List.mem_of_getElem? (i := 1631) (by decide +kernel), List.mem_of_getElem? (i := 1632) (by decide +kernel)⟩
theorem lw_p86 : lw_okq (⟨"ShoutedHourModel", "tells", "(I)I"⟩, 36) := ⟨⟨by decide +kernel, by decide +kernel⟩, List.mem_of_getElem? (i := 1067) (by decide +kernel), List.mem_of_getElem? (i := 1635) (by decide +kernel), List.mem_of_getElem? (i := 1636) (by decide +kernel)⟩
theorem lw_p87 : lw_okq (⟨"ShoutedHourModel", "traced", "()I"⟩, 36) := ⟨⟨by decide +kernel, by decide +kernel⟩, List.mem_of_getElem? (i := 1067) (by decide +kernel), List.mem_of_getElem? (i := 1643) (by decide +kernel), List.mem_of_getElem? (i := 1644) (by decide +kernel)⟩
def lw_privs_6 : List (MethodName × Nat) := [(⟨"ShoutedHourModel", "onShelf", "(I)I"⟩, 36), (⟨"ShoutedHourModel", "cries", "(I)I"⟩, 36), (⟨"ShoutedHourModel", "runs", "(I)V"⟩, 36), (⟨"ShoutedHourModel", "hears", "(I)I"⟩, 36), (⟨"ShoutedHourModel", "shares", "(I)I"⟩, 36), (⟨"ShoutedHourModel", "parts", "(I)I"⟩, 36), (⟨"ShoutedHourModel", "tells", "(I)I"⟩, 36), (⟨"ShoutedHourModel", "traced", "()I"⟩, 36)]
theorem lw_r6 : ∀ q ∈ lw_privs_6, lw_okq q := List.forall_mem_cons.mpr ⟨lw_p80, List.forall_mem_cons.mpr ⟨lw_p81, List.forall_mem_cons.mpr ⟨lw_p82, List.forall_mem_cons.mpr ⟨lw_p83, List.forall_mem_cons.mpr ⟨lw_p84, List.forall_mem_cons.mpr ⟨lw_p85, List.forall_mem_cons.mpr ⟨lw_p86, List.forall_mem_cons.mpr ⟨lw_p87, fun _ h => absurd h List.not_mem_nil⟩⟩⟩⟩⟩⟩⟩⟩
def lw_privs : List (MethodName × Nat) := lw_privs_1 ++ (lw_privs_2 ++ (lw_privs_3 ++ (lw_privs_4 ++ (lw_privs_5 ++ (lw_privs_6)))))
def lw_tbl : List Cond := k2_sels lw_privs ++ tables_1
theorem lw_privs_ok : ∀ q ∈ lw_privs, lw_okq q := by
  show ∀ q ∈ lw_privs_1 ++ (lw_privs_2 ++ (lw_privs_3 ++ (lw_privs_4 ++ (lw_privs_5 ++ (lw_privs_6))))), lw_okq q
  exact List.forall_mem_append.mpr ⟨lw_r1, List.forall_mem_append.mpr ⟨lw_r2, List.forall_mem_append.mpr ⟨lw_r3, List.forall_mem_append.mpr ⟨lw_r4, List.forall_mem_append.mpr ⟨lw_r5, lw_r6⟩⟩⟩⟩⟩
-- the names of classes, fields and methods (begun from the printed names)
def RX0 : String := "ShoutedHour$Cry"
def TX0 : u_T := fun k => match k with
  | 0 => ("ShoutedHour$Cry", "valley", "LShoutedHour$Valley;", true)
  | 1 => ("ShoutedHour$Cry", "adds", "[I", true)
  | 2 => ("ShoutedHour$Cry", "isSilent", "[Z", true)
  | 3 => ("ShoutedHour$Cry", "paceWest", "I", false)
  | 4 => ("ShoutedHour$Cry", "paceEast", "I", false)
  | 5 => ("ShoutedHour$Cry", "begins", "I", false)
  | 6 => ("ShoutedHour$Cry", "came", "[I", true)
  | _ => ("ShoutedHour$Cry", "held", "[I", true)
def tyX0 : Nat → FieldType := fun k => match k with
  | 0 => .object "ShoutedHour$Valley"
  | 1 => .array .int
  | 2 => .array .boolean
  | 3 => .int
  | 4 => .int
  | 5 => .int
  | 6 => .array .int
  | _ => .array .int
abbrev wsX00 : List Cond := u_ws RX0 TX0 8
theorem nmX0 : ∀ a, a < 8 → ∀ b, b < 8 → a ≠ b → (TX0 a).2.1 ≠ (TX0 b).2.1 := by decide +kernel
theorem tyX0_ok : ∀ k, k < 8 → parseFieldDescriptor (TX0 k).2.2.1 = some (tyX0 k) := by decide +kernel
abbrev cX0_init : ByteArray := prog_2_method_1_code
def yX0_init : MethodName := ⟨RX0, "<init>", "(LShoutedHour$Valley;)V"⟩
abbrev cX0_takeDay : ByteArray := prog_2_method_2_code
def yX0_takeDay : MethodName := ⟨RX0, "takeDay", "(I)V"⟩
abbrev cX0_goBothWays : ByteArray := prog_2_method_3_code
def yX0_goBothWays : MethodName := ⟨RX0, "goBothWays", "(II)V"⟩
abbrev cX0_goOneWay : ByteArray := prog_2_method_4_code
def yX0_goOneWay : MethodName := ⟨RX0, "goOneWay", "(IIZ)V"⟩
abbrev cX0_farthestByClocks : ByteArray := prog_2_method_5_code
def yX0_farthestByClocks : MethodName := ⟨RX0, "farthestByClocks", "(II)I"⟩
abbrev cX0_beginAt : ByteArray := prog_2_method_6_code
def yX0_beginAt : MethodName := ⟨RX0, "beginAt", "(II)V"⟩
abbrev cX0_goWest : ByteArray := prog_2_method_7_code
def yX0_goWest : MethodName := ⟨RX0, "goWest", "(I)V"⟩
abbrev cX0_goEast : ByteArray := prog_2_method_8_code
def yX0_goEast : MethodName := ⟨RX0, "goEast", "(I)V"⟩
abbrev cX0_isBeginning : ByteArray := prog_2_method_9_code
def yX0_isBeginning : MethodName := ⟨RX0, "isBeginning", "(I)Z"⟩
abbrev cX0_bring : ByteArray := prog_2_method_10_code
def yX0_bring : MethodName := ⟨RX0, "bring", "(III)V"⟩
abbrev cX0_reaches : ByteArray := prog_2_method_11_code
def yX0_reaches : MethodName := ⟨RX0, "reaches", "(I)Z"⟩
abbrev cX0_reached : ByteArray := prog_2_method_12_code
def yX0_reached : MethodName := ⟨RX0, "reached", "()I"⟩
abbrev cX0_offOf : ByteArray := prog_2_method_13_code
def yX0_offOf : MethodName := ⟨RX0, "offOf", "(I)I"⟩
abbrev cX0_distanceOf : ByteArray := prog_2_method_14_code
def yX0_distanceOf : MethodName := ⟨RX0, "distanceOf", "(I)I"⟩
abbrev cX0_sumOfDistances : ByteArray := prog_2_method_15_code
def yX0_sumOfDistances : MethodName := ⟨RX0, "sumOfDistances", "()I"⟩
abbrev cX0_noonOf : ByteArray := prog_2_method_16_code
def yX0_noonOf : MethodName := ⟨RX0, "noonOf", "(I)I"⟩
def RX1 : String := "ShoutedHour$Drunk"
def TX1 : u_T := fun k => match k with
  | 0 => ("ShoutedHour$Watchman", "ran", "LShoutedHour$Trace;", true)
  | 1 => ("ShoutedHour$Watchman", "n", "I", false)
  | _ => ("ShoutedHour$Watchman", "a", "I", false)
def tyX1 : Nat → FieldType := fun k => match k with
  | 0 => .object "ShoutedHour$Trace"
  | 1 => .int
  | _ => .int
abbrev wsX10 : List Cond := u_ws RX1 TX1 3
theorem nmX1 : ∀ a, a < 3 → ∀ b, b < 3 → a ≠ b → (TX1 a).2.1 ≠ (TX1 b).2.1 := by decide +kernel
theorem tyX1_ok : ∀ k, k < 3 → parseFieldDescriptor (TX1 k).2.2.1 = some (tyX1 k) := by decide +kernel
abbrev cX1_init : ByteArray := prog_3_method_1_code
def yX1_init : MethodName := ⟨RX1, "<init>", "(LShoutedHour$Trace;)V"⟩
abbrev cX1_cries : ByteArray := prog_3_method_2_code
def yX1_cries : MethodName := ⟨RX1, "cries", "(I)I"⟩
abbrev cX1_tells : ByteArray := prog_3_method_3_code
def yX1_tells : MethodName := ⟨RX1, "tells", "(I)I"⟩
def RX2 : String := "ShoutedHour$Mender"
def TX2 : u_T := fun k => match k with
  | 0 => ("ShoutedHour$Watchman", "ran", "LShoutedHour$Trace;", true)
  | 1 => ("ShoutedHour$Watchman", "n", "I", false)
  | _ => ("ShoutedHour$Watchman", "a", "I", false)
def tyX2 : Nat → FieldType := fun k => match k with
  | 0 => .object "ShoutedHour$Trace"
  | 1 => .int
  | _ => .int
abbrev wsX20 : List Cond := u_ws RX2 TX2 3
theorem nmX2 : ∀ a, a < 3 → ∀ b, b < 3 → a ≠ b → (TX2 a).2.1 ≠ (TX2 b).2.1 := by decide +kernel
theorem tyX2_ok : ∀ k, k < 3 → parseFieldDescriptor (TX2 k).2.2.1 = some (tyX2 k) := by decide +kernel
abbrev cX2_init : ByteArray := prog_4_method_1_code
def yX2_init : MethodName := ⟨RX2, "<init>", "(LShoutedHour$Trace;)V"⟩
abbrev cX2_shares : ByteArray := prog_4_method_2_code
def yX2_shares : MethodName := ⟨RX2, "shares", "(I)I"⟩
def RX3 : String := "ShoutedHour$Plain"
def TX3 : u_T := fun k => match k with
  | 0 => ("ShoutedHour$Watchman", "ran", "LShoutedHour$Trace;", true)
  | 1 => ("ShoutedHour$Watchman", "n", "I", false)
  | _ => ("ShoutedHour$Watchman", "a", "I", false)
def tyX3 : Nat → FieldType := fun k => match k with
  | 0 => .object "ShoutedHour$Trace"
  | 1 => .int
  | _ => .int
abbrev wsX30 : List Cond := u_ws RX3 TX3 3
theorem nmX3 : ∀ a, a < 3 → ∀ b, b < 3 → a ≠ b → (TX3 a).2.1 ≠ (TX3 b).2.1 := by decide +kernel
theorem tyX3_ok : ∀ k, k < 3 → parseFieldDescriptor (TX3 k).2.2.1 = some (tyX3 k) := by decide +kernel
abbrev cX3_init : ByteArray := prog_5_method_1_code
def yX3_init : MethodName := ⟨RX3, "<init>", "(LShoutedHour$Trace;)V"⟩
abbrev cX3_cries : ByteArray := prog_5_method_2_code
def yX3_cries : MethodName := ⟨RX3, "cries", "(I)I"⟩
def RX4 : String := "ShoutedHour$Proud"
def TX4 : u_T := fun k => match k with
  | 0 => ("ShoutedHour$Watchman", "ran", "LShoutedHour$Trace;", true)
  | 1 => ("ShoutedHour$Watchman", "n", "I", false)
  | _ => ("ShoutedHour$Watchman", "a", "I", false)
def tyX4 : Nat → FieldType := fun k => match k with
  | 0 => .object "ShoutedHour$Trace"
  | 1 => .int
  | _ => .int
abbrev wsX40 : List Cond := u_ws RX4 TX4 3
theorem nmX4 : ∀ a, a < 3 → ∀ b, b < 3 → a ≠ b → (TX4 a).2.1 ≠ (TX4 b).2.1 := by decide +kernel
theorem tyX4_ok : ∀ k, k < 3 → parseFieldDescriptor (TX4 k).2.2.1 = some (tyX4 k) := by decide +kernel
abbrev cX4_init : ByteArray := prog_6_method_1_code
def yX4_init : MethodName := ⟨RX4, "<init>", "(LShoutedHour$Trace;)V"⟩
abbrev cX4_hears : ByteArray := prog_6_method_2_code
def yX4_hears : MethodName := ⟨RX4, "hears", "(I)I"⟩
def RX5 : String := "ShoutedHour$RuleBook"
def TX5 : u_T := fun k => match k with
  | 0 => ("ShoutedHour$RuleBook", "count", "I", false)
  | 1 => ("ShoutedHour$RuleBook", "kind", "[I", true)
  | 2 => ("ShoutedHour$RuleBook", "deed", "[I", true)
  | 3 => ("ShoutedHour$RuleBook", "number", "[I", true)
  | 4 => ("ShoutedHour$RuleBook", "end", "[I", true)
  | 5 => ("ShoutedHour$RuleBook", "stepCount", "I", false)
  | _ => ("ShoutedHour$RuleBook", "steps", "[I", true)
def tyX5 : Nat → FieldType := fun k => match k with
  | 0 => .int
  | 1 => .array .int
  | 2 => .array .int
  | 3 => .array .int
  | 4 => .array .int
  | 5 => .int
  | _ => .array .int
abbrev wsX50 : List Cond := u_ws RX5 TX5 7
theorem nmX5 : ∀ a, a < 7 → ∀ b, b < 7 → a ≠ b → (TX5 a).2.1 ≠ (TX5 b).2.1 := by decide +kernel
theorem tyX5_ok : ∀ k, k < 7 → parseFieldDescriptor (TX5 k).2.2.1 = some (tyX5 k) := by decide +kernel
abbrev cX5_init : ByteArray := prog_7_method_1_code
def yX5_init : MethodName := ⟨RX5, "<init>", "()V"⟩
abbrev cX5_clear : ByteArray := prog_7_method_2_code
def yX5_clear : MethodName := ⟨RX5, "clear", "()V"⟩
abbrev cX5_addStep : ByteArray := prog_7_method_3_code
def yX5_addStep : MethodName := ⟨RX5, "addStep", "(I)V"⟩
abbrev cX5_comparing : ByteArray := prog_7_method_4_code
def yX5_comparing : MethodName := ⟨RX5, "comparing", "(III)I"⟩
abbrev cX5_firstFor : ByteArray := prog_7_method_5_code
def yX5_firstFor : MethodName := ⟨RX5, "firstFor", "(I[I)I"⟩
abbrev cX5_isMet : ByteArray := prog_7_method_6_code
def yX5_isMet : MethodName := ⟨RX5, "isMet", "(I[I)Z"⟩
abbrev cX5_isTrue : ByteArray := prog_7_method_7_code
def yX5_isTrue : MethodName := ⟨RX5, "isTrue", "(I[I)Z"⟩
abbrev cX5_isSilent : ByteArray := prog_7_method_8_code
def yX5_isSilent : MethodName := ⟨RX5, "isSilent", "(I)Z"⟩
abbrev cX5_changed : ByteArray := prog_7_method_9_code
def yX5_changed : MethodName := ⟨RX5, "changed", "(III)I"⟩
abbrev cX5_copyFrom : ByteArray := prog_7_method_10_code
def yX5_copyFrom : MethodName := ⟨RX5, "copyFrom", "(LShoutedHour$RuleBook;)V"⟩
def RX6 : String := "ShoutedHour$RuleReader"
def TX6 : u_T := fun k => match k with
  | 0 => ("ShoutedHour$RuleReader", "bytes", "I", false)
  | 1 => ("ShoutedHour$RuleReader", "tape", "[B", true)
  | 2 => ("ShoutedHour$RuleReader", "draft", "LShoutedHour$RuleBook;", true)
  | 3 => ("ShoutedHour$RuleReader", "token", "I", false)
  | 4 => ("ShoutedHour$RuleReader", "start", "I", false)
  | 5 => ("ShoutedHour$RuleReader", "next", "I", false)
  | 6 => ("ShoutedHour$RuleReader", "value", "I", false)
  | 7 => ("ShoutedHour$RuleReader", "state", "I", false)
  | 8 => ("ShoutedHour$RuleReader", "left", "I", false)
  | 9 => ("ShoutedHour$RuleReader", "sign", "I", false)
  | 10 => ("ShoutedHour$RuleReader", "open", "I", false)
  | 11 => ("ShoutedHour$RuleReader", "waiting", "[I", true)
  | _ => ("ShoutedHour$RuleReader", "waitingCount", "I", false)
def tyX6 : Nat → FieldType := fun k => match k with
  | 0 => .int
  | 1 => .array .byte
  | 2 => .object "ShoutedHour$RuleBook"
  | 3 => .int
  | 4 => .int
  | 5 => .int
  | 6 => .int
  | 7 => .int
  | 8 => .int
  | 9 => .int
  | 10 => .int
  | 11 => .array .int
  | _ => .int
abbrev wsX60 : List Cond := u_ws RX6 TX6 13
theorem nmX6 : ∀ a, a < 13 → ∀ b, b < 13 → a ≠ b → (TX6 a).2.1 ≠ (TX6 b).2.1 := by decide +kernel
theorem tyX6_ok : ∀ k, k < 13 → parseFieldDescriptor (TX6 k).2.2.1 = some (tyX6 k) := by decide +kernel
abbrev cX6_init : ByteArray := prog_8_method_1_code
def yX6_init : MethodName := ⟨RX6, "<init>", "()V"⟩
abbrev cX6_readTape : ByteArray := prog_8_method_2_code
def yX6_readTape : MethodName := ⟨RX6, "readTape", "()I"⟩
abbrev cX6_readToken : ByteArray := prog_8_method_3_code
def yX6_readToken : MethodName := ⟨RX6, "readToken", "()V"⟩
abbrev cX6_readNumber : ByteArray := prog_8_method_4_code
def yX6_readNumber : MethodName := ⟨RX6, "readNumber", "()V"⟩
abbrev cX6_isLetter : ByteArray := prog_8_method_5_code
def yX6_isLetter : MethodName := ⟨RX6, "isLetter", "(I)Z"⟩
abbrev cX6_isDigit : ByteArray := prog_8_method_6_code
def yX6_isDigit : MethodName := ⟨RX6, "isDigit", "(I)Z"⟩
abbrev cX6_takesToken : ByteArray := prog_8_method_7_code
def yX6_takesToken : MethodName := ⟨RX6, "takesToken", "()Z"⟩
abbrev cX6_takesKind : ByteArray := prog_8_method_8_code
def yX6_takesKind : MethodName := ⟨RX6, "takesKind", "()Z"⟩
abbrev cX6_takesIf : ByteArray := prog_8_method_9_code
def yX6_takesIf : MethodName := ⟨RX6, "takesIf", "()Z"⟩
abbrev cX6_takesDeed : ByteArray := prog_8_method_10_code
def yX6_takesDeed : MethodName := ⟨RX6, "takesDeed", "()Z"⟩
abbrev cX6_takesNot : ByteArray := prog_8_method_11_code
def yX6_takesNot : MethodName := ⟨RX6, "takesNot", "()Z"⟩
abbrev cX6_takesOpening : ByteArray := prog_8_method_12_code
def yX6_takesOpening : MethodName := ⟨RX6, "takesOpening", "()Z"⟩
abbrev cX6_takesLeft : ByteArray := prog_8_method_13_code
def yX6_takesLeft : MethodName := ⟨RX6, "takesLeft", "()Z"⟩
abbrev cX6_takesSign : ByteArray := prog_8_method_14_code
def yX6_takesSign : MethodName := ⟨RX6, "takesSign", "()Z"⟩
abbrev cX6_takesRight : ByteArray := prog_8_method_15_code
def yX6_takesRight : MethodName := ⟨RX6, "takesRight", "()Z"⟩
abbrev cX6_takesJoint : ByteArray := prog_8_method_16_code
def yX6_takesJoint : MethodName := ⟨RX6, "takesJoint", "()Z"⟩
abbrev cX6_takesClosing : ByteArray := prog_8_method_17_code
def yX6_takesClosing : MethodName := ⟨RX6, "takesClosing", "()Z"⟩
abbrev cX6_takesN : ByteArray := prog_8_method_18_code
def yX6_takesN : MethodName := ⟨RX6, "takesN", "()Z"⟩
abbrev cX6_takesSemicolon : ByteArray := prog_8_method_19_code
def yX6_takesSemicolon : MethodName := ⟨RX6, "takesSemicolon", "()Z"⟩
abbrev cX6_goesTo : ByteArray := prog_8_method_20_code
def yX6_goesTo : MethodName := ⟨RX6, "goesTo", "(IZ)Z"⟩
abbrev cX6_isSingle : ByteArray := prog_8_method_21_code
def yX6_isSingle : MethodName := ⟨RX6, "isSingle", "(C)Z"⟩
abbrev cX6_operand : ByteArray := prog_8_method_22_code
def yX6_operand : MethodName := ⟨RX6, "operand", "()I"⟩
abbrev cX6_await : ByteArray := prog_8_method_23_code
def yX6_await : MethodName := ⟨RX6, "await", "(I)V"⟩
abbrev cX6_addWaiting : ByteArray := prog_8_method_24_code
def yX6_addWaiting : MethodName := ⟨RX6, "addWaiting", "(I)V"⟩
abbrev cX6_placeIn : ByteArray := prog_8_method_25_code
def yX6_placeIn : MethodName := ⟨RX6, "placeIn", "(Ljava/lang/String;)I"⟩
abbrev cX6_isSpelt : ByteArray := prog_8_method_26_code
def yX6_isSpelt : MethodName := ⟨RX6, "isSpelt", "(Ljava/lang/String;II)Z"⟩
def RX7 : String := "ShoutedHour$Sleeper"
def TX7 : u_T := fun k => match k with
  | 0 => ("ShoutedHour$Watchman", "ran", "LShoutedHour$Trace;", true)
  | 1 => ("ShoutedHour$Watchman", "n", "I", false)
  | _ => ("ShoutedHour$Watchman", "a", "I", false)
def tyX7 : Nat → FieldType := fun k => match k with
  | 0 => .object "ShoutedHour$Trace"
  | 1 => .int
  | _ => .int
abbrev wsX70 : List Cond := u_ws RX7 TX7 3
theorem nmX7 : ∀ a, a < 3 → ∀ b, b < 3 → a ≠ b → (TX7 a).2.1 ≠ (TX7 b).2.1 := by decide +kernel
theorem tyX7_ok : ∀ k, k < 3 → parseFieldDescriptor (TX7 k).2.2.1 = some (tyX7 k) := by decide +kernel
abbrev cX7_init : ByteArray := prog_9_method_1_code
def yX7_init : MethodName := ⟨RX7, "<init>", "(LShoutedHour$Trace;)V"⟩
abbrev cX7_hears : ByteArray := prog_9_method_2_code
def yX7_hears : MethodName := ⟨RX7, "hears", "(I)I"⟩
abbrev cX7_shares : ByteArray := prog_9_method_3_code
def yX7_shares : MethodName := ⟨RX7, "shares", "(I)I"⟩
def RX8 : String := "ShoutedHour$Trace"
def TX8 : u_T := fun k => match k with
  | 0 => ("ShoutedHour$Trace", "count", "I", false)
  | 1 => ("ShoutedHour$Trace", "bodies", "[I", true)
  | _ => ("ShoutedHour$Trace", "isParted", "Z", false)
def tyX8 : Nat → FieldType := fun k => match k with
  | 0 => .int
  | 1 => .array .int
  | _ => .boolean
abbrev wsX80 : List Cond := u_ws RX8 TX8 3
theorem nmX8 : ∀ a, a < 3 → ∀ b, b < 3 → a ≠ b → (TX8 a).2.1 ≠ (TX8 b).2.1 := by decide +kernel
theorem tyX8_ok : ∀ k, k < 3 → parseFieldDescriptor (TX8 k).2.2.1 = some (tyX8 k) := by decide +kernel
abbrev cX8_init : ByteArray := prog_10_method_1_code
def yX8_init : MethodName := ⟨RX8, "<init>", "()V"⟩
abbrev cX8_clear : ByteArray := prog_10_method_2_code
def yX8_clear : MethodName := ⟨RX8, "clear", "()V"⟩
abbrev cX8_begin : ByteArray := prog_10_method_3_code
def yX8_begin : MethodName := ⟨RX8, "begin", "(I)V"⟩
def RX9 : String := "ShoutedHour$Valley"
def TX9 : u_T := fun k => match k with
  | 0 => ("ShoutedHour$Valley", "towers", "I", false)
  | 1 => ("ShoutedHour$Valley", "kind", "[I", true)
  | 2 => ("ShoutedHour$Valley", "add", "[I", true)
  | 3 => ("ShoutedHour$Valley", "delay", "[I", true)
  | 4 => ("ShoutedHour$Valley", "miles", "[I", true)
  | 5 => ("ShoutedHour$Valley", "held", "[I", true)
  | 6 => ("ShoutedHour$Valley", "came", "[I", true)
  | 7 => ("ShoutedHour$Valley", "day", "I", false)
  | 8 => ("ShoutedHour$Valley", "wind", "[I", true)
  | 9 => ("ShoutedHour$Valley", "z", "I", false)
  | 10 => ("ShoutedHour$Valley", "book", "LShoutedHour$RuleBook;", true)
  | 11 => ("ShoutedHour$Valley", "reports", "I", false)
  | 12 => ("ShoutedHour$Valley", "reportTower", "[I", true)
  | 13 => ("ShoutedHour$Valley", "reportHour", "[I", true)
  | _ => ("ShoutedHour$Valley", "facts", "[I", true)
def tyX9 : Nat → FieldType := fun k => match k with
  | 0 => .int
  | 1 => .array .int
  | 2 => .array .int
  | 3 => .array .int
  | 4 => .array .int
  | 5 => .array .int
  | 6 => .array .int
  | 7 => .int
  | 8 => .array .int
  | 9 => .int
  | 10 => .object "ShoutedHour$RuleBook"
  | 11 => .int
  | 12 => .array .int
  | 13 => .array .int
  | _ => .array .int
abbrev wsX90 : List Cond := u_ws RX9 TX9 15
theorem nmX9 : ∀ a, a < 15 → ∀ b, b < 15 → a ≠ b → (TX9 a).2.1 ≠ (TX9 b).2.1 := by decide +kernel
theorem tyX9_ok : ∀ k, k < 15 → parseFieldDescriptor (TX9 k).2.2.1 = some (tyX9 k) := by decide +kernel
abbrev cX9_init : ByteArray := prog_11_method_1_code
def yX9_init : MethodName := ⟨RX9, "<init>", "()V"⟩
abbrev cX9_isTower : ByteArray := prog_11_method_2_code
def yX9_isTower : MethodName := ⟨RX9, "isTower", "(I)Z"⟩
abbrev cX9_holding : ByteArray := prog_11_method_3_code
def yX9_holding : MethodName := ⟨RX9, "holding", "()I"⟩
abbrev cX9_minutesAMile : ByteArray := prog_11_method_4_code
def yX9_minutesAMile : MethodName := ⟨RX9, "minutesAMile", "(IZ)I"⟩
abbrev cX9_ruleFor : ByteArray := prog_11_method_5_code
def yX9_ruleFor : MethodName := ⟨RX9, "ruleFor", "(II)I"⟩
abbrev cX9_addedBy : ByteArray := prog_11_method_6_code
def yX9_addedBy : MethodName := ⟨RX9, "addedBy", "(III)I"⟩
abbrev cX9_copyFrom : ByteArray := prog_11_method_7_code
def yX9_copyFrom : MethodName := ⟨RX9, "copyFrom", "(LShoutedHour$Valley;)V"⟩
def RX10 : String := "ShoutedHour$Watchman"
def TX10 : u_T := fun k => match k with
  | 0 => ("ShoutedHour$Watchman", "ran", "LShoutedHour$Trace;", true)
  | 1 => ("ShoutedHour$Watchman", "n", "I", false)
  | _ => ("ShoutedHour$Watchman", "a", "I", false)
def tyX10 : Nat → FieldType := fun k => match k with
  | 0 => .object "ShoutedHour$Trace"
  | 1 => .int
  | _ => .int
abbrev wsX100 : List Cond := u_ws RX10 TX10 3
theorem nmX10 : ∀ a, a < 3 → ∀ b, b < 3 → a ≠ b → (TX10 a).2.1 ≠ (TX10 b).2.1 := by decide +kernel
theorem tyX10_ok : ∀ k, k < 3 → parseFieldDescriptor (TX10 k).2.2.1 = some (tyX10 k) := by decide +kernel
abbrev cX10_init : ByteArray := prog_12_method_1_code
def yX10_init : MethodName := ⟨RX10, "<init>", "(LShoutedHour$Trace;)V"⟩
abbrev cX10_cries : ByteArray := prog_12_method_2_code
def yX10_cries : MethodName := ⟨RX10, "cries", "(I)I"⟩
abbrev cX10_hears : ByteArray := prog_12_method_3_code
def yX10_hears : MethodName := ⟨RX10, "hears", "(I)I"⟩
abbrev cX10_shares : ByteArray := prog_12_method_4_code
def yX10_shares : MethodName := ⟨RX10, "shares", "(I)I"⟩
abbrev cX10_tells : ByteArray := prog_12_method_5_code
def yX10_tells : MethodName := ⟨RX10, "tells", "(I)I"⟩
def RX11 : String := "ShoutedHour"
def TX11 : u_T := fun k => match k with
  | 0 => ("ShoutedHour", "now", "LShoutedHour$Valley;", true)
  | 1 => ("ShoutedHour", "kept", "LShoutedHour$Valley;", true)
  | 2 => ("ShoutedHour", "isKept", "Z", false)
  | 3 => ("ShoutedHour", "reader", "LShoutedHour$RuleReader;", true)
  | 4 => ("ShoutedHour", "asked", "LShoutedHour$Cry;", true)
  | 5 => ("ShoutedHour", "second", "LShoutedHour$Cry;", true)
  | 6 => ("ShoutedHour", "comesOnDay", "[Z", true)
  | 7 => ("ShoutedHour", "unaddedOff", "[I", true)
  | 8 => ("ShoutedHour", "rowCount", "I", false)
  | 9 => ("ShoutedHour", "rows", "[[I", true)
  | 10 => ("ShoutedHour", "sheetSort", "[I", true)
  | 11 => ("ShoutedHour", "sheetLength", "[I", true)
  | 12 => ("ShoutedHour", "sheetItems", "[[I", true)
  | 13 => ("ShoutedHour", "shelfHolds", "[I", true)
  | 14 => ("ShoutedHour", "shelfThing", "[I", true)
  | 15 => ("ShoutedHour", "shelfLength", "[I", true)
  | 16 => ("ShoutedHour", "ran", "LShoutedHour$Trace;", true)
  | _ => ("ShoutedHour", "things", "[LShoutedHour$Watchman;", true)
def tyX11 : Nat → FieldType := fun k => match k with
  | 0 => .object "ShoutedHour$Valley"
  | 1 => .object "ShoutedHour$Valley"
  | 2 => .boolean
  | 3 => .object "ShoutedHour$RuleReader"
  | 4 => .object "ShoutedHour$Cry"
  | 5 => .object "ShoutedHour$Cry"
  | 6 => .array .boolean
  | 7 => .array .int
  | 8 => .int
  | 9 => .array (.array .int)
  | 10 => .array .int
  | 11 => .array .int
  | 12 => .array (.array .int)
  | 13 => .array .int
  | 14 => .array .int
  | 15 => .array .int
  | 16 => .object "ShoutedHour$Trace"
  | _ => .array (.object "ShoutedHour$Watchman")
abbrev wsX110 : List Cond := u_ws RX11 TX11 18
theorem nmX11 : ∀ a, a < 18 → ∀ b, b < 18 → a ≠ b → (TX11 a).2.1 ≠ (TX11 b).2.1 := by decide +kernel
theorem tyX11_ok : ∀ k, k < 18 → parseFieldDescriptor (TX11 k).2.2.1 = some (tyX11 k) := by decide +kernel
abbrev cX11_init : ByteArray := prog_1_method_1_code
def yX11_init : MethodName := ⟨RX11, "<init>", "()V"⟩
abbrev cX11_tower : ByteArray := prog_1_method_2_code
def yX11_tower : MethodName := ⟨RX11, "tower", "(IIII)I"⟩
abbrev cX11_towerOf : ByteArray := prog_1_method_3_code
def yX11_towerOf : MethodName := ⟨RX11, "towerOf", "(II)I"⟩
abbrev cX11_change : ByteArray := prog_1_method_4_code
def yX11_change : MethodName := ⟨RX11, "change", "(III)I"⟩
abbrev cX11_turn : ByteArray := prog_1_method_5_code
def yX11_turn : MethodName := ⟨RX11, "turn", "(II)I"⟩
abbrev cX11_day : ByteArray := prog_1_method_6_code
def yX11_day : MethodName := ⟨RX11, "day", "(I)I"⟩
abbrev cX11_wind : ByteArray := prog_1_method_7_code
def yX11_wind : MethodName := ⟨RX11, "wind", "(II)I"⟩
abbrev cX11_pace : ByteArray := prog_1_method_8_code
def yX11_pace : MethodName := ⟨RX11, "pace", "(Z)I"⟩
abbrev cX11_isTowerKind : ByteArray := prog_1_method_9_code
def yX11_isTowerKind : MethodName := ⟨RX11, "isTowerKind", "(I)Z"⟩
abbrev cX11_isMeasure : ByteArray := prog_1_method_10_code
def yX11_isMeasure : MethodName := ⟨RX11, "isMeasure", "(II)Z"⟩
abbrev cX11_isDay : ByteArray := prog_1_method_11_code
def yX11_isDay : MethodName := ⟨RX11, "isDay", "(I)Z"⟩
abbrev cX11_isUnder : ByteArray := prog_1_method_12_code
def yX11_isUnder : MethodName := ⟨RX11, "isUnder", "(II)Z"⟩
abbrev cX11_feed : ByteArray := prog_1_method_13_code
def yX11_feed : MethodName := ⟨RX11, "feed", "(JI)I"⟩
abbrev cX11_rules : ByteArray := prog_1_method_14_code
def yX11_rules : MethodName := ⟨RX11, "rules", "()I"⟩
abbrev cX11_cry : ByteArray := prog_1_method_15_code
def yX11_cry : MethodName := ⟨RX11, "cry", "(IIZ)I"⟩
abbrev cX11_shows : ByteArray := prog_1_method_16_code
def yX11_shows : MethodName := ⟨RX11, "shows", "(II)I"⟩
abbrev cX11_hush : ByteArray := prog_1_method_17_code
def yX11_hush : MethodName := ⟨RX11, "hush", "()I"⟩
abbrev cX11_comes : ByteArray := prog_1_method_18_code
def yX11_comes : MethodName := ⟨RX11, "comes", "(III)I"⟩
abbrev cX11_holds : ByteArray := prog_1_method_19_code
def yX11_holds : MethodName := ⟨RX11, "holds", "(III)I"⟩
abbrev cX11_off : ByteArray := prog_1_method_20_code
def yX11_off : MethodName := ⟨RX11, "off", "(III)I"⟩
abbrev cX11_worst : ByteArray := prog_1_method_21_code
def yX11_worst : MethodName := ⟨RX11, "worst", "(II)I"⟩
abbrev cX11_within : ByteArray := prog_1_method_22_code
def yX11_within : MethodName := ⟨RX11, "within", "(III)I"⟩
abbrev cX11_bestAdd : ByteArray := prog_1_method_23_code
def yX11_bestAdd : MethodName := ⟨RX11, "bestAdd", "(III)I"⟩
abbrev cX11_clocks : ByteArray := prog_1_method_24_code
def yX11_clocks : MethodName := ⟨RX11, "clocks", "(II)I"⟩
abbrev cX11_fewest : ByteArray := prog_1_method_25_code
def yX11_fewest : MethodName := ⟨RX11, "fewest", "(II)I"⟩
abbrev cX11_crossed : ByteArray := prog_1_method_26_code
def yX11_crossed : MethodName := ⟨RX11, "crossed", "(II)I"⟩
abbrev cX11_noon : ByteArray := prog_1_method_27_code
def yX11_noon : MethodName := ⟨RX11, "noon", "(II)I"⟩
abbrev cX11_firstNoon : ByteArray := prog_1_method_28_code
def yX11_firstNoon : MethodName := ⟨RX11, "firstNoon", "(I)I"⟩
abbrev cX11_waits : ByteArray := prog_1_method_29_code
def yX11_waits : MethodName := ⟨RX11, "waits", "(III)I"⟩
abbrev cX11_mender : ByteArray := prog_1_method_30_code
def yX11_mender : MethodName := ⟨RX11, "mender", "(II)I"⟩
abbrev cX11_bestDay : ByteArray := prog_1_method_31_code
def yX11_bestDay : MethodName := ⟨RX11, "bestDay", "(III)I"⟩
abbrev cX11_latest : ByteArray := prog_1_method_32_code
def yX11_latest : MethodName := ⟨RX11, "latest", "(III)I"⟩
abbrev cX11_seed : ByteArray := prog_1_method_33_code
def yX11_seed : MethodName := ⟨RX11, "seed", "(I)I"⟩
abbrev cX11_draw : ByteArray := prog_1_method_34_code
def yX11_draw : MethodName := ⟨RX11, "draw", "(I)I"⟩
abbrev cX11_often : ByteArray := prog_1_method_35_code
def yX11_often : MethodName := ⟨RX11, "often", "(IIII)I"⟩
abbrev cX11_lost : ByteArray := prog_1_method_36_code
def yX11_lost : MethodName := ⟨RX11, "lost", "(II)I"⟩
abbrev cX11_isT : ByteArray := prog_1_method_37_code
def yX11_isT : MethodName := ⟨RX11, "isT", "(I)Z"⟩
abbrev cX11_isMinute : ByteArray := prog_1_method_38_code
def yX11_isMinute : MethodName := ⟨RX11, "isMinute", "(I)Z"⟩
abbrev cX11_isBound : ByteArray := prog_1_method_39_code
def yX11_isBound : MethodName := ⟨RX11, "isBound", "(I)Z"⟩
abbrev cX11_isCry : ByteArray := prog_1_method_40_code
def yX11_isCry : MethodName := ⟨RX11, "isCry", "(II)Z"⟩
abbrev cX11_isSet : ByteArray := prog_1_method_41_code
def yX11_isSet : MethodName := ⟨RX11, "isSet", "(I)Z"⟩
abbrev cX11_cryBothWays : ByteArray := prog_1_method_42_code
def yX11_cryBothWays : MethodName := ⟨RX11, "cryBothWays", "(II)V"⟩
abbrev cX11_cryOneWay : ByteArray := prog_1_method_43_code
def yX11_cryOneWay : MethodName := ⟨RX11, "cryOneWay", "(IIZ)V"⟩
abbrev cX11_drawnAfter : ByteArray := prog_1_method_44_code
def yX11_drawnAfter : MethodName := ⟨RX11, "drawnAfter", "(I)I"⟩
abbrev cX11_windDrawn : ByteArray := prog_1_method_45_code
def yX11_windDrawn : MethodName := ⟨RX11, "windDrawn", "(I)I"⟩
abbrev cX11_takeUnaddedOffs : ByteArray := prog_1_method_46_code
def yX11_takeUnaddedOffs : MethodName := ⟨RX11, "takeUnaddedOffs", "(III)Z"⟩
abbrev cX11_farthestOverDays : ByteArray := prog_1_method_47_code
def yX11_farthestOverDays : MethodName := ⟨RX11, "farthestOverDays", "(I)I"⟩
abbrev cX11_report : ByteArray := prog_1_method_48_code
def yX11_report : MethodName := ⟨RX11, "report", "(II)I"⟩
abbrev cX11_forget : ByteArray := prog_1_method_49_code
def yX11_forget : MethodName := ⟨RX11, "forget", "()I"⟩
abbrev cX11_fits : ByteArray := prog_1_method_50_code
def yX11_fits : MethodName := ⟨RX11, "fits", "(II)I"⟩
abbrev cX11_liar : ByteArray := prog_1_method_51_code
def yX11_liar : MethodName := ⟨RX11, "liar", "(I)I"⟩
abbrev cX11_wrongReports : ByteArray := prog_1_method_52_code
def yX11_wrongReports : MethodName := ⟨RX11, "wrongReports", "()I"⟩
abbrev cX11_prove : ByteArray := prog_1_method_53_code
def yX11_prove : MethodName := ⟨RX11, "prove", "(IIZ)I"⟩
abbrev cX11_row : ByteArray := prog_1_method_54_code
def yX11_row : MethodName := ⟨RX11, "row", "(II)I"⟩
abbrev cX11_alterRow : ByteArray := prog_1_method_55_code
def yX11_alterRow : MethodName := ⟨RX11, "alterRow", "(III)I"⟩
abbrev cX11_judge : ByteArray := prog_1_method_56_code
def yX11_judge : MethodName := ⟨RX11, "judge", "(Z)I"⟩
abbrev cX11_isInRows : ByteArray := prog_1_method_57_code
def yX11_isInRows : MethodName := ⟨RX11, "isInRows", "(II)Z"⟩
abbrev cX11_isRowOfAsked : ByteArray := prog_1_method_58_code
def yX11_isRowOfAsked : MethodName := ⟨RX11, "isRowOfAsked", "(II)Z"⟩
abbrev cX11_sheet : ByteArray := prog_1_method_59_code
def yX11_sheet : MethodName := ⟨RX11, "sheet", "(III)I"⟩
abbrev cX11_write : ByteArray := prog_1_method_60_code
def yX11_write : MethodName := ⟨RX11, "write", "(III)I"⟩
abbrev cX11_item : ByteArray := prog_1_method_61_code
def yX11_item : MethodName := ⟨RX11, "item", "(III)I"⟩
abbrev cX11_adds : ByteArray := prog_1_method_62_code
def yX11_adds : MethodName := ⟨RX11, "adds", "(III)I"⟩
abbrev cX11_shelf : ByteArray := prog_1_method_63_code
def yX11_shelf : MethodName := ⟨RX11, "shelf", "(III)I"⟩
abbrev cX11_taken : ByteArray := prog_1_method_64_code
def yX11_taken : MethodName := ⟨RX11, "taken", "(II)I"⟩
abbrev cX11_act : ByteArray := prog_1_method_65_code
def yX11_act : MethodName := ⟨RX11, "act", "(III)I"⟩
abbrev cX11_trace : ByteArray := prog_1_method_66_code
def yX11_trace : MethodName := ⟨RX11, "trace", "(I)I"⟩
abbrev cX11_many : ByteArray := prog_1_method_67_code
def yX11_many : MethodName := ⟨RX11, "many", "(I)I"⟩
abbrev cX11_isSheet : ByteArray := prog_1_method_68_code
def yX11_isSheet : MethodName := ⟨RX11, "isSheet", "(I)Z"⟩
abbrev cX11_isSort : ByteArray := prog_1_method_69_code
def yX11_isSort : MethodName := ⟨RX11, "isSort", "(I)Z"⟩
abbrev cX11_isItem : ByteArray := prog_1_method_70_code
def yX11_isItem : MethodName := ⟨RX11, "isItem", "(II)Z"⟩
abbrev cX11_narrowed : ByteArray := prog_1_method_71_code
def yX11_narrowed : MethodName := ⟨RX11, "narrowed", "(II)I"⟩
abbrev cX11_isShelf : ByteArray := prog_1_method_72_code
def yX11_isShelf : MethodName := ⟨RX11, "isShelf", "(I)Z"⟩
abbrev cX11_isTowerOnShelf : ByteArray := prog_1_method_73_code
def yX11_isTowerOnShelf : MethodName := ⟨RX11, "isTowerOnShelf", "(I)Z"⟩
abbrev cX11_keep : ByteArray := prog_1_method_74_code
def yX11_keep : MethodName := ⟨RX11, "keep", "()I"⟩
abbrev cX11_again : ByteArray := prog_1_method_75_code
def yX11_again : MethodName := ⟨RX11, "again", "()I"⟩
def RX12 : String := "ShoutedHourModel"
def TX12 : u_T := fun k => match k with
  | 0 => ("ShoutedHourModel", "s", "[I", true)
  | 1 => ("ShoutedHourModel", "kept", "[I", true)
  | 2 => ("ShoutedHourModel", "other", "[I", true)
  | 3 => ("ShoutedHourModel", "isKept", "Z", false)
  | 4 => ("ShoutedHourModel", "stack", "[I", true)
  | 5 => ("ShoutedHourModel", "addsNow", "I", false)
  | 6 => ("ShoutedHourModel", "isSilent", "Z", false)
  | 7 => ("ShoutedHourModel", "came", "[I", true)
  | 8 => ("ShoutedHourModel", "hours", "[I", true)
  | 9 => ("ShoutedHourModel", "first", "[I", true)
  | 10 => ("ShoutedHourModel", "fitMany", "I", false)
  | 11 => ("ShoutedHourModel", "fitFirst", "I", false)
  | 12 => ("ShoutedHourModel", "fitLast", "I", false)
  | 13 => ("ShoutedHourModel", "fitBut", "I", false)
  | 14 => ("ShoutedHourModel", "rows", "[I", true)
  | 15 => ("ShoutedHourModel", "rowMany", "I", false)
  | 16 => ("ShoutedHourModel", "tape", "[I", true)
  | 17 => ("ShoutedHourModel", "taped", "I", false)
  | 18 => ("ShoutedHourModel", "from", "I", false)
  | 19 => ("ShoutedHourModel", "to", "I", false)
  | 20 => ("ShoutedHourModel", "value", "I", false)
  | 21 => ("ShoutedHourModel", "open", "I", false)
  | 22 => ("ShoutedHourModel", "coded", "I", false)
  | 23 => ("ShoutedHourModel", "isWrong", "Z", false)
  | 24 => ("ShoutedHourModel", "sortOf", "[I", true)
  | 25 => ("ShoutedHourModel", "sizeOf", "[I", true)
  | 26 => ("ShoutedHourModel", "items", "[I", true)
  | 27 => ("ShoutedHourModel", "holdsWhat", "[I", true)
  | 28 => ("ShoutedHourModel", "holdsNumber", "[I", true)
  | 29 => ("ShoutedHourModel", "holdsSort", "[I", true)
  | 30 => ("ShoutedHourModel", "ran", "[I", true)
  | 31 => ("ShoutedHourModel", "bodies", "I", false)
  | 32 => ("ShoutedHourModel", "acting", "I", false)
  | 33 => ("ShoutedHourModel", "about", "I", false)
  | 34 => ("ShoutedHourModel", "kindActing", "I", false)
  | _ => ("ShoutedHourModel", "isParted", "Z", false)
def tyX12 : Nat → FieldType := fun k => match k with
  | 0 => .array .int
  | 1 => .array .int
  | 2 => .array .int
  | 3 => .boolean
  | 4 => .array .int
  | 5 => .int
  | 6 => .boolean
  | 7 => .array .int
  | 8 => .array .int
  | 9 => .array .int
  | 10 => .int
  | 11 => .int
  | 12 => .int
  | 13 => .int
  | 14 => .array .int
  | 15 => .int
  | 16 => .array .int
  | 17 => .int
  | 18 => .int
  | 19 => .int
  | 20 => .int
  | 21 => .int
  | 22 => .int
  | 23 => .boolean
  | 24 => .array .int
  | 25 => .array .int
  | 26 => .array .int
  | 27 => .array .int
  | 28 => .array .int
  | 29 => .array .int
  | 30 => .array .int
  | 31 => .int
  | 32 => .int
  | 33 => .int
  | 34 => .int
  | _ => .boolean
abbrev wsX120 : List Cond := u_ws RX12 TX12 36
theorem nmX12 : ∀ a, a < 36 → ∀ b, b < 36 → a ≠ b → (TX12 a).2.1 ≠ (TX12 b).2.1 := by decide +kernel
theorem tyX12_ok : ∀ k, k < 36 → parseFieldDescriptor (TX12 k).2.2.1 = some (tyX12 k) := by decide +kernel
abbrev cX12_init : ByteArray := prog_14_method_1_code
def yX12_init : MethodName := ⟨RX12, "<init>", "()V"⟩
abbrev cX12_in : ByteArray := prog_14_method_2_code
def yX12_in : MethodName := ⟨RX12, "in", "(JJJ)Z"⟩
abbrev cX12_isTower : ByteArray := prog_14_method_3_code
def yX12_isTower : MethodName := ⟨RX12, "isTower", "(I)Z"⟩
abbrev cX12_isDay : ByteArray := prog_14_method_4_code
def yX12_isDay : MethodName := ⟨RX12, "isDay", "(I)Z"⟩
abbrev cX12_isTime : ByteArray := prog_14_method_5_code
def yX12_isTime : MethodName := ⟨RX12, "isTime", "(I)Z"⟩
abbrev cX12_has : ByteArray := prog_14_method_6_code
def yX12_has : MethodName := ⟨RX12, "has", "(II)Z"⟩
abbrev cX12_size : ByteArray := prog_14_method_7_code
def yX12_size : MethodName := ⟨RX12, "size", "(I)I"⟩
abbrev cX12_puts : ByteArray := prog_14_method_8_code
def yX12_puts : MethodName := ⟨RX12, "puts", "()V"⟩
abbrev cX12_putsBack : ByteArray := prog_14_method_9_code
def yX12_putsBack : MethodName := ⟨RX12, "putsBack", "()V"⟩
abbrev cX12_at : ByteArray := prog_14_method_10_code
def yX12_at : MethodName := ⟨RX12, "at", "(II)I"⟩
abbrev cX12_its : ByteArray := prog_14_method_11_code
def yX12_its : MethodName := ⟨RX12, "its", "(II)I"⟩
abbrev cX12_isPart : ByteArray := prog_14_method_12_code
def yX12_isPart : MethodName := ⟨RX12, "isPart", "(II)Z"⟩
abbrev cX12_tower : ByteArray := prog_14_method_13_code
def yX12_tower : MethodName := ⟨RX12, "tower", "(IIII)I"⟩
abbrev cX12_isUnder : ByteArray := prog_14_method_14_code
def yX12_isUnder : MethodName := ⟨RX12, "isUnder", "(II)Z"⟩
abbrev cX12_fact : ByteArray := prog_14_method_15_code
def yX12_fact : MethodName := ⟨RX12, "fact", "(II)I"⟩
abbrev cX12_isHolding : ByteArray := prog_14_method_16_code
def yX12_isHolding : MethodName := ⟨RX12, "isHolding", "(III)Z"⟩
abbrev cX12_isSo : ByteArray := prog_14_method_17_code
def yX12_isSo : MethodName := ⟨RX12, "isSo", "(III)Z"⟩
abbrev cX12_asks : ByteArray := prog_14_method_18_code
def yX12_asks : MethodName := ⟨RX12, "asks", "(I)V"⟩
abbrev cX12_towerOf : ByteArray := prog_14_method_19_code
def yX12_towerOf : MethodName := ⟨RX12, "towerOf", "(II)I"⟩
abbrev cX12_change : ByteArray := prog_14_method_20_code
def yX12_change : MethodName := ⟨RX12, "change", "(III)I"⟩
abbrev cX12_turn : ByteArray := prog_14_method_21_code
def yX12_turn : MethodName := ⟨RX12, "turn", "(II)I"⟩
abbrev cX12_day : ByteArray := prog_14_method_22_code
def yX12_day : MethodName := ⟨RX12, "day", "(I)I"⟩
abbrev cX12_wind : ByteArray := prog_14_method_23_code
def yX12_wind : MethodName := ⟨RX12, "wind", "(II)I"⟩
abbrev cX12_pace : ByteArray := prog_14_method_24_code
def yX12_pace : MethodName := ⟨RX12, "pace", "(Z)I"⟩
abbrev cX12_quiets : ByteArray := prog_14_method_25_code
def yX12_quiets : MethodName := ⟨RX12, "quiets", "()V"⟩
abbrev cX12_goes : ByteArray := prog_14_method_26_code
def yX12_goes : MethodName := ⟨RX12, "goes", "(IIZII)V"⟩
abbrev cX12_goesBoth : ByteArray := prog_14_method_27_code
def yX12_goesBoth : MethodName := ⟨RX12, "goesBoth", "(II)V"⟩
abbrev cX12_comers : ByteArray := prog_14_method_28_code
def yX12_comers : MethodName := ⟨RX12, "comers", "()I"⟩
abbrev cX12_offOf : ByteArray := prog_14_method_29_code
def yX12_offOf : MethodName := ⟨RX12, "offOf", "(I)I"⟩
abbrev cX12_cry : ByteArray := prog_14_method_30_code
def yX12_cry : MethodName := ⟨RX12, "cry", "(IIZ)I"⟩
abbrev cX12_shows : ByteArray := prog_14_method_31_code
def yX12_shows : MethodName := ⟨RX12, "shows", "(II)I"⟩
abbrev cX12_holders : ByteArray := prog_14_method_32_code
def yX12_holders : MethodName := ⟨RX12, "holders", "()I"⟩
abbrev cX12_hush : ByteArray := prog_14_method_33_code
def yX12_hush : MethodName := ⟨RX12, "hush", "()I"⟩
abbrev cX12_isAsk : ByteArray := prog_14_method_34_code
def yX12_isAsk : MethodName := ⟨RX12, "isAsk", "(III)Z"⟩
abbrev cX12_comes : ByteArray := prog_14_method_35_code
def yX12_comes : MethodName := ⟨RX12, "comes", "(III)I"⟩
abbrev cX12_holds : ByteArray := prog_14_method_36_code
def yX12_holds : MethodName := ⟨RX12, "holds", "(III)I"⟩
abbrev cX12_off : ByteArray := prog_14_method_37_code
def yX12_off : MethodName := ⟨RX12, "off", "(III)I"⟩
abbrev cX12_worst : ByteArray := prog_14_method_38_code
def yX12_worst : MethodName := ⟨RX12, "worst", "(II)I"⟩
abbrev cX12_within : ByteArray := prog_14_method_39_code
def yX12_within : MethodName := ⟨RX12, "within", "(III)I"⟩
abbrev cX12_farthest : ByteArray := prog_14_method_40_code
def yX12_farthest : MethodName := ⟨RX12, "farthest", "(III)I"⟩
abbrev cX12_bestAdd : ByteArray := prog_14_method_41_code
def yX12_bestAdd : MethodName := ⟨RX12, "bestAdd", "(III)I"⟩
abbrev cX12_clocked : ByteArray := prog_14_method_42_code
def yX12_clocked : MethodName := ⟨RX12, "clocked", "(II)I"⟩
abbrev cX12_clocks : ByteArray := prog_14_method_43_code
def yX12_clocks : MethodName := ⟨RX12, "clocks", "(II)I"⟩
abbrev cX12_ones : ByteArray := prog_14_method_44_code
def yX12_ones : MethodName := ⟨RX12, "ones", "(I)I"⟩
abbrev cX12_fewest : ByteArray := prog_14_method_45_code
def yX12_fewest : MethodName := ⟨RX12, "fewest", "(II)I"⟩
abbrev cX12_crossed : ByteArray := prog_14_method_46_code
def yX12_crossed : MethodName := ⟨RX12, "crossed", "(II)I"⟩
abbrev cX12_fromFirst : ByteArray := prog_14_method_47_code
def yX12_fromFirst : MethodName := ⟨RX12, "fromFirst", "(II)V"⟩
abbrev cX12_noonOf : ByteArray := prog_14_method_48_code
def yX12_noonOf : MethodName := ⟨RX12, "noonOf", "(I)I"⟩
abbrev cX12_noon : ByteArray := prog_14_method_49_code
def yX12_noon : MethodName := ⟨RX12, "noon", "(II)I"⟩
abbrev cX12_firstNoon : ByteArray := prog_14_method_50_code
def yX12_firstNoon : MethodName := ⟨RX12, "firstNoon", "(I)I"⟩
abbrev cX12_waits : ByteArray := prog_14_method_51_code
def yX12_waits : MethodName := ⟨RX12, "waits", "(III)I"⟩
abbrev cX12_offs : ByteArray := prog_14_method_52_code
def yX12_offs : MethodName := ⟨RX12, "offs", "()I"⟩
abbrev cX12_mender : ByteArray := prog_14_method_53_code
def yX12_mender : MethodName := ⟨RX12, "mender", "(II)I"⟩
abbrev cX12_bestDay : ByteArray := prog_14_method_54_code
def yX12_bestDay : MethodName := ⟨RX12, "bestDay", "(III)I"⟩
abbrev cX12_latest : ByteArray := prog_14_method_55_code
def yX12_latest : MethodName := ⟨RX12, "latest", "(III)I"⟩
abbrev cX12_seed : ByteArray := prog_14_method_56_code
def yX12_seed : MethodName := ⟨RX12, "seed", "(I)I"⟩
abbrev cX12_draws : ByteArray := prog_14_method_57_code
def yX12_draws : MethodName := ⟨RX12, "draws", "(I)V"⟩
abbrev cX12_draw : ByteArray := prog_14_method_58_code
def yX12_draw : MethodName := ⟨RX12, "draw", "(I)I"⟩
abbrev cX12_often : ByteArray := prog_14_method_59_code
def yX12_often : MethodName := ⟨RX12, "often", "(IIII)I"⟩
abbrev cX12_lost : ByteArray := prog_14_method_60_code
def yX12_lost : MethodName := ⟨RX12, "lost", "(II)I"⟩
abbrev cX12_report : ByteArray := prog_14_method_61_code
def yX12_report : MethodName := ⟨RX12, "report", "(II)I"⟩
abbrev cX12_forget : ByteArray := prog_14_method_62_code
def yX12_forget : MethodName := ⟨RX12, "forget", "()I"⟩
abbrev cX12_isFit : ByteArray := prog_14_method_63_code
def yX12_isFit : MethodName := ⟨RX12, "isFit", "(I)Z"⟩
abbrev cX12_findFits : ByteArray := prog_14_method_64_code
def yX12_findFits : MethodName := ⟨RX12, "findFits", "(I)V"⟩
abbrev cX12_fits : ByteArray := prog_14_method_65_code
def yX12_fits : MethodName := ⟨RX12, "fits", "(II)I"⟩
abbrev cX12_liar : ByteArray := prog_14_method_66_code
def yX12_liar : MethodName := ⟨RX12, "liar", "(I)I"⟩
abbrev cX12_prove : ByteArray := prog_14_method_67_code
def yX12_prove : MethodName := ⟨RX12, "prove", "(IIZ)I"⟩
abbrev cX12_isRow : ByteArray := prog_14_method_68_code
def yX12_isRow : MethodName := ⟨RX12, "isRow", "(II)Z"⟩
abbrev cX12_row : ByteArray := prog_14_method_69_code
def yX12_row : MethodName := ⟨RX12, "row", "(II)I"⟩
abbrev cX12_alterRow : ByteArray := prog_14_method_70_code
def yX12_alterRow : MethodName := ⟨RX12, "alterRow", "(III)I"⟩
abbrev cX12_isBrought : ByteArray := prog_14_method_71_code
def yX12_isBrought : MethodName := ⟨RX12, "isBrought", "(IZ)Z"⟩
abbrev cX12_judge : ByteArray := prog_14_method_72_code
def yX12_judge : MethodName := ⟨RX12, "judge", "(Z)I"⟩
abbrev cX12_feed : ByteArray := prog_14_method_73_code
def yX12_feed : MethodName := ⟨RX12, "feed", "(JI)I"⟩
abbrev cX12_byteAt : ByteArray := prog_14_method_74_code
def yX12_byteAt : MethodName := ⟨RX12, "byteAt", "(I)I"⟩
abbrev cX12_isLetter : ByteArray := prog_14_method_75_code
def yX12_isLetter : MethodName := ⟨RX12, "isLetter", "(I)Z"⟩
abbrev cX12_isDigit : ByteArray := prog_14_method_76_code
def yX12_isDigit : MethodName := ⟨RX12, "isDigit", "(I)Z"⟩
abbrev cX12_token : ByteArray := prog_14_method_77_code
def yX12_token : MethodName := ⟨RX12, "token", "()V"⟩
abbrev cX12_needs : ByteArray := prog_14_method_78_code
def yX12_needs : MethodName := ⟨RX12, "needs", "(Z)V"⟩
abbrev cX12_word : ByteArray := prog_14_method_79_code
def yX12_word : MethodName := ⟨RX12, "word", "()J"⟩
abbrev cX12_number : ByteArray := prog_14_method_80_code
def yX12_number : MethodName := ⟨RX12, "number", "(I)V"⟩
abbrev cX12_kindHere : ByteArray := prog_14_method_81_code
def yX12_kindHere : MethodName := ⟨RX12, "kindHere", "()I"⟩
abbrev cX12_factHere : ByteArray := prog_14_method_82_code
def yX12_factHere : MethodName := ⟨RX12, "factHere", "()I"⟩
abbrev cX12_writes : ByteArray := prog_14_method_83_code
def yX12_writes : MethodName := ⟨RX12, "writes", "(I)V"⟩
abbrev cX12_valueHere : ByteArray := prog_14_method_84_code
def yX12_valueHere : MethodName := ⟨RX12, "valueHere", "()V"⟩
abbrev cX12_comparison : ByteArray := prog_14_method_85_code
def yX12_comparison : MethodName := ⟨RX12, "comparison", "()V"⟩
abbrev cX12_one : ByteArray := prog_14_method_86_code
def yX12_one : MethodName := ⟨RX12, "one", "()V"⟩
abbrev cX12_all : ByteArray := prog_14_method_87_code
def yX12_all : MethodName := ⟨RX12, "all", "()V"⟩
abbrev cX12_condition : ByteArray := prog_14_method_88_code
def yX12_condition : MethodName := ⟨RX12, "condition", "()V"⟩
abbrev cX12_rule : ByteArray := prog_14_method_89_code
def yX12_rule : MethodName := ⟨RX12, "rule", "()V"⟩
abbrev cX12_rules : ByteArray := prog_14_method_90_code
def yX12_rules : MethodName := ⟨RX12, "rules", "()I"⟩
abbrev cX12_isOne : ByteArray := prog_14_method_91_code
def yX12_isOne : MethodName := ⟨RX12, "isOne", "(I)Z"⟩
abbrev cX12_sheet : ByteArray := prog_14_method_92_code
def yX12_sheet : MethodName := ⟨RX12, "sheet", "(III)I"⟩
abbrev cX12_narrowed : ByteArray := prog_14_method_93_code
def yX12_narrowed : MethodName := ⟨RX12, "narrowed", "(II)I"⟩
abbrev cX12_write : ByteArray := prog_14_method_94_code
def yX12_write : MethodName := ⟨RX12, "write", "(III)I"⟩
abbrev cX12_wrong : ByteArray := prog_14_method_95_code
def yX12_wrong : MethodName := ⟨RX12, "wrong", "(II)I"⟩
abbrev cX12_item : ByteArray := prog_14_method_96_code
def yX12_item : MethodName := ⟨RX12, "item", "(III)I"⟩
abbrev cX12_adds : ByteArray := prog_14_method_97_code
def yX12_adds : MethodName := ⟨RX12, "adds", "(III)I"⟩
abbrev cX12_shelf : ByteArray := prog_14_method_98_code
def yX12_shelf : MethodName := ⟨RX12, "shelf", "(III)I"⟩
abbrev cX12_onShelf : ByteArray := prog_14_method_99_code
def yX12_onShelf : MethodName := ⟨RX12, "onShelf", "(I)I"⟩
abbrev cX12_taken : ByteArray := prog_14_method_100_code
def yX12_taken : MethodName := ⟨RX12, "taken", "(II)I"⟩
abbrev cX12_runs : ByteArray := prog_14_method_101_code
def yX12_runs : MethodName := ⟨RX12, "runs", "(I)V"⟩
abbrev cX12_cries : ByteArray := prog_14_method_102_code
def yX12_cries : MethodName := ⟨RX12, "cries", "(I)I"⟩
abbrev cX12_hears : ByteArray := prog_14_method_103_code
def yX12_hears : MethodName := ⟨RX12, "hears", "(I)I"⟩
abbrev cX12_parts : ByteArray := prog_14_method_104_code
def yX12_parts : MethodName := ⟨RX12, "parts", "(I)I"⟩
abbrev cX12_shares : ByteArray := prog_14_method_105_code
def yX12_shares : MethodName := ⟨RX12, "shares", "(I)I"⟩
abbrev cX12_tells : ByteArray := prog_14_method_106_code
def yX12_tells : MethodName := ⟨RX12, "tells", "(I)I"⟩
abbrev cX12_act : ByteArray := prog_14_method_107_code
def yX12_act : MethodName := ⟨RX12, "act", "(III)I"⟩
abbrev cX12_traced : ByteArray := prog_14_method_108_code
def yX12_traced : MethodName := ⟨RX12, "traced", "()I"⟩
abbrev cX12_trace : ByteArray := prog_14_method_109_code
def yX12_trace : MethodName := ⟨RX12, "trace", "(I)I"⟩
abbrev cX12_many : ByteArray := prog_14_method_110_code
def yX12_many : MethodName := ⟨RX12, "many", "(I)I"⟩
abbrev cX12_keep : ByteArray := prog_14_method_111_code
def yX12_keep : MethodName := ⟨RX12, "keep", "()I"⟩
abbrev cX12_again : ByteArray := prog_14_method_112_code
def yX12_again : MethodName := ⟨RX12, "again", "()I"⟩
def RJ6 : String := "java/lang/Integer"
def TJ6 : u_T := fun k => match k with
  | _ => ("", "", "", false)
def tyJ6 : Nat → FieldType := fun k => match k with
  | _ => .int
abbrev wsJ60 : List Cond := u_ws RJ6 TJ6 0
theorem nmJ6 : ∀ a, a < 0 → ∀ b, b < 0 → a ≠ b → (TJ6 a).2.1 ≠ (TJ6 b).2.1 := by decide +kernel
theorem tyJ6_ok : ∀ k, k < 0 → parseFieldDescriptor (TJ6 k).2.2.1 = some (tyJ6 k) := by decide +kernel
abbrev cJ6_bitCount_0f7a4 : ByteArray := prog_15_method_49_code
def yJ6_bitCount_0f7a4 : MethodName := ⟨RJ6, "bitCount", "(I)I"⟩
def RJ9 : String := "java/lang/Math"
def TJ9 : u_T := fun k => match k with
  | _ => ("", "", "", false)
def tyJ9 : Nat → FieldType := fun k => match k with
  | _ => .int
abbrev wsJ90 : List Cond := u_ws RJ9 TJ9 0
theorem nmJ9 : ∀ a, a < 0 → ∀ b, b < 0 → a ≠ b → (TJ9 a).2.1 ≠ (TJ9 b).2.1 := by decide +kernel
theorem tyJ9_ok : ∀ k, k < 0 → parseFieldDescriptor (TJ9 k).2.2.1 = some (tyJ9 k) := by decide +kernel
abbrev cJ9_abs_0f7a4 : ByteArray := prog_16_method_59_code
def yJ9_abs_0f7a4 : MethodName := ⟨RJ9, "abs", "(I)I"⟩
abbrev cJ9_max_7cf53 : ByteArray := prog_16_method_65_code
def yJ9_max_7cf53 : MethodName := ⟨RJ9, "max", "(II)I"⟩
abbrev cJ9_min_7cf53 : ByteArray := prog_16_method_69_code
def yJ9_min_7cf53 : MethodName := ⟨RJ9, "min", "(II)I"⟩
def RJ0 : String := "java/lang/String"
def TJ0 : u_T := fun k => match k with
  | _ => ("", "", "", false)
def tyJ0 : Nat → FieldType := fun k => match k with
  | _ => .int
abbrev wsJ00 : List Cond := u_ws RJ0 TJ0 0
theorem nmJ0 : ∀ a, a < 0 → ∀ b, b < 0 → a ≠ b → (TJ0 a).2.1 ≠ (TJ0 b).2.1 := by decide +kernel
theorem tyJ0_ok : ∀ k, k < 0 → parseFieldDescriptor (TJ0 k).2.2.1 = some (tyJ0 k) := by decide +kernel
abbrev cJ0_length_8abf5 : ByteArray := prog_17_method_54_code
def yJ0_length_8abf5 : MethodName := ⟨RJ0, "length", "()I"⟩
abbrev cJ0_charAt_5068e : ByteArray := prog_17_method_56_code
def yJ0_charAt_5068e : MethodName := ⟨RJ0, "charAt", "(I)C"⟩
abbrev cJ0_coder_7d493 : ByteArray := prog_17_method_152_code
def yJ0_coder_7d493 : MethodName := ⟨RJ0, "coder", "()B"⟩
abbrev cJ0_isLatin1_aae02 : ByteArray := prog_17_method_154_code
def yJ0_isLatin1_aae02 : MethodName := ⟨RJ0, "isLatin1", "()Z"⟩
abbrev cJ0_checkIndex_df160 : ByteArray := prog_17_method_155_code
def yJ0_checkIndex_df160 : MethodName := ⟨RJ0, "checkIndex", "(II)V"⟩
def RJ1 : String := "java/lang/StringLatin1"
def TJ1 : u_T := fun k => match k with
  | _ => ("", "", "", false)
def tyJ1 : Nat → FieldType := fun k => match k with
  | _ => .int
abbrev wsJ10 : List Cond := u_ws RJ1 TJ1 0
theorem nmJ1 : ∀ a, a < 0 → ∀ b, b < 0 → a ≠ b → (TJ1 a).2.1 ≠ (TJ1 b).2.1 := by decide +kernel
theorem tyJ1_ok : ∀ k, k < 0 → parseFieldDescriptor (TJ1 k).2.2.1 = some (tyJ1 k) := by decide +kernel
abbrev cJ1_charAt_3b067 : ByteArray := prog_18_method_2_code
def yJ1_charAt_3b067 : MethodName := ⟨RJ1, "charAt", "([BI)C"⟩
def RJ2 : String := "java/lang/StringUTF16"
def TJ2 : u_T := fun k => match k with
  | _ => ("", "", "", false)
def tyJ2 : Nat → FieldType := fun k => match k with
  | _ => .int
abbrev wsJ20 : List Cond := u_ws RJ2 TJ2 0
theorem nmJ2 : ∀ a, a < 0 → ∀ b, b < 0 → a ≠ b → (TJ2 a).2.1 ≠ (TJ2 b).2.1 := by decide +kernel
theorem tyJ2_ok : ∀ k, k < 0 → parseFieldDescriptor (TJ2 k).2.2.1 = some (tyJ2 k) := by decide +kernel
abbrev cJ2_getChar_3b067 : ByteArray := prog_19_method_5_code
def yJ2_getChar_3b067 : MethodName := ⟨RJ2, "getChar", "([BI)C"⟩
abbrev cJ2_length_9d52b : ByteArray := prog_19_method_6_code
def yJ2_length_9d52b : MethodName := ⟨RJ2, "length", "([B)I"⟩
abbrev cJ2_charAt_3b067 : ByteArray := prog_19_method_83_code
def yJ2_charAt_3b067 : MethodName := ⟨RJ2, "charAt", "([BI)C"⟩
abbrev cJ2_checkIndex_2214a : ByteArray := prog_19_method_91_code
def yJ2_checkIndex_2214a : MethodName := ⟨RJ2, "checkIndex", "(I[B)V"⟩
def RJ10 : String := "java/lang/System"
def TJ10 : u_T := fun k => match k with
  | _ => ("", "", "", false)
def tyJ10 : Nat → FieldType := fun k => match k with
  | _ => .int
abbrev wsJ100 : List Cond := u_ws RJ10 TJ10 0
theorem nmJ10 : ∀ a, a < 0 → ∀ b, b < 0 → a ≠ b → (TJ10 a).2.1 ≠ (TJ10 b).2.1 := by decide +kernel
theorem tyJ10_ok : ∀ k, k < 0 → parseFieldDescriptor (TJ10 k).2.2.1 = some (tyJ10 k) := by decide +kernel
def RJ7 : String := "java/util/Arrays"
def TJ7 : u_T := fun k => match k with
  | _ => ("", "", "", false)
def tyJ7 : Nat → FieldType := fun k => match k with
  | _ => .int
abbrev wsJ70 : List Cond := u_ws RJ7 TJ7 0
theorem nmJ7 : ∀ a, a < 0 → ∀ b, b < 0 → a ≠ b → (TJ7 a).2.1 ≠ (TJ7 b).2.1 := by decide +kernel
theorem tyJ7_ok : ∀ k, k < 0 → parseFieldDescriptor (TJ7 k).2.2.1 = some (tyJ7 k) := by decide +kernel
abbrev cJ7_fill_53178 : ByteArray := prog_21_method_103_code
def yJ7_fill_53178 : MethodName := ⟨RJ7, "fill", "([II)V"⟩
def RJ3 : String := "jdk/internal/util/Preconditions"
def TJ3 : u_T := fun k => match k with
  | _ => ("", "", "", false)
def tyJ3 : Nat → FieldType := fun k => match k with
  | _ => .int
abbrev wsJ30 : List Cond := u_ws RJ3 TJ3 0
theorem nmJ3 : ∀ a, a < 0 → ∀ b, b < 0 → a ≠ b → (TJ3 a).2.1 ≠ (TJ3 b).2.1 := by decide +kernel
theorem tyJ3_ok : ∀ k, k < 0 → parseFieldDescriptor (TJ3 k).2.2.1 = some (tyJ3 k) := by decide +kernel
abbrev cJ3_checkIndex_8e157 : ByteArray := prog_22_method_11_code
def yJ3_checkIndex_8e157 : MethodName := ⟨RJ3, "checkIndex", "(IILjava/util/function/BiFunction;)I"⟩
def RL : String := "ShoutedHourLaw"
abbrev cL_law : ByteArray := code
def yL_law : MethodName := ⟨RL, "law", "([I)Z"⟩
end
section
/-! THE MACHINE OF WORLDS. A heap is a list of cells by number: of each its kind, its length, the references that it holds; all numbers of all cells stand in one function (cell, place).
A method is blocks of instructions with what they resolve to; its run is a plain function of its locals, stack and heap. -/
abbrev mR : Type := Nat × Nat × List (Option Nat)
abbrev mH : Type := List mR × (Nat → Nat → Int32)
abbrev mL : Type := List (Option Value)
/-- an instruction: how long it is, the numbers that it names, what it resolves to -/
abbrev mO : Type := Instr × Nat × (Int32 × Int64) × List (List Nat)
abbrev mF : Type := Option Value × mH
abbrev mG : Type := mF ⊕ (Nat × mL × List Value × mH)
abbrev mK : Type := Nat → List Value → mH → Option mF
/-- the script, if it can be read here -/
abbrev mS : Type := Option (Nat × (Nat → Int32))
def m_str0 : Nat := 1000000
def m_scr0 : Nat := 2000000
def m_cl : List vw_C := [(RX0, TX0, 8), (RX1, TX1, 3), (RX2, TX2, 3), (RX3, TX3, 3), (RX4, TX4, 3), (RX5, TX5, 7), (RX6, TX6, 13), (RX7, TX7, 3), (RX8, TX8, 3), (RX9, TX9, 15), (RX10, TX10, 3), (RX11, TX11, 18), (RX12, TX12, 36)]
def m_ty : Nat → Nat → FieldType
  | 0 => tyX0 | 1 => tyX1 | 2 => tyX2 | 3 => tyX3 | 4 => tyX4 | 5 => tyX5 | 6 => tyX6 | 7 => tyX7 | 8 => tyX8 | 9 => tyX9 | 10 => tyX10 | 11 => tyX11 | _ => tyX12
def m_num : FieldType → Bool
  | .int => true
  | .boolean => true
  | _ => false
def m_isR : FieldType → Bool
  | .object _ => true
  | .array _ => true
  | _ => false
def m_isZ : FieldType → Bool
  | .boolean => true
  | _ => false
def m_up (st : Nat → Nat → Int32) (i j : Nat) (v : Int32) : Nat → Nat → Int32 := fun a b => if a = i then (if b = j then v else st a b) else st a b
def m_row (st : Nat → Nat → Int32) (i : Nat) (f : Nat → Int32) : Nat → Nat → Int32 := fun a b => if a = i then f b else st a b
/-- a local's value, but for a long's first half -/
def m_c1 : Option Value → Option Value
  | some (.long _) => none
  | some (.double _) => none
  | o => o
def m_st1 : mL → Nat → Value → mL
  | [], _, _ => []
  | _ :: l, 0, v => some v :: l
  | o :: l, 1, v => m_c1 o :: m_st1 l 0 v
  | o :: l, n + 2, v => o :: m_st1 l (n + 1) v
def m_no : mL → mL
  | [] => []
  | _ :: l => none :: l
def m_st2 : mL → Nat → Value → mL
  | [], _, _ => []
  | _ :: l, 0, v => some v :: m_no l
  | o :: l, 1, v => m_c1 o :: m_st2 l 0 v
  | o :: l, n + 2, v => o :: m_st2 l (n + 1) v
def m_ld (lo : mL) (i : Nat) : Option Value := (lo[i]?).getD none
def m_ri (rs : List (Option Nat)) (k : Nat) : Option Nat := (rs[k]?).getD none
/-- a field of the object i -/
def m_get (h : mH) (i k : Nat) (cs : List Nat) : Option Value :=
  match h.1[i]? with
  | none => none
  | some (c, n, rs) => bif cs.elem c && Nat.blt k n then (bif m_num (m_ty c k) then some (.int (h.2 i k)) else some (va_rf (m_ri rs k))) else none
def m_put (h : mH) (i k : Nat) (cs : List Nat) (v : Value) : Option mH :=
  match h.1[i]? with
  | none => none
  | some (c, n, rs) => bif cs.elem c && Nat.blt k n then
      (match v with
      | .int x => bif m_num (m_ty c k) then (bif m_isZ (m_ty c k) then (if x = 0 ∨ x = 1 then some (h.1, m_up h.2 i k x) else none) else some (h.1, m_up h.2 i k x)) else none
      | .ref a => bif m_isR (m_ty c k) && Nat.blt k rs.length then some (h.1.set i (c, n, rs.set k (some a)), h.2) else none
      | _ => none) else none
/-- a place in a row of n -/
def m_ix (j : Int32) (n : Nat) : Option Nat := if j < 0 ∨ n ≤ j.toNatClampNeg then none else some j.toNatClampNeg
/-- kinds of arrays: 100 int, 101 byte, 102 boolean, 104 of rows of ints, 105 of watchmen -/
def m_ald (sc : mS) (h : mH) (ks : List Nat) (i : Nat) (j : Int32) : Option Int32 :=
  match h.1[i]? with
  | some (c, n, _) => bif ks.elem c then (match m_ix j n with
    | some q => some (h.2 i q)
    | none => none) else none
  | none => match sc with
    | none => none
    | some (L, xs) => bif Nat.beq i m_scr0 && ks.elem 100 then (match m_ix j L with
      | some q => some (xs q)
      | none => none) else none
def m_ast (h : mH) (ks : List Nat) (i : Nat) (j x : Int32) : Option mH :=
  match h.1[i]? with
  | some (c, n, _) => bif ks.elem c then (match m_ix j n with
    | some q => some (h.1, m_up h.2 i q (bif Nat.beq c 101 then vp_nar .byte x else bif Nat.beq c 102 then vp_nar .boolean x else x))
    | none => none) else none
  | none => none
def m_aq (h : mH) (i : Nat) (j : Int32) : Option Value :=
  match h.1[i]? with
  | some (c, n, rs) => bif Nat.beq c 104 || Nat.beq c 105 then (match m_ix j n with
    | some q => some (va_rf (m_ri rs q))
    | none => none) else none
  | none => none
/-- a watchman into his row -/
def m_aqs (h : mH) (i : Nat) (j : Int32) (a : Nat) : Option mH :=
  match h.1[i]? with
  | some (c, n, rs) => bif Nat.beq c 105 then (if j < 0 ∨ n ≤ j.toNatClampNeg then none else
      match h.1[a]? with
      | some (c1, _, _) => bif [1, 2, 3, 4, 7, 10].elem c1 && Nat.blt j.toNatClampNeg rs.length then some (h.1.set i (c, n, rs.set j.toNatClampNeg (some a)), h.2) else none
      | none => none) else none
  | none => none
def m_len (sc : mS) (h : mH) (i : Nat) : Option Int32 :=
  match h.1[i]? with
  | some (c, n, _) => bif Nat.ble 100 c && Nat.ble c 105 && !Nat.beq c 103 then some (Int32.ofNat n) else none
  | none => match sc with
    | none => none
    | some (L, _) => bif Nat.beq i m_scr0 then some (Int32.ofNat L) else none
/-- a new cell, its numbers 0 -/
def m_new (h : mH) (r : mR) : mH := (h.1 ++ [r], m_row h.2 h.1.length (fun _ => 0))
def m_aty : ArrayType → Nat
  | .int => 100
  | .byte => 101
  | .boolean => 102
  | _ => 199
def m_hd (ds : List (List Nat)) : List Nat := (ds[0]?).getD []
def m_d (l : List Nat) (k : Nat) : Nat := (l[k]?).getD 0
/-- rows of ints: the outer one, then the inner ones -/
def m_mul (h : mH) (n k : Nat) : mH :=
  (h.1 ++ (104, n, (List.range n).map fun i => some (h.1.length + 1 + i)) :: (List.range n).map (fun _ => (100, k, [])), fun a b => if h.1.length ≤ a then 0 else h.2 a b)
/-- System.arraycopy between two rows of ints -/
def m_cpy (h : mH) (a : Nat) (sp : Int32) (b : Nat) (dp n : Int32) : Option mH :=
  match h.1[a]?, h.1[b]? with
  | some (c, N, _), some (d, M, _) => bif Nat.beq c 100 && Nat.beq d 100 then
      (if sp < 0 ∨ dp < 0 ∨ n < 0 then none else if sp.toNatClampNeg + n.toNatClampNeg ≤ N ∧ dp.toNatClampNeg + n.toNatClampNeg ≤ M then
        some (h.1, m_row h.2 b (va_cpy (h.2 a) (h.2 b) sp.toNatClampNeg dp.toNatClampNeg n.toNatClampNeg)) else none) else none
  | _, _ => none
/-- the instructions that neither branch nor call -/
def m_1 (sc : mS) (i : Instr) (v : Int32 × Int64) (ds : List (List Nat)) (lo : mL) (os : List Value) (h : mH) : Option (mL × List Value × mH) :=
  match i with
  | .iconst _ => some (lo, .int v.1 :: os, h)
  | .bipush _ => some (lo, .int v.1 :: os, h)
  | .sipush _ => some (lo, .int v.1 :: os, h)
  | .lconst _ => some (lo, .long v.2 :: os, h)
  | .ldc _ => match m_hd ds with
    | [0, _] => some (lo, .int v.1 :: os, h)
    | [1, j] => some (lo, .ref (m_str0 + j) :: os, h)
    | _ => none
  | .ldc_w _ => some (lo, .int v.1 :: os, h)
  | .ldc2_w _ => some (lo, .long v.2 :: os, h)
  | .iload n => match m_ld lo n with
    | some (.int x) => some (lo, .int x :: os, h)
    | _ => none
  | .iload_n n => match m_ld lo n.1 with
    | some (.int x) => some (lo, .int x :: os, h)
    | _ => none
  | .lload n => match m_ld lo n with
    | some (.long x) => some (lo, .long x :: os, h)
    | _ => none
  | .lload_n n => match m_ld lo n.1 with
    | some (.long x) => some (lo, .long x :: os, h)
    | _ => none
  | .aload n => match m_ld lo n with
    | some (.ref x) => some (lo, .ref x :: os, h)
    | _ => none
  | .aload_n n => match m_ld lo n.1 with
    | some (.ref x) => some (lo, .ref x :: os, h)
    | _ => none
  | .istore n => match os with
    | .int x :: os => some (m_st1 lo n (.int x), os, h)
    | _ => none
  | .istore_n n => match os with
    | .int x :: os => some (m_st1 lo n.1 (.int x), os, h)
    | _ => none
  | .lstore n => match os with
    | .long x :: os => some (m_st2 lo n (.long x), os, h)
    | _ => none
  | .lstore_n n => match os with
    | .long x :: os => some (m_st2 lo n.1 (.long x), os, h)
    | _ => none
  | .astore n => match os with
    | .ref x :: os => some (m_st1 lo n (.ref x), os, h)
    | _ => none
  | .astore_n n => match os with
    | .ref x :: os => some (m_st1 lo n.1 (.ref x), os, h)
    | _ => none
  | .iinc n _ => match m_ld lo n with
    | some (.int x) => some (m_st1 lo n (.int (x + v.1)), os, h)
    | _ => none
  | .iadd => match os with
    | .int y :: .int x :: os => some (lo, .int (x + y) :: os, h)
    | _ => none
  | .isub => match os with
    | .int y :: .int x :: os => some (lo, .int (x - y) :: os, h)
    | _ => none
  | .imul => match os with
    | .int y :: .int x :: os => some (lo, .int (x * y) :: os, h)
    | _ => none
  | .idiv => match os with
    | .int y :: .int x :: os => if y = 0 then none else some (lo, .int (x / y) :: os, h)
    | _ => none
  | .irem => match os with
    | .int y :: .int x :: os => if y = 0 then none else some (lo, .int (x - x / y * y) :: os, h)
    | _ => none
  | .iand => match os with
    | .int y :: .int x :: os => some (lo, .int (x &&& y) :: os, h)
    | _ => none
  | .ior => match os with
    | .int y :: .int x :: os => some (lo, .int (x ||| y) :: os, h)
    | _ => none
  | .ixor => match os with
    | .int y :: .int x :: os => some (lo, .int (x ^^^ y) :: os, h)
    | _ => none
  | .ishl => match os with
    | .int y :: .int x :: os => some (lo, .int (x <<< (y &&& 31)) :: os, h)
    | _ => none
  | .ishr => match os with
    | .int y :: .int x :: os => some (lo, .int (x >>> (y &&& 31)) :: os, h)
    | _ => none
  | .iushr => match os with
    | .int y :: .int x :: os => some (lo, .int (x.toUInt32 >>> (y.toUInt32 &&& Int32.toUInt32 31)).toInt32 :: os, h)
    | _ => none
  | .ladd => match os with
    | .long y :: .long x :: os => some (lo, .long (x + y) :: os, h)
    | _ => none
  | .lmul => match os with
    | .long y :: .long x :: os => some (lo, .long (x * y) :: os, h)
    | _ => none
  | .land => match os with
    | .long y :: .long x :: os => some (lo, .long (x &&& y) :: os, h)
    | _ => none
  | .lor => match os with
    | .long y :: .long x :: os => some (lo, .long (x ||| y) :: os, h)
    | _ => none
  | .lshl => match os with
    | .int y :: .long x :: os => some (lo, .long (x <<< (y.toInt64 &&& 63)) :: os, h)
    | _ => none
  | .lshr => match os with
    | .int y :: .long x :: os => some (lo, .long (x >>> (y.toInt64 &&& 63)) :: os, h)
    | _ => none
  | .lushr => match os with
    | .int y :: .long x :: os => some (lo, .long (x.toUInt64 >>> (y.toInt64.toUInt64 &&& Int64.toUInt64 63)).toInt64 :: os, h)
    | _ => none
  | .lcmp => match os with
    | .long y :: .long x :: os => some (lo, .int (lg_cmp x y) :: os, h)
    | _ => none
  | .i2l => match os with
    | .int x :: os => some (lo, .long x.toInt64 :: os, h)
    | _ => none
  | .l2i => match os with
    | .long x :: os => some (lo, .int x.toInt32 :: os, h)
    | _ => none
  | .i2b => match os with
    | .int x :: os => some (lo, .int x.toInt8.toInt32 :: os, h)
    | _ => none
  | .i2s => match os with
    | .int x :: os => some (lo, .int x.toInt16.toInt32 :: os, h)
    | _ => none
  | .dup => match os with
    | .int x :: os => some (lo, .int x :: .int x :: os, h)
    | .ref x :: os => some (lo, .ref x :: .ref x :: os, h)
    | _ => none
  | .dup_x1 => match os with
    | .int x :: .ref y :: os => some (lo, .int x :: .ref y :: .int x :: os, h)
    | _ => none
  | .dup2 => match os with
    | .int x :: .ref y :: os => some (lo, .int x :: .ref y :: .int x :: .ref y :: os, h)
    | _ => none
  | .pop => match os with
    | .int _ :: os => some (lo, os, h)
    | _ => none
  | .getfield _ => match os with
    | .ref a :: os => match m_get h a (m_d (m_hd ds) 0) ((ds[1]?).getD []) with
      | some w => some (lo, w :: os, h)
      | none => none
    | _ => none
  | .putfield _ => match os with
    | w :: .ref a :: os => match m_put h a (m_d (m_hd ds) 0) ((ds[1]?).getD []) w with
      | some h => some (lo, os, h)
      | none => none
    | _ => none
  | .iaload => match os with
    | .int j :: .ref a :: os => match m_ald sc h [100] a j with
      | some w => some (lo, .int w :: os, h)
      | none => none
    | _ => none
  | .baload => match os with
    | .int j :: .ref a :: os => match m_ald sc h [101, 102] a j with
      | some w => some (lo, .int w :: os, h)
      | none => none
    | _ => none
  | .aaload => match os with
    | .int j :: .ref a :: os => match m_aq h a j with
      | some w => some (lo, w :: os, h)
      | none => none
    | _ => none
  | .iastore => match os with
    | .int x :: .int j :: .ref a :: os => match m_ast h [100] a j x with
      | some h => some (lo, os, h)
      | none => none
    | _ => none
  | .bastore => match os with
    | .int x :: .int j :: .ref a :: os => match m_ast h [101, 102] a j x with
      | some h => some (lo, os, h)
      | none => none
    | _ => none
  | .aastore => match os with
    | .ref x :: .int j :: .ref a :: os => match m_aqs h a j x with
      | some h => some (lo, os, h)
      | none => none
    | _ => none
  | .arraylength => match os with
    | .ref a :: os => match m_len sc h a with
      | some w => some (lo, .int w :: os, h)
      | none => none
    | _ => none
  | .new _ => some (lo, .ref h.1.length :: os, m_new h (m_d (m_hd ds) 0, m_d (m_hd ds) 1, List.replicate (m_d (m_hd ds) 1) none))
  | .newarray t => match os with
    | .int n :: os => if n < 0 ∨ 100000 ≤ n.toNatClampNeg then none else some (lo, .ref h.1.length :: os, m_new h (m_aty t, n.toNatClampNeg, []))
    | _ => none
  | .anewarray _ => match os with
    | .int n :: os => if n < 0 ∨ 100000 ≤ n.toNatClampNeg then none else some (lo, .ref h.1.length :: os, m_new h (105, n.toNatClampNeg, List.replicate n.toNatClampNeg none))
    | _ => none
  | .multianewarray _ _ => match os with
    | .int k :: .int n :: os => if n < 0 ∨ k < 0 ∨ 100000 ≤ n.toNatClampNeg ∨ 100000 ≤ k.toNatClampNeg then none else some (lo, .ref h.1.length :: os, m_mul h n.toNatClampNeg k.toNatClampNeg)
    | _ => none
  | _ => none
/-- a branch on two numbers: where it goes to, what stands behind it -/
def m_br {α : Type} (c : Jvm.ClassFile.Cond) (x y : Int32) (a b : α) : α :=
  match c with
  | .eq => if x = y then a else b
  | .ne => if x = y then b else a
  | .lt => if x < y then a else b
  | .ge => if x < y then b else a
  | .gt => if y < x then a else b
  | .le => if y < x then b else a
/-- the case of a switch: number and target, one after the other -/
def m_case (x : Int32) : List (List Nat) → Nat → Nat
  | [k, t] :: l, d => if x = Int32.ofNat k then t else m_case x l d
  | _, d => d
/-- which method a call runs, by the class of the object -/
def m_pick (h : mH) (a : Nat) (al : List (List Nat)) : Option Nat :=
  match h.1[a]? with
  | some (c, _, _) => bif Nat.blt c 100 then (al.find? fun d => Nat.beq (m_d d 0) c).map fun d => m_d d 1 else none
  | none => (al.find? fun d => Nat.beq (m_d d 0) 300 && Nat.ble m_str0 a && Nat.blt a (m_str0 + 6)).map fun d => m_d d 1
def m_isO (h : mH) (a : Nat) : Bool :=
  match h.1[a]? with
  | some (c, _, _) => Nat.blt c 13
  | none => false
def m_cat (os : List Value) : Nat := (os.map fun v => v.category).sum
/-- System.arraycopy, Math.max, min, abs: what is left on the stack -/
def m_spc (k : Nat) (os : List Value) (h : mH) : Option (List Value × mH) :=
  bif Nat.beq k 998 then (match os with
    | .int m :: .int dp :: .ref b :: .int sp :: .ref a :: os => bif Nat.ble (m_cat os) 8 then (match m_cpy h a sp b dp m with
      | some h => some (os, h)
      | none => none) else none
    | _ => none)
  else bif Nat.beq k 995 then (match os with
    | .int y :: .int x :: os => bif Nat.ble (m_cat os) 8 then some (.int (if x < y then y else x) :: os, h) else none
    | _ => none)
  else bif Nat.beq k 996 then (match os with
    | .int y :: .int x :: os => bif Nat.ble (m_cat os) 8 then some (.int (if y < x then y else x) :: os, h) else none
    | _ => none)
  else bif Nat.beq k 997 then (match os with
    | .int x :: os => bif Nat.ble (m_cat os) 8 then some (.int (if 0 ≤ x then x else 0 - x) :: os, h) else none
    | _ => none)
  else none
/-- a block, from its first instruction on: it comes to the method's end, or to the head of a block -/
def m_B (sc : mS) (cal : mK) : List mO → Nat → mL → List Value → mH → Option mG
  | [], pc, lo, os, h => some (.inr (pc, lo, os, h))
  | (i, n, v, ds) :: r, pc, lo, os, h =>
    match i with
    | .goto _ => some (.inr (m_d (m_hd ds) 0, lo, os, h))
    | .ifCond c _ => match os with
      | .int x :: os => m_br c x 0 (some (.inr (m_d (m_hd ds) 0, lo, os, h))) (m_B sc cal r (pc + n) lo os h)
      | _ => none
    | .if_icmp c _ => match os with
      | .int y :: .int x :: os => m_br c x y (some (.inr (m_d (m_hd ds) 0, lo, os, h))) (m_B sc cal r (pc + n) lo os h)
      | _ => none
    | .tableswitch _ _ _ _ => match os with
      | .int x :: os => some (.inr (m_case x (ds.drop 1) (m_d (m_hd ds) 0), lo, os, h))
      | _ => none
    | .lookupswitch _ _ => match os with
      | .int x :: os => some (.inr (m_case x (ds.drop 1) (m_d (m_hd ds) 0), lo, os, h))
      | _ => none
    | .ireturn => match os with
      | [.int x] => bif Nat.beq (m_d (m_hd ds) 0) 1 then (if x = 0 ∨ x = 1 then some (.inl (some (.int x), h)) else none) else some (.inl (some (.int x), h))
      | _ => none
    | .lreturn => match os with
      | [.long x] => some (.inl (some (.long x), h))
      | _ => none
    | .return_ => match os with
      | [] => some (.inl (none, h))
      | _ => none
    | .invokestatic _ => bif Nat.ble 995 (m_d (m_hd ds) 1) then
        (match m_spc (m_d (m_hd ds) 1) os h with
        | some (os, h) => m_B sc cal r (pc + n) lo os h
        | none => none) else
        (match cal (m_d (m_hd ds) 1) (os.take (m_d (m_hd ds) 0)).reverse h with
        | some (w, h) => bif Nat.ble (m_d (m_hd ds) 0) os.length && Nat.ble (m_cat (os.drop (m_d (m_hd ds) 0))) 8 then m_B sc cal r (pc + n) lo (w.toList ++ os.drop (m_d (m_hd ds) 0)) h else none
        | none => none)
    | .invokespecial _ => match os.drop (m_d (m_hd ds) 0) with
      | .ref a :: os' => bif Nat.ble (m_cat os') 8 then
          (bif Nat.beq (m_d (m_hd ds) 1) 999 then m_B sc cal r (pc + n) lo os' h else
          bif m_isO h a then (match cal (m_d (m_hd ds) 1) (.ref a :: (os.take (m_d (m_hd ds) 0)).reverse) h with
          | some (w, h) => m_B sc cal r (pc + n) lo (w.toList ++ os') h
          | none => none) else none) else none
      | _ => none
    | .invokevirtual _ => match os.drop (m_d (m_hd ds) 0) with
      | .ref a :: os' => bif Nat.ble (m_cat os') 8 then
          (match m_pick h a (ds.drop 1) with
          | some k => match cal k (.ref a :: (os.take (m_d (m_hd ds) 0)).reverse) h with
            | some (w, h) => m_B sc cal r (pc + n) lo (w.toList ++ os') h
            | none => none
          | none => none) else none
      | _ => none
    | i => match m_1 sc i v ds lo os h with
      | some (lo, os, h) => m_B sc cal r (pc + n) lo os h
      | none => none
/-- the locals with which a method begins -/
def m_lay : List Value → mL
  | [] => []
  | .long x :: l => some (.long x) :: none :: m_lay l
  | .double x :: l => some (.double x) :: none :: m_lay l
  | v :: l => some v :: m_lay l
def m_lo (n : Nat) (as : List Value) : mL := m_lay as ++ List.replicate (n - (m_lay as).length) none
/-- the text constants -/
def m_txt : List (List Int32) := [[119, 97, 116, 99, 104, 109, 97, 110, 32, 112, 108, 97, 105, 110, 32, 112, 114, 111, 117, 100, 32, 100, 114, 117, 110, 107, 32, 109, 101, 110, 100, 101, 114, 32, 115, 108, 101, 101, 112, 101, 114, 32], [105, 102, 32], [97, 100, 100, 32, 109, 111, 114, 101, 32, 109, 105, 108, 101, 32, 115, 105, 108, 101, 110, 116, 32], [110, 111, 116, 32], [100, 97, 121, 32, 119, 105, 110, 100, 32, 97, 100, 100, 32, 100, 101, 108, 97, 121, 32, 109, 105, 108, 101, 115, 32, 110, 117, 109, 98, 101, 114, 32], [111, 114, 32, 97, 110, 100, 32]]
/-- String's length() and charAt() of a text constant -/
def m_bi (k : Nat) (as : List Value) (h : mH) : Option mF :=
  bif Nat.beq k 900 then
    (match as with
    | [.ref a] => bif Nat.ble m_str0 a then (match m_txt[a - m_str0]? with
      | some l => some (some (.int (Int32.ofNat l.length)), h)
      | none => none) else none
    | _ => none)
  else bif Nat.beq k 901 then
    (match as with
    | [.ref a, .int j] => bif Nat.ble m_str0 a then (match m_txt[a - m_str0]? with
      | some l => if j < 0 ∨ l.length ≤ j.toNatClampNeg then none else some (some (.int ((l[j.toNatClampNeg]?).getD 0)), h)
      | none => none) else none
    | _ => none)
  else none
def m_isN : Option Value → Bool
  | none => true
  | some (.int _) => true
  | some (.long _) => true
  | _ => false
/-- a method's run, from the block that begins at pc: with so much time, at most so deep -/
def m_run (P : Nat → Nat → List mO) (X : Nat → Nat) : Nat → mS → Nat → Nat → Nat → mL → List Value → mH → Option mF
  | 0, _, _, _, _, _, _, _ => none
  | f + 1, sc, d, k, pc, lo, os, h =>
    match m_B sc (fun k' as h' => match d with
      | 0 => none
      | d' + 1 => bif Nat.ble 900 k' then (bif Nat.ble 4 d' then m_bi k' as h' else none) else bif Nat.blt k' 268 && Nat.ble (m_lay as).length (X k') then m_run P X f none d' k' 0 (m_lo (X k') as) [] h' else none) (P k pc) pc lo os h with
    | some (.inl r) => bif m_isN r.1 then some r else none
    | some (.inr (pc', lo', os', h')) => m_run P X f sc d k pc' lo' os' h'
    | none => none
end
section
-- the words that a method may rest on: those of the tables that hold in every state from the start on
def mTT : List Jvm.Cond := lw_tbl.filter goodWord
def mTc : Nat → List Jvm.Cond
  | 0 => k2_sels lw_privs
  | 1 => tables_1_1
  | 2 => tables_1_2
  | 3 => tables_1_3
  | 4 => tables_1_4
  | 5 => tables_1_5
  | 6 => tables_1_6
  | 7 => tables_1_7
  | _ => []
/-- the word at a place: list * 1000 + place -/
def m_tw (q : Nat) : Option Jvm.Cond := (mTc (q / 1000))[q % 1000]?
def qX0_init_0 : List mO := [(.aload_n 0, 1, (0, 0), []),
  (.invokespecial 3, 3, (0, 0), [[0, 999, 1194, 1028, 1029]]),
  (.aload_n 0, 1, (0, 0), []),
  (.bipush 9, 2, (9, 0), []),
  (.newarray .int, 2, (0, 0), [[1071]]),
  (.putfield 9, 3, (0, 0), [[1, 1196, 0, 1], [0]]),
  (.aload_n 0, 1, (0, 0), []),
  (.bipush 9, 2, (9, 0), []),
  (.newarray .boolean, 2, (0, 0), [[1223]]),
  (.putfield 15, 3, (0, 0), [[2, 1198, 0, 1], [0]]),
  (.aload_n 0, 1, (0, 0), []),
  (.iconst 4, 1, (4, 0), []),
  (.putfield 19, 3, (0, 0), [[3, 1199, 0, 0], [0]]),
  (.aload_n 0, 1, (0, 0), []),
  (.iconst 4, 1, (4, 0), []),
  (.putfield 23, 3, (0, 0), [[4, 1200, 0, 0], [0]]),
  (.aload_n 0, 1, (0, 0), []),
  (.iconst 0, 1, (0, 0), []),
  (.putfield 26, 3, (0, 0), [[5, 1201, 0, 0], [0]]),
  (.aload_n 0, 1, (0, 0), []),
  (.bipush 9, 2, (9, 0), []),
  (.newarray .int, 2, (0, 0), [[1071]]),
  (.putfield 29, 3, (0, 0), [[6, 1202, 0, 1], [0]]),
  (.aload_n 0, 1, (0, 0), []),
  (.bipush 9, 2, (9, 0), []),
  (.newarray .int, 2, (0, 0), [[1071]]),
  (.putfield 32, 3, (0, 0), [[7, 1204, 0, 1], [0]]),
  (.aload_n 0, 1, (0, 0), []),
  (.aload_n 1, 1, (0, 0), []),
  (.putfield 35, 3, (0, 0), [[0, 1195, 0, 1], [0]]),
  (.return_, 1, (0, 0), [])]
def pX0_init : List (Nat × List mO) := [(0, qX0_init_0)]
def qX0_takeDay_0 : List mO := [(.aload_n 0, 1, (0, 0), []),
  (.aload_n 0, 1, (0, 0), []),
  (.getfield 35, 3, (0, 0), [[0, 1195, 0, 1], [0]]),
  (.iload_n 1, 1, (0, 0), []),
  (.iconst 1, 1, (1, 0), []),
  (.invokevirtual 39, 3, (0, 0), [[2, 3180, 0], [9, 70, 2219, 2218]])]
def qX0_takeDay_10 : List mO := [(.putfield 19, 3, (0, 0), [[3, 1199, 0, 0], [0]]),
  (.aload_n 0, 1, (0, 0), []),
  (.aload_n 0, 1, (0, 0), []),
  (.getfield 35, 3, (0, 0), [[0, 1195, 0, 1], [0]]),
  (.iload_n 1, 1, (0, 0), []),
  (.iconst 0, 1, (0, 0), []),
  (.invokevirtual 39, 3, (0, 0), [[2, 3180, 0], [9, 70, 2219, 2218]])]
def qX0_takeDay_23 : List mO := [(.putfield 23, 3, (0, 0), [[4, 1200, 0, 0], [0]]),
  (.iconst 0, 1, (0, 0), []),
  (.istore_n 2, 1, (0, 0), [])]
def qX0_takeDay_28 : List mO := [(.iload_n 2, 1, (0, 0), []),
  (.aload_n 0, 1, (0, 0), []),
  (.getfield 35, 3, (0, 0), [[0, 1195, 0, 1], [0]]),
  (.getfield 45, 3, (0, 0), [[0, 1073, 0, 0], [9]]),
  (.if_icmp .ge 52, 3, (0, 0), [[88]]),
  (.aload_n 0, 1, (0, 0), []),
  (.getfield 35, 3, (0, 0), [[0, 1195, 0, 1], [0]]),
  (.iload_n 2, 1, (0, 0), []),
  (.iload_n 1, 1, (0, 0), []),
  (.invokevirtual 48, 3, (0, 0), [[2, 3181, 0], [9, 71, 2166, 2165]])]
def qX0_takeDay_48 : List mO := [(.istore_n 3, 1, (0, 0), []),
  (.aload_n 0, 1, (0, 0), []),
  (.getfield 9, 3, (0, 0), [[1, 1196, 0, 1], [0]]),
  (.iload_n 2, 1, (0, 0), []),
  (.aload_n 0, 1, (0, 0), []),
  (.getfield 35, 3, (0, 0), [[0, 1195, 0, 1], [0]]),
  (.iload_n 3, 1, (0, 0), []),
  (.iload_n 2, 1, (0, 0), []),
  (.iload_n 1, 1, (0, 0), []),
  (.invokevirtual 52, 3, (0, 0), [[3, 3182, 0], [9, 72, 2184, 2183]])]
def qX0_takeDay_64 : List mO := [(.iastore, 1, (0, 0), []),
  (.aload_n 0, 1, (0, 0), []),
  (.getfield 15, 3, (0, 0), [[2, 1198, 0, 1], [0]]),
  (.iload_n 2, 1, (0, 0), []),
  (.aload_n 0, 1, (0, 0), []),
  (.getfield 35, 3, (0, 0), [[0, 1195, 0, 1], [0]]),
  (.getfield 56, 3, (0, 0), [[10, 1097, 0, 1], [9]]),
  (.iload_n 3, 1, (0, 0), []),
  (.invokevirtual 60, 3, (0, 0), [[1, 3183, 0], [5, 32, 2192, 2191]])]
def qX0_takeDay_81 : List mO := [(.bastore, 1, (0, 0), []),
  (.iinc 2 1, 3, (1, 0), []),
  (.goto (-57), 3, (0, 0), [[28]])]
def qX0_takeDay_88 : List mO := [(.return_, 1, (0, 0), [])]
def pX0_takeDay : List (Nat × List mO) := [(0, qX0_takeDay_0), (10, qX0_takeDay_10), (23, qX0_takeDay_23), (28, qX0_takeDay_28), (48, qX0_takeDay_48), (64, qX0_takeDay_64), (81, qX0_takeDay_81), (88, qX0_takeDay_88)]
def qX0_goBothWays_0 : List mO := [(.aload_n 0, 1, (0, 0), []),
  (.iconst 1, 1, (1, 0), []),
  (.iload_n 1, 1, (0, 0), []),
  (.ishl, 1, (0, 0), []),
  (.iload_n 2, 1, (0, 0), []),
  (.invokevirtual 65, 3, (0, 0), [[2, 3188, 0], [0, 5, 27, 3190]])]
def qX0_goBothWays_8 : List mO := [(.aload_n 0, 1, (0, 0), []),
  (.iload_n 1, 1, (0, 0), []),
  (.invokevirtual 69, 3, (0, 0), [[1, 3196, 0], [0, 6, 29, 3198]])]
def qX0_goBothWays_13 : List mO := [(.aload_n 0, 1, (0, 0), []),
  (.iload_n 1, 1, (0, 0), []),
  (.invokevirtual 73, 3, (0, 0), [[1, 3208, 0], [0, 7, 31, 3210]])]
def qX0_goBothWays_18 : List mO := [(.return_, 1, (0, 0), [])]
def pX0_goBothWays : List (Nat × List mO) := [(0, qX0_goBothWays_0), (8, qX0_goBothWays_8), (13, qX0_goBothWays_13), (18, qX0_goBothWays_18)]
def qX0_goOneWay_0 : List mO := [(.aload_n 0, 1, (0, 0), []),
  (.iconst 1, 1, (1, 0), []),
  (.iload_n 1, 1, (0, 0), []),
  (.ishl, 1, (0, 0), []),
  (.iload_n 2, 1, (0, 0), []),
  (.invokevirtual 65, 3, (0, 0), [[2, 3188, 0], [0, 5, 27, 3190]])]
def qX0_goOneWay_8 : List mO := [(.iload_n 3, 1, (0, 0), []),
  (.ifCond .eq 11, 3, (0, 0), [[20]]),
  (.aload_n 0, 1, (0, 0), []),
  (.iload_n 1, 1, (0, 0), []),
  (.invokevirtual 69, 3, (0, 0), [[1, 3196, 0], [0, 6, 29, 3198]])]
def qX0_goOneWay_17 : List mO := [(.goto 8, 3, (0, 0), [[25]])]
def qX0_goOneWay_20 : List mO := [(.aload_n 0, 1, (0, 0), []),
  (.iload_n 1, 1, (0, 0), []),
  (.invokevirtual 73, 3, (0, 0), [[1, 3208, 0], [0, 7, 31, 3210]])]
def qX0_goOneWay_25 : List mO := [(.return_, 1, (0, 0), [])]
def pX0_goOneWay : List (Nat × List mO) := [(0, qX0_goOneWay_0), (8, qX0_goOneWay_8), (17, qX0_goOneWay_17), (20, qX0_goOneWay_20), (25, qX0_goOneWay_25)]
def qX0_farthestByClocks_0 : List mO := [(.aload_n 0, 1, (0, 0), []),
  (.iload_n 1, 1, (0, 0), []),
  (.iload_n 2, 1, (0, 0), []),
  (.invokevirtual 65, 3, (0, 0), [[2, 3188, 0], [0, 5, 27, 3190]])]
def qX0_farthestByClocks_6 : List mO := [(.aload_n 0, 1, (0, 0), []),
  (.iconst 0, 1, (0, 0), []),
  (.invokevirtual 69, 3, (0, 0), [[1, 3196, 0], [0, 6, 29, 3198]])]
def qX0_farthestByClocks_11 : List mO := [(.iconst 0, 1, (0, 0), []),
  (.istore_n 3, 1, (0, 0), []),
  (.iconst 0, 1, (0, 0), []),
  (.istore 4, 2, (0, 0), [])]
def qX0_farthestByClocks_16 : List mO := [(.iload 4, 2, (0, 0), []),
  (.aload_n 0, 1, (0, 0), []),
  (.getfield 35, 3, (0, 0), [[0, 1195, 0, 1], [0]]),
  (.getfield 45, 3, (0, 0), [[0, 1073, 0, 0], [9]]),
  (.if_icmp .ge 31, 3, (0, 0), [[56]]),
  (.aload_n 0, 1, (0, 0), []),
  (.iload 4, 2, (0, 0), []),
  (.invokevirtual 76, 3, (0, 0), [[1, 3204, 0], [0, 10, 3206, 3205]])]
def qX0_farthestByClocks_34 : List mO := [(.ifCond .ne 5, 3, (0, 0), [[39]]),
  (.iconst (-1), 1, ((-1), 0), []),
  (.ireturn, 1, (0, 0), [])]
def qX0_farthestByClocks_39 : List mO := [(.iload_n 3, 1, (0, 0), []),
  (.aload_n 0, 1, (0, 0), []),
  (.iload 4, 2, (0, 0), []),
  (.invokevirtual 79, 3, (0, 0), [[1, 4067, 0], [0, 13, 4025, 4024]])]
def qX0_farthestByClocks_46 : List mO := [(.invokestatic 83, 3, (0, 0), [[2, 995, 4068, 4053, 1020, 4054]]),
  (.istore_n 3, 1, (0, 0), []),
  (.iinc 4 1, 3, (1, 0), []),
  (.goto (-37), 3, (0, 0), [[16]])]
def qX0_farthestByClocks_56 : List mO := [(.iload_n 3, 1, (0, 0), []),
  (.ireturn, 1, (0, 0), [])]
def pX0_farthestByClocks : List (Nat × List mO) := [(0, qX0_farthestByClocks_0), (6, qX0_farthestByClocks_6), (11, qX0_farthestByClocks_11), (16, qX0_farthestByClocks_16), (34, qX0_farthestByClocks_34), (39, qX0_farthestByClocks_39), (46, qX0_farthestByClocks_46), (56, qX0_farthestByClocks_56)]
def qX0_beginAt_0 : List mO := [(.aload_n 0, 1, (0, 0), []),
  (.iload_n 1, 1, (0, 0), []),
  (.putfield 26, 3, (0, 0), [[5, 1201, 0, 0], [0]]),
  (.iconst 0, 1, (0, 0), []),
  (.istore_n 3, 1, (0, 0), [])]
def qX0_beginAt_7 : List mO := [(.iload_n 3, 1, (0, 0), []),
  (.bipush 9, 2, (9, 0), []),
  (.if_icmp .ge 41, 3, (0, 0), [[51]]),
  (.aload_n 0, 1, (0, 0), []),
  (.getfield 29, 3, (0, 0), [[6, 1202, 0, 1], [0]]),
  (.iload_n 3, 1, (0, 0), []),
  (.aload_n 0, 1, (0, 0), []),
  (.iload_n 3, 1, (0, 0), []),
  (.invokevirtual 88, 3, (0, 0), [[1, 3192, 0], [0, 8, 28, 3194]])]
def qX0_beginAt_23 : List mO := [(.ifCond .eq 7, 3, (0, 0), [[30]]),
  (.iload_n 2, 1, (0, 0), []),
  (.goto 5, 3, (0, 0), [[32]])]
def qX0_beginAt_30 : List mO := [(.bipush (-9), 2, ((-9), 0), [])]
def qX0_beginAt_32 : List mO := [(.iastore, 1, (0, 0), []),
  (.aload_n 0, 1, (0, 0), []),
  (.getfield 32, 3, (0, 0), [[7, 1204, 0, 1], [0]]),
  (.iload_n 3, 1, (0, 0), []),
  (.aload_n 0, 1, (0, 0), []),
  (.getfield 29, 3, (0, 0), [[6, 1202, 0, 1], [0]]),
  (.iload_n 3, 1, (0, 0), []),
  (.iaload, 1, (0, 0), []),
  (.iastore, 1, (0, 0), []),
  (.iinc 3 1, 3, (1, 0), []),
  (.goto (-41), 3, (0, 0), [[7]])]
def qX0_beginAt_51 : List mO := [(.return_, 1, (0, 0), [])]
def pX0_beginAt : List (Nat × List mO) := [(0, qX0_beginAt_0), (7, qX0_beginAt_7), (23, qX0_beginAt_23), (30, qX0_beginAt_30), (32, qX0_beginAt_32), (51, qX0_beginAt_51)]
def qX0_goWest_0 : List mO := [(.iload_n 1, 1, (0, 0), []),
  (.istore_n 2, 1, (0, 0), [])]
def qX0_goWest_2 : List mO := [(.iload_n 2, 1, (0, 0), []),
  (.iconst 1, 1, (1, 0), []),
  (.iadd, 1, (0, 0), []),
  (.aload_n 0, 1, (0, 0), []),
  (.getfield 35, 3, (0, 0), [[0, 1195, 0, 1], [0]]),
  (.getfield 45, 3, (0, 0), [[0, 1073, 0, 0], [9]]),
  (.if_icmp .ge 43, 3, (0, 0), [[55]]),
  (.aload_n 0, 1, (0, 0), []),
  (.iload_n 2, 1, (0, 0), []),
  (.iconst 1, 1, (1, 0), []),
  (.iadd, 1, (0, 0), []),
  (.invokevirtual 88, 3, (0, 0), [[1, 3192, 0], [0, 8, 28, 3194]])]
def qX0_goWest_22 : List mO := [(.ifCond .ne 27, 3, (0, 0), [[49]]),
  (.aload_n 0, 1, (0, 0), []),
  (.iload_n 2, 1, (0, 0), []),
  (.iload_n 2, 1, (0, 0), []),
  (.iconst 1, 1, (1, 0), []),
  (.iadd, 1, (0, 0), []),
  (.aload_n 0, 1, (0, 0), []),
  (.getfield 35, 3, (0, 0), [[0, 1195, 0, 1], [0]]),
  (.getfield 91, 3, (0, 0), [[4, 1085, 0, 1], [9]]),
  (.iload_n 2, 1, (0, 0), []),
  (.iconst 1, 1, (1, 0), []),
  (.iadd, 1, (0, 0), []),
  (.iaload, 1, (0, 0), []),
  (.aload_n 0, 1, (0, 0), []),
  (.getfield 19, 3, (0, 0), [[3, 1199, 0, 0], [0]]),
  (.imul, 1, (0, 0), []),
  (.invokevirtual 94, 3, (0, 0), [[3, 3200, 0], [0, 9, 30, 3202]])]
def qX0_goWest_49 : List mO := [(.iinc 2 1, 3, (1, 0), []),
  (.goto (-50), 3, (0, 0), [[2]])]
def qX0_goWest_55 : List mO := [(.return_, 1, (0, 0), [])]
def pX0_goWest : List (Nat × List mO) := [(0, qX0_goWest_0), (2, qX0_goWest_2), (22, qX0_goWest_22), (49, qX0_goWest_49), (55, qX0_goWest_55)]
def qX0_goEast_0 : List mO := [(.iload_n 1, 1, (0, 0), []),
  (.istore_n 2, 1, (0, 0), [])]
def qX0_goEast_2 : List mO := [(.iload_n 2, 1, (0, 0), []),
  (.ifCond .le 31, 3, (0, 0), [[34]]),
  (.aload_n 0, 1, (0, 0), []),
  (.iload_n 2, 1, (0, 0), []),
  (.iload_n 2, 1, (0, 0), []),
  (.iconst 1, 1, (1, 0), []),
  (.isub, 1, (0, 0), []),
  (.aload_n 0, 1, (0, 0), []),
  (.getfield 35, 3, (0, 0), [[0, 1195, 0, 1], [0]]),
  (.getfield 91, 3, (0, 0), [[4, 1085, 0, 1], [9]]),
  (.iload_n 2, 1, (0, 0), []),
  (.iaload, 1, (0, 0), []),
  (.aload_n 0, 1, (0, 0), []),
  (.getfield 23, 3, (0, 0), [[4, 1200, 0, 0], [0]]),
  (.imul, 1, (0, 0), []),
  (.invokevirtual 94, 3, (0, 0), [[3, 3200, 0], [0, 9, 30, 3202]])]
def qX0_goEast_28 : List mO := [(.iinc 2 (-1), 3, ((-1), 0), []),
  (.goto (-29), 3, (0, 0), [[2]])]
def qX0_goEast_34 : List mO := [(.return_, 1, (0, 0), [])]
def pX0_goEast : List (Nat × List mO) := [(0, qX0_goEast_0), (2, qX0_goEast_2), (28, qX0_goEast_28), (34, qX0_goEast_34)]
def qX0_isBeginning_0 : List mO := [(.aload_n 0, 1, (0, 0), []),
  (.getfield 26, 3, (0, 0), [[5, 1201, 0, 0], [0]]),
  (.iload_n 1, 1, (0, 0), []),
  (.iushr, 1, (0, 0), []),
  (.iconst 1, 1, (1, 0), []),
  (.iand, 1, (0, 0), []),
  (.iconst 1, 1, (1, 0), []),
  (.if_icmp .ne 7, 3, (0, 0), [[16]]),
  (.iconst 1, 1, (1, 0), []),
  (.goto 4, 3, (0, 0), [[17]])]
def qX0_isBeginning_16 : List mO := [(.iconst 0, 1, (0, 0), [])]
def qX0_isBeginning_17 : List mO := [(.ireturn, 1, (0, 0), [[1]])]
def pX0_isBeginning : List (Nat × List mO) := [(0, qX0_isBeginning_0), (16, qX0_isBeginning_16), (17, qX0_isBeginning_17)]
def qX0_bring_0 : List mO := [(.aload_n 0, 1, (0, 0), []),
  (.iload_n 1, 1, (0, 0), []),
  (.invokevirtual 76, 3, (0, 0), [[1, 3204, 0], [0, 10, 3206, 3205]])]
def qX0_bring_5 : List mO := [(.ifCond .eq 20, 3, (0, 0), [[25]]),
  (.aload_n 0, 1, (0, 0), []),
  (.getfield 15, 3, (0, 0), [[2, 1198, 0, 1], [0]]),
  (.iload_n 1, 1, (0, 0), []),
  (.baload, 1, (0, 0), []),
  (.ifCond .eq 12, 3, (0, 0), [[26]]),
  (.aload_n 0, 1, (0, 0), []),
  (.iload_n 1, 1, (0, 0), []),
  (.invokevirtual 88, 3, (0, 0), [[1, 3192, 0], [0, 8, 28, 3194]])]
def qX0_bring_22 : List mO := [(.ifCond .ne 4, 3, (0, 0), [[26]])]
def qX0_bring_25 : List mO := [(.return_, 1, (0, 0), [])]
def qX0_bring_26 : List mO := [(.aload_n 0, 1, (0, 0), []),
  (.getfield 29, 3, (0, 0), [[6, 1202, 0, 1], [0]]),
  (.iload_n 1, 1, (0, 0), []),
  (.iaload, 1, (0, 0), []),
  (.aload_n 0, 1, (0, 0), []),
  (.iload_n 1, 1, (0, 0), []),
  (.invokevirtual 88, 3, (0, 0), [[1, 3192, 0], [0, 8, 28, 3194]])]
def qX0_bring_37 : List mO := [(.ifCond .eq 7, 3, (0, 0), [[44]]),
  (.iconst 0, 1, (0, 0), []),
  (.goto 12, 3, (0, 0), [[53]])]
def qX0_bring_44 : List mO := [(.aload_n 0, 1, (0, 0), []),
  (.getfield 35, 3, (0, 0), [[0, 1195, 0, 1], [0]]),
  (.getfield 98, 3, (0, 0), [[3, 1082, 0, 1], [9]]),
  (.iload_n 1, 1, (0, 0), []),
  (.iaload, 1, (0, 0), [])]
def qX0_bring_53 : List mO := [(.iadd, 1, (0, 0), []),
  (.iload_n 3, 1, (0, 0), []),
  (.iadd, 1, (0, 0), []),
  (.istore 4, 2, (0, 0), []),
  (.aload_n 0, 1, (0, 0), []),
  (.getfield 35, 3, (0, 0), [[0, 1195, 0, 1], [0]]),
  (.getfield 101, 3, (0, 0), [[1, 1077, 0, 1], [9]]),
  (.iload_n 2, 1, (0, 0), []),
  (.iaload, 1, (0, 0), []),
  (.iconst 5, 1, (5, 0), []),
  (.if_icmp .ne 12, 3, (0, 0), [[80]]),
  (.iload 4, 2, (0, 0), []),
  (.sipush 360, 3, (360, 0), []),
  (.if_icmp .ge 4, 3, (0, 0), [[80]]),
  (.return_, 1, (0, 0), [])]
def qX0_bring_80 : List mO := [(.aload_n 0, 1, (0, 0), []),
  (.getfield 29, 3, (0, 0), [[6, 1202, 0, 1], [0]]),
  (.iload_n 2, 1, (0, 0), []),
  (.iload 4, 2, (0, 0), []),
  (.iastore, 1, (0, 0), []),
  (.aload_n 0, 1, (0, 0), []),
  (.getfield 32, 3, (0, 0), [[7, 1204, 0, 1], [0]]),
  (.iload_n 2, 1, (0, 0), []),
  (.aload_n 0, 1, (0, 0), []),
  (.getfield 32, 3, (0, 0), [[7, 1204, 0, 1], [0]]),
  (.iload_n 1, 1, (0, 0), []),
  (.iaload, 1, (0, 0), []),
  (.aload_n 0, 1, (0, 0), []),
  (.getfield 9, 3, (0, 0), [[1, 1196, 0, 1], [0]]),
  (.iload_n 2, 1, (0, 0), []),
  (.iaload, 1, (0, 0), []),
  (.iadd, 1, (0, 0), []),
  (.iastore, 1, (0, 0), []),
  (.return_, 1, (0, 0), [])]
def pX0_bring : List (Nat × List mO) := [(0, qX0_bring_0), (5, qX0_bring_5), (22, qX0_bring_22), (25, qX0_bring_25), (26, qX0_bring_26), (37, qX0_bring_37), (44, qX0_bring_44), (53, qX0_bring_53), (80, qX0_bring_80)]
def qX0_reaches_0 : List mO := [(.aload_n 0, 1, (0, 0), []),
  (.getfield 29, 3, (0, 0), [[6, 1202, 0, 1], [0]]),
  (.iload_n 1, 1, (0, 0), []),
  (.iaload, 1, (0, 0), []),
  (.bipush (-9), 2, ((-9), 0), []),
  (.if_icmp .eq 7, 3, (0, 0), [[15]]),
  (.iconst 1, 1, (1, 0), []),
  (.goto 4, 3, (0, 0), [[16]])]
def qX0_reaches_15 : List mO := [(.iconst 0, 1, (0, 0), [])]
def qX0_reaches_16 : List mO := [(.ireturn, 1, (0, 0), [[1]])]
def pX0_reaches : List (Nat × List mO) := [(0, qX0_reaches_0), (15, qX0_reaches_15), (16, qX0_reaches_16)]
def qX0_reached_0 : List mO := [(.iconst 0, 1, (0, 0), []),
  (.istore_n 1, 1, (0, 0), []),
  (.iconst 0, 1, (0, 0), []),
  (.istore_n 2, 1, (0, 0), [])]
def qX0_reached_4 : List mO := [(.iload_n 2, 1, (0, 0), []),
  (.aload_n 0, 1, (0, 0), []),
  (.getfield 35, 3, (0, 0), [[0, 1195, 0, 1], [0]]),
  (.getfield 45, 3, (0, 0), [[0, 1073, 0, 0], [9]]),
  (.if_icmp .ge 20, 3, (0, 0), [[32]]),
  (.aload_n 0, 1, (0, 0), []),
  (.iload_n 2, 1, (0, 0), []),
  (.invokevirtual 76, 3, (0, 0), [[1, 3204, 0], [0, 10, 3206, 3205]])]
def qX0_reached_20 : List mO := [(.ifCond .eq 6, 3, (0, 0), [[26]]),
  (.iinc 1 1, 3, (1, 0), [])]
def qX0_reached_26 : List mO := [(.iinc 2 1, 3, (1, 0), []),
  (.goto (-25), 3, (0, 0), [[4]])]
def qX0_reached_32 : List mO := [(.iload_n 1, 1, (0, 0), []),
  (.ireturn, 1, (0, 0), [])]
def pX0_reached : List (Nat × List mO) := [(0, qX0_reached_0), (4, qX0_reached_4), (20, qX0_reached_20), (26, qX0_reached_26), (32, qX0_reached_32)]
def qX0_offOf_0 : List mO := [(.aload_n 0, 1, (0, 0), []),
  (.getfield 32, 3, (0, 0), [[7, 1204, 0, 1], [0]]),
  (.iload_n 1, 1, (0, 0), []),
  (.iaload, 1, (0, 0), []),
  (.aload_n 0, 1, (0, 0), []),
  (.getfield 29, 3, (0, 0), [[6, 1202, 0, 1], [0]]),
  (.iload_n 1, 1, (0, 0), []),
  (.iaload, 1, (0, 0), []),
  (.isub, 1, (0, 0), []),
  (.ireturn, 1, (0, 0), [])]
def pX0_offOf : List (Nat × List mO) := [(0, qX0_offOf_0)]
def qX0_distanceOf_0 : List mO := [(.aload_n 0, 1, (0, 0), []),
  (.iload_n 1, 1, (0, 0), []),
  (.invokevirtual 104, 3, (0, 0), [[1, 4027, 0], [0, 12, 4017, 4016]])]
def qX0_distanceOf_5 : List mO := [(.invokestatic 107, 3, (0, 0), [[1, 997, 4028, 4029, 1020, 4030]]),
  (.ireturn, 1, (0, 0), [])]
def pX0_distanceOf : List (Nat × List mO) := [(0, qX0_distanceOf_0), (5, qX0_distanceOf_5)]
def qX0_sumOfDistances_0 : List mO := [(.iconst 0, 1, (0, 0), []),
  (.istore_n 1, 1, (0, 0), []),
  (.iconst 0, 1, (0, 0), []),
  (.istore_n 2, 1, (0, 0), [])]
def qX0_sumOfDistances_4 : List mO := [(.iload_n 2, 1, (0, 0), []),
  (.aload_n 0, 1, (0, 0), []),
  (.getfield 35, 3, (0, 0), [[0, 1195, 0, 1], [0]]),
  (.getfield 45, 3, (0, 0), [[0, 1073, 0, 0], [9]]),
  (.if_icmp .ge 25, 3, (0, 0), [[37]]),
  (.aload_n 0, 1, (0, 0), []),
  (.iload_n 2, 1, (0, 0), []),
  (.invokevirtual 76, 3, (0, 0), [[1, 3204, 0], [0, 10, 3206, 3205]])]
def qX0_sumOfDistances_20 : List mO := [(.ifCond .eq 11, 3, (0, 0), [[31]]),
  (.iload_n 1, 1, (0, 0), []),
  (.aload_n 0, 1, (0, 0), []),
  (.iload_n 2, 1, (0, 0), []),
  (.invokevirtual 79, 3, (0, 0), [[1, 4067, 0], [0, 13, 4025, 4024]])]
def qX0_sumOfDistances_29 : List mO := [(.iadd, 1, (0, 0), []),
  (.istore_n 1, 1, (0, 0), [])]
def qX0_sumOfDistances_31 : List mO := [(.iinc 2 1, 3, (1, 0), []),
  (.goto (-30), 3, (0, 0), [[4]])]
def qX0_sumOfDistances_37 : List mO := [(.iload_n 1, 1, (0, 0), []),
  (.ireturn, 1, (0, 0), [])]
def pX0_sumOfDistances : List (Nat × List mO) := [(0, qX0_sumOfDistances_0), (4, qX0_sumOfDistances_4), (20, qX0_sumOfDistances_20), (29, qX0_sumOfDistances_29), (31, qX0_sumOfDistances_31), (37, qX0_sumOfDistances_37)]
def qX0_noonOf_0 : List mO := [(.aload_n 0, 1, (0, 0), []),
  (.getfield 29, 3, (0, 0), [[6, 1202, 0, 1], [0]]),
  (.iload_n 1, 1, (0, 0), []),
  (.iaload, 1, (0, 0), []),
  (.sipush 720, 3, (720, 0), []),
  (.iadd, 1, (0, 0), []),
  (.aload_n 0, 1, (0, 0), []),
  (.getfield 32, 3, (0, 0), [[7, 1204, 0, 1], [0]]),
  (.iload_n 1, 1, (0, 0), []),
  (.iaload, 1, (0, 0), []),
  (.isub, 1, (0, 0), []),
  (.ireturn, 1, (0, 0), [])]
def pX0_noonOf : List (Nat × List mO) := [(0, qX0_noonOf_0)]
def qX1_init_0 : List mO := [(.aload_n 0, 1, (0, 0), []),
  (.aload_n 1, 1, (0, 0), []),
  (.invokespecial 1, 3, (0, 0), [[1, 23, 2066, 2054, 0]])]
def qX1_init_5 : List mO := [(.return_, 1, (0, 0), [])]
def pX1_init : List (Nat × List mO) := [(0, qX1_init_0), (5, qX1_init_5)]
def qX1_cries_0 : List mO := [(.aload_n 0, 1, (0, 0), []),
  (.getfield 7, 3, (0, 0), [[0, 2014, 2016, 1], [1]]),
  (.bipush 50, 2, (50, 0), []),
  (.invokevirtual 13, 3, (0, 0), [[1, 5006, 0], [8, 66, 5008, 5007]])]
def qX1_cries_9 : List mO := [(.aload_n 0, 1, (0, 0), []),
  (.iload_n 1, 1, (0, 0), []),
  (.invokespecial 19, 3, (0, 0), [[1, 75, 5010, 5000, 2], [5011, 2070, 2061]])]
def qX1_cries_14 : List mO := [(.aload_n 0, 1, (0, 0), []),
  (.getfield 23, 3, (0, 0), [[1, 2025, 2027, 0], [1]]),
  (.ixor, 1, (0, 0), []),
  (.ireturn, 1, (0, 0), [])]
def pX1_cries : List (Nat × List mO) := [(0, qX1_cries_0), (9, qX1_cries_9), (14, qX1_cries_14)]
def qX1_tells_0 : List mO := [(.aload_n 0, 1, (0, 0), []),
  (.getfield 7, 3, (0, 0), [[0, 2014, 2016, 1], [1]]),
  (.bipush 51, 2, (51, 0), []),
  (.invokevirtual 13, 3, (0, 0), [[1, 5006, 0], [8, 66, 5008, 5007]])]
def qX1_tells_9 : List mO := [(.aload_n 0, 1, (0, 0), []),
  (.iload_n 1, 1, (0, 0), []),
  (.invokespecial 27, 3, (0, 0), [[1, 78, 5071, 5065, 2], [5072, 2070, 2061]])]
def qX1_tells_14 : List mO := [(.aload_n 0, 1, (0, 0), []),
  (.aload_n 0, 1, (0, 0), []),
  (.getfield 23, 3, (0, 0), [[1, 2025, 2027, 0], [1]]),
  (.invokevirtual 30, 3, (0, 0), [[1, 5074, 1, 5075, 5045, 5063], [1, 77, 5077, 5045]])]
def qX1_tells_22 : List mO := [(.iadd, 1, (0, 0), []),
  (.ireturn, 1, (0, 0), [])]
def pX1_tells : List (Nat × List mO) := [(0, qX1_tells_0), (9, qX1_tells_9), (14, qX1_tells_14), (22, qX1_tells_22)]
def qX2_init_0 : List mO := [(.aload_n 0, 1, (0, 0), []),
  (.aload_n 1, 1, (0, 0), []),
  (.invokespecial 1, 3, (0, 0), [[1, 74, 2076, 2010, 0]])]
def qX2_init_5 : List mO := [(.return_, 1, (0, 0), [])]
def pX2_init : List (Nat × List mO) := [(0, qX2_init_0), (5, qX2_init_5)]
def qX2_shares_0 : List mO := [(.aload_n 0, 1, (0, 0), []),
  (.getfield 7, 3, (0, 0), [[0, 2022, 2024, 1], [2, 7]]),
  (.bipush 40, 2, (40, 0), []),
  (.invokevirtual 13, 3, (0, 0), [[1, 5052, 0], [8, 66, 5008, 5007]])]
def qX2_shares_9 : List mO := [(.aload_n 0, 1, (0, 0), []),
  (.iload_n 1, 1, (0, 0), []),
  (.iconst 1, 1, (1, 0), []),
  (.iadd, 1, (0, 0), []),
  (.invokespecial 19, 3, (0, 0), [[1, 77, 5053, 5045, 2], [5047, 2080, 0]])]
def qX2_shares_16 : List mO := [(.ireturn, 1, (0, 0), [])]
def pX2_shares : List (Nat × List mO) := [(0, qX2_shares_0), (9, qX2_shares_9), (16, qX2_shares_16)]
def qX3_init_0 : List mO := [(.aload_n 0, 1, (0, 0), []),
  (.aload_n 1, 1, (0, 0), []),
  (.invokespecial 1, 3, (0, 0), [[1, 74, 2046, 2010, 0]])]
def qX3_init_5 : List mO := [(.return_, 1, (0, 0), [])]
def pX3_init : List (Nat × List mO) := [(0, qX3_init_0), (5, qX3_init_5)]
def qX3_cries_0 : List mO := [(.aload_n 0, 1, (0, 0), []),
  (.getfield 7, 3, (0, 0), [[0, 2016, 2018, 1], [3]]),
  (.bipush 20, 2, (20, 0), []),
  (.invokevirtual 13, 3, (0, 0), [[1, 5017, 0], [8, 66, 5008, 5007]])]
def qX3_cries_9 : List mO := [(.aload_n 0, 1, (0, 0), []),
  (.iload_n 1, 1, (0, 0), []),
  (.invokespecial 19, 3, (0, 0), [[1, 75, 5018, 5000, 2], [5002, 2050, 0]])]
def qX3_cries_14 : List mO := [(.iconst 3, 1, (3, 0), []),
  (.imul, 1, (0, 0), []),
  (.ireturn, 1, (0, 0), [])]
def pX3_cries : List (Nat × List mO) := [(0, qX3_cries_0), (9, qX3_cries_9), (14, qX3_cries_14)]
def qX4_init_0 : List mO := [(.aload_n 0, 1, (0, 0), []),
  (.aload_n 1, 1, (0, 0), []),
  (.invokespecial 1, 3, (0, 0), [[1, 74, 2056, 2010, 0]])]
def qX4_init_5 : List mO := [(.return_, 1, (0, 0), [])]
def pX4_init : List (Nat × List mO) := [(0, qX4_init_0), (5, qX4_init_5)]
def qX4_hears_0 : List mO := [(.aload_n 0, 1, (0, 0), []),
  (.getfield 7, 3, (0, 0), [[0, 2018, 2020, 1], [1, 4]]),
  (.bipush 30, 2, (30, 0), []),
  (.invokevirtual 13, 3, (0, 0), [[1, 5030, 0], [8, 66, 5008, 5007]])]
def qX4_hears_9 : List mO := [(.aload_n 0, 1, (0, 0), []),
  (.iload_n 1, 1, (0, 0), []),
  (.invokespecial 19, 3, (0, 0), [[1, 76, 5031, 5024, 2], [5026, 2060, 0]])]
def qX4_hears_14 : List mO := [(.aload_n 0, 1, (0, 0), []),
  (.getfield 23, 3, (0, 0), [[2, 2029, 2031, 0], [1, 4]]),
  (.isub, 1, (0, 0), []),
  (.ireturn, 1, (0, 0), [])]
def pX4_hears : List (Nat × List mO) := [(0, qX4_hears_0), (9, qX4_hears_9), (14, qX4_hears_14)]
def qX5_init_0 : List mO := [(.aload_n 0, 1, (0, 0), []),
  (.invokespecial 5, 3, (0, 0), [[0, 999, 1041, 1028, 1029]]),
  (.aload_n 0, 1, (0, 0), []),
  (.iconst 0, 1, (0, 0), []),
  (.putfield 11, 3, (0, 0), [[0, 1042, 0, 0], [5]]),
  (.aload_n 0, 1, (0, 0), []),
  (.bipush 8, 2, (8, 0), []),
  (.newarray .int, 2, (0, 0), [[1071]]),
  (.putfield 15, 3, (0, 0), [[1, 1045, 0, 1], [5]]),
  (.aload_n 0, 1, (0, 0), []),
  (.bipush 8, 2, (8, 0), []),
  (.newarray .int, 2, (0, 0), [[1071]]),
  (.putfield 19, 3, (0, 0), [[2, 1047, 0, 1], [5]]),
  (.aload_n 0, 1, (0, 0), []),
  (.bipush 8, 2, (8, 0), []),
  (.newarray .int, 2, (0, 0), [[1071]]),
  (.putfield 22, 3, (0, 0), [[3, 1049, 0, 1], [5]]),
  (.aload_n 0, 1, (0, 0), []),
  (.bipush 8, 2, (8, 0), []),
  (.newarray .int, 2, (0, 0), [[1071]]),
  (.putfield 25, 3, (0, 0), [[4, 1051, 0, 1], [5]]),
  (.aload_n 0, 1, (0, 0), []),
  (.iconst 0, 1, (0, 0), []),
  (.putfield 28, 3, (0, 0), [[5, 1053, 0, 0], [5]]),
  (.aload_n 0, 1, (0, 0), []),
  (.sipush 200, 3, (200, 0), []),
  (.newarray .int, 2, (0, 0), [[1071]]),
  (.putfield 31, 3, (0, 0), [[6, 1055, 0, 1], [5]]),
  (.return_, 1, (0, 0), [])]
def pX5_init : List (Nat × List mO) := [(0, qX5_init_0)]
def qX5_clear_0 : List mO := [(.aload_n 0, 1, (0, 0), []),
  (.iconst 0, 1, (0, 0), []),
  (.putfield 11, 3, (0, 0), [[0, 1042, 0, 0], [5]]),
  (.aload_n 0, 1, (0, 0), []),
  (.iconst 0, 1, (0, 0), []),
  (.putfield 28, 3, (0, 0), [[5, 1053, 0, 0], [5]]),
  (.return_, 1, (0, 0), [])]
def pX5_clear : List (Nat × List mO) := [(0, qX5_clear_0)]
def qX5_addStep_0 : List mO := [(.aload_n 0, 1, (0, 0), []),
  (.getfield 28, 3, (0, 0), [[5, 1053, 0, 0], [5]]),
  (.aload_n 0, 1, (0, 0), []),
  (.getfield 31, 3, (0, 0), [[6, 1055, 0, 1], [5]]),
  (.arraylength, 1, (0, 0), []),
  (.if_icmp .ge 20, 3, (0, 0), [[29]]),
  (.aload_n 0, 1, (0, 0), []),
  (.getfield 31, 3, (0, 0), [[6, 1055, 0, 1], [5]]),
  (.aload_n 0, 1, (0, 0), []),
  (.dup, 1, (0, 0), []),
  (.getfield 28, 3, (0, 0), [[5, 1053, 0, 0], [5]]),
  (.dup_x1, 1, (0, 0), []),
  (.iconst 1, 1, (1, 0), []),
  (.iadd, 1, (0, 0), []),
  (.putfield 28, 3, (0, 0), [[5, 1053, 0, 0], [5]]),
  (.iload_n 1, 1, (0, 0), []),
  (.iastore, 1, (0, 0), [])]
def qX5_addStep_29 : List mO := [(.return_, 1, (0, 0), [])]
def pX5_addStep : List (Nat × List mO) := [(0, qX5_addStep_0), (29, qX5_addStep_29)]
def qX5_comparing_0 : List mO := [(.iload_n 0, 1, (0, 0), []),
  (.bipush 28, 2, (28, 0), []),
  (.ishl, 1, (0, 0), []),
  (.iload_n 1, 1, (0, 0), []),
  (.bipush 14, 2, (14, 0), []),
  (.ishl, 1, (0, 0), []),
  (.ior, 1, (0, 0), []),
  (.iload_n 2, 1, (0, 0), []),
  (.ior, 1, (0, 0), []),
  (.ireturn, 1, (0, 0), [])]
def pX5_comparing : List (Nat × List mO) := [(0, qX5_comparing_0)]
def qX5_firstFor_0 : List mO := [(.iconst 0, 1, (0, 0), []),
  (.istore_n 3, 1, (0, 0), [])]
def qX5_firstFor_2 : List mO := [(.iload_n 3, 1, (0, 0), []),
  (.aload_n 0, 1, (0, 0), []),
  (.getfield 11, 3, (0, 0), [[0, 1042, 0, 0], [5]]),
  (.if_icmp .ge 33, 3, (0, 0), [[40]]),
  (.iload_n 1, 1, (0, 0), []),
  (.aload_n 0, 1, (0, 0), []),
  (.getfield 15, 3, (0, 0), [[1, 1045, 0, 1], [5]]),
  (.iload_n 3, 1, (0, 0), []),
  (.iaload, 1, (0, 0), []),
  (.invokestatic 34, 3, (0, 0), [[2, 90, 5, 2173, 1]])]
def qX5_firstFor_20 : List mO := [(.ifCond .eq 14, 3, (0, 0), [[34]]),
  (.aload_n 0, 1, (0, 0), []),
  (.iload_n 3, 1, (0, 0), []),
  (.aload_n 2, 1, (0, 0), []),
  (.invokevirtual 38, 3, (0, 0), [[2, 2175, 0], [5, 30, 0, 2177]])]
def qX5_firstFor_29 : List mO := [(.ifCond .eq 5, 3, (0, 0), [[34]]),
  (.iload_n 3, 1, (0, 0), []),
  (.ireturn, 1, (0, 0), [])]
def qX5_firstFor_34 : List mO := [(.iinc 3 1, 3, (1, 0), []),
  (.goto (-35), 3, (0, 0), [[2]])]
def qX5_firstFor_40 : List mO := [(.iconst (-1), 1, ((-1), 0), []),
  (.ireturn, 1, (0, 0), [])]
def pX5_firstFor : List (Nat × List mO) := [(0, qX5_firstFor_0), (2, qX5_firstFor_2), (20, qX5_firstFor_20), (29, qX5_firstFor_29), (34, qX5_firstFor_34), (40, qX5_firstFor_40)]
def qX5_isMet_0 : List mO := [(.iconst 1, 1, (1, 0), []),
  (.istore_n 3, 1, (0, 0), []),
  (.iload_n 1, 1, (0, 0), []),
  (.ifCond .ne 7, 3, (0, 0), [[10]]),
  (.iconst 0, 1, (0, 0), []),
  (.goto 11, 3, (0, 0), [[18]])]
def qX5_isMet_10 : List mO := [(.aload_n 0, 1, (0, 0), []),
  (.getfield 25, 3, (0, 0), [[4, 1051, 0, 1], [5]]),
  (.iload_n 1, 1, (0, 0), []),
  (.iconst 1, 1, (1, 0), []),
  (.isub, 1, (0, 0), []),
  (.iaload, 1, (0, 0), [])]
def qX5_isMet_18 : List mO := [(.istore 4, 2, (0, 0), [])]
def qX5_isMet_20 : List mO := [(.iload 4, 2, (0, 0), []),
  (.aload_n 0, 1, (0, 0), []),
  (.getfield 25, 3, (0, 0), [[4, 1051, 0, 1], [5]]),
  (.iload_n 1, 1, (0, 0), []),
  (.iaload, 1, (0, 0), []),
  (.if_icmp .ge 108, 3, (0, 0), [[136]]),
  (.iload_n 3, 1, (0, 0), []),
  (.iconst 1, 1, (1, 0), []),
  (.iushr, 1, (0, 0), []),
  (.istore 5, 2, (0, 0), []),
  (.aload_n 0, 1, (0, 0), []),
  (.getfield 31, 3, (0, 0), [[6, 1055, 0, 1], [5]]),
  (.iload 4, 2, (0, 0), []),
  (.iaload, 1, (0, 0), []),
  (.tableswitch 63 1 3 #[25, 35, 56], 25, (0, 0), [[106], [1, 68], [2, 78], [3, 99]])]
def qX5_isMet_68 : List mO := [(.iload 5, 2, (0, 0), []),
  (.iload_n 3, 1, (0, 0), []),
  (.iconst 1, 1, (1, 0), []),
  (.iand, 1, (0, 0), []),
  (.ior, 1, (0, 0), []),
  (.istore_n 3, 1, (0, 0), []),
  (.goto 55, 3, (0, 0), [[130]])]
def qX5_isMet_78 : List mO := [(.iload_n 3, 1, (0, 0), []),
  (.iconst 1, 1, (1, 0), []),
  (.iand, 1, (0, 0), []),
  (.iconst 1, 1, (1, 0), []),
  (.if_icmp .ne 8, 3, (0, 0), [[90]]),
  (.iload 5, 2, (0, 0), []),
  (.goto 8, 3, (0, 0), [[95]])]
def qX5_isMet_90 : List mO := [(.iload 5, 2, (0, 0), []),
  (.bipush (-2), 2, ((-2), 0), []),
  (.iand, 1, (0, 0), [])]
def qX5_isMet_95 : List mO := [(.istore_n 3, 1, (0, 0), []),
  (.goto 34, 3, (0, 0), [[130]])]
def qX5_isMet_99 : List mO := [(.iload_n 3, 1, (0, 0), []),
  (.iconst 1, 1, (1, 0), []),
  (.ixor, 1, (0, 0), []),
  (.istore_n 3, 1, (0, 0), []),
  (.goto 27, 3, (0, 0), [[130]])]
def qX5_isMet_106 : List mO := [(.iload_n 3, 1, (0, 0), []),
  (.iconst 1, 1, (1, 0), []),
  (.ishl, 1, (0, 0), []),
  (.aload_n 0, 1, (0, 0), []),
  (.getfield 31, 3, (0, 0), [[6, 1055, 0, 1], [5]]),
  (.iload 4, 2, (0, 0), []),
  (.iaload, 1, (0, 0), []),
  (.aload_n 2, 1, (0, 0), []),
  (.invokestatic 42, 3, (0, 0), [[2, 31, 2179, 2180, 0]])]
def qX5_isMet_120 : List mO := [(.ifCond .eq 7, 3, (0, 0), [[127]]),
  (.iconst 1, 1, (1, 0), []),
  (.goto 4, 3, (0, 0), [[128]])]
def qX5_isMet_127 : List mO := [(.iconst 0, 1, (0, 0), [])]
def qX5_isMet_128 : List mO := [(.ior, 1, (0, 0), []),
  (.istore_n 3, 1, (0, 0), [])]
def qX5_isMet_130 : List mO := [(.iinc 4 1, 3, (1, 0), []),
  (.goto (-113), 3, (0, 0), [[20]])]
def qX5_isMet_136 : List mO := [(.iload_n 3, 1, (0, 0), []),
  (.iconst 1, 1, (1, 0), []),
  (.iand, 1, (0, 0), []),
  (.iconst 1, 1, (1, 0), []),
  (.if_icmp .ne 7, 3, (0, 0), [[147]]),
  (.iconst 1, 1, (1, 0), []),
  (.goto 4, 3, (0, 0), [[148]])]
def qX5_isMet_147 : List mO := [(.iconst 0, 1, (0, 0), [])]
def qX5_isMet_148 : List mO := [(.ireturn, 1, (0, 0), [[1]])]
def pX5_isMet : List (Nat × List mO) := [(0, qX5_isMet_0), (10, qX5_isMet_10), (18, qX5_isMet_18), (20, qX5_isMet_20), (68, qX5_isMet_68), (78, qX5_isMet_78), (90, qX5_isMet_90), (95, qX5_isMet_95), (99, qX5_isMet_99), (106, qX5_isMet_106), (120, qX5_isMet_120), (127, qX5_isMet_127), (128, qX5_isMet_128), (130, qX5_isMet_130), (136, qX5_isMet_136), (147, qX5_isMet_147), (148, qX5_isMet_148)]
def qX5_isTrue_0 : List mO := [(.iload_n 0, 1, (0, 0), []),
  (.bipush 14, 2, (14, 0), []),
  (.iushr, 1, (0, 0), []),
  (.sipush 16383, 3, (16383, 0), []),
  (.iand, 1, (0, 0), []),
  (.istore_n 2, 1, (0, 0), []),
  (.iload_n 0, 1, (0, 0), []),
  (.sipush 16383, 3, (16383, 0), []),
  (.iand, 1, (0, 0), []),
  (.istore_n 3, 1, (0, 0), []),
  (.iload_n 2, 1, (0, 0), []),
  (.sipush 10000, 3, (10000, 0), []),
  (.if_icmp .lt 21, 3, (0, 0), [[40]]),
  (.iload_n 2, 1, (0, 0), []),
  (.sipush 10000, 3, (10000, 0), []),
  (.isub, 1, (0, 0), []),
  (.aload_n 1, 1, (0, 0), []),
  (.arraylength, 1, (0, 0), []),
  (.if_icmp .ge 11, 3, (0, 0), [[40]]),
  (.aload_n 1, 1, (0, 0), []),
  (.iload_n 2, 1, (0, 0), []),
  (.sipush 10000, 3, (10000, 0), []),
  (.isub, 1, (0, 0), []),
  (.iaload, 1, (0, 0), []),
  (.istore_n 2, 1, (0, 0), [])]
def qX5_isTrue_40 : List mO := [(.iload_n 3, 1, (0, 0), []),
  (.sipush 10000, 3, (10000, 0), []),
  (.if_icmp .lt 21, 3, (0, 0), [[65]]),
  (.iload_n 3, 1, (0, 0), []),
  (.sipush 10000, 3, (10000, 0), []),
  (.isub, 1, (0, 0), []),
  (.aload_n 1, 1, (0, 0), []),
  (.arraylength, 1, (0, 0), []),
  (.if_icmp .ge 11, 3, (0, 0), [[65]]),
  (.aload_n 1, 1, (0, 0), []),
  (.iload_n 3, 1, (0, 0), []),
  (.sipush 10000, 3, (10000, 0), []),
  (.isub, 1, (0, 0), []),
  (.iaload, 1, (0, 0), []),
  (.istore_n 3, 1, (0, 0), [])]
def qX5_isTrue_65 : List mO := [(.iload_n 0, 1, (0, 0), []),
  (.bipush 28, 2, (28, 0), []),
  (.iushr, 1, (0, 0), []),
  (.lookupswitch 49 #[(1, 27), (2, 38)], 27, (0, 0), [[118], [1, 96], [2, 107]])]
def qX5_isTrue_96 : List mO := [(.iload_n 2, 1, (0, 0), []),
  (.iload_n 3, 1, (0, 0), []),
  (.if_icmp .ge 7, 3, (0, 0), [[105]]),
  (.iconst 1, 1, (1, 0), []),
  (.goto 4, 3, (0, 0), [[106]])]
def qX5_isTrue_105 : List mO := [(.iconst 0, 1, (0, 0), [])]
def qX5_isTrue_106 : List mO := [(.ireturn, 1, (0, 0), [[1]])]
def qX5_isTrue_107 : List mO := [(.iload_n 2, 1, (0, 0), []),
  (.iload_n 3, 1, (0, 0), []),
  (.if_icmp .ne 7, 3, (0, 0), [[116]]),
  (.iconst 1, 1, (1, 0), []),
  (.goto 4, 3, (0, 0), [[117]])]
def qX5_isTrue_116 : List mO := [(.iconst 0, 1, (0, 0), [])]
def qX5_isTrue_117 : List mO := [(.ireturn, 1, (0, 0), [[1]])]
def qX5_isTrue_118 : List mO := [(.iload_n 2, 1, (0, 0), []),
  (.iload_n 3, 1, (0, 0), []),
  (.if_icmp .le 7, 3, (0, 0), [[127]]),
  (.iconst 1, 1, (1, 0), []),
  (.goto 4, 3, (0, 0), [[128]])]
def qX5_isTrue_127 : List mO := [(.iconst 0, 1, (0, 0), [])]
def qX5_isTrue_128 : List mO := [(.ireturn, 1, (0, 0), [[1]])]
def pX5_isTrue : List (Nat × List mO) := [(0, qX5_isTrue_0), (40, qX5_isTrue_40), (65, qX5_isTrue_65), (96, qX5_isTrue_96), (105, qX5_isTrue_105), (106, qX5_isTrue_106), (107, qX5_isTrue_107), (116, qX5_isTrue_116), (117, qX5_isTrue_117), (118, qX5_isTrue_118), (127, qX5_isTrue_127), (128, qX5_isTrue_128)]
def qX5_isSilent_0 : List mO := [(.iload_n 1, 1, (0, 0), []),
  (.ifCond .lt 25, 3, (0, 0), [[26]]),
  (.iload_n 1, 1, (0, 0), []),
  (.aload_n 0, 1, (0, 0), []),
  (.getfield 11, 3, (0, 0), [[0, 1042, 0, 0], [5]]),
  (.if_icmp .ge 17, 3, (0, 0), [[26]]),
  (.aload_n 0, 1, (0, 0), []),
  (.getfield 19, 3, (0, 0), [[2, 1047, 0, 1], [5]]),
  (.iload_n 1, 1, (0, 0), []),
  (.iaload, 1, (0, 0), []),
  (.iconst 3, 1, (3, 0), []),
  (.if_icmp .ne 7, 3, (0, 0), [[26]]),
  (.iconst 1, 1, (1, 0), []),
  (.goto 4, 3, (0, 0), [[27]])]
def qX5_isSilent_26 : List mO := [(.iconst 0, 1, (0, 0), [])]
def qX5_isSilent_27 : List mO := [(.ireturn, 1, (0, 0), [[1]])]
def pX5_isSilent : List (Nat × List mO) := [(0, qX5_isSilent_0), (26, qX5_isSilent_26), (27, qX5_isSilent_27)]
def qX5_changed_0 : List mO := [(.iload_n 1, 1, (0, 0), []),
  (.ifCond .lt 11, 3, (0, 0), [[12]]),
  (.iload_n 1, 1, (0, 0), []),
  (.aload_n 0, 1, (0, 0), []),
  (.getfield 11, 3, (0, 0), [[0, 1042, 0, 0], [5]]),
  (.if_icmp .lt 5, 3, (0, 0), [[14]])]
def qX5_changed_12 : List mO := [(.iload_n 2, 1, (0, 0), []),
  (.ireturn, 1, (0, 0), [])]
def qX5_changed_14 : List mO := [(.aload_n 0, 1, (0, 0), []),
  (.getfield 19, 3, (0, 0), [[2, 1047, 0, 1], [5]]),
  (.iload_n 1, 1, (0, 0), []),
  (.iaload, 1, (0, 0), []),
  (.tableswitch 53 0 2 #[28, 35, 44], 28, (0, 0), [[73], [0, 48], [1, 55], [2, 64]])]
def qX5_changed_48 : List mO := [(.aload_n 0, 1, (0, 0), []),
  (.getfield 22, 3, (0, 0), [[3, 1049, 0, 1], [5]]),
  (.iload_n 1, 1, (0, 0), []),
  (.iaload, 1, (0, 0), []),
  (.ireturn, 1, (0, 0), [])]
def qX5_changed_55 : List mO := [(.iload_n 2, 1, (0, 0), []),
  (.aload_n 0, 1, (0, 0), []),
  (.getfield 22, 3, (0, 0), [[3, 1049, 0, 1], [5]]),
  (.iload_n 1, 1, (0, 0), []),
  (.iaload, 1, (0, 0), []),
  (.iadd, 1, (0, 0), []),
  (.ireturn, 1, (0, 0), [])]
def qX5_changed_64 : List mO := [(.aload_n 0, 1, (0, 0), []),
  (.getfield 22, 3, (0, 0), [[3, 1049, 0, 1], [5]]),
  (.iload_n 1, 1, (0, 0), []),
  (.iaload, 1, (0, 0), []),
  (.iload_n 3, 1, (0, 0), []),
  (.imul, 1, (0, 0), []),
  (.ireturn, 1, (0, 0), [])]
def qX5_changed_73 : List mO := [(.iload_n 2, 1, (0, 0), []),
  (.ireturn, 1, (0, 0), [])]
def pX5_changed : List (Nat × List mO) := [(0, qX5_changed_0), (12, qX5_changed_12), (14, qX5_changed_14), (48, qX5_changed_48), (55, qX5_changed_55), (64, qX5_changed_64), (73, qX5_changed_73)]
def qX5_copyFrom_0 : List mO := [(.aload_n 0, 1, (0, 0), []),
  (.aload_n 1, 1, (0, 0), []),
  (.getfield 11, 3, (0, 0), [[0, 1042, 0, 0], [5]]),
  (.putfield 11, 3, (0, 0), [[0, 1042, 0, 0], [5]]),
  (.aload_n 1, 1, (0, 0), []),
  (.getfield 15, 3, (0, 0), [[1, 1045, 0, 1], [5]]),
  (.iconst 0, 1, (0, 0), []),
  (.aload_n 0, 1, (0, 0), []),
  (.getfield 15, 3, (0, 0), [[1, 1045, 0, 1], [5]]),
  (.iconst 0, 1, (0, 0), []),
  (.bipush 8, 2, (8, 0), []),
  (.invokestatic 45, 3, (0, 0), [[5, 998, 3158, 3160, 3159, 1018]]),
  (.aload_n 1, 1, (0, 0), []),
  (.getfield 19, 3, (0, 0), [[2, 1047, 0, 1], [5]]),
  (.iconst 0, 1, (0, 0), []),
  (.aload_n 0, 1, (0, 0), []),
  (.getfield 19, 3, (0, 0), [[2, 1047, 0, 1], [5]]),
  (.iconst 0, 1, (0, 0), []),
  (.bipush 8, 2, (8, 0), []),
  (.invokestatic 45, 3, (0, 0), [[5, 998, 3158, 3160, 3159, 1018]]),
  (.aload_n 1, 1, (0, 0), []),
  (.getfield 22, 3, (0, 0), [[3, 1049, 0, 1], [5]]),
  (.iconst 0, 1, (0, 0), []),
  (.aload_n 0, 1, (0, 0), []),
  (.getfield 22, 3, (0, 0), [[3, 1049, 0, 1], [5]]),
  (.iconst 0, 1, (0, 0), []),
  (.bipush 8, 2, (8, 0), []),
  (.invokestatic 45, 3, (0, 0), [[5, 998, 3158, 3160, 3159, 1018]]),
  (.aload_n 1, 1, (0, 0), []),
  (.getfield 25, 3, (0, 0), [[4, 1051, 0, 1], [5]]),
  (.iconst 0, 1, (0, 0), []),
  (.aload_n 0, 1, (0, 0), []),
  (.getfield 25, 3, (0, 0), [[4, 1051, 0, 1], [5]]),
  (.iconst 0, 1, (0, 0), []),
  (.bipush 8, 2, (8, 0), []),
  (.invokestatic 45, 3, (0, 0), [[5, 998, 3158, 3160, 3159, 1018]]),
  (.aload_n 0, 1, (0, 0), []),
  (.aload_n 1, 1, (0, 0), []),
  (.getfield 28, 3, (0, 0), [[5, 1053, 0, 0], [5]]),
  (.putfield 28, 3, (0, 0), [[5, 1053, 0, 0], [5]]),
  (.aload_n 1, 1, (0, 0), []),
  (.getfield 31, 3, (0, 0), [[6, 1055, 0, 1], [5]]),
  (.iconst 0, 1, (0, 0), []),
  (.aload_n 0, 1, (0, 0), []),
  (.getfield 31, 3, (0, 0), [[6, 1055, 0, 1], [5]]),
  (.iconst 0, 1, (0, 0), []),
  (.sipush 200, 3, (200, 0), []),
  (.invokestatic 45, 3, (0, 0), [[5, 998, 3158, 3160, 3159, 1018]]),
  (.return_, 1, (0, 0), [])]
def pX5_copyFrom : List (Nat × List mO) := [(0, qX5_copyFrom_0)]
def qX6_init_0 : List mO := [(.aload_n 0, 1, (0, 0), []),
  (.invokespecial 3, 3, (0, 0), [[0, 999, 1142, 1028, 1029]]),
  (.aload_n 0, 1, (0, 0), []),
  (.iconst 0, 1, (0, 0), []),
  (.putfield 9, 3, (0, 0), [[0, 1145, 0, 0], [6]]),
  (.aload_n 0, 1, (0, 0), []),
  (.sipush 200, 3, (200, 0), []),
  (.newarray .byte, 2, (0, 0), [[1188]]),
  (.putfield 15, 3, (0, 0), [[1, 1147, 0, 1], [6]]),
  (.aload_n 0, 1, (0, 0), []),
  (.new 19, 3, (0, 0), [[5, 7, 1143, 1037, 1003]]),
  (.dup, 1, (0, 0), []),
  (.invokespecial 21, 3, (0, 0), [[0, 25, 3, 1039, 1]])]
def qX6_init_26 : List mO := [(.putfield 22, 3, (0, 0), [[2, 1149, 0, 1], [6]]),
  (.aload_n 0, 1, (0, 0), []),
  (.iconst 4, 1, (4, 0), []),
  (.putfield 26, 3, (0, 0), [[3, 1151, 0, 0], [6]]),
  (.aload_n 0, 1, (0, 0), []),
  (.iconst 0, 1, (0, 0), []),
  (.putfield 29, 3, (0, 0), [[4, 1152, 0, 0], [6]]),
  (.aload_n 0, 1, (0, 0), []),
  (.iconst 0, 1, (0, 0), []),
  (.putfield 32, 3, (0, 0), [[5, 1153, 0, 0], [6]]),
  (.aload_n 0, 1, (0, 0), []),
  (.iconst 0, 1, (0, 0), []),
  (.putfield 35, 3, (0, 0), [[6, 1154, 0, 0], [6]]),
  (.aload_n 0, 1, (0, 0), []),
  (.iconst 0, 1, (0, 0), []),
  (.putfield 38, 3, (0, 0), [[7, 1155, 0, 0], [6]]),
  (.aload_n 0, 1, (0, 0), []),
  (.iconst 0, 1, (0, 0), []),
  (.putfield 41, 3, (0, 0), [[8, 1156, 0, 0], [6]]),
  (.aload_n 0, 1, (0, 0), []),
  (.iconst 0, 1, (0, 0), []),
  (.putfield 44, 3, (0, 0), [[9, 1157, 0, 0], [6]]),
  (.aload_n 0, 1, (0, 0), []),
  (.iconst 0, 1, (0, 0), []),
  (.putfield 47, 3, (0, 0), [[10, 1158, 0, 0], [6]]),
  (.aload_n 0, 1, (0, 0), []),
  (.sipush 200, 3, (200, 0), []),
  (.newarray .int, 2, (0, 0), [[1071]]),
  (.putfield 50, 3, (0, 0), [[11, 1159, 0, 1], [6]]),
  (.aload_n 0, 1, (0, 0), []),
  (.iconst 0, 1, (0, 0), []),
  (.putfield 54, 3, (0, 0), [[12, 1160, 0, 0], [6]]),
  (.return_, 1, (0, 0), [])]
def pX6_init : List (Nat × List mO) := [(0, qX6_init_0), (26, qX6_init_26)]
def qX6_readTape_0 : List mO := [(.aload_n 0, 1, (0, 0), []),
  (.getfield 22, 3, (0, 0), [[2, 1149, 0, 1], [6]]),
  (.invokevirtual 57, 3, (0, 0), [[0, 2233, 0], [5, 26, 2235, 2234]])]
def qX6_readTape_7 : List mO := [(.aload_n 0, 1, (0, 0), []),
  (.iconst 0, 1, (0, 0), []),
  (.putfield 32, 3, (0, 0), [[5, 1153, 0, 0], [6]]),
  (.aload_n 0, 1, (0, 0), []),
  (.iconst 0, 1, (0, 0), []),
  (.putfield 38, 3, (0, 0), [[7, 1155, 0, 0], [6]]),
  (.aload_n 0, 1, (0, 0), []),
  (.iconst 0, 1, (0, 0), []),
  (.putfield 47, 3, (0, 0), [[10, 1158, 0, 0], [6]]),
  (.aload_n 0, 1, (0, 0), []),
  (.iconst 0, 1, (0, 0), []),
  (.putfield 54, 3, (0, 0), [[12, 1160, 0, 0], [6]]),
  (.iconst 0, 1, (0, 0), []),
  (.istore_n 1, 1, (0, 0), [])]
def qX6_readTape_29 : List mO := [(.iload_n 1, 1, (0, 0), []),
  (.aload_n 0, 1, (0, 0), []),
  (.getfield 9, 3, (0, 0), [[0, 1145, 0, 0], [6]]),
  (.if_icmp .gt 49, 3, (0, 0), [[83]]),
  (.aload_n 0, 1, (0, 0), []),
  (.invokevirtual 60, 3, (0, 0), [[0, 2237, 0], [6, 37, 1, 2239]])]
def qX6_readTape_41 : List mO := [(.aload_n 0, 1, (0, 0), []),
  (.getfield 26, 3, (0, 0), [[3, 1151, 0, 0], [6]]),
  (.iconst 4, 1, (4, 0), []),
  (.if_icmp .ne 19, 3, (0, 0), [[65]]),
  (.aload_n 0, 1, (0, 0), []),
  (.getfield 38, 3, (0, 0), [[7, 1155, 0, 0], [6]]),
  (.ifCond .ne 7, 3, (0, 0), [[60]]),
  (.iconst (-1), 1, ((-1), 0), []),
  (.goto 7, 3, (0, 0), [[64]])]
def qX6_readTape_60 : List mO := [(.aload_n 0, 1, (0, 0), []),
  (.getfield 9, 3, (0, 0), [[0, 1145, 0, 0], [6]])]
def qX6_readTape_64 : List mO := [(.ireturn, 1, (0, 0), [])]
def qX6_readTape_65 : List mO := [(.aload_n 0, 1, (0, 0), []),
  (.invokevirtual 63, 3, (0, 0), [[0, 3013, 0], [6, 41, 5, 3015]])]
def qX6_readTape_69 : List mO := [(.ifCond .ne 8, 3, (0, 0), [[77]]),
  (.aload_n 0, 1, (0, 0), []),
  (.getfield 29, 3, (0, 0), [[4, 1152, 0, 0], [6]]),
  (.ireturn, 1, (0, 0), [])]
def qX6_readTape_77 : List mO := [(.iinc 1 1, 3, (1, 0), []),
  (.goto (-51), 3, (0, 0), [[29]])]
def qX6_readTape_83 : List mO := [(.aload_n 0, 1, (0, 0), []),
  (.getfield 9, 3, (0, 0), [[0, 1145, 0, 0], [6]]),
  (.ireturn, 1, (0, 0), [])]
def pX6_readTape : List (Nat × List mO) := [(0, qX6_readTape_0), (7, qX6_readTape_7), (29, qX6_readTape_29), (41, qX6_readTape_41), (60, qX6_readTape_60), (64, qX6_readTape_64), (65, qX6_readTape_65), (69, qX6_readTape_69), (77, qX6_readTape_77), (83, qX6_readTape_83)]
def qX6_readToken_0 : List mO := [(.aload_n 0, 1, (0, 0), []),
  (.getfield 32, 3, (0, 0), [[5, 1153, 0, 0], [6]]),
  (.aload_n 0, 1, (0, 0), []),
  (.getfield 9, 3, (0, 0), [[0, 1145, 0, 0], [6]]),
  (.if_icmp .ge 30, 3, (0, 0), [[38]]),
  (.aload_n 0, 1, (0, 0), []),
  (.getfield 15, 3, (0, 0), [[1, 1147, 0, 1], [6]]),
  (.aload_n 0, 1, (0, 0), []),
  (.getfield 32, 3, (0, 0), [[5, 1153, 0, 0], [6]]),
  (.baload, 1, (0, 0), []),
  (.bipush 32, 2, (32, 0), []),
  (.if_icmp .ne 16, 3, (0, 0), [[38]]),
  (.aload_n 0, 1, (0, 0), []),
  (.dup, 1, (0, 0), []),
  (.getfield 32, 3, (0, 0), [[5, 1153, 0, 0], [6]]),
  (.iconst 1, 1, (1, 0), []),
  (.iadd, 1, (0, 0), []),
  (.putfield 32, 3, (0, 0), [[5, 1153, 0, 0], [6]]),
  (.goto (-35), 3, (0, 0), [[0]])]
def qX6_readToken_38 : List mO := [(.aload_n 0, 1, (0, 0), []),
  (.aload_n 0, 1, (0, 0), []),
  (.getfield 32, 3, (0, 0), [[5, 1153, 0, 0], [6]]),
  (.putfield 29, 3, (0, 0), [[4, 1152, 0, 0], [6]]),
  (.aload_n 0, 1, (0, 0), []),
  (.getfield 32, 3, (0, 0), [[5, 1153, 0, 0], [6]]),
  (.aload_n 0, 1, (0, 0), []),
  (.getfield 9, 3, (0, 0), [[0, 1145, 0, 0], [6]]),
  (.if_icmp .lt 11, 3, (0, 0), [[65]]),
  (.aload_n 0, 1, (0, 0), []),
  (.iconst 4, 1, (4, 0), []),
  (.putfield 26, 3, (0, 0), [[3, 1151, 0, 0], [6]]),
  (.goto 100, 3, (0, 0), [[162]])]
def qX6_readToken_65 : List mO := [(.aload_n 0, 1, (0, 0), []),
  (.aload_n 0, 1, (0, 0), []),
  (.getfield 32, 3, (0, 0), [[5, 1153, 0, 0], [6]]),
  (.invokevirtual 67, 3, (0, 0), [[1, 3001, 0], [6, 39, 2, 3003]])]
def qX6_readToken_73 : List mO := [(.ifCond .eq 43, 3, (0, 0), [[116]]),
  (.aload_n 0, 1, (0, 0), []),
  (.iconst 0, 1, (0, 0), []),
  (.putfield 26, 3, (0, 0), [[3, 1151, 0, 0], [6]])]
def qX6_readToken_81 : List mO := [(.aload_n 0, 1, (0, 0), []),
  (.getfield 32, 3, (0, 0), [[5, 1153, 0, 0], [6]]),
  (.aload_n 0, 1, (0, 0), []),
  (.getfield 9, 3, (0, 0), [[0, 1145, 0, 0], [6]]),
  (.if_icmp .ge 73, 3, (0, 0), [[162]]),
  (.aload_n 0, 1, (0, 0), []),
  (.aload_n 0, 1, (0, 0), []),
  (.getfield 32, 3, (0, 0), [[5, 1153, 0, 0], [6]]),
  (.invokevirtual 67, 3, (0, 0), [[1, 3001, 0], [6, 39, 2, 3003]])]
def qX6_readToken_100 : List mO := [(.ifCond .eq 62, 3, (0, 0), [[162]]),
  (.aload_n 0, 1, (0, 0), []),
  (.dup, 1, (0, 0), []),
  (.getfield 32, 3, (0, 0), [[5, 1153, 0, 0], [6]]),
  (.iconst 1, 1, (1, 0), []),
  (.iadd, 1, (0, 0), []),
  (.putfield 32, 3, (0, 0), [[5, 1153, 0, 0], [6]]),
  (.goto (-32), 3, (0, 0), [[81]])]
def qX6_readToken_116 : List mO := [(.aload_n 0, 1, (0, 0), []),
  (.aload_n 0, 1, (0, 0), []),
  (.getfield 32, 3, (0, 0), [[5, 1153, 0, 0], [6]]),
  (.invokevirtual 71, 3, (0, 0), [[1, 3005, 0], [6, 40, 3, 3007]])]
def qX6_readToken_124 : List mO := [(.ifCond .eq 10, 3, (0, 0), [[134]]),
  (.aload_n 0, 1, (0, 0), []),
  (.invokevirtual 74, 3, (0, 0), [[0, 3009, 0], [6, 38, 4, 3011]])]
def qX6_readToken_131 : List mO := [(.goto 31, 3, (0, 0), [[162]])]
def qX6_readToken_134 : List mO := [(.aload_n 0, 1, (0, 0), []),
  (.iconst 2, 1, (2, 0), []),
  (.putfield 26, 3, (0, 0), [[3, 1151, 0, 0], [6]]),
  (.aload_n 0, 1, (0, 0), []),
  (.aload_n 0, 1, (0, 0), []),
  (.getfield 15, 3, (0, 0), [[1, 1147, 0, 1], [6]]),
  (.aload_n 0, 1, (0, 0), []),
  (.getfield 32, 3, (0, 0), [[5, 1153, 0, 0], [6]]),
  (.baload, 1, (0, 0), []),
  (.putfield 35, 3, (0, 0), [[6, 1154, 0, 0], [6]]),
  (.aload_n 0, 1, (0, 0), []),
  (.dup, 1, (0, 0), []),
  (.getfield 32, 3, (0, 0), [[5, 1153, 0, 0], [6]]),
  (.iconst 1, 1, (1, 0), []),
  (.iadd, 1, (0, 0), []),
  (.putfield 32, 3, (0, 0), [[5, 1153, 0, 0], [6]])]
def qX6_readToken_162 : List mO := [(.return_, 1, (0, 0), [])]
def pX6_readToken : List (Nat × List mO) := [(0, qX6_readToken_0), (38, qX6_readToken_38), (65, qX6_readToken_65), (73, qX6_readToken_73), (81, qX6_readToken_81), (100, qX6_readToken_100), (116, qX6_readToken_116), (124, qX6_readToken_124), (131, qX6_readToken_131), (134, qX6_readToken_134), (162, qX6_readToken_162)]
def qX6_readNumber_0 : List mO := [(.aload_n 0, 1, (0, 0), []),
  (.iconst 0, 1, (0, 0), []),
  (.putfield 35, 3, (0, 0), [[6, 1154, 0, 0], [6]])]
def qX6_readNumber_5 : List mO := [(.aload_n 0, 1, (0, 0), []),
  (.getfield 32, 3, (0, 0), [[5, 1153, 0, 0], [6]]),
  (.aload_n 0, 1, (0, 0), []),
  (.getfield 9, 3, (0, 0), [[0, 1145, 0, 0], [6]]),
  (.if_icmp .ge 64, 3, (0, 0), [[77]]),
  (.aload_n 0, 1, (0, 0), []),
  (.aload_n 0, 1, (0, 0), []),
  (.getfield 32, 3, (0, 0), [[5, 1153, 0, 0], [6]]),
  (.invokevirtual 71, 3, (0, 0), [[1, 3005, 0], [6, 40, 3, 3007]])]
def qX6_readNumber_24 : List mO := [(.ifCond .eq 53, 3, (0, 0), [[77]]),
  (.aload_n 0, 1, (0, 0), []),
  (.getfield 32, 3, (0, 0), [[5, 1153, 0, 0], [6]]),
  (.aload_n 0, 1, (0, 0), []),
  (.getfield 29, 3, (0, 0), [[4, 1152, 0, 0], [6]]),
  (.isub, 1, (0, 0), []),
  (.iconst 4, 1, (4, 0), []),
  (.if_icmp .ge 27, 3, (0, 0), [[64]]),
  (.aload_n 0, 1, (0, 0), []),
  (.aload_n 0, 1, (0, 0), []),
  (.getfield 35, 3, (0, 0), [[6, 1154, 0, 0], [6]]),
  (.bipush 10, 2, (10, 0), []),
  (.imul, 1, (0, 0), []),
  (.aload_n 0, 1, (0, 0), []),
  (.getfield 15, 3, (0, 0), [[1, 1147, 0, 1], [6]]),
  (.aload_n 0, 1, (0, 0), []),
  (.getfield 32, 3, (0, 0), [[5, 1153, 0, 0], [6]]),
  (.baload, 1, (0, 0), []),
  (.iadd, 1, (0, 0), []),
  (.bipush 48, 2, (48, 0), []),
  (.isub, 1, (0, 0), []),
  (.putfield 35, 3, (0, 0), [[6, 1154, 0, 0], [6]])]
def qX6_readNumber_64 : List mO := [(.aload_n 0, 1, (0, 0), []),
  (.dup, 1, (0, 0), []),
  (.getfield 32, 3, (0, 0), [[5, 1153, 0, 0], [6]]),
  (.iconst 1, 1, (1, 0), []),
  (.iadd, 1, (0, 0), []),
  (.putfield 32, 3, (0, 0), [[5, 1153, 0, 0], [6]]),
  (.goto (-69), 3, (0, 0), [[5]])]
def qX6_readNumber_77 : List mO := [(.aload_n 0, 1, (0, 0), []),
  (.aload_n 0, 1, (0, 0), []),
  (.getfield 32, 3, (0, 0), [[5, 1153, 0, 0], [6]]),
  (.aload_n 0, 1, (0, 0), []),
  (.getfield 29, 3, (0, 0), [[4, 1152, 0, 0], [6]]),
  (.isub, 1, (0, 0), []),
  (.iconst 4, 1, (4, 0), []),
  (.if_icmp .le 7, 3, (0, 0), [[95]]),
  (.iconst 3, 1, (3, 0), []),
  (.goto 4, 3, (0, 0), [[96]])]
def qX6_readNumber_95 : List mO := [(.iconst 1, 1, (1, 0), [])]
def qX6_readNumber_96 : List mO := [(.putfield 26, 3, (0, 0), [[3, 1151, 0, 0], [6]]),
  (.return_, 1, (0, 0), [])]
def pX6_readNumber : List (Nat × List mO) := [(0, qX6_readNumber_0), (5, qX6_readNumber_5), (24, qX6_readNumber_24), (64, qX6_readNumber_64), (77, qX6_readNumber_77), (95, qX6_readNumber_95), (96, qX6_readNumber_96)]
def qX6_isLetter_0 : List mO := [(.aload_n 0, 1, (0, 0), []),
  (.getfield 15, 3, (0, 0), [[1, 1147, 0, 1], [6]]),
  (.iload_n 1, 1, (0, 0), []),
  (.baload, 1, (0, 0), []),
  (.bipush 97, 2, (97, 0), []),
  (.if_icmp .lt 18, 3, (0, 0), [[26]]),
  (.aload_n 0, 1, (0, 0), []),
  (.getfield 15, 3, (0, 0), [[1, 1147, 0, 1], [6]]),
  (.iload_n 1, 1, (0, 0), []),
  (.baload, 1, (0, 0), []),
  (.bipush 122, 2, (122, 0), []),
  (.if_icmp .gt 7, 3, (0, 0), [[26]]),
  (.iconst 1, 1, (1, 0), []),
  (.goto 4, 3, (0, 0), [[27]])]
def qX6_isLetter_26 : List mO := [(.iconst 0, 1, (0, 0), [])]
def qX6_isLetter_27 : List mO := [(.ireturn, 1, (0, 0), [[1]])]
def pX6_isLetter : List (Nat × List mO) := [(0, qX6_isLetter_0), (26, qX6_isLetter_26), (27, qX6_isLetter_27)]
def qX6_isDigit_0 : List mO := [(.aload_n 0, 1, (0, 0), []),
  (.getfield 15, 3, (0, 0), [[1, 1147, 0, 1], [6]]),
  (.iload_n 1, 1, (0, 0), []),
  (.baload, 1, (0, 0), []),
  (.bipush 48, 2, (48, 0), []),
  (.if_icmp .lt 18, 3, (0, 0), [[26]]),
  (.aload_n 0, 1, (0, 0), []),
  (.getfield 15, 3, (0, 0), [[1, 1147, 0, 1], [6]]),
  (.iload_n 1, 1, (0, 0), []),
  (.baload, 1, (0, 0), []),
  (.bipush 57, 2, (57, 0), []),
  (.if_icmp .gt 7, 3, (0, 0), [[26]]),
  (.iconst 1, 1, (1, 0), []),
  (.goto 4, 3, (0, 0), [[27]])]
def qX6_isDigit_26 : List mO := [(.iconst 0, 1, (0, 0), [])]
def qX6_isDigit_27 : List mO := [(.ireturn, 1, (0, 0), [[1]])]
def pX6_isDigit : List (Nat × List mO) := [(0, qX6_isDigit_0), (26, qX6_isDigit_26), (27, qX6_isDigit_27)]
def qX6_takesToken_0 : List mO := [(.aload_n 0, 1, (0, 0), []),
  (.getfield 38, 3, (0, 0), [[7, 1155, 0, 0], [6]]),
  (.tableswitch 138 0 6 #[44, 49, 69, 96, 101, 106, 133], 44, (0, 0), [[142], [0, 48], [1, 53], [2, 73], [3, 100], [4, 105], [5, 110], [6, 137]])]
def qX6_takesToken_48 : List mO := [(.aload_n 0, 1, (0, 0), []),
  (.invokevirtual 77, 3, (0, 0), [[0, 3017, 0], [6, 42, 6, 3019]])]
def qX6_takesToken_52 : List mO := [(.ireturn, 1, (0, 0), [[1]])]
def qX6_takesToken_53 : List mO := [(.aload_n 0, 1, (0, 0), []),
  (.invokevirtual 80, 3, (0, 0), [[0, 3078, 0], [6, 43, 9, 3080]])]
def qX6_takesToken_57 : List mO := [(.ifCond .ne 10, 3, (0, 0), [[67]]),
  (.aload_n 0, 1, (0, 0), []),
  (.invokevirtual 83, 3, (0, 0), [[0, 3087, 0], [6, 44, 11, 3089]])]
def qX6_takesToken_64 : List mO := [(.ifCond .eq 7, 3, (0, 0), [[71]])]
def qX6_takesToken_67 : List mO := [(.iconst 1, 1, (1, 0), []),
  (.goto 4, 3, (0, 0), [[72]])]
def qX6_takesToken_71 : List mO := [(.iconst 0, 1, (0, 0), [])]
def qX6_takesToken_72 : List mO := [(.ireturn, 1, (0, 0), [[1]])]
def qX6_takesToken_73 : List mO := [(.aload_n 0, 1, (0, 0), []),
  (.invokevirtual 86, 3, (0, 0), [[0, 3100, 0], [6, 45, 13, 3102]])]
def qX6_takesToken_77 : List mO := [(.ifCond .ne 17, 3, (0, 0), [[94]]),
  (.aload_n 0, 1, (0, 0), []),
  (.invokevirtual 89, 3, (0, 0), [[0, 3109, 0], [6, 46, 15, 3111]])]
def qX6_takesToken_84 : List mO := [(.ifCond .ne 10, 3, (0, 0), [[94]]),
  (.aload_n 0, 1, (0, 0), []),
  (.invokevirtual 92, 3, (0, 0), [[0, 3117, 0], [6, 47, 17, 3119]])]
def qX6_takesToken_91 : List mO := [(.ifCond .eq 7, 3, (0, 0), [[98]])]
def qX6_takesToken_94 : List mO := [(.iconst 1, 1, (1, 0), []),
  (.goto 4, 3, (0, 0), [[99]])]
def qX6_takesToken_98 : List mO := [(.iconst 0, 1, (0, 0), [])]
def qX6_takesToken_99 : List mO := [(.ireturn, 1, (0, 0), [[1]])]
def qX6_takesToken_100 : List mO := [(.aload_n 0, 1, (0, 0), []),
  (.invokevirtual 95, 3, (0, 0), [[0, 3126, 0], [6, 48, 19, 3128]])]
def qX6_takesToken_104 : List mO := [(.ireturn, 1, (0, 0), [[1]])]
def qX6_takesToken_105 : List mO := [(.aload_n 0, 1, (0, 0), []),
  (.invokevirtual 98, 3, (0, 0), [[0, 3130, 0], [6, 49, 20, 3132]])]
def qX6_takesToken_109 : List mO := [(.ireturn, 1, (0, 0), [[1]])]
def qX6_takesToken_110 : List mO := [(.aload_n 0, 1, (0, 0), []),
  (.invokevirtual 101, 3, (0, 0), [[0, 3137, 0], [6, 50, 21, 3139]])]
def qX6_takesToken_114 : List mO := [(.ifCond .ne 17, 3, (0, 0), [[131]]),
  (.aload_n 0, 1, (0, 0), []),
  (.invokevirtual 104, 3, (0, 0), [[0, 3142, 0], [6, 51, 22, 3144]])]
def qX6_takesToken_121 : List mO := [(.ifCond .ne 10, 3, (0, 0), [[131]]),
  (.aload_n 0, 1, (0, 0), []),
  (.invokevirtual 83, 3, (0, 0), [[0, 3087, 0], [6, 44, 11, 3089]])]
def qX6_takesToken_128 : List mO := [(.ifCond .eq 7, 3, (0, 0), [[135]])]
def qX6_takesToken_131 : List mO := [(.iconst 1, 1, (1, 0), []),
  (.goto 4, 3, (0, 0), [[136]])]
def qX6_takesToken_135 : List mO := [(.iconst 0, 1, (0, 0), [])]
def qX6_takesToken_136 : List mO := [(.ireturn, 1, (0, 0), [[1]])]
def qX6_takesToken_137 : List mO := [(.aload_n 0, 1, (0, 0), []),
  (.invokevirtual 107, 3, (0, 0), [[0, 3146, 0], [6, 52, 23, 3148]])]
def qX6_takesToken_141 : List mO := [(.ireturn, 1, (0, 0), [[1]])]
def qX6_takesToken_142 : List mO := [(.aload_n 0, 1, (0, 0), []),
  (.invokevirtual 110, 3, (0, 0), [[0, 3150, 0], [6, 53, 24, 3152]])]
def qX6_takesToken_146 : List mO := [(.ireturn, 1, (0, 0), [[1]])]
def pX6_takesToken : List (Nat × List mO) := [(0, qX6_takesToken_0), (48, qX6_takesToken_48), (52, qX6_takesToken_52), (53, qX6_takesToken_53), (57, qX6_takesToken_57), (64, qX6_takesToken_64), (67, qX6_takesToken_67), (71, qX6_takesToken_71), (72, qX6_takesToken_72), (73, qX6_takesToken_73), (77, qX6_takesToken_77), (84, qX6_takesToken_84), (91, qX6_takesToken_91), (94, qX6_takesToken_94), (98, qX6_takesToken_98), (99, qX6_takesToken_99), (100, qX6_takesToken_100), (104, qX6_takesToken_104), (105, qX6_takesToken_105), (109, qX6_takesToken_109), (110, qX6_takesToken_110), (114, qX6_takesToken_114), (121, qX6_takesToken_121), (128, qX6_takesToken_128), (131, qX6_takesToken_131), (135, qX6_takesToken_135), (136, qX6_takesToken_136), (137, qX6_takesToken_137), (141, qX6_takesToken_141), (142, qX6_takesToken_142), (146, qX6_takesToken_146)]
def qX6_takesKind_0 : List mO := [(.aload_n 0, 1, (0, 0), []),
  (.ldc 113, 2, (0, 0), [[1, 0]]),
  (.invokevirtual 115, 3, (0, 0), [[1, 3022, 0], [6, 59, 7, 3024]])]
def qX6_takesKind_6 : List mO := [(.istore_n 1, 1, (0, 0), []),
  (.iload_n 1, 1, (0, 0), []),
  (.ifCond .lt 15, 3, (0, 0), [[23]]),
  (.aload_n 0, 1, (0, 0), []),
  (.getfield 22, 3, (0, 0), [[2, 1149, 0, 1], [6]]),
  (.getfield 119, 3, (0, 0), [[0, 1043, 0, 0], [5]]),
  (.bipush 8, 2, (8, 0), []),
  (.if_icmp .lt 5, 3, (0, 0), [[25]])]
def qX6_takesKind_23 : List mO := [(.iconst 0, 1, (0, 0), []),
  (.ireturn, 1, (0, 0), [[1]])]
def qX6_takesKind_25 : List mO := [(.aload_n 0, 1, (0, 0), []),
  (.getfield 22, 3, (0, 0), [[2, 1149, 0, 1], [6]]),
  (.getfield 122, 3, (0, 0), [[1, 1046, 0, 1], [5]]),
  (.aload_n 0, 1, (0, 0), []),
  (.getfield 22, 3, (0, 0), [[2, 1149, 0, 1], [6]]),
  (.getfield 119, 3, (0, 0), [[0, 1043, 0, 0], [5]]),
  (.iload_n 1, 1, (0, 0), []),
  (.iastore, 1, (0, 0), []),
  (.aload_n 0, 1, (0, 0), []),
  (.getfield 22, 3, (0, 0), [[2, 1149, 0, 1], [6]]),
  (.getfield 125, 3, (0, 0), [[3, 1050, 0, 1], [5]]),
  (.aload_n 0, 1, (0, 0), []),
  (.getfield 22, 3, (0, 0), [[2, 1149, 0, 1], [6]]),
  (.getfield 119, 3, (0, 0), [[0, 1043, 0, 0], [5]]),
  (.iconst 0, 1, (0, 0), []),
  (.iastore, 1, (0, 0), []),
  (.aload_n 0, 1, (0, 0), []),
  (.iconst 1, 1, (1, 0), []),
  (.putfield 38, 3, (0, 0), [[7, 1155, 0, 0], [6]]),
  (.iconst 1, 1, (1, 0), []),
  (.ireturn, 1, (0, 0), [[1]])]
def pX6_takesKind : List (Nat × List mO) := [(0, qX6_takesKind_0), (6, qX6_takesKind_6), (23, qX6_takesKind_23), (25, qX6_takesKind_25)]
def qX6_takesIf_0 : List mO := [(.aload_n 0, 1, (0, 0), []),
  (.iconst 2, 1, (2, 0), []),
  (.aload_n 0, 1, (0, 0), []),
  (.ldc 128, 2, (0, 0), [[1, 1]]),
  (.invokevirtual 115, 3, (0, 0), [[1, 3022, 0], [6, 59, 7, 3024]])]
def qX6_takesIf_8 : List mO := [(.ifCond .ne 7, 3, (0, 0), [[15]]),
  (.iconst 1, 1, (1, 0), []),
  (.goto 4, 3, (0, 0), [[16]])]
def qX6_takesIf_15 : List mO := [(.iconst 0, 1, (0, 0), [])]
def qX6_takesIf_16 : List mO := [(.invokevirtual 130, 3, (0, 0), [[2, 3083, 0], [6, 54, 10, 3085]])]
def qX6_takesIf_19 : List mO := [(.ireturn, 1, (0, 0), [[1]])]
def pX6_takesIf : List (Nat × List mO) := [(0, qX6_takesIf_0), (8, qX6_takesIf_8), (15, qX6_takesIf_15), (16, qX6_takesIf_16), (19, qX6_takesIf_19)]
def qX6_takesDeed_0 : List mO := [(.aload_n 0, 1, (0, 0), []),
  (.ldc 134, 2, (0, 0), [[1, 2]]),
  (.invokevirtual 115, 3, (0, 0), [[1, 3022, 0], [6, 59, 7, 3024]])]
def qX6_takesDeed_6 : List mO := [(.istore_n 1, 1, (0, 0), []),
  (.iload_n 1, 1, (0, 0), []),
  (.ifCond .lt 22, 3, (0, 0), [[30]]),
  (.aload_n 0, 1, (0, 0), []),
  (.getfield 47, 3, (0, 0), [[10, 1158, 0, 0], [6]]),
  (.ifCond .gt 15, 3, (0, 0), [[30]]),
  (.aload_n 0, 1, (0, 0), []),
  (.getfield 22, 3, (0, 0), [[2, 1149, 0, 1], [6]]),
  (.getfield 119, 3, (0, 0), [[0, 1043, 0, 0], [5]]),
  (.bipush 8, 2, (8, 0), []),
  (.if_icmp .lt 5, 3, (0, 0), [[32]])]
def qX6_takesDeed_30 : List mO := [(.iconst 0, 1, (0, 0), []),
  (.ireturn, 1, (0, 0), [[1]])]
def qX6_takesDeed_32 : List mO := [(.aload_n 0, 1, (0, 0), []),
  (.iconst 1, 1, (1, 0), []),
  (.invokevirtual 136, 3, (0, 0), [[1, 3092, 0], [6, 58, 12, 3094]])]
def qX6_takesDeed_37 : List mO := [(.aload_n 0, 1, (0, 0), []),
  (.getfield 22, 3, (0, 0), [[2, 1149, 0, 1], [6]]),
  (.getfield 140, 3, (0, 0), [[2, 1048, 0, 1], [5]]),
  (.aload_n 0, 1, (0, 0), []),
  (.getfield 22, 3, (0, 0), [[2, 1149, 0, 1], [6]]),
  (.getfield 119, 3, (0, 0), [[0, 1043, 0, 0], [5]]),
  (.iload_n 1, 1, (0, 0), []),
  (.iastore, 1, (0, 0), []),
  (.aload_n 0, 1, (0, 0), []),
  (.iload_n 1, 1, (0, 0), []),
  (.iconst 3, 1, (3, 0), []),
  (.if_icmp .ne 8, 3, (0, 0), [[64]]),
  (.bipush 7, 2, (7, 0), []),
  (.goto 5, 3, (0, 0), [[66]])]
def qX6_takesDeed_64 : List mO := [(.bipush 6, 2, (6, 0), [])]
def qX6_takesDeed_66 : List mO := [(.putfield 38, 3, (0, 0), [[7, 1155, 0, 0], [6]]),
  (.iconst 1, 1, (1, 0), []),
  (.ireturn, 1, (0, 0), [[1]])]
def pX6_takesDeed : List (Nat × List mO) := [(0, qX6_takesDeed_0), (6, qX6_takesDeed_6), (30, qX6_takesDeed_30), (32, qX6_takesDeed_32), (37, qX6_takesDeed_37), (64, qX6_takesDeed_64), (66, qX6_takesDeed_66)]
def qX6_takesNot_0 : List mO := [(.aload_n 0, 1, (0, 0), []),
  (.ldc 143, 2, (0, 0), [[1, 3]]),
  (.invokevirtual 115, 3, (0, 0), [[1, 3022, 0], [6, 59, 7, 3024]])]
def qX6_takesNot_6 : List mO := [(.ifCond .eq 5, 3, (0, 0), [[11]]),
  (.iconst 0, 1, (0, 0), []),
  (.ireturn, 1, (0, 0), [[1]])]
def qX6_takesNot_11 : List mO := [(.aload_n 0, 1, (0, 0), []),
  (.iconst 3, 1, (3, 0), []),
  (.invokevirtual 145, 3, (0, 0), [[1, 3105, 0], [6, 57, 14, 3107]])]
def qX6_takesNot_16 : List mO := [(.iconst 1, 1, (1, 0), []),
  (.ireturn, 1, (0, 0), [[1]])]
def pX6_takesNot : List (Nat × List mO) := [(0, qX6_takesNot_0), (6, qX6_takesNot_6), (11, qX6_takesNot_11), (16, qX6_takesNot_16)]
def qX6_takesOpening_0 : List mO := [(.aload_n 0, 1, (0, 0), []),
  (.bipush 40, 2, (40, 0), []),
  (.invokevirtual 148, 3, (0, 0), [[1, 3113, 0], [6, 55, 16, 3115]])]
def qX6_takesOpening_6 : List mO := [(.ifCond .eq 11, 3, (0, 0), [[17]]),
  (.aload_n 0, 1, (0, 0), []),
  (.getfield 47, 3, (0, 0), [[10, 1158, 0, 0], [6]]),
  (.iconst 3, 1, (3, 0), []),
  (.if_icmp .lt 5, 3, (0, 0), [[19]])]
def qX6_takesOpening_17 : List mO := [(.iconst 0, 1, (0, 0), []),
  (.ireturn, 1, (0, 0), [[1]])]
def qX6_takesOpening_19 : List mO := [(.aload_n 0, 1, (0, 0), []),
  (.dup, 1, (0, 0), []),
  (.getfield 47, 3, (0, 0), [[10, 1158, 0, 0], [6]]),
  (.iconst 1, 1, (1, 0), []),
  (.iadd, 1, (0, 0), []),
  (.putfield 47, 3, (0, 0), [[10, 1158, 0, 0], [6]]),
  (.aload_n 0, 1, (0, 0), []),
  (.iconst 0, 1, (0, 0), []),
  (.invokevirtual 145, 3, (0, 0), [[1, 3105, 0], [6, 57, 14, 3107]])]
def qX6_takesOpening_34 : List mO := [(.iconst 1, 1, (1, 0), []),
  (.ireturn, 1, (0, 0), [[1]])]
def pX6_takesOpening : List (Nat × List mO) := [(0, qX6_takesOpening_0), (6, qX6_takesOpening_6), (17, qX6_takesOpening_17), (19, qX6_takesOpening_19), (34, qX6_takesOpening_34)]
def qX6_takesLeft_0 : List mO := [(.aload_n 0, 1, (0, 0), []),
  (.aload_n 0, 1, (0, 0), []),
  (.invokevirtual 152, 3, (0, 0), [[0, 3121, 0], [6, 56, 18, 3123]])]
def qX6_takesLeft_5 : List mO := [(.putfield 41, 3, (0, 0), [[8, 1156, 0, 0], [6]]),
  (.aload_n 0, 1, (0, 0), []),
  (.iconst 3, 1, (3, 0), []),
  (.aload_n 0, 1, (0, 0), []),
  (.getfield 41, 3, (0, 0), [[8, 1156, 0, 0], [6]]),
  (.ifCond .lt 7, 3, (0, 0), [[21]]),
  (.iconst 1, 1, (1, 0), []),
  (.goto 4, 3, (0, 0), [[22]])]
def qX6_takesLeft_21 : List mO := [(.iconst 0, 1, (0, 0), [])]
def qX6_takesLeft_22 : List mO := [(.invokevirtual 130, 3, (0, 0), [[2, 3083, 0], [6, 54, 10, 3085]])]
def qX6_takesLeft_25 : List mO := [(.ireturn, 1, (0, 0), [[1]])]
def pX6_takesLeft : List (Nat × List mO) := [(0, qX6_takesLeft_0), (5, qX6_takesLeft_5), (21, qX6_takesLeft_21), (22, qX6_takesLeft_22), (25, qX6_takesLeft_25)]
def qX6_takesSign_0 : List mO := [(.aload_n 0, 1, (0, 0), []),
  (.aload_n 0, 1, (0, 0), []),
  (.bipush 60, 2, (60, 0), []),
  (.invokevirtual 148, 3, (0, 0), [[1, 3113, 0], [6, 55, 16, 3115]])]
def qX6_takesSign_7 : List mO := [(.ifCond .eq 7, 3, (0, 0), [[14]]),
  (.iconst 1, 1, (1, 0), []),
  (.goto 30, 3, (0, 0), [[41]])]
def qX6_takesSign_14 : List mO := [(.aload_n 0, 1, (0, 0), []),
  (.bipush 61, 2, (61, 0), []),
  (.invokevirtual 148, 3, (0, 0), [[1, 3113, 0], [6, 55, 16, 3115]])]
def qX6_takesSign_20 : List mO := [(.ifCond .eq 7, 3, (0, 0), [[27]]),
  (.iconst 2, 1, (2, 0), []),
  (.goto 17, 3, (0, 0), [[41]])]
def qX6_takesSign_27 : List mO := [(.aload_n 0, 1, (0, 0), []),
  (.bipush 62, 2, (62, 0), []),
  (.invokevirtual 148, 3, (0, 0), [[1, 3113, 0], [6, 55, 16, 3115]])]
def qX6_takesSign_33 : List mO := [(.ifCond .eq 7, 3, (0, 0), [[40]]),
  (.iconst 3, 1, (3, 0), []),
  (.goto 4, 3, (0, 0), [[41]])]
def qX6_takesSign_40 : List mO := [(.iconst 0, 1, (0, 0), [])]
def qX6_takesSign_41 : List mO := [(.putfield 44, 3, (0, 0), [[9, 1157, 0, 0], [6]]),
  (.aload_n 0, 1, (0, 0), []),
  (.iconst 4, 1, (4, 0), []),
  (.aload_n 0, 1, (0, 0), []),
  (.getfield 44, 3, (0, 0), [[9, 1157, 0, 0], [6]]),
  (.ifCond .eq 7, 3, (0, 0), [[57]]),
  (.iconst 1, 1, (1, 0), []),
  (.goto 4, 3, (0, 0), [[58]])]
def qX6_takesSign_57 : List mO := [(.iconst 0, 1, (0, 0), [])]
def qX6_takesSign_58 : List mO := [(.invokevirtual 130, 3, (0, 0), [[2, 3083, 0], [6, 54, 10, 3085]])]
def qX6_takesSign_61 : List mO := [(.ireturn, 1, (0, 0), [[1]])]
def pX6_takesSign : List (Nat × List mO) := [(0, qX6_takesSign_0), (7, qX6_takesSign_7), (14, qX6_takesSign_14), (20, qX6_takesSign_20), (27, qX6_takesSign_27), (33, qX6_takesSign_33), (40, qX6_takesSign_40), (41, qX6_takesSign_41), (57, qX6_takesSign_57), (58, qX6_takesSign_58), (61, qX6_takesSign_61)]
def qX6_takesRight_0 : List mO := [(.aload_n 0, 1, (0, 0), []),
  (.invokevirtual 152, 3, (0, 0), [[0, 3121, 0], [6, 56, 18, 3123]])]
def qX6_takesRight_4 : List mO := [(.istore_n 1, 1, (0, 0), []),
  (.iload_n 1, 1, (0, 0), []),
  (.ifCond .ge 5, 3, (0, 0), [[11]]),
  (.iconst 0, 1, (0, 0), []),
  (.ireturn, 1, (0, 0), [[1]])]
def qX6_takesRight_11 : List mO := [(.aload_n 0, 1, (0, 0), []),
  (.getfield 22, 3, (0, 0), [[2, 1149, 0, 1], [6]]),
  (.aload_n 0, 1, (0, 0), []),
  (.getfield 44, 3, (0, 0), [[9, 1157, 0, 0], [6]]),
  (.aload_n 0, 1, (0, 0), []),
  (.getfield 41, 3, (0, 0), [[8, 1156, 0, 0], [6]]),
  (.iload_n 1, 1, (0, 0), []),
  (.invokestatic 156, 3, (0, 0), [[3, 28, 3134, 3135, 0]])]
def qX6_takesRight_27 : List mO := [(.invokevirtual 160, 3, (0, 0), [[1, 3096, 0], [5, 27, 3098, 3097]])]
def qX6_takesRight_30 : List mO := [(.aload_n 0, 1, (0, 0), []),
  (.iconst 5, 1, (5, 0), []),
  (.putfield 38, 3, (0, 0), [[7, 1155, 0, 0], [6]]),
  (.iconst 1, 1, (1, 0), []),
  (.ireturn, 1, (0, 0), [[1]])]
def pX6_takesRight : List (Nat × List mO) := [(0, qX6_takesRight_0), (4, qX6_takesRight_4), (11, qX6_takesRight_11), (27, qX6_takesRight_27), (30, qX6_takesRight_30)]
def qX6_takesJoint_0 : List mO := [(.aload_n 0, 1, (0, 0), []),
  (.ldc 163, 2, (0, 0), [[1, 5]]),
  (.invokevirtual 115, 3, (0, 0), [[1, 3022, 0], [6, 59, 7, 3024]])]
def qX6_takesJoint_6 : List mO := [(.iconst 1, 1, (1, 0), []),
  (.iadd, 1, (0, 0), []),
  (.istore_n 1, 1, (0, 0), []),
  (.iload_n 1, 1, (0, 0), []),
  (.iconst 1, 1, (1, 0), []),
  (.if_icmp .eq 10, 3, (0, 0), [[21]]),
  (.iload_n 1, 1, (0, 0), []),
  (.iconst 2, 1, (2, 0), []),
  (.if_icmp .eq 5, 3, (0, 0), [[21]]),
  (.iconst 0, 1, (0, 0), []),
  (.ireturn, 1, (0, 0), [[1]])]
def qX6_takesJoint_21 : List mO := [(.aload_n 0, 1, (0, 0), []),
  (.iload_n 1, 1, (0, 0), []),
  (.invokevirtual 136, 3, (0, 0), [[1, 3092, 0], [6, 58, 12, 3094]])]
def qX6_takesJoint_26 : List mO := [(.aload_n 0, 1, (0, 0), []),
  (.iload_n 1, 1, (0, 0), []),
  (.invokevirtual 145, 3, (0, 0), [[1, 3105, 0], [6, 57, 14, 3107]])]
def qX6_takesJoint_31 : List mO := [(.aload_n 0, 1, (0, 0), []),
  (.iconst 2, 1, (2, 0), []),
  (.putfield 38, 3, (0, 0), [[7, 1155, 0, 0], [6]]),
  (.iconst 1, 1, (1, 0), []),
  (.ireturn, 1, (0, 0), [[1]])]
def pX6_takesJoint : List (Nat × List mO) := [(0, qX6_takesJoint_0), (6, qX6_takesJoint_6), (21, qX6_takesJoint_21), (26, qX6_takesJoint_26), (31, qX6_takesJoint_31)]
def qX6_takesClosing_0 : List mO := [(.aload_n 0, 1, (0, 0), []),
  (.bipush 41, 2, (41, 0), []),
  (.invokevirtual 148, 3, (0, 0), [[1, 3113, 0], [6, 55, 16, 3115]])]
def qX6_takesClosing_6 : List mO := [(.ifCond .eq 10, 3, (0, 0), [[16]]),
  (.aload_n 0, 1, (0, 0), []),
  (.getfield 47, 3, (0, 0), [[10, 1158, 0, 0], [6]]),
  (.ifCond .ne 5, 3, (0, 0), [[18]])]
def qX6_takesClosing_16 : List mO := [(.iconst 0, 1, (0, 0), []),
  (.ireturn, 1, (0, 0), [[1]])]
def qX6_takesClosing_18 : List mO := [(.aload_n 0, 1, (0, 0), []),
  (.dup, 1, (0, 0), []),
  (.getfield 47, 3, (0, 0), [[10, 1158, 0, 0], [6]]),
  (.iconst 1, 1, (1, 0), []),
  (.isub, 1, (0, 0), []),
  (.putfield 47, 3, (0, 0), [[10, 1158, 0, 0], [6]]),
  (.aload_n 0, 1, (0, 0), []),
  (.iconst 1, 1, (1, 0), []),
  (.invokevirtual 136, 3, (0, 0), [[1, 3092, 0], [6, 58, 12, 3094]])]
def qX6_takesClosing_33 : List mO := [(.aload_n 0, 1, (0, 0), []),
  (.getfield 54, 3, (0, 0), [[12, 1160, 0, 0], [6]]),
  (.ifCond .le 13, 3, (0, 0), [[50]]),
  (.aload_n 0, 1, (0, 0), []),
  (.dup, 1, (0, 0), []),
  (.getfield 54, 3, (0, 0), [[12, 1160, 0, 0], [6]]),
  (.iconst 1, 1, (1, 0), []),
  (.isub, 1, (0, 0), []),
  (.putfield 54, 3, (0, 0), [[12, 1160, 0, 0], [6]])]
def qX6_takesClosing_50 : List mO := [(.iconst 1, 1, (1, 0), []),
  (.ireturn, 1, (0, 0), [[1]])]
def pX6_takesClosing : List (Nat × List mO) := [(0, qX6_takesClosing_0), (6, qX6_takesClosing_6), (16, qX6_takesClosing_16), (18, qX6_takesClosing_18), (33, qX6_takesClosing_33), (50, qX6_takesClosing_50)]
def qX6_takesN_0 : List mO := [(.aload_n 0, 1, (0, 0), []),
  (.getfield 26, 3, (0, 0), [[3, 1151, 0, 0], [6]]),
  (.iconst 1, 1, (1, 0), []),
  (.if_icmp .ne 15, 3, (0, 0), [[20]]),
  (.aload_n 0, 1, (0, 0), []),
  (.getfield 22, 3, (0, 0), [[2, 1149, 0, 1], [6]]),
  (.getfield 119, 3, (0, 0), [[0, 1043, 0, 0], [5]]),
  (.bipush 8, 2, (8, 0), []),
  (.if_icmp .lt 5, 3, (0, 0), [[22]])]
def qX6_takesN_20 : List mO := [(.iconst 0, 1, (0, 0), []),
  (.ireturn, 1, (0, 0), [[1]])]
def qX6_takesN_22 : List mO := [(.aload_n 0, 1, (0, 0), []),
  (.getfield 35, 3, (0, 0), [[6, 1154, 0, 0], [6]]),
  (.aload_n 0, 1, (0, 0), []),
  (.getfield 22, 3, (0, 0), [[2, 1149, 0, 1], [6]]),
  (.getfield 140, 3, (0, 0), [[2, 1048, 0, 1], [5]]),
  (.aload_n 0, 1, (0, 0), []),
  (.getfield 22, 3, (0, 0), [[2, 1149, 0, 1], [6]]),
  (.getfield 119, 3, (0, 0), [[0, 1043, 0, 0], [5]]),
  (.iaload, 1, (0, 0), []),
  (.iconst 2, 1, (2, 0), []),
  (.if_icmp .ne 8, 3, (0, 0), [[50]]),
  (.bipush 9, 2, (9, 0), []),
  (.goto 5, 3, (0, 0), [[52]])]
def qX6_takesN_50 : List mO := [(.bipush 99, 2, (99, 0), [])]
def qX6_takesN_52 : List mO := [(.if_icmp .le 5, 3, (0, 0), [[57]]),
  (.iconst 0, 1, (0, 0), []),
  (.ireturn, 1, (0, 0), [[1]])]
def qX6_takesN_57 : List mO := [(.aload_n 0, 1, (0, 0), []),
  (.getfield 22, 3, (0, 0), [[2, 1149, 0, 1], [6]]),
  (.getfield 125, 3, (0, 0), [[3, 1050, 0, 1], [5]]),
  (.aload_n 0, 1, (0, 0), []),
  (.getfield 22, 3, (0, 0), [[2, 1149, 0, 1], [6]]),
  (.getfield 119, 3, (0, 0), [[0, 1043, 0, 0], [5]]),
  (.aload_n 0, 1, (0, 0), []),
  (.getfield 35, 3, (0, 0), [[6, 1154, 0, 0], [6]]),
  (.iastore, 1, (0, 0), []),
  (.aload_n 0, 1, (0, 0), []),
  (.bipush 7, 2, (7, 0), []),
  (.putfield 38, 3, (0, 0), [[7, 1155, 0, 0], [6]]),
  (.iconst 1, 1, (1, 0), []),
  (.ireturn, 1, (0, 0), [[1]])]
def pX6_takesN : List (Nat × List mO) := [(0, qX6_takesN_0), (20, qX6_takesN_20), (22, qX6_takesN_22), (50, qX6_takesN_50), (52, qX6_takesN_52), (57, qX6_takesN_57)]
def qX6_takesSemicolon_0 : List mO := [(.aload_n 0, 1, (0, 0), []),
  (.bipush 59, 2, (59, 0), []),
  (.invokevirtual 148, 3, (0, 0), [[1, 3113, 0], [6, 55, 16, 3115]])]
def qX6_takesSemicolon_6 : List mO := [(.ifCond .eq 15, 3, (0, 0), [[21]]),
  (.aload_n 0, 1, (0, 0), []),
  (.getfield 22, 3, (0, 0), [[2, 1149, 0, 1], [6]]),
  (.getfield 119, 3, (0, 0), [[0, 1043, 0, 0], [5]]),
  (.bipush 8, 2, (8, 0), []),
  (.if_icmp .lt 5, 3, (0, 0), [[23]])]
def qX6_takesSemicolon_21 : List mO := [(.iconst 0, 1, (0, 0), []),
  (.ireturn, 1, (0, 0), [[1]])]
def qX6_takesSemicolon_23 : List mO := [(.aload_n 0, 1, (0, 0), []),
  (.getfield 22, 3, (0, 0), [[2, 1149, 0, 1], [6]]),
  (.getfield 165, 3, (0, 0), [[4, 1052, 0, 1], [5]]),
  (.aload_n 0, 1, (0, 0), []),
  (.getfield 22, 3, (0, 0), [[2, 1149, 0, 1], [6]]),
  (.getfield 119, 3, (0, 0), [[0, 1043, 0, 0], [5]]),
  (.aload_n 0, 1, (0, 0), []),
  (.getfield 22, 3, (0, 0), [[2, 1149, 0, 1], [6]]),
  (.getfield 168, 3, (0, 0), [[5, 1054, 0, 0], [5]]),
  (.iastore, 1, (0, 0), []),
  (.aload_n 0, 1, (0, 0), []),
  (.getfield 22, 3, (0, 0), [[2, 1149, 0, 1], [6]]),
  (.dup, 1, (0, 0), []),
  (.getfield 119, 3, (0, 0), [[0, 1043, 0, 0], [5]]),
  (.iconst 1, 1, (1, 0), []),
  (.iadd, 1, (0, 0), []),
  (.putfield 119, 3, (0, 0), [[0, 1043, 0, 0], [5]]),
  (.aload_n 0, 1, (0, 0), []),
  (.iconst 0, 1, (0, 0), []),
  (.putfield 38, 3, (0, 0), [[7, 1155, 0, 0], [6]]),
  (.iconst 1, 1, (1, 0), []),
  (.ireturn, 1, (0, 0), [[1]])]
def pX6_takesSemicolon : List (Nat × List mO) := [(0, qX6_takesSemicolon_0), (6, qX6_takesSemicolon_6), (21, qX6_takesSemicolon_21), (23, qX6_takesSemicolon_23)]
def qX6_goesTo_0 : List mO := [(.iload_n 2, 1, (0, 0), []),
  (.ifCond .eq 8, 3, (0, 0), [[9]]),
  (.aload_n 0, 1, (0, 0), []),
  (.iload_n 1, 1, (0, 0), []),
  (.putfield 38, 3, (0, 0), [[7, 1155, 0, 0], [6]])]
def qX6_goesTo_9 : List mO := [(.iload_n 2, 1, (0, 0), []),
  (.ireturn, 1, (0, 0), [[1]])]
def pX6_goesTo : List (Nat × List mO) := [(0, qX6_goesTo_0), (9, qX6_goesTo_9)]
def qX6_isSingle_0 : List mO := [(.aload_n 0, 1, (0, 0), []),
  (.getfield 26, 3, (0, 0), [[3, 1151, 0, 0], [6]]),
  (.iconst 2, 1, (2, 0), []),
  (.if_icmp .ne 15, 3, (0, 0), [[20]]),
  (.aload_n 0, 1, (0, 0), []),
  (.getfield 35, 3, (0, 0), [[6, 1154, 0, 0], [6]]),
  (.iload_n 1, 1, (0, 0), []),
  (.if_icmp .ne 7, 3, (0, 0), [[20]]),
  (.iconst 1, 1, (1, 0), []),
  (.goto 4, 3, (0, 0), [[21]])]
def qX6_isSingle_20 : List mO := [(.iconst 0, 1, (0, 0), [])]
def qX6_isSingle_21 : List mO := [(.ireturn, 1, (0, 0), [[1]])]
def pX6_isSingle : List (Nat × List mO) := [(0, qX6_isSingle_0), (20, qX6_isSingle_20), (21, qX6_isSingle_21)]
def qX6_operand_0 : List mO := [(.aload_n 0, 1, (0, 0), []),
  (.getfield 26, 3, (0, 0), [[3, 1151, 0, 0], [6]]),
  (.iconst 1, 1, (1, 0), []),
  (.if_icmp .ne 8, 3, (0, 0), [[13]]),
  (.aload_n 0, 1, (0, 0), []),
  (.getfield 35, 3, (0, 0), [[6, 1154, 0, 0], [6]]),
  (.ireturn, 1, (0, 0), [])]
def qX6_operand_13 : List mO := [(.aload_n 0, 1, (0, 0), []),
  (.ldc 171, 2, (0, 0), [[1, 4]]),
  (.invokevirtual 115, 3, (0, 0), [[1, 3022, 0], [6, 59, 7, 3024]])]
def qX6_operand_19 : List mO := [(.istore_n 1, 1, (0, 0), []),
  (.iload_n 1, 1, (0, 0), []),
  (.ifCond .ge 7, 3, (0, 0), [[28]]),
  (.iconst (-1), 1, ((-1), 0), []),
  (.goto 8, 3, (0, 0), [[33]])]
def qX6_operand_28 : List mO := [(.sipush 10000, 3, (10000, 0), []),
  (.iload_n 1, 1, (0, 0), []),
  (.iadd, 1, (0, 0), [])]
def qX6_operand_33 : List mO := [(.ireturn, 1, (0, 0), [])]
def pX6_operand : List (Nat × List mO) := [(0, qX6_operand_0), (13, qX6_operand_13), (19, qX6_operand_19), (28, qX6_operand_28), (33, qX6_operand_33)]
def qX6_await_0 : List mO := [(.aload_n 0, 1, (0, 0), []),
  (.getfield 54, 3, (0, 0), [[12, 1160, 0, 0], [6]]),
  (.aload_n 0, 1, (0, 0), []),
  (.getfield 50, 3, (0, 0), [[11, 1159, 0, 1], [6]]),
  (.arraylength, 1, (0, 0), []),
  (.if_icmp .ge 20, 3, (0, 0), [[29]]),
  (.aload_n 0, 1, (0, 0), []),
  (.getfield 50, 3, (0, 0), [[11, 1159, 0, 1], [6]]),
  (.aload_n 0, 1, (0, 0), []),
  (.dup, 1, (0, 0), []),
  (.getfield 54, 3, (0, 0), [[12, 1160, 0, 0], [6]]),
  (.dup_x1, 1, (0, 0), []),
  (.iconst 1, 1, (1, 0), []),
  (.iadd, 1, (0, 0), []),
  (.putfield 54, 3, (0, 0), [[12, 1160, 0, 0], [6]]),
  (.iload_n 1, 1, (0, 0), []),
  (.iastore, 1, (0, 0), [])]
def qX6_await_29 : List mO := [(.return_, 1, (0, 0), [])]
def pX6_await : List (Nat × List mO) := [(0, qX6_await_0), (29, qX6_await_29)]
def qX6_addWaiting_0 : List mO := [(.aload_n 0, 1, (0, 0), []),
  (.getfield 54, 3, (0, 0), [[12, 1160, 0, 0], [6]]),
  (.ifCond .le 47, 3, (0, 0), [[51]]),
  (.aload_n 0, 1, (0, 0), []),
  (.getfield 50, 3, (0, 0), [[11, 1159, 0, 1], [6]]),
  (.aload_n 0, 1, (0, 0), []),
  (.getfield 54, 3, (0, 0), [[12, 1160, 0, 0], [6]]),
  (.iconst 1, 1, (1, 0), []),
  (.isub, 1, (0, 0), []),
  (.iaload, 1, (0, 0), []),
  (.iload_n 1, 1, (0, 0), []),
  (.if_icmp .lt 32, 3, (0, 0), [[51]]),
  (.aload_n 0, 1, (0, 0), []),
  (.dup, 1, (0, 0), []),
  (.getfield 54, 3, (0, 0), [[12, 1160, 0, 0], [6]]),
  (.iconst 1, 1, (1, 0), []),
  (.isub, 1, (0, 0), []),
  (.putfield 54, 3, (0, 0), [[12, 1160, 0, 0], [6]]),
  (.aload_n 0, 1, (0, 0), []),
  (.getfield 22, 3, (0, 0), [[2, 1149, 0, 1], [6]]),
  (.aload_n 0, 1, (0, 0), []),
  (.getfield 50, 3, (0, 0), [[11, 1159, 0, 1], [6]]),
  (.aload_n 0, 1, (0, 0), []),
  (.getfield 54, 3, (0, 0), [[12, 1160, 0, 0], [6]]),
  (.iaload, 1, (0, 0), []),
  (.invokevirtual 160, 3, (0, 0), [[1, 3096, 0], [5, 27, 3098, 3097]])]
def qX6_addWaiting_48 : List mO := [(.goto (-48), 3, (0, 0), [[0]])]
def qX6_addWaiting_51 : List mO := [(.return_, 1, (0, 0), [])]
def pX6_addWaiting : List (Nat × List mO) := [(0, qX6_addWaiting_0), (48, qX6_addWaiting_48), (51, qX6_addWaiting_51)]
def qX6_placeIn_0 : List mO := [(.aload_n 0, 1, (0, 0), []),
  (.getfield 26, 3, (0, 0), [[3, 1151, 0, 0], [6]]),
  (.ifCond .eq 5, 3, (0, 0), [[9]]),
  (.iconst (-1), 1, ((-1), 0), []),
  (.ireturn, 1, (0, 0), [])]
def qX6_placeIn_9 : List mO := [(.iconst 0, 1, (0, 0), []),
  (.istore_n 2, 1, (0, 0), []),
  (.iconst 0, 1, (0, 0), []),
  (.istore_n 3, 1, (0, 0), []),
  (.iconst 0, 1, (0, 0), []),
  (.istore 4, 2, (0, 0), [])]
def qX6_placeIn_16 : List mO := [(.iload 4, 2, (0, 0), []),
  (.aload_n 1, 1, (0, 0), []),
  (.invokevirtual 173, 3, (0, 0), [[0, 3026, 0], [300, 900, 3028, 3027]])]
def qX6_placeIn_22 : List mO := [(.if_icmp .ge 41, 3, (0, 0), [[63]]),
  (.aload_n 1, 1, (0, 0), []),
  (.iload 4, 2, (0, 0), []),
  (.invokevirtual 178, 3, (0, 0), [[1, 3036, 0], [300, 901, 3038, 3037]])]
def qX6_placeIn_31 : List mO := [(.bipush 32, 2, (32, 0), []),
  (.if_icmp .ne 24, 3, (0, 0), [[57]]),
  (.aload_n 0, 1, (0, 0), []),
  (.aload_n 1, 1, (0, 0), []),
  (.iload_n 3, 1, (0, 0), []),
  (.iload 4, 2, (0, 0), []),
  (.invokevirtual 182, 3, (0, 0), [[3, 3074, 0], [6, 60, 8, 3076]])]
def qX6_placeIn_44 : List mO := [(.ifCond .eq 5, 3, (0, 0), [[49]]),
  (.iload_n 2, 1, (0, 0), []),
  (.ireturn, 1, (0, 0), [])]
def qX6_placeIn_49 : List mO := [(.iinc 2 1, 3, (1, 0), []),
  (.iload 4, 2, (0, 0), []),
  (.iconst 1, 1, (1, 0), []),
  (.iadd, 1, (0, 0), []),
  (.istore_n 3, 1, (0, 0), [])]
def qX6_placeIn_57 : List mO := [(.iinc 4 1, 3, (1, 0), []),
  (.goto (-44), 3, (0, 0), [[16]])]
def qX6_placeIn_63 : List mO := [(.iconst (-1), 1, ((-1), 0), []),
  (.ireturn, 1, (0, 0), [])]
def pX6_placeIn : List (Nat × List mO) := [(0, qX6_placeIn_0), (9, qX6_placeIn_9), (16, qX6_placeIn_16), (22, qX6_placeIn_22), (31, qX6_placeIn_31), (44, qX6_placeIn_44), (49, qX6_placeIn_49), (57, qX6_placeIn_57), (63, qX6_placeIn_63)]
def qX6_isSpelt_0 : List mO := [(.iload_n 3, 1, (0, 0), []),
  (.iload_n 2, 1, (0, 0), []),
  (.isub, 1, (0, 0), []),
  (.aload_n 0, 1, (0, 0), []),
  (.getfield 32, 3, (0, 0), [[5, 1153, 0, 0], [6]]),
  (.aload_n 0, 1, (0, 0), []),
  (.getfield 29, 3, (0, 0), [[4, 1152, 0, 0], [6]]),
  (.isub, 1, (0, 0), []),
  (.if_icmp .eq 5, 3, (0, 0), [[17]]),
  (.iconst 0, 1, (0, 0), []),
  (.ireturn, 1, (0, 0), [[1]])]
def qX6_isSpelt_17 : List mO := [(.iload_n 2, 1, (0, 0), []),
  (.istore 4, 2, (0, 0), [])]
def qX6_isSpelt_20 : List mO := [(.iload 4, 2, (0, 0), []),
  (.iload_n 3, 1, (0, 0), []),
  (.if_icmp .ge 34, 3, (0, 0), [[57]]),
  (.aload_n 1, 1, (0, 0), []),
  (.iload 4, 2, (0, 0), []),
  (.invokevirtual 178, 3, (0, 0), [[1, 3036, 0], [300, 901, 3038, 3037]])]
def qX6_isSpelt_32 : List mO := [(.aload_n 0, 1, (0, 0), []),
  (.getfield 15, 3, (0, 0), [[1, 1147, 0, 1], [6]]),
  (.aload_n 0, 1, (0, 0), []),
  (.getfield 29, 3, (0, 0), [[4, 1152, 0, 0], [6]]),
  (.iload 4, 2, (0, 0), []),
  (.iadd, 1, (0, 0), []),
  (.iload_n 2, 1, (0, 0), []),
  (.isub, 1, (0, 0), []),
  (.baload, 1, (0, 0), []),
  (.if_icmp .eq 5, 3, (0, 0), [[51]]),
  (.iconst 0, 1, (0, 0), []),
  (.ireturn, 1, (0, 0), [[1]])]
def qX6_isSpelt_51 : List mO := [(.iinc 4 1, 3, (1, 0), []),
  (.goto (-34), 3, (0, 0), [[20]])]
def qX6_isSpelt_57 : List mO := [(.iconst 1, 1, (1, 0), []),
  (.ireturn, 1, (0, 0), [[1]])]
def pX6_isSpelt : List (Nat × List mO) := [(0, qX6_isSpelt_0), (17, qX6_isSpelt_17), (20, qX6_isSpelt_20), (32, qX6_isSpelt_32), (51, qX6_isSpelt_51), (57, qX6_isSpelt_57)]
def qX7_init_0 : List mO := [(.aload_n 0, 1, (0, 0), []),
  (.aload_n 1, 1, (0, 0), []),
  (.invokespecial 1, 3, (0, 0), [[1, 19, 2086, 2074, 0]])]
def qX7_init_5 : List mO := [(.return_, 1, (0, 0), [])]
def pX7_init : List (Nat × List mO) := [(0, qX7_init_0), (5, qX7_init_5)]
def qX7_hears_0 : List mO := [(.aload_n 0, 1, (0, 0), []),
  (.getfield 7, 3, (0, 0), [[0, 2020, 2022, 1], [7]]),
  (.bipush 60, 2, (60, 0), []),
  (.invokevirtual 13, 3, (0, 0), [[1, 5038, 0], [8, 66, 5008, 5007]])]
def qX7_hears_9 : List mO := [(.iconst 0, 1, (0, 0), []),
  (.aload_n 0, 1, (0, 0), []),
  (.iload_n 1, 1, (0, 0), []),
  (.invokespecial 19, 3, (0, 0), [[1, 76, 5039, 5024, 2], [5040, 2090, 2081]])]
def qX7_hears_15 : List mO := [(.isub, 1, (0, 0), []),
  (.ireturn, 1, (0, 0), [])]
def pX7_hears : List (Nat × List mO) := [(0, qX7_hears_0), (9, qX7_hears_9), (15, qX7_hears_15)]
def qX7_shares_0 : List mO := [(.aload_n 0, 1, (0, 0), []),
  (.getfield 7, 3, (0, 0), [[0, 2020, 2022, 1], [7]]),
  (.bipush 61, 2, (61, 0), []),
  (.invokevirtual 13, 3, (0, 0), [[1, 5038, 0], [8, 66, 5008, 5007]])]
def qX7_shares_9 : List mO := [(.aload_n 0, 1, (0, 0), []),
  (.iload_n 1, 1, (0, 0), []),
  (.invokespecial 23, 3, (0, 0), [[1, 20, 5059, 5050, 2], [7219, 2090, 0]])]
def qX7_shares_14 : List mO := [(.aload_n 0, 1, (0, 0), []),
  (.aload_n 0, 1, (0, 0), []),
  (.getfield 26, 3, (0, 0), [[2, 2031, 2033, 0], [7]]),
  (.invokevirtual 30, 3, (0, 0), [[1, 5060, 1, 5061, 5000, 5021], [7, 75, 5062, 5000]])]
def qX7_shares_22 : List mO := [(.iadd, 1, (0, 0), []),
  (.ireturn, 1, (0, 0), [])]
def pX7_shares : List (Nat × List mO) := [(0, qX7_shares_0), (9, qX7_shares_9), (14, qX7_shares_14), (22, qX7_shares_22)]
def qX8_init_0 : List mO := [(.aload_n 0, 1, (0, 0), []),
  (.invokespecial 1, 3, (0, 0), [[0, 999, 1231, 1028, 1029]]),
  (.aload_n 0, 1, (0, 0), []),
  (.iconst 0, 1, (0, 0), []),
  (.putfield 7, 3, (0, 0), [[0, 1232, 0, 0], [8]]),
  (.aload_n 0, 1, (0, 0), []),
  (.bipush 30, 2, (30, 0), []),
  (.newarray .int, 2, (0, 0), [[1071]]),
  (.putfield 13, 3, (0, 0), [[1, 1234, 0, 1], [8]]),
  (.aload_n 0, 1, (0, 0), []),
  (.iconst 0, 1, (0, 0), []),
  (.putfield 17, 3, (0, 0), [[2, 1236, 0, 0], [8]]),
  (.return_, 1, (0, 0), [])]
def pX8_init : List (Nat × List mO) := [(0, qX8_init_0)]
def qX8_clear_0 : List mO := [(.aload_n 0, 1, (0, 0), []),
  (.iconst 0, 1, (0, 0), []),
  (.putfield 7, 3, (0, 0), [[0, 1232, 0, 0], [8]]),
  (.aload_n 0, 1, (0, 0), []),
  (.iconst 0, 1, (0, 0), []),
  (.putfield 17, 3, (0, 0), [[2, 1236, 0, 0], [8]]),
  (.return_, 1, (0, 0), [])]
def pX8_clear : List (Nat × List mO) := [(0, qX8_clear_0)]
def qX8_begin_0 : List mO := [(.aload_n 0, 1, (0, 0), []),
  (.getfield 17, 3, (0, 0), [[2, 1236, 0, 0], [8]]),
  (.ifCond .ne 32, 3, (0, 0), [[36]]),
  (.aload_n 0, 1, (0, 0), []),
  (.getfield 7, 3, (0, 0), [[0, 1232, 0, 0], [8]]),
  (.aload_n 0, 1, (0, 0), []),
  (.getfield 13, 3, (0, 0), [[1, 1234, 0, 1], [8]]),
  (.arraylength, 1, (0, 0), []),
  (.if_icmp .ge 20, 3, (0, 0), [[36]]),
  (.aload_n 0, 1, (0, 0), []),
  (.getfield 13, 3, (0, 0), [[1, 1234, 0, 1], [8]]),
  (.aload_n 0, 1, (0, 0), []),
  (.dup, 1, (0, 0), []),
  (.getfield 7, 3, (0, 0), [[0, 1232, 0, 0], [8]]),
  (.dup_x1, 1, (0, 0), []),
  (.iconst 1, 1, (1, 0), []),
  (.iadd, 1, (0, 0), []),
  (.putfield 7, 3, (0, 0), [[0, 1232, 0, 0], [8]]),
  (.iload_n 1, 1, (0, 0), []),
  (.iastore, 1, (0, 0), [])]
def qX8_begin_36 : List mO := [(.return_, 1, (0, 0), [])]
def pX8_begin : List (Nat × List mO) := [(0, qX8_begin_0), (36, qX8_begin_36)]
def qX9_init_0 : List mO := [(.aload_n 0, 1, (0, 0), []),
  (.invokespecial 3, 3, (0, 0), [[0, 999, 1035, 1028, 1029]]),
  (.aload_n 0, 1, (0, 0), []),
  (.iconst 0, 1, (0, 0), []),
  (.putfield 9, 3, (0, 0), [[0, 1072, 0, 0], [9]]),
  (.aload_n 0, 1, (0, 0), []),
  (.bipush 9, 2, (9, 0), []),
  (.newarray .int, 2, (0, 0), [[1071]]),
  (.putfield 15, 3, (0, 0), [[1, 1075, 0, 1], [9]]),
  (.aload_n 0, 1, (0, 0), []),
  (.bipush 9, 2, (9, 0), []),
  (.newarray .int, 2, (0, 0), [[1071]]),
  (.putfield 19, 3, (0, 0), [[2, 1078, 0, 1], [9]]),
  (.aload_n 0, 1, (0, 0), []),
  (.bipush 9, 2, (9, 0), []),
  (.newarray .int, 2, (0, 0), [[1071]]),
  (.putfield 22, 3, (0, 0), [[3, 1080, 0, 1], [9]]),
  (.aload_n 0, 1, (0, 0), []),
  (.bipush 9, 2, (9, 0), []),
  (.newarray .int, 2, (0, 0), [[1071]]),
  (.putfield 25, 3, (0, 0), [[4, 1083, 0, 1], [9]]),
  (.aload_n 0, 1, (0, 0), []),
  (.bipush 9, 2, (9, 0), []),
  (.newarray .int, 2, (0, 0), [[1071]]),
  (.putfield 28, 3, (0, 0), [[5, 1086, 0, 1], [9]]),
  (.aload_n 0, 1, (0, 0), []),
  (.bipush 9, 2, (9, 0), []),
  (.newarray .int, 2, (0, 0), [[1071]]),
  (.putfield 31, 3, (0, 0), [[6, 1088, 0, 1], [9]]),
  (.aload_n 0, 1, (0, 0), []),
  (.iconst 0, 1, (0, 0), []),
  (.putfield 34, 3, (0, 0), [[7, 1090, 0, 0], [9]]),
  (.aload_n 0, 1, (0, 0), []),
  (.bipush 7, 2, (7, 0), []),
  (.newarray .int, 2, (0, 0), [[1071]]),
  (.putfield 37, 3, (0, 0), [[8, 1092, 0, 1], [9]]),
  (.aload_n 0, 1, (0, 0), []),
  (.iconst 1, 1, (1, 0), []),
  (.putfield 40, 3, (0, 0), [[9, 1094, 0, 0], [9]]),
  (.aload_n 0, 1, (0, 0), []),
  (.new 43, 3, (0, 0), [[5, 7, 1036, 1037, 1003]]),
  (.dup, 1, (0, 0), []),
  (.invokespecial 45, 3, (0, 0), [[0, 25, 1, 1039, 1]])]
def qX9_init_83 : List mO := [(.putfield 46, 3, (0, 0), [[10, 1096, 0, 1], [9]]),
  (.aload_n 0, 1, (0, 0), []),
  (.iconst 0, 1, (0, 0), []),
  (.putfield 50, 3, (0, 0), [[11, 1099, 0, 0], [9]]),
  (.aload_n 0, 1, (0, 0), []),
  (.bipush 6, 2, (6, 0), []),
  (.newarray .int, 2, (0, 0), [[1071]]),
  (.putfield 53, 3, (0, 0), [[12, 1101, 0, 1], [9]]),
  (.aload_n 0, 1, (0, 0), []),
  (.bipush 6, 2, (6, 0), []),
  (.newarray .int, 2, (0, 0), [[1071]]),
  (.putfield 56, 3, (0, 0), [[13, 1103, 0, 1], [9]]),
  (.aload_n 0, 1, (0, 0), []),
  (.bipush 6, 2, (6, 0), []),
  (.newarray .int, 2, (0, 0), [[1071]]),
  (.putfield 59, 3, (0, 0), [[14, 1105, 0, 1], [9]]),
  (.return_, 1, (0, 0), [])]
def pX9_init : List (Nat × List mO) := [(0, qX9_init_0), (83, qX9_init_83)]
def qX9_isTower_0 : List mO := [(.iload_n 1, 1, (0, 0), []),
  (.ifCond .lt 15, 3, (0, 0), [[16]]),
  (.iload_n 1, 1, (0, 0), []),
  (.aload_n 0, 1, (0, 0), []),
  (.getfield 9, 3, (0, 0), [[0, 1072, 0, 0], [9]]),
  (.if_icmp .ge 7, 3, (0, 0), [[16]]),
  (.iconst 1, 1, (1, 0), []),
  (.goto 4, 3, (0, 0), [[17]])]
def qX9_isTower_16 : List mO := [(.iconst 0, 1, (0, 0), [])]
def qX9_isTower_17 : List mO := [(.ireturn, 1, (0, 0), [[1]])]
def pX9_isTower : List (Nat × List mO) := [(0, qX9_isTower_0), (16, qX9_isTower_16), (17, qX9_isTower_17)]
def qX9_holding_0 : List mO := [(.iconst 0, 1, (0, 0), []),
  (.istore_n 1, 1, (0, 0), []),
  (.iconst 0, 1, (0, 0), []),
  (.istore_n 2, 1, (0, 0), [])]
def qX9_holding_4 : List mO := [(.iload_n 2, 1, (0, 0), []),
  (.aload_n 0, 1, (0, 0), []),
  (.getfield 9, 3, (0, 0), [[0, 1072, 0, 0], [9]]),
  (.if_icmp .ge 23, 3, (0, 0), [[32]]),
  (.aload_n 0, 1, (0, 0), []),
  (.getfield 31, 3, (0, 0), [[6, 1088, 0, 1], [9]]),
  (.iload_n 2, 1, (0, 0), []),
  (.iaload, 1, (0, 0), []),
  (.bipush (-9), 2, ((-9), 0), []),
  (.if_icmp .eq 6, 3, (0, 0), [[26]]),
  (.iinc 1 1, 3, (1, 0), [])]
def qX9_holding_26 : List mO := [(.iinc 2 1, 3, (1, 0), []),
  (.goto (-25), 3, (0, 0), [[4]])]
def qX9_holding_32 : List mO := [(.iload_n 1, 1, (0, 0), []),
  (.ireturn, 1, (0, 0), [])]
def pX9_holding : List (Nat × List mO) := [(0, qX9_holding_0), (4, qX9_holding_4), (26, qX9_holding_26), (32, qX9_holding_32)]
def qX9_minutesAMile_0 : List mO := [(.iload_n 2, 1, (0, 0), []),
  (.ifCond .eq 14, 3, (0, 0), [[15]]),
  (.iconst 4, 1, (4, 0), []),
  (.aload_n 0, 1, (0, 0), []),
  (.getfield 37, 3, (0, 0), [[8, 1092, 0, 1], [9]]),
  (.iload_n 1, 1, (0, 0), []),
  (.iaload, 1, (0, 0), []),
  (.iadd, 1, (0, 0), []),
  (.goto 11, 3, (0, 0), [[23]])]
def qX9_minutesAMile_15 : List mO := [(.iconst 4, 1, (4, 0), []),
  (.aload_n 0, 1, (0, 0), []),
  (.getfield 37, 3, (0, 0), [[8, 1092, 0, 1], [9]]),
  (.iload_n 1, 1, (0, 0), []),
  (.iaload, 1, (0, 0), []),
  (.isub, 1, (0, 0), [])]
def qX9_minutesAMile_23 : List mO := [(.ireturn, 1, (0, 0), [])]
def pX9_minutesAMile : List (Nat × List mO) := [(0, qX9_minutesAMile_0), (15, qX9_minutesAMile_15), (23, qX9_minutesAMile_23)]
def qX9_ruleFor_0 : List mO := [(.aload_n 0, 1, (0, 0), []),
  (.getfield 59, 3, (0, 0), [[14, 1105, 0, 1], [9]]),
  (.iconst 0, 1, (0, 0), []),
  (.iload_n 2, 1, (0, 0), []),
  (.iastore, 1, (0, 0), []),
  (.aload_n 0, 1, (0, 0), []),
  (.getfield 59, 3, (0, 0), [[14, 1105, 0, 1], [9]]),
  (.iconst 1, 1, (1, 0), []),
  (.aload_n 0, 1, (0, 0), []),
  (.getfield 37, 3, (0, 0), [[8, 1092, 0, 1], [9]]),
  (.iload_n 2, 1, (0, 0), []),
  (.iaload, 1, (0, 0), []),
  (.iconst 3, 1, (3, 0), []),
  (.iadd, 1, (0, 0), []),
  (.iastore, 1, (0, 0), []),
  (.aload_n 0, 1, (0, 0), []),
  (.getfield 59, 3, (0, 0), [[14, 1105, 0, 1], [9]]),
  (.iconst 2, 1, (2, 0), []),
  (.aload_n 0, 1, (0, 0), []),
  (.getfield 19, 3, (0, 0), [[2, 1078, 0, 1], [9]]),
  (.iload_n 1, 1, (0, 0), []),
  (.iaload, 1, (0, 0), []),
  (.iastore, 1, (0, 0), []),
  (.aload_n 0, 1, (0, 0), []),
  (.getfield 59, 3, (0, 0), [[14, 1105, 0, 1], [9]]),
  (.iconst 3, 1, (3, 0), []),
  (.aload_n 0, 1, (0, 0), []),
  (.getfield 22, 3, (0, 0), [[3, 1080, 0, 1], [9]]),
  (.iload_n 1, 1, (0, 0), []),
  (.iaload, 1, (0, 0), []),
  (.iastore, 1, (0, 0), []),
  (.aload_n 0, 1, (0, 0), []),
  (.getfield 59, 3, (0, 0), [[14, 1105, 0, 1], [9]]),
  (.iconst 4, 1, (4, 0), []),
  (.aload_n 0, 1, (0, 0), []),
  (.getfield 25, 3, (0, 0), [[4, 1083, 0, 1], [9]]),
  (.iload_n 1, 1, (0, 0), []),
  (.iaload, 1, (0, 0), []),
  (.iastore, 1, (0, 0), []),
  (.aload_n 0, 1, (0, 0), []),
  (.getfield 59, 3, (0, 0), [[14, 1105, 0, 1], [9]]),
  (.iconst 5, 1, (5, 0), []),
  (.iload_n 1, 1, (0, 0), []),
  (.iastore, 1, (0, 0), []),
  (.aload_n 0, 1, (0, 0), []),
  (.getfield 46, 3, (0, 0), [[10, 1096, 0, 1], [9]]),
  (.aload_n 0, 1, (0, 0), []),
  (.getfield 15, 3, (0, 0), [[1, 1075, 0, 1], [9]]),
  (.iload_n 1, 1, (0, 0), []),
  (.iaload, 1, (0, 0), []),
  (.aload_n 0, 1, (0, 0), []),
  (.getfield 59, 3, (0, 0), [[14, 1105, 0, 1], [9]]),
  (.invokevirtual 62, 3, (0, 0), [[2, 2168, 0], [5, 29, 2170, 2169]])]
def qX9_ruleFor_81 : List mO := [(.ireturn, 1, (0, 0), [])]
def pX9_ruleFor : List (Nat × List mO) := [(0, qX9_ruleFor_0), (81, qX9_ruleFor_81)]
def qX9_addedBy_0 : List mO := [(.aload_n 0, 1, (0, 0), []),
  (.getfield 46, 3, (0, 0), [[10, 1096, 0, 1], [9]]),
  (.iload_n 1, 1, (0, 0), []),
  (.aload_n 0, 1, (0, 0), []),
  (.getfield 19, 3, (0, 0), [[2, 1078, 0, 1], [9]]),
  (.iload_n 2, 1, (0, 0), []),
  (.iaload, 1, (0, 0), []),
  (.aload_n 0, 1, (0, 0), []),
  (.getfield 25, 3, (0, 0), [[4, 1083, 0, 1], [9]]),
  (.iload_n 2, 1, (0, 0), []),
  (.iaload, 1, (0, 0), []),
  (.invokevirtual 66, 3, (0, 0), [[3, 2186, 0], [5, 33, 2188, 2187]])]
def qX9_addedBy_20 : List mO := [(.istore 4, 2, (0, 0), []),
  (.aload_n 0, 1, (0, 0), []),
  (.getfield 15, 3, (0, 0), [[1, 1075, 0, 1], [9]]),
  (.iload_n 2, 1, (0, 0), []),
  (.iaload, 1, (0, 0), []),
  (.tableswitch 75 2 5 #[32, 37, 55, 65], 32, (0, 0), [[103], [2, 60], [3, 65], [4, 83], [5, 93]])]
def qX9_addedBy_60 : List mO := [(.iconst 2, 1, (2, 0), []),
  (.iload 4, 2, (0, 0), []),
  (.imul, 1, (0, 0), []),
  (.ireturn, 1, (0, 0), [])]
def qX9_addedBy_65 : List mO := [(.iconst 2, 1, (2, 0), []),
  (.iload 4, 2, (0, 0), []),
  (.imul, 1, (0, 0), []),
  (.iload_n 3, 1, (0, 0), []),
  (.bipush 6, 2, (6, 0), []),
  (.if_icmp .ne 8, 3, (0, 0), [[80]]),
  (.bipush 10, 2, (10, 0), []),
  (.goto 4, 3, (0, 0), [[81]])]
def qX9_addedBy_80 : List mO := [(.iconst 0, 1, (0, 0), [])]
def qX9_addedBy_81 : List mO := [(.iadd, 1, (0, 0), []),
  (.ireturn, 1, (0, 0), [])]
def qX9_addedBy_83 : List mO := [(.iload 4, 2, (0, 0), []),
  (.aload_n 0, 1, (0, 0), []),
  (.getfield 22, 3, (0, 0), [[3, 1080, 0, 1], [9]]),
  (.iload_n 2, 1, (0, 0), []),
  (.iaload, 1, (0, 0), []),
  (.iadd, 1, (0, 0), []),
  (.ireturn, 1, (0, 0), [])]
def qX9_addedBy_93 : List mO := [(.iload 4, 2, (0, 0), []),
  (.aload_n 0, 1, (0, 0), []),
  (.getfield 22, 3, (0, 0), [[3, 1080, 0, 1], [9]]),
  (.iload_n 2, 1, (0, 0), []),
  (.iaload, 1, (0, 0), []),
  (.iadd, 1, (0, 0), []),
  (.ireturn, 1, (0, 0), [])]
def qX9_addedBy_103 : List mO := [(.iload 4, 2, (0, 0), []),
  (.ireturn, 1, (0, 0), [])]
def pX9_addedBy : List (Nat × List mO) := [(0, qX9_addedBy_0), (20, qX9_addedBy_20), (60, qX9_addedBy_60), (65, qX9_addedBy_65), (80, qX9_addedBy_80), (81, qX9_addedBy_81), (83, qX9_addedBy_83), (93, qX9_addedBy_93), (103, qX9_addedBy_103)]
def qX9_copyFrom_0 : List mO := [(.aload_n 0, 1, (0, 0), []),
  (.aload_n 1, 1, (0, 0), []),
  (.getfield 9, 3, (0, 0), [[0, 1072, 0, 0], [9]]),
  (.putfield 9, 3, (0, 0), [[0, 1072, 0, 0], [9]]),
  (.aload_n 1, 1, (0, 0), []),
  (.getfield 15, 3, (0, 0), [[1, 1075, 0, 1], [9]]),
  (.iconst 0, 1, (0, 0), []),
  (.aload_n 0, 1, (0, 0), []),
  (.getfield 15, 3, (0, 0), [[1, 1075, 0, 1], [9]]),
  (.iconst 0, 1, (0, 0), []),
  (.bipush 9, 2, (9, 0), []),
  (.invokestatic 70, 3, (0, 0), [[5, 998, 5100, 3160, 3159, 1018]]),
  (.aload_n 1, 1, (0, 0), []),
  (.getfield 19, 3, (0, 0), [[2, 1078, 0, 1], [9]]),
  (.iconst 0, 1, (0, 0), []),
  (.aload_n 0, 1, (0, 0), []),
  (.getfield 19, 3, (0, 0), [[2, 1078, 0, 1], [9]]),
  (.iconst 0, 1, (0, 0), []),
  (.bipush 9, 2, (9, 0), []),
  (.invokestatic 70, 3, (0, 0), [[5, 998, 5100, 3160, 3159, 1018]]),
  (.aload_n 1, 1, (0, 0), []),
  (.getfield 22, 3, (0, 0), [[3, 1080, 0, 1], [9]]),
  (.iconst 0, 1, (0, 0), []),
  (.aload_n 0, 1, (0, 0), []),
  (.getfield 22, 3, (0, 0), [[3, 1080, 0, 1], [9]]),
  (.iconst 0, 1, (0, 0), []),
  (.bipush 9, 2, (9, 0), []),
  (.invokestatic 70, 3, (0, 0), [[5, 998, 5100, 3160, 3159, 1018]]),
  (.aload_n 1, 1, (0, 0), []),
  (.getfield 25, 3, (0, 0), [[4, 1083, 0, 1], [9]]),
  (.iconst 0, 1, (0, 0), []),
  (.aload_n 0, 1, (0, 0), []),
  (.getfield 25, 3, (0, 0), [[4, 1083, 0, 1], [9]]),
  (.iconst 0, 1, (0, 0), []),
  (.bipush 9, 2, (9, 0), []),
  (.invokestatic 70, 3, (0, 0), [[5, 998, 5100, 3160, 3159, 1018]]),
  (.aload_n 1, 1, (0, 0), []),
  (.getfield 28, 3, (0, 0), [[5, 1086, 0, 1], [9]]),
  (.iconst 0, 1, (0, 0), []),
  (.aload_n 0, 1, (0, 0), []),
  (.getfield 28, 3, (0, 0), [[5, 1086, 0, 1], [9]]),
  (.iconst 0, 1, (0, 0), []),
  (.bipush 9, 2, (9, 0), []),
  (.invokestatic 70, 3, (0, 0), [[5, 998, 5100, 3160, 3159, 1018]]),
  (.aload_n 1, 1, (0, 0), []),
  (.getfield 31, 3, (0, 0), [[6, 1088, 0, 1], [9]]),
  (.iconst 0, 1, (0, 0), []),
  (.aload_n 0, 1, (0, 0), []),
  (.getfield 31, 3, (0, 0), [[6, 1088, 0, 1], [9]]),
  (.iconst 0, 1, (0, 0), []),
  (.bipush 9, 2, (9, 0), []),
  (.invokestatic 70, 3, (0, 0), [[5, 998, 5100, 3160, 3159, 1018]]),
  (.aload_n 0, 1, (0, 0), []),
  (.aload_n 1, 1, (0, 0), []),
  (.getfield 34, 3, (0, 0), [[7, 1090, 0, 0], [9]]),
  (.putfield 34, 3, (0, 0), [[7, 1090, 0, 0], [9]]),
  (.aload_n 1, 1, (0, 0), []),
  (.getfield 37, 3, (0, 0), [[8, 1092, 0, 1], [9]]),
  (.iconst 0, 1, (0, 0), []),
  (.aload_n 0, 1, (0, 0), []),
  (.getfield 37, 3, (0, 0), [[8, 1092, 0, 1], [9]]),
  (.iconst 0, 1, (0, 0), []),
  (.bipush 7, 2, (7, 0), []),
  (.invokestatic 70, 3, (0, 0), [[5, 998, 5100, 3160, 3159, 1018]]),
  (.aload_n 0, 1, (0, 0), []),
  (.aload_n 1, 1, (0, 0), []),
  (.getfield 40, 3, (0, 0), [[9, 1094, 0, 0], [9]]),
  (.putfield 40, 3, (0, 0), [[9, 1094, 0, 0], [9]]),
  (.aload_n 0, 1, (0, 0), []),
  (.getfield 46, 3, (0, 0), [[10, 1096, 0, 1], [9]]),
  (.aload_n 1, 1, (0, 0), []),
  (.getfield 46, 3, (0, 0), [[10, 1096, 0, 1], [9]]),
  (.invokevirtual 76, 3, (0, 0), [[1, 5101, 0], [5, 34, 3156, 3155]])]
def qX9_copyFrom_140 : List mO := [(.aload_n 0, 1, (0, 0), []),
  (.aload_n 1, 1, (0, 0), []),
  (.getfield 50, 3, (0, 0), [[11, 1099, 0, 0], [9]]),
  (.putfield 50, 3, (0, 0), [[11, 1099, 0, 0], [9]]),
  (.aload_n 1, 1, (0, 0), []),
  (.getfield 53, 3, (0, 0), [[12, 1101, 0, 1], [9]]),
  (.iconst 0, 1, (0, 0), []),
  (.aload_n 0, 1, (0, 0), []),
  (.getfield 53, 3, (0, 0), [[12, 1101, 0, 1], [9]]),
  (.iconst 0, 1, (0, 0), []),
  (.bipush 6, 2, (6, 0), []),
  (.invokestatic 70, 3, (0, 0), [[5, 998, 5100, 3160, 3159, 1018]]),
  (.aload_n 1, 1, (0, 0), []),
  (.getfield 56, 3, (0, 0), [[13, 1103, 0, 1], [9]]),
  (.iconst 0, 1, (0, 0), []),
  (.aload_n 0, 1, (0, 0), []),
  (.getfield 56, 3, (0, 0), [[13, 1103, 0, 1], [9]]),
  (.iconst 0, 1, (0, 0), []),
  (.bipush 6, 2, (6, 0), []),
  (.invokestatic 70, 3, (0, 0), [[5, 998, 5100, 3160, 3159, 1018]]),
  (.return_, 1, (0, 0), [])]
def pX9_copyFrom : List (Nat × List mO) := [(0, qX9_copyFrom_0), (140, qX9_copyFrom_140)]
def qX10_init_0 : List mO := [(.aload_n 0, 1, (0, 0), []),
  (.invokespecial 1, 3, (0, 0), [[0, 999, 2012, 1028, 1029]]),
  (.aload_n 0, 1, (0, 0), []),
  (.iconst 0, 1, (0, 0), []),
  (.putfield 7, 3, (0, 0), [[1, 2024, 0, 0], [1, 2, 3, 4, 7, 10]]),
  (.aload_n 0, 1, (0, 0), []),
  (.iconst 0, 1, (0, 0), []),
  (.putfield 13, 3, (0, 0), [[2, 2028, 0, 0], [1, 2, 3, 4, 7, 10]]),
  (.aload_n 0, 1, (0, 0), []),
  (.aload_n 1, 1, (0, 0), []),
  (.putfield 16, 3, (0, 0), [[0, 2013, 0, 1], [1, 2, 3, 4, 7, 10]]),
  (.return_, 1, (0, 0), [])]
def pX10_init : List (Nat × List mO) := [(0, qX10_init_0)]
def qX10_cries_0 : List mO := [(.aload_n 0, 1, (0, 0), []),
  (.getfield 16, 3, (0, 0), [[0, 2013, 0, 1], [1, 2, 3, 4, 7, 10]]),
  (.bipush 10, 2, (10, 0), []),
  (.invokevirtual 20, 3, (0, 0), [[1, 5022, 0], [8, 66, 5008, 5007]])]
def qX10_cries_9 : List mO := [(.iload_n 1, 1, (0, 0), []),
  (.aload_n 0, 1, (0, 0), []),
  (.getfield 7, 3, (0, 0), [[1, 2024, 0, 0], [1, 2, 3, 4, 7, 10]]),
  (.iadd, 1, (0, 0), []),
  (.ireturn, 1, (0, 0), [])]
def pX10_cries : List (Nat × List mO) := [(0, qX10_cries_0), (9, qX10_cries_9)]
def qX10_hears_0 : List mO := [(.aload_n 0, 1, (0, 0), []),
  (.getfield 16, 3, (0, 0), [[0, 2013, 0, 1], [1, 2, 3, 4, 7, 10]]),
  (.bipush 11, 2, (11, 0), []),
  (.invokevirtual 20, 3, (0, 0), [[1, 5022, 0], [8, 66, 5008, 5007]])]
def qX10_hears_9 : List mO := [(.aload_n 0, 1, (0, 0), []),
  (.iload_n 1, 1, (0, 0), []),
  (.invokevirtual 26, 3, (0, 0), [[1, 5043, 1, 5002, 5000, 5021], [1, 17, 5003, 5004], [2, 75, 5013, 5000], [3, 22, 5014, 5015], [4, 75, 5019, 5000], [7, 75, 5020, 5000], [10, 75, 5001, 5000]])]
def qX10_hears_14 : List mO := [(.iconst 2, 1, (2, 0), []),
  (.imul, 1, (0, 0), []),
  (.ireturn, 1, (0, 0), [])]
def pX10_hears : List (Nat × List mO) := [(0, qX10_hears_0), (9, qX10_hears_9), (14, qX10_hears_14)]
def qX10_shares_0 : List mO := [(.aload_n 0, 1, (0, 0), []),
  (.getfield 16, 3, (0, 0), [[0, 2013, 0, 1], [1, 2, 3, 4, 7, 10]]),
  (.bipush 12, 2, (12, 0), []),
  (.invokevirtual 20, 3, (0, 0), [[1, 5022, 0], [8, 66, 5008, 5007]])]
def qX10_shares_9 : List mO := [(.aload_n 0, 1, (0, 0), []),
  (.getfield 13, 3, (0, 0), [[2, 2028, 0, 0], [1, 2, 3, 4, 7, 10]]),
  (.aload_n 0, 1, (0, 0), []),
  (.getfield 7, 3, (0, 0), [[1, 2024, 0, 0], [1, 2, 3, 4, 7, 10]]),
  (.isub, 1, (0, 0), []),
  (.istore_n 2, 1, (0, 0), []),
  (.iload_n 2, 1, (0, 0), []),
  (.ifCond .ne 13, 3, (0, 0), [[33]]),
  (.aload_n 0, 1, (0, 0), []),
  (.getfield 16, 3, (0, 0), [[0, 2013, 0, 1], [1, 2, 3, 4, 7, 10]]),
  (.iconst 1, 1, (1, 0), []),
  (.putfield 30, 3, (0, 0), [[2, 1237, 0, 0], [8]]),
  (.iconst 0, 1, (0, 0), []),
  (.ireturn, 1, (0, 0), [])]
def qX10_shares_33 : List mO := [(.iload_n 1, 1, (0, 0), []),
  (.iload_n 2, 1, (0, 0), []),
  (.idiv, 1, (0, 0), []),
  (.ireturn, 1, (0, 0), [])]
def pX10_shares : List (Nat × List mO) := [(0, qX10_shares_0), (9, qX10_shares_9), (33, qX10_shares_33)]
def qX10_tells_0 : List mO := [(.aload_n 0, 1, (0, 0), []),
  (.getfield 16, 3, (0, 0), [[0, 2013, 0, 1], [1, 2, 3, 4, 7, 10]]),
  (.bipush 13, 2, (13, 0), []),
  (.invokevirtual 20, 3, (0, 0), [[1, 5022, 0], [8, 66, 5008, 5007]])]
def qX10_tells_9 : List mO := [(.aload_n 0, 1, (0, 0), []),
  (.iload_n 1, 1, (0, 0), []),
  (.invokevirtual 34, 3, (0, 0), [[1, 5083, 1, 5026, 5024, 5042], [1, 24, 5027, 5028], [2, 76, 5032, 5024], [3, 76, 5033, 5024], [4, 24, 5034, 5028], [7, 62, 5035, 5036], [10, 76, 5025, 5024]])]
def qX10_tells_14 : List mO := [(.aload_n 0, 1, (0, 0), []),
  (.getfield 13, 3, (0, 0), [[2, 2028, 0, 0], [1, 2, 3, 4, 7, 10]]),
  (.ixor, 1, (0, 0), []),
  (.ireturn, 1, (0, 0), [])]
def pX10_tells : List (Nat × List mO) := [(0, qX10_tells_0), (9, qX10_tells_9), (14, qX10_tells_14)]
def qX11_init_0 : List mO := [(.aload_n 0, 1, (0, 0), []),
  (.invokespecial 1, 3, (0, 0), [[0, 999, 1027, 1028, 1029]]),
  (.aload_n 0, 1, (0, 0), []),
  (.new 7, 3, (0, 0), [[9, 15, 1030, 1031, 1002]]),
  (.dup, 1, (0, 0), []),
  (.invokespecial 9, 3, (0, 0), [[0, 67, 0, 1033, 1]])]
def qX11_init_12 : List mO := [(.putfield 10, 3, (0, 0), [[0, 2091, 0, 1], [11]]),
  (.aload_n 0, 1, (0, 0), []),
  (.new 7, 3, (0, 0), [[9, 15, 1030, 1031, 1002]]),
  (.dup, 1, (0, 0), []),
  (.invokespecial 9, 3, (0, 0), [[0, 67, 0, 1033, 1]])]
def qX11_init_23 : List mO := [(.putfield 16, 3, (0, 0), [[1, 2092, 0, 1], [11]]),
  (.aload_n 0, 1, (0, 0), []),
  (.iconst 0, 1, (0, 0), []),
  (.putfield 19, 3, (0, 0), [[2, 2093, 0, 0], [11]]),
  (.aload_n 0, 1, (0, 0), []),
  (.new 23, 3, (0, 0), [[6, 13, 1137, 1138, 1004]]),
  (.dup, 1, (0, 0), []),
  (.invokespecial 25, 3, (0, 0), [[0, 35, 2, 1140, 1]])]
def qX11_init_39 : List mO := [(.putfield 26, 3, (0, 0), [[3, 2094, 0, 1], [11]]),
  (.aload_n 0, 1, (0, 0), []),
  (.new 30, 3, (0, 0), [[0, 8, 1189, 1190, 1005]]),
  (.dup, 1, (0, 0), []),
  (.aload_n 0, 1, (0, 0), []),
  (.getfield 10, 3, (0, 0), [[0, 2091, 0, 1], [11]]),
  (.invokespecial 32, 3, (0, 0), [[1, 0, 1191, 1192, 0]])]
def qX11_init_54 : List mO := [(.putfield 35, 3, (0, 0), [[4, 2095, 0, 1], [11]]),
  (.aload_n 0, 1, (0, 0), []),
  (.new 30, 3, (0, 0), [[0, 8, 1189, 1190, 1005]]),
  (.dup, 1, (0, 0), []),
  (.aload_n 0, 1, (0, 0), []),
  (.getfield 10, 3, (0, 0), [[0, 2091, 0, 1], [11]]),
  (.invokespecial 32, 3, (0, 0), [[1, 0, 1191, 1192, 0]])]
def qX11_init_69 : List mO := [(.putfield 39, 3, (0, 0), [[5, 2096, 0, 1], [11]]),
  (.aload_n 0, 1, (0, 0), []),
  (.bipush 7, 2, (7, 0), []),
  (.newarray .boolean, 2, (0, 0), [[1223]]),
  (.putfield 42, 3, (0, 0), [[6, 2097, 0, 1], [11]]),
  (.aload_n 0, 1, (0, 0), []),
  (.bipush 7, 2, (7, 0), []),
  (.newarray .int, 2, (0, 0), [[1071]]),
  (.putfield 46, 3, (0, 0), [[7, 2098, 0, 1], [11]]),
  (.aload_n 0, 1, (0, 0), []),
  (.iconst 0, 1, (0, 0), []),
  (.putfield 50, 3, (0, 0), [[8, 2099, 0, 0], [11]]),
  (.aload_n 0, 1, (0, 0), []),
  (.bipush 9, 2, (9, 0), []),
  (.iconst 3, 1, (3, 0), []),
  (.multianewarray 54 2, 4, (0, 0), [[1224, 1071]]),
  (.putfield 56, 3, (0, 0), [[9, 2100, 0, 1], [11]]),
  (.aload_n 0, 1, (0, 0), []),
  (.iconst 4, 1, (4, 0), []),
  (.newarray .int, 2, (0, 0), [[1071]]),
  (.dup, 1, (0, 0), []),
  (.iconst 0, 1, (0, 0), []),
  (.iconst (-1), 1, ((-1), 0), []),
  (.iastore, 1, (0, 0), []),
  (.dup, 1, (0, 0), []),
  (.iconst 1, 1, (1, 0), []),
  (.iconst (-1), 1, ((-1), 0), []),
  (.iastore, 1, (0, 0), []),
  (.dup, 1, (0, 0), []),
  (.iconst 2, 1, (2, 0), []),
  (.iconst (-1), 1, ((-1), 0), []),
  (.iastore, 1, (0, 0), []),
  (.dup, 1, (0, 0), []),
  (.iconst 3, 1, (3, 0), []),
  (.iconst (-1), 1, ((-1), 0), []),
  (.iastore, 1, (0, 0), []),
  (.putfield 59, 3, (0, 0), [[10, 2101, 0, 1], [11]]),
  (.aload_n 0, 1, (0, 0), []),
  (.iconst 4, 1, (4, 0), []),
  (.newarray .int, 2, (0, 0), [[1071]]),
  (.putfield 62, 3, (0, 0), [[11, 2102, 0, 1], [11]]),
  (.aload_n 0, 1, (0, 0), []),
  (.iconst 4, 1, (4, 0), []),
  (.bipush 40, 2, (40, 0), []),
  (.multianewarray 54 2, 4, (0, 0), [[1224, 1071]]),
  (.putfield 65, 3, (0, 0), [[12, 2103, 0, 1], [11]]),
  (.aload_n 0, 1, (0, 0), []),
  (.iconst 4, 1, (4, 0), []),
  (.newarray .int, 2, (0, 0), [[1071]]),
  (.dup, 1, (0, 0), []),
  (.iconst 0, 1, (0, 0), []),
  (.iconst 2, 1, (2, 0), []),
  (.iastore, 1, (0, 0), []),
  (.dup, 1, (0, 0), []),
  (.iconst 1, 1, (1, 0), []),
  (.iconst 2, 1, (2, 0), []),
  (.iastore, 1, (0, 0), []),
  (.dup, 1, (0, 0), []),
  (.iconst 2, 1, (2, 0), []),
  (.iconst 2, 1, (2, 0), []),
  (.iastore, 1, (0, 0), []),
  (.dup, 1, (0, 0), []),
  (.iconst 3, 1, (3, 0), []),
  (.iconst 2, 1, (2, 0), []),
  (.iastore, 1, (0, 0), []),
  (.putfield 68, 3, (0, 0), [[13, 2104, 0, 1], [11]]),
  (.aload_n 0, 1, (0, 0), []),
  (.iconst 4, 1, (4, 0), []),
  (.newarray .int, 2, (0, 0), [[1071]]),
  (.putfield 71, 3, (0, 0), [[14, 2105, 0, 1], [11]]),
  (.aload_n 0, 1, (0, 0), []),
  (.iconst 4, 1, (4, 0), []),
  (.newarray .int, 2, (0, 0), [[1071]]),
  (.putfield 74, 3, (0, 0), [[15, 2106, 0, 1], [11]]),
  (.aload_n 0, 1, (0, 0), []),
  (.new 77, 3, (0, 0), [[8, 3, 1226, 1227, 1006]]),
  (.dup, 1, (0, 0), []),
  (.invokespecial 79, 3, (0, 0), [[0, 64, 4, 1229, 1]])]
def qX11_init_190 : List mO := [(.putfield 80, 3, (0, 0), [[16, 2107, 0, 1], [11]]),
  (.aload_n 0, 1, (0, 0), []),
  (.bipush 6, 2, (6, 0), []),
  (.anewarray 84, 3, (0, 0), [[2006]]),
  (.dup, 1, (0, 0), []),
  (.iconst 0, 1, (0, 0), []),
  (.new 84, 3, (0, 0), [[10, 3, 2006, 2008, 1007]]),
  (.dup, 1, (0, 0), []),
  (.aload_n 0, 1, (0, 0), []),
  (.getfield 80, 3, (0, 0), [[16, 2107, 0, 1], [11]]),
  (.invokespecial 86, 3, (0, 0), [[1, 74, 2009, 2010, 0]])]
def qX11_init_212 : List mO := [(.aastore, 1, (0, 0), []),
  (.dup, 1, (0, 0), []),
  (.iconst 1, 1, (1, 0), []),
  (.new 89, 3, (0, 0), [[3, 3, 2041, 2042, 1008]]),
  (.dup, 1, (0, 0), []),
  (.aload_n 0, 1, (0, 0), []),
  (.getfield 80, 3, (0, 0), [[16, 2107, 0, 1], [11]]),
  (.invokespecial 91, 3, (0, 0), [[1, 21, 2043, 2044, 0]])]
def qX11_init_226 : List mO := [(.aastore, 1, (0, 0), []),
  (.dup, 1, (0, 0), []),
  (.iconst 2, 1, (2, 0), []),
  (.new 92, 3, (0, 0), [[4, 3, 2051, 2052, 1009]]),
  (.dup, 1, (0, 0), []),
  (.aload_n 0, 1, (0, 0), []),
  (.getfield 80, 3, (0, 0), [[16, 2107, 0, 1], [11]]),
  (.invokespecial 94, 3, (0, 0), [[1, 23, 2053, 2054, 0]])]
def qX11_init_240 : List mO := [(.aastore, 1, (0, 0), []),
  (.dup, 1, (0, 0), []),
  (.iconst 3, 1, (3, 0), []),
  (.new 95, 3, (0, 0), [[1, 3, 2061, 2062, 1010]]),
  (.dup, 1, (0, 0), []),
  (.aload_n 0, 1, (0, 0), []),
  (.getfield 80, 3, (0, 0), [[16, 2107, 0, 1], [11]]),
  (.invokespecial 97, 3, (0, 0), [[1, 16, 2063, 2064, 0]])]
def qX11_init_254 : List mO := [(.aastore, 1, (0, 0), []),
  (.dup, 1, (0, 0), []),
  (.iconst 4, 1, (4, 0), []),
  (.new 98, 3, (0, 0), [[2, 3, 2071, 2072, 1011]]),
  (.dup, 1, (0, 0), []),
  (.aload_n 0, 1, (0, 0), []),
  (.getfield 80, 3, (0, 0), [[16, 2107, 0, 1], [11]]),
  (.invokespecial 100, 3, (0, 0), [[1, 19, 2073, 2074, 0]])]
def qX11_init_268 : List mO := [(.aastore, 1, (0, 0), []),
  (.dup, 1, (0, 0), []),
  (.iconst 5, 1, (5, 0), []),
  (.new 101, 3, (0, 0), [[7, 3, 2081, 2082, 1012]]),
  (.dup, 1, (0, 0), []),
  (.aload_n 0, 1, (0, 0), []),
  (.getfield 80, 3, (0, 0), [[16, 2107, 0, 1], [11]]),
  (.invokespecial 103, 3, (0, 0), [[1, 61, 2083, 2084, 0]])]
def qX11_init_282 : List mO := [(.aastore, 1, (0, 0), []),
  (.putfield 104, 3, (0, 0), [[17, 2108, 0, 1], [11]]),
  (.return_, 1, (0, 0), [])]
def pX11_init : List (Nat × List mO) := [(0, qX11_init_0), (12, qX11_init_12), (23, qX11_init_23), (39, qX11_init_39), (54, qX11_init_54), (69, qX11_init_69), (190, qX11_init_190), (212, qX11_init_212), (226, qX11_init_226), (240, qX11_init_240), (254, qX11_init_254), (268, qX11_init_268), (282, qX11_init_282)]
def qX11_tower_0 : List mO := [(.iload_n 1, 1, (0, 0), []),
  (.invokestatic 108, 3, (0, 0), [[1, 87, 2150, 2151, 0]])]
def qX11_tower_4 : List mO := [(.ifCond .eq 28, 3, (0, 0), [[32]]),
  (.iconst 1, 1, (1, 0), []),
  (.iload_n 2, 1, (0, 0), []),
  (.invokestatic 112, 3, (0, 0), [[2, 88, 2153, 2154, 0]])]
def qX11_tower_12 : List mO := [(.ifCond .eq 20, 3, (0, 0), [[32]]),
  (.iconst 2, 1, (2, 0), []),
  (.iload_n 3, 1, (0, 0), []),
  (.invokestatic 112, 3, (0, 0), [[2, 88, 2153, 2154, 0]])]
def qX11_tower_20 : List mO := [(.ifCond .eq 12, 3, (0, 0), [[32]]),
  (.iconst 3, 1, (3, 0), []),
  (.iload 4, 2, (0, 0), []),
  (.invokestatic 112, 3, (0, 0), [[2, 88, 2153, 2154, 0]])]
def qX11_tower_29 : List mO := [(.ifCond .ne 5, 3, (0, 0), [[34]])]
def qX11_tower_32 : List mO := [(.iconst (-1), 1, ((-1), 0), []),
  (.ireturn, 1, (0, 0), [])]
def qX11_tower_34 : List mO := [(.aload_n 0, 1, (0, 0), []),
  (.getfield 10, 3, (0, 0), [[0, 2091, 0, 1], [11]]),
  (.getfield 116, 3, (0, 0), [[0, 1074, 0, 0], [9]]),
  (.bipush 9, 2, (9, 0), []),
  (.if_icmp .lt 6, 3, (0, 0), [[49]]),
  (.bipush (-2), 2, ((-2), 0), []),
  (.ireturn, 1, (0, 0), [])]
def qX11_tower_49 : List mO := [(.aload_n 0, 1, (0, 0), []),
  (.getfield 10, 3, (0, 0), [[0, 2091, 0, 1], [11]]),
  (.dup, 1, (0, 0), []),
  (.getfield 116, 3, (0, 0), [[0, 1074, 0, 0], [9]]),
  (.dup_x1, 1, (0, 0), []),
  (.iconst 1, 1, (1, 0), []),
  (.iadd, 1, (0, 0), []),
  (.putfield 116, 3, (0, 0), [[0, 1074, 0, 0], [9]]),
  (.istore 5, 2, (0, 0), []),
  (.aload_n 0, 1, (0, 0), []),
  (.getfield 10, 3, (0, 0), [[0, 2091, 0, 1], [11]]),
  (.getfield 119, 3, (0, 0), [[1, 1076, 0, 1], [9]]),
  (.iload 5, 2, (0, 0), []),
  (.iload_n 1, 1, (0, 0), []),
  (.iastore, 1, (0, 0), []),
  (.aload_n 0, 1, (0, 0), []),
  (.getfield 10, 3, (0, 0), [[0, 2091, 0, 1], [11]]),
  (.getfield 122, 3, (0, 0), [[2, 1079, 0, 1], [9]]),
  (.iload 5, 2, (0, 0), []),
  (.iload_n 2, 1, (0, 0), []),
  (.iastore, 1, (0, 0), []),
  (.aload_n 0, 1, (0, 0), []),
  (.getfield 10, 3, (0, 0), [[0, 2091, 0, 1], [11]]),
  (.getfield 125, 3, (0, 0), [[3, 1081, 0, 1], [9]]),
  (.iload 5, 2, (0, 0), []),
  (.iload_n 3, 1, (0, 0), []),
  (.iastore, 1, (0, 0), []),
  (.aload_n 0, 1, (0, 0), []),
  (.getfield 10, 3, (0, 0), [[0, 2091, 0, 1], [11]]),
  (.getfield 128, 3, (0, 0), [[4, 1084, 0, 1], [9]]),
  (.iload 5, 2, (0, 0), []),
  (.iload 4, 2, (0, 0), []),
  (.iastore, 1, (0, 0), []),
  (.aload_n 0, 1, (0, 0), []),
  (.getfield 10, 3, (0, 0), [[0, 2091, 0, 1], [11]]),
  (.getfield 131, 3, (0, 0), [[5, 1087, 0, 1], [9]]),
  (.iload 5, 2, (0, 0), []),
  (.bipush (-9), 2, ((-9), 0), []),
  (.iastore, 1, (0, 0), []),
  (.aload_n 0, 1, (0, 0), []),
  (.getfield 10, 3, (0, 0), [[0, 2091, 0, 1], [11]]),
  (.getfield 134, 3, (0, 0), [[6, 1089, 0, 1], [9]]),
  (.iload 5, 2, (0, 0), []),
  (.bipush (-9), 2, ((-9), 0), []),
  (.iastore, 1, (0, 0), []),
  (.iload 5, 2, (0, 0), []),
  (.ireturn, 1, (0, 0), [])]
def pX11_tower : List (Nat × List mO) := [(0, qX11_tower_0), (4, qX11_tower_4), (12, qX11_tower_12), (20, qX11_tower_20), (29, qX11_tower_29), (32, qX11_tower_32), (34, qX11_tower_34), (49, qX11_tower_49)]
def qX11_towerOf_0 : List mO := [(.aload_n 0, 1, (0, 0), []),
  (.getfield 10, 3, (0, 0), [[0, 2091, 0, 1], [11]]),
  (.iload_n 1, 1, (0, 0), []),
  (.invokevirtual 137, 3, (0, 0), [[1, 2160, 0], [9, 68, 2162, 2161]])]
def qX11_towerOf_8 : List mO := [(.ifCond .ne 5, 3, (0, 0), [[13]]),
  (.iconst (-1), 1, ((-1), 0), []),
  (.ireturn, 1, (0, 0), [])]
def qX11_towerOf_13 : List mO := [(.iload_n 2, 1, (0, 0), []),
  (.tableswitch 171 0 7 #[46, 56, 66, 76, 86, 117, 151, 161], 46, (0, 0), [[185], [0, 60], [1, 70], [2, 80], [3, 90], [4, 100], [5, 131], [6, 165], [7, 175]])]
def qX11_towerOf_60 : List mO := [(.aload_n 0, 1, (0, 0), []),
  (.getfield 10, 3, (0, 0), [[0, 2091, 0, 1], [11]]),
  (.getfield 119, 3, (0, 0), [[1, 1076, 0, 1], [9]]),
  (.iload_n 1, 1, (0, 0), []),
  (.iaload, 1, (0, 0), []),
  (.ireturn, 1, (0, 0), [])]
def qX11_towerOf_70 : List mO := [(.aload_n 0, 1, (0, 0), []),
  (.getfield 10, 3, (0, 0), [[0, 2091, 0, 1], [11]]),
  (.getfield 122, 3, (0, 0), [[2, 1079, 0, 1], [9]]),
  (.iload_n 1, 1, (0, 0), []),
  (.iaload, 1, (0, 0), []),
  (.ireturn, 1, (0, 0), [])]
def qX11_towerOf_80 : List mO := [(.aload_n 0, 1, (0, 0), []),
  (.getfield 10, 3, (0, 0), [[0, 2091, 0, 1], [11]]),
  (.getfield 125, 3, (0, 0), [[3, 1081, 0, 1], [9]]),
  (.iload_n 1, 1, (0, 0), []),
  (.iaload, 1, (0, 0), []),
  (.ireturn, 1, (0, 0), [])]
def qX11_towerOf_90 : List mO := [(.aload_n 0, 1, (0, 0), []),
  (.getfield 10, 3, (0, 0), [[0, 2091, 0, 1], [11]]),
  (.getfield 128, 3, (0, 0), [[4, 1084, 0, 1], [9]]),
  (.iload_n 1, 1, (0, 0), []),
  (.iaload, 1, (0, 0), []),
  (.ireturn, 1, (0, 0), [])]
def qX11_towerOf_100 : List mO := [(.aload_n 0, 1, (0, 0), []),
  (.getfield 10, 3, (0, 0), [[0, 2091, 0, 1], [11]]),
  (.aload_n 0, 1, (0, 0), []),
  (.getfield 10, 3, (0, 0), [[0, 2091, 0, 1], [11]]),
  (.iload_n 1, 1, (0, 0), []),
  (.aload_n 0, 1, (0, 0), []),
  (.getfield 10, 3, (0, 0), [[0, 2091, 0, 1], [11]]),
  (.getfield 140, 3, (0, 0), [[7, 1091, 0, 0], [9]]),
  (.invokevirtual 143, 3, (0, 0), [[2, 2164, 0], [9, 71, 2166, 2165]])]
def qX11_towerOf_119 : List mO := [(.iload_n 1, 1, (0, 0), []),
  (.aload_n 0, 1, (0, 0), []),
  (.getfield 10, 3, (0, 0), [[0, 2091, 0, 1], [11]]),
  (.getfield 140, 3, (0, 0), [[7, 1091, 0, 0], [9]]),
  (.invokevirtual 147, 3, (0, 0), [[3, 2182, 0], [9, 72, 2184, 2183]])]
def qX11_towerOf_130 : List mO := [(.ireturn, 1, (0, 0), [])]
def qX11_towerOf_131 : List mO := [(.aload_n 0, 1, (0, 0), []),
  (.getfield 10, 3, (0, 0), [[0, 2091, 0, 1], [11]]),
  (.getfield 151, 3, (0, 0), [[10, 1098, 0, 1], [9]]),
  (.aload_n 0, 1, (0, 0), []),
  (.getfield 10, 3, (0, 0), [[0, 2091, 0, 1], [11]]),
  (.iload_n 1, 1, (0, 0), []),
  (.aload_n 0, 1, (0, 0), []),
  (.getfield 10, 3, (0, 0), [[0, 2091, 0, 1], [11]]),
  (.getfield 140, 3, (0, 0), [[7, 1091, 0, 0], [9]]),
  (.invokevirtual 143, 3, (0, 0), [[2, 2164, 0], [9, 71, 2166, 2165]])]
def qX11_towerOf_153 : List mO := [(.invokevirtual 155, 3, (0, 0), [[1, 2190, 0], [5, 32, 2192, 2191]])]
def qX11_towerOf_156 : List mO := [(.ifCond .eq 7, 3, (0, 0), [[163]]),
  (.iconst 1, 1, (1, 0), []),
  (.goto 4, 3, (0, 0), [[164]])]
def qX11_towerOf_163 : List mO := [(.iconst 0, 1, (0, 0), [])]
def qX11_towerOf_164 : List mO := [(.ireturn, 1, (0, 0), [])]
def qX11_towerOf_165 : List mO := [(.aload_n 0, 1, (0, 0), []),
  (.getfield 10, 3, (0, 0), [[0, 2091, 0, 1], [11]]),
  (.getfield 131, 3, (0, 0), [[5, 1087, 0, 1], [9]]),
  (.iload_n 1, 1, (0, 0), []),
  (.iaload, 1, (0, 0), []),
  (.ireturn, 1, (0, 0), [])]
def qX11_towerOf_175 : List mO := [(.aload_n 0, 1, (0, 0), []),
  (.getfield 10, 3, (0, 0), [[0, 2091, 0, 1], [11]]),
  (.getfield 134, 3, (0, 0), [[6, 1089, 0, 1], [9]]),
  (.iload_n 1, 1, (0, 0), []),
  (.iaload, 1, (0, 0), []),
  (.ireturn, 1, (0, 0), [])]
def qX11_towerOf_185 : List mO := [(.iconst (-1), 1, ((-1), 0), []),
  (.ireturn, 1, (0, 0), [])]
def pX11_towerOf : List (Nat × List mO) := [(0, qX11_towerOf_0), (8, qX11_towerOf_8), (13, qX11_towerOf_13), (60, qX11_towerOf_60), (70, qX11_towerOf_70), (80, qX11_towerOf_80), (90, qX11_towerOf_90), (100, qX11_towerOf_100), (119, qX11_towerOf_119), (130, qX11_towerOf_130), (131, qX11_towerOf_131), (153, qX11_towerOf_153), (156, qX11_towerOf_156), (163, qX11_towerOf_163), (164, qX11_towerOf_164), (165, qX11_towerOf_165), (175, qX11_towerOf_175), (185, qX11_towerOf_185)]
def qX11_change_0 : List mO := [(.aload_n 0, 1, (0, 0), []),
  (.getfield 10, 3, (0, 0), [[0, 2091, 0, 1], [11]]),
  (.iload_n 1, 1, (0, 0), []),
  (.invokevirtual 137, 3, (0, 0), [[1, 2160, 0], [9, 68, 2162, 2161]])]
def qX11_change_8 : List mO := [(.ifCond .eq 11, 3, (0, 0), [[19]]),
  (.iload_n 2, 1, (0, 0), []),
  (.iload_n 3, 1, (0, 0), []),
  (.invokestatic 112, 3, (0, 0), [[2, 88, 2153, 2154, 0]])]
def qX11_change_16 : List mO := [(.ifCond .ne 5, 3, (0, 0), [[21]])]
def qX11_change_19 : List mO := [(.iconst (-1), 1, ((-1), 0), []),
  (.ireturn, 1, (0, 0), [])]
def qX11_change_21 : List mO := [(.iload_n 2, 1, (0, 0), []),
  (.iconst 1, 1, (1, 0), []),
  (.if_icmp .ne 13, 3, (0, 0), [[36]]),
  (.aload_n 0, 1, (0, 0), []),
  (.getfield 10, 3, (0, 0), [[0, 2091, 0, 1], [11]]),
  (.getfield 122, 3, (0, 0), [[2, 1079, 0, 1], [9]]),
  (.goto 25, 3, (0, 0), [[58]])]
def qX11_change_36 : List mO := [(.iload_n 2, 1, (0, 0), []),
  (.iconst 2, 1, (2, 0), []),
  (.if_icmp .ne 13, 3, (0, 0), [[51]]),
  (.aload_n 0, 1, (0, 0), []),
  (.getfield 10, 3, (0, 0), [[0, 2091, 0, 1], [11]]),
  (.getfield 125, 3, (0, 0), [[3, 1081, 0, 1], [9]]),
  (.goto 10, 3, (0, 0), [[58]])]
def qX11_change_51 : List mO := [(.aload_n 0, 1, (0, 0), []),
  (.getfield 10, 3, (0, 0), [[0, 2091, 0, 1], [11]]),
  (.getfield 128, 3, (0, 0), [[4, 1084, 0, 1], [9]])]
def qX11_change_58 : List mO := [(.astore 4, 2, (0, 0), []),
  (.aload 4, 2, (0, 0), []),
  (.iload_n 1, 1, (0, 0), []),
  (.iaload, 1, (0, 0), []),
  (.istore 5, 2, (0, 0), []),
  (.aload 4, 2, (0, 0), []),
  (.iload_n 1, 1, (0, 0), []),
  (.iload_n 3, 1, (0, 0), []),
  (.iastore, 1, (0, 0), []),
  (.iload 5, 2, (0, 0), []),
  (.ireturn, 1, (0, 0), [])]
def pX11_change : List (Nat × List mO) := [(0, qX11_change_0), (8, qX11_change_8), (16, qX11_change_16), (19, qX11_change_19), (21, qX11_change_21), (36, qX11_change_36), (51, qX11_change_51), (58, qX11_change_58)]
def qX11_turn_0 : List mO := [(.aload_n 0, 1, (0, 0), []),
  (.getfield 10, 3, (0, 0), [[0, 2091, 0, 1], [11]]),
  (.iload_n 1, 1, (0, 0), []),
  (.invokevirtual 137, 3, (0, 0), [[1, 2160, 0], [9, 68, 2162, 2161]])]
def qX11_turn_8 : List mO := [(.ifCond .eq 10, 3, (0, 0), [[18]]),
  (.iload_n 2, 1, (0, 0), []),
  (.invokestatic 108, 3, (0, 0), [[1, 87, 2150, 2151, 0]])]
def qX11_turn_15 : List mO := [(.ifCond .ne 5, 3, (0, 0), [[20]])]
def qX11_turn_18 : List mO := [(.iconst (-1), 1, ((-1), 0), []),
  (.ireturn, 1, (0, 0), [])]
def qX11_turn_20 : List mO := [(.aload_n 0, 1, (0, 0), []),
  (.getfield 10, 3, (0, 0), [[0, 2091, 0, 1], [11]]),
  (.getfield 119, 3, (0, 0), [[1, 1076, 0, 1], [9]]),
  (.iload_n 1, 1, (0, 0), []),
  (.iaload, 1, (0, 0), []),
  (.istore_n 3, 1, (0, 0), []),
  (.aload_n 0, 1, (0, 0), []),
  (.getfield 10, 3, (0, 0), [[0, 2091, 0, 1], [11]]),
  (.getfield 119, 3, (0, 0), [[1, 1076, 0, 1], [9]]),
  (.iload_n 1, 1, (0, 0), []),
  (.iload_n 2, 1, (0, 0), []),
  (.iastore, 1, (0, 0), []),
  (.iload_n 3, 1, (0, 0), []),
  (.ireturn, 1, (0, 0), [])]
def pX11_turn : List (Nat × List mO) := [(0, qX11_turn_0), (8, qX11_turn_8), (15, qX11_turn_15), (18, qX11_turn_18), (20, qX11_turn_20)]
def qX11_day_0 : List mO := [(.iload_n 1, 1, (0, 0), []),
  (.invokestatic 160, 3, (0, 0), [[1, 89, 2206, 2207, 0]])]
def qX11_day_4 : List mO := [(.ifCond .ne 5, 3, (0, 0), [[9]]),
  (.iconst (-1), 1, ((-1), 0), []),
  (.ireturn, 1, (0, 0), [])]
def qX11_day_9 : List mO := [(.aload_n 0, 1, (0, 0), []),
  (.getfield 10, 3, (0, 0), [[0, 2091, 0, 1], [11]]),
  (.getfield 140, 3, (0, 0), [[7, 1091, 0, 0], [9]]),
  (.istore_n 2, 1, (0, 0), []),
  (.aload_n 0, 1, (0, 0), []),
  (.getfield 10, 3, (0, 0), [[0, 2091, 0, 1], [11]]),
  (.iload_n 1, 1, (0, 0), []),
  (.putfield 140, 3, (0, 0), [[7, 1091, 0, 0], [9]]),
  (.iload_n 2, 1, (0, 0), []),
  (.ireturn, 1, (0, 0), [])]
def pX11_day : List (Nat × List mO) := [(0, qX11_day_0), (4, qX11_day_4), (9, qX11_day_9)]
def qX11_wind_0 : List mO := [(.iload_n 1, 1, (0, 0), []),
  (.invokestatic 160, 3, (0, 0), [[1, 89, 2206, 2207, 0]])]
def qX11_wind_4 : List mO := [(.ifCond .eq 14, 3, (0, 0), [[18]]),
  (.iload_n 2, 1, (0, 0), []),
  (.bipush (-3), 2, ((-3), 0), []),
  (.if_icmp .lt 8, 3, (0, 0), [[18]]),
  (.iload_n 2, 1, (0, 0), []),
  (.iconst 3, 1, (3, 0), []),
  (.if_icmp .le 5, 3, (0, 0), [[20]])]
def qX11_wind_18 : List mO := [(.iconst (-1), 1, ((-1), 0), []),
  (.ireturn, 1, (0, 0), [])]
def qX11_wind_20 : List mO := [(.aload_n 0, 1, (0, 0), []),
  (.getfield 10, 3, (0, 0), [[0, 2091, 0, 1], [11]]),
  (.getfield 163, 3, (0, 0), [[8, 1093, 0, 1], [9]]),
  (.iload_n 1, 1, (0, 0), []),
  (.iaload, 1, (0, 0), []),
  (.istore_n 3, 1, (0, 0), []),
  (.aload_n 0, 1, (0, 0), []),
  (.getfield 10, 3, (0, 0), [[0, 2091, 0, 1], [11]]),
  (.getfield 163, 3, (0, 0), [[8, 1093, 0, 1], [9]]),
  (.iload_n 1, 1, (0, 0), []),
  (.iload_n 2, 1, (0, 0), []),
  (.iastore, 1, (0, 0), []),
  (.iload_n 3, 1, (0, 0), []),
  (.bipush 100, 2, (100, 0), []),
  (.iadd, 1, (0, 0), []),
  (.ireturn, 1, (0, 0), [])]
def pX11_wind : List (Nat × List mO) := [(0, qX11_wind_0), (4, qX11_wind_4), (18, qX11_wind_18), (20, qX11_wind_20)]
def qX11_pace_0 : List mO := [(.aload_n 0, 1, (0, 0), []),
  (.getfield 10, 3, (0, 0), [[0, 2091, 0, 1], [11]]),
  (.aload_n 0, 1, (0, 0), []),
  (.getfield 10, 3, (0, 0), [[0, 2091, 0, 1], [11]]),
  (.getfield 140, 3, (0, 0), [[7, 1091, 0, 0], [9]]),
  (.iload_n 1, 1, (0, 0), []),
  (.invokevirtual 166, 3, (0, 0), [[2, 2217, 0], [9, 70, 2219, 2218]])]
def qX11_pace_15 : List mO := [(.ireturn, 1, (0, 0), [])]
def pX11_pace : List (Nat × List mO) := [(0, qX11_pace_0), (15, qX11_pace_15)]
def qX11_isTowerKind_0 : List mO := [(.iload_n 0, 1, (0, 0), []),
  (.iconst 1, 1, (1, 0), []),
  (.if_icmp .lt 12, 3, (0, 0), [[14]]),
  (.iload_n 0, 1, (0, 0), []),
  (.iconst 5, 1, (5, 0), []),
  (.if_icmp .gt 7, 3, (0, 0), [[14]]),
  (.iconst 1, 1, (1, 0), []),
  (.goto 4, 3, (0, 0), [[15]])]
def qX11_isTowerKind_14 : List mO := [(.iconst 0, 1, (0, 0), [])]
def qX11_isTowerKind_15 : List mO := [(.ireturn, 1, (0, 0), [[1]])]
def pX11_isTowerKind : List (Nat × List mO) := [(0, qX11_isTowerKind_0), (14, qX11_isTowerKind_14), (15, qX11_isTowerKind_15)]
def qX11_isMeasure_0 : List mO := [(.iload_n 0, 1, (0, 0), []),
  (.tableswitch 76 1 3 #[27, 43, 59], 27, (0, 0), [[77], [1, 28], [2, 44], [3, 60]])]
def qX11_isMeasure_28 : List mO := [(.iload_n 1, 1, (0, 0), []),
  (.ifCond .lt 13, 3, (0, 0), [[42]]),
  (.iload_n 1, 1, (0, 0), []),
  (.bipush 99, 2, (99, 0), []),
  (.if_icmp .gt 7, 3, (0, 0), [[42]]),
  (.iconst 1, 1, (1, 0), []),
  (.goto 4, 3, (0, 0), [[43]])]
def qX11_isMeasure_42 : List mO := [(.iconst 0, 1, (0, 0), [])]
def qX11_isMeasure_43 : List mO := [(.ireturn, 1, (0, 0), [[1]])]
def qX11_isMeasure_44 : List mO := [(.iload_n 1, 1, (0, 0), []),
  (.ifCond .lt 13, 3, (0, 0), [[58]]),
  (.iload_n 1, 1, (0, 0), []),
  (.bipush 9, 2, (9, 0), []),
  (.if_icmp .gt 7, 3, (0, 0), [[58]]),
  (.iconst 1, 1, (1, 0), []),
  (.goto 4, 3, (0, 0), [[59]])]
def qX11_isMeasure_58 : List mO := [(.iconst 0, 1, (0, 0), [])]
def qX11_isMeasure_59 : List mO := [(.ireturn, 1, (0, 0), [[1]])]
def qX11_isMeasure_60 : List mO := [(.iload_n 1, 1, (0, 0), []),
  (.iconst 1, 1, (1, 0), []),
  (.if_icmp .lt 13, 3, (0, 0), [[75]]),
  (.iload_n 1, 1, (0, 0), []),
  (.bipush 20, 2, (20, 0), []),
  (.if_icmp .gt 7, 3, (0, 0), [[75]]),
  (.iconst 1, 1, (1, 0), []),
  (.goto 4, 3, (0, 0), [[76]])]
def qX11_isMeasure_75 : List mO := [(.iconst 0, 1, (0, 0), [])]
def qX11_isMeasure_76 : List mO := [(.ireturn, 1, (0, 0), [[1]])]
def qX11_isMeasure_77 : List mO := [(.iconst 0, 1, (0, 0), []),
  (.ireturn, 1, (0, 0), [[1]])]
def pX11_isMeasure : List (Nat × List mO) := [(0, qX11_isMeasure_0), (28, qX11_isMeasure_28), (42, qX11_isMeasure_42), (43, qX11_isMeasure_43), (44, qX11_isMeasure_44), (58, qX11_isMeasure_58), (59, qX11_isMeasure_59), (60, qX11_isMeasure_60), (75, qX11_isMeasure_75), (76, qX11_isMeasure_76), (77, qX11_isMeasure_77)]
def qX11_isDay_0 : List mO := [(.iload_n 0, 1, (0, 0), []),
  (.ifCond .lt 13, 3, (0, 0), [[14]]),
  (.iload_n 0, 1, (0, 0), []),
  (.bipush 7, 2, (7, 0), []),
  (.if_icmp .ge 7, 3, (0, 0), [[14]]),
  (.iconst 1, 1, (1, 0), []),
  (.goto 4, 3, (0, 0), [[15]])]
def qX11_isDay_14 : List mO := [(.iconst 0, 1, (0, 0), [])]
def qX11_isDay_15 : List mO := [(.ireturn, 1, (0, 0), [[1]])]
def pX11_isDay : List (Nat × List mO) := [(0, qX11_isDay_0), (14, qX11_isDay_14), (15, qX11_isDay_15)]
def qX11_isUnder_0 : List mO := [(.iload_n 0, 1, (0, 0), []),
  (.iload_n 1, 1, (0, 0), []),
  (.if_icmp .eq 27, 3, (0, 0), [[29]]),
  (.iload_n 1, 1, (0, 0), []),
  (.ifCond .eq 23, 3, (0, 0), [[29]]),
  (.iload_n 0, 1, (0, 0), []),
  (.iconst 3, 1, (3, 0), []),
  (.if_icmp .ne 8, 3, (0, 0), [[19]]),
  (.iload_n 1, 1, (0, 0), []),
  (.iconst 2, 1, (2, 0), []),
  (.if_icmp .eq 13, 3, (0, 0), [[29]])]
def qX11_isUnder_19 : List mO := [(.iload_n 0, 1, (0, 0), []),
  (.iconst 5, 1, (5, 0), []),
  (.if_icmp .ne 12, 3, (0, 0), [[33]]),
  (.iload_n 1, 1, (0, 0), []),
  (.iconst 4, 1, (4, 0), []),
  (.if_icmp .ne 7, 3, (0, 0), [[33]])]
def qX11_isUnder_29 : List mO := [(.iconst 1, 1, (1, 0), []),
  (.goto 4, 3, (0, 0), [[34]])]
def qX11_isUnder_33 : List mO := [(.iconst 0, 1, (0, 0), [])]
def qX11_isUnder_34 : List mO := [(.ireturn, 1, (0, 0), [[1]])]
def pX11_isUnder : List (Nat × List mO) := [(0, qX11_isUnder_0), (19, qX11_isUnder_19), (29, qX11_isUnder_29), (33, qX11_isUnder_33), (34, qX11_isUnder_34)]
def qX11_feed_0 : List mO := [(.iload_n 3, 1, (0, 0), []),
  (.iconst 1, 1, (1, 0), []),
  (.if_icmp .lt 9, 3, (0, 0), [[11]]),
  (.iload_n 3, 1, (0, 0), []),
  (.bipush 8, 2, (8, 0), []),
  (.if_icmp .le 5, 3, (0, 0), [[13]])]
def qX11_feed_11 : List mO := [(.iconst (-1), 1, ((-1), 0), []),
  (.ireturn, 1, (0, 0), [])]
def qX11_feed_13 : List mO := [(.aload_n 0, 1, (0, 0), []),
  (.getfield 26, 3, (0, 0), [[3, 2094, 0, 1], [11]]),
  (.getfield 170, 3, (0, 0), [[0, 1146, 0, 0], [6]]),
  (.iload_n 3, 1, (0, 0), []),
  (.iadd, 1, (0, 0), []),
  (.sipush 200, 3, (200, 0), []),
  (.if_icmp .le 6, 3, (0, 0), [[31]]),
  (.bipush (-2), 2, ((-2), 0), []),
  (.ireturn, 1, (0, 0), [])]
def qX11_feed_31 : List mO := [(.iconst 0, 1, (0, 0), []),
  (.istore 4, 2, (0, 0), [])]
def qX11_feed_34 : List mO := [(.iload 4, 2, (0, 0), []),
  (.iload_n 3, 1, (0, 0), []),
  (.if_icmp .ge 36, 3, (0, 0), [[73]]),
  (.aload_n 0, 1, (0, 0), []),
  (.getfield 26, 3, (0, 0), [[3, 2094, 0, 1], [11]]),
  (.getfield 173, 3, (0, 0), [[1, 1148, 0, 1], [6]]),
  (.aload_n 0, 1, (0, 0), []),
  (.getfield 26, 3, (0, 0), [[3, 2094, 0, 1], [11]]),
  (.getfield 170, 3, (0, 0), [[0, 1146, 0, 0], [6]]),
  (.iload 4, 2, (0, 0), []),
  (.iadd, 1, (0, 0), []),
  (.lload_n 1, 1, (0, 0), []),
  (.bipush 8, 2, (8, 0), []),
  (.iload 4, 2, (0, 0), []),
  (.imul, 1, (0, 0), []),
  (.lushr, 1, (0, 0), []),
  (.l2i, 1, (0, 0), []),
  (.i2b, 1, (0, 0), []),
  (.bastore, 1, (0, 0), []),
  (.iinc 4 1, 3, (1, 0), []),
  (.goto (-36), 3, (0, 0), [[34]])]
def qX11_feed_73 : List mO := [(.aload_n 0, 1, (0, 0), []),
  (.getfield 26, 3, (0, 0), [[3, 2094, 0, 1], [11]]),
  (.dup, 1, (0, 0), []),
  (.getfield 170, 3, (0, 0), [[0, 1146, 0, 0], [6]]),
  (.iload_n 3, 1, (0, 0), []),
  (.iadd, 1, (0, 0), []),
  (.putfield 170, 3, (0, 0), [[0, 1146, 0, 0], [6]]),
  (.aload_n 0, 1, (0, 0), []),
  (.getfield 26, 3, (0, 0), [[3, 2094, 0, 1], [11]]),
  (.getfield 170, 3, (0, 0), [[0, 1146, 0, 0], [6]]),
  (.ireturn, 1, (0, 0), [])]
def pX11_feed : List (Nat × List mO) := [(0, qX11_feed_0), (11, qX11_feed_11), (13, qX11_feed_13), (31, qX11_feed_31), (34, qX11_feed_34), (73, qX11_feed_73)]
def qX11_rules_0 : List mO := [(.aload_n 0, 1, (0, 0), []),
  (.getfield 26, 3, (0, 0), [[3, 2094, 0, 1], [11]]),
  (.invokevirtual 177, 3, (0, 0), [[0, 2229, 0], [6, 36, 2231, 2230]])]
def qX11_rules_7 : List mO := [(.istore_n 1, 1, (0, 0), []),
  (.aload_n 0, 1, (0, 0), []),
  (.getfield 26, 3, (0, 0), [[3, 2094, 0, 1], [11]]),
  (.iconst 0, 1, (0, 0), []),
  (.putfield 170, 3, (0, 0), [[0, 1146, 0, 0], [6]]),
  (.iload_n 1, 1, (0, 0), []),
  (.iconst (-1), 1, ((-1), 0), []),
  (.if_icmp .eq 8, 3, (0, 0), [[26]]),
  (.bipush (-100), 2, ((-100), 0), []),
  (.iload_n 1, 1, (0, 0), []),
  (.isub, 1, (0, 0), []),
  (.ireturn, 1, (0, 0), [])]
def qX11_rules_26 : List mO := [(.aload_n 0, 1, (0, 0), []),
  (.getfield 10, 3, (0, 0), [[0, 2091, 0, 1], [11]]),
  (.getfield 151, 3, (0, 0), [[10, 1098, 0, 1], [9]]),
  (.aload_n 0, 1, (0, 0), []),
  (.getfield 26, 3, (0, 0), [[3, 2094, 0, 1], [11]]),
  (.getfield 181, 3, (0, 0), [[2, 1150, 0, 1], [6]]),
  (.invokevirtual 184, 3, (0, 0), [[1, 3154, 0], [5, 34, 3156, 3155]])]
def qX11_rules_43 : List mO := [(.aload_n 0, 1, (0, 0), []),
  (.getfield 10, 3, (0, 0), [[0, 2091, 0, 1], [11]]),
  (.getfield 151, 3, (0, 0), [[10, 1098, 0, 1], [9]]),
  (.getfield 188, 3, (0, 0), [[0, 1044, 0, 0], [5]]),
  (.ireturn, 1, (0, 0), [])]
def pX11_rules : List (Nat × List mO) := [(0, qX11_rules_0), (7, qX11_rules_7), (26, qX11_rules_26), (43, qX11_rules_43)]
def qX11_cry_0 : List mO := [(.aload_n 0, 1, (0, 0), []),
  (.iload_n 1, 1, (0, 0), []),
  (.iload_n 2, 1, (0, 0), []),
  (.invokevirtual 191, 3, (0, 0), [[2, 3165, 0], [11, 118, 25, 3167]])]
def qX11_cry_6 : List mO := [(.ifCond .ne 5, 3, (0, 0), [[11]]),
  (.iconst (-1), 1, ((-1), 0), []),
  (.ireturn, 1, (0, 0), [])]
def qX11_cry_11 : List mO := [(.aload_n 0, 1, (0, 0), []),
  (.iload_n 1, 1, (0, 0), []),
  (.iload_n 2, 1, (0, 0), []),
  (.iload_n 3, 1, (0, 0), []),
  (.invokevirtual 194, 3, (0, 0), [[3, 3172, 0], [11, 121, 26, 3174]])]
def qX11_cry_18 : List mO := [(.iconst 0, 1, (0, 0), []),
  (.istore 4, 2, (0, 0), [])]
def qX11_cry_21 : List mO := [(.iload 4, 2, (0, 0), []),
  (.aload_n 0, 1, (0, 0), []),
  (.getfield 10, 3, (0, 0), [[0, 2091, 0, 1], [11]]),
  (.getfield 116, 3, (0, 0), [[0, 1074, 0, 0], [9]]),
  (.if_icmp .ge 61, 3, (0, 0), [[91]]),
  (.aload_n 0, 1, (0, 0), []),
  (.getfield 35, 3, (0, 0), [[4, 2095, 0, 1], [11]]),
  (.iload 4, 2, (0, 0), []),
  (.invokevirtual 198, 3, (0, 0), [[1, 3212, 0], [0, 10, 3206, 3205]])]
def qX11_cry_42 : List mO := [(.ifCond .eq 43, 3, (0, 0), [[85]]),
  (.aload_n 0, 1, (0, 0), []),
  (.getfield 10, 3, (0, 0), [[0, 2091, 0, 1], [11]]),
  (.getfield 131, 3, (0, 0), [[5, 1087, 0, 1], [9]]),
  (.iload 4, 2, (0, 0), []),
  (.aload_n 0, 1, (0, 0), []),
  (.getfield 35, 3, (0, 0), [[4, 2095, 0, 1], [11]]),
  (.getfield 201, 3, (0, 0), [[7, 1205, 0, 1], [0]]),
  (.iload 4, 2, (0, 0), []),
  (.iaload, 1, (0, 0), []),
  (.iastore, 1, (0, 0), []),
  (.aload_n 0, 1, (0, 0), []),
  (.getfield 10, 3, (0, 0), [[0, 2091, 0, 1], [11]]),
  (.getfield 134, 3, (0, 0), [[6, 1089, 0, 1], [9]]),
  (.iload 4, 2, (0, 0), []),
  (.aload_n 0, 1, (0, 0), []),
  (.getfield 35, 3, (0, 0), [[4, 2095, 0, 1], [11]]),
  (.getfield 202, 3, (0, 0), [[6, 1203, 0, 1], [0]]),
  (.iload 4, 2, (0, 0), []),
  (.iaload, 1, (0, 0), []),
  (.iastore, 1, (0, 0), [])]
def qX11_cry_85 : List mO := [(.iinc 4 1, 3, (1, 0), []),
  (.goto (-67), 3, (0, 0), [[21]])]
def qX11_cry_91 : List mO := [(.aload_n 0, 1, (0, 0), []),
  (.getfield 35, 3, (0, 0), [[4, 2095, 0, 1], [11]]),
  (.invokevirtual 203, 3, (0, 0), [[0, 3213, 0], [0, 11, 3215, 3214]])]
def qX11_cry_98 : List mO := [(.ireturn, 1, (0, 0), [])]
def pX11_cry : List (Nat × List mO) := [(0, qX11_cry_0), (6, qX11_cry_6), (11, qX11_cry_11), (18, qX11_cry_18), (21, qX11_cry_21), (42, qX11_cry_42), (85, qX11_cry_85), (91, qX11_cry_91), (98, qX11_cry_98)]
def qX11_shows_0 : List mO := [(.aload_n 0, 1, (0, 0), []),
  (.getfield 10, 3, (0, 0), [[0, 2091, 0, 1], [11]]),
  (.iload_n 1, 1, (0, 0), []),
  (.invokevirtual 137, 3, (0, 0), [[1, 2160, 0], [9, 68, 2162, 2161]])]
def qX11_shows_8 : List mO := [(.ifCond .eq 10, 3, (0, 0), [[18]]),
  (.iload_n 2, 1, (0, 0), []),
  (.invokestatic 206, 3, (0, 0), [[1, 116, 3221, 3222, 0]])]
def qX11_shows_15 : List mO := [(.ifCond .ne 5, 3, (0, 0), [[20]])]
def qX11_shows_18 : List mO := [(.iconst (-1), 1, ((-1), 0), []),
  (.ireturn, 1, (0, 0), [])]
def qX11_shows_20 : List mO := [(.aload_n 0, 1, (0, 0), []),
  (.getfield 10, 3, (0, 0), [[0, 2091, 0, 1], [11]]),
  (.getfield 134, 3, (0, 0), [[6, 1089, 0, 1], [9]]),
  (.iload_n 1, 1, (0, 0), []),
  (.iaload, 1, (0, 0), []),
  (.bipush (-9), 2, ((-9), 0), []),
  (.if_icmp .ne 6, 3, (0, 0), [[37]]),
  (.bipush (-3), 2, ((-3), 0), []),
  (.ireturn, 1, (0, 0), [])]
def qX11_shows_37 : List mO := [(.iload_n 2, 1, (0, 0), []),
  (.aload_n 0, 1, (0, 0), []),
  (.getfield 10, 3, (0, 0), [[0, 2091, 0, 1], [11]]),
  (.getfield 134, 3, (0, 0), [[6, 1089, 0, 1], [9]]),
  (.iload_n 1, 1, (0, 0), []),
  (.iaload, 1, (0, 0), []),
  (.if_icmp .ge 8, 3, (0, 0), [[55]]),
  (.bipush (-4), 2, ((-4), 0), []),
  (.goto 24, 3, (0, 0), [[76]])]
def qX11_shows_55 : List mO := [(.aload_n 0, 1, (0, 0), []),
  (.getfield 10, 3, (0, 0), [[0, 2091, 0, 1], [11]]),
  (.getfield 131, 3, (0, 0), [[5, 1087, 0, 1], [9]]),
  (.iload_n 1, 1, (0, 0), []),
  (.iaload, 1, (0, 0), []),
  (.iload_n 2, 1, (0, 0), []),
  (.iadd, 1, (0, 0), []),
  (.aload_n 0, 1, (0, 0), []),
  (.getfield 10, 3, (0, 0), [[0, 2091, 0, 1], [11]]),
  (.getfield 134, 3, (0, 0), [[6, 1089, 0, 1], [9]]),
  (.iload_n 1, 1, (0, 0), []),
  (.iaload, 1, (0, 0), []),
  (.isub, 1, (0, 0), [])]
def qX11_shows_76 : List mO := [(.ireturn, 1, (0, 0), [])]
def pX11_shows : List (Nat × List mO) := [(0, qX11_shows_0), (8, qX11_shows_8), (15, qX11_shows_15), (18, qX11_shows_18), (20, qX11_shows_20), (37, qX11_shows_37), (55, qX11_shows_55), (76, qX11_shows_76)]
def qX11_hush_0 : List mO := [(.aload_n 0, 1, (0, 0), []),
  (.getfield 10, 3, (0, 0), [[0, 2091, 0, 1], [11]]),
  (.invokevirtual 209, 3, (0, 0), [[0, 3228, 0], [9, 69, 3230, 3229]])]
def qX11_hush_7 : List mO := [(.istore_n 1, 1, (0, 0), []),
  (.aload_n 0, 1, (0, 0), []),
  (.getfield 10, 3, (0, 0), [[0, 2091, 0, 1], [11]]),
  (.getfield 131, 3, (0, 0), [[5, 1087, 0, 1], [9]]),
  (.bipush (-9), 2, ((-9), 0), []),
  (.invokestatic 212, 3, (0, 0), [[2, 267, 3232, 3233, 0]])]
def qX11_hush_20 : List mO := [(.aload_n 0, 1, (0, 0), []),
  (.getfield 10, 3, (0, 0), [[0, 2091, 0, 1], [11]]),
  (.getfield 134, 3, (0, 0), [[6, 1089, 0, 1], [9]]),
  (.bipush (-9), 2, ((-9), 0), []),
  (.invokestatic 212, 3, (0, 0), [[2, 267, 3232, 3233, 0]])]
def qX11_hush_32 : List mO := [(.iload_n 1, 1, (0, 0), []),
  (.ireturn, 1, (0, 0), [])]
def pX11_hush : List (Nat × List mO) := [(0, qX11_hush_0), (7, qX11_hush_7), (20, qX11_hush_20), (32, qX11_hush_32)]
def qX11_comes_0 : List mO := [(.aload_n 0, 1, (0, 0), []),
  (.iload_n 1, 1, (0, 0), []),
  (.iload_n 2, 1, (0, 0), []),
  (.invokevirtual 191, 3, (0, 0), [[2, 3165, 0], [11, 118, 25, 3167]])]
def qX11_comes_6 : List mO := [(.ifCond .eq 14, 3, (0, 0), [[20]]),
  (.aload_n 0, 1, (0, 0), []),
  (.getfield 10, 3, (0, 0), [[0, 2091, 0, 1], [11]]),
  (.iload_n 3, 1, (0, 0), []),
  (.invokevirtual 137, 3, (0, 0), [[1, 2160, 0], [9, 68, 2162, 2161]])]
def qX11_comes_17 : List mO := [(.ifCond .ne 5, 3, (0, 0), [[22]])]
def qX11_comes_20 : List mO := [(.iconst (-1), 1, ((-1), 0), []),
  (.ireturn, 1, (0, 0), [])]
def qX11_comes_22 : List mO := [(.aload_n 0, 1, (0, 0), []),
  (.iload_n 1, 1, (0, 0), []),
  (.iload_n 2, 1, (0, 0), []),
  (.invokevirtual 218, 3, (0, 0), [[2, 3239, 0], [11, 120, 32, 4001]])]
def qX11_comes_28 : List mO := [(.aload_n 0, 1, (0, 0), []),
  (.getfield 35, 3, (0, 0), [[4, 2095, 0, 1], [11]]),
  (.iload_n 3, 1, (0, 0), []),
  (.invokevirtual 198, 3, (0, 0), [[1, 3212, 0], [0, 10, 3206, 3205]])]
def qX11_comes_36 : List mO := [(.ifCond .eq 15, 3, (0, 0), [[51]]),
  (.aload_n 0, 1, (0, 0), []),
  (.getfield 35, 3, (0, 0), [[4, 2095, 0, 1], [11]]),
  (.getfield 202, 3, (0, 0), [[6, 1203, 0, 1], [0]]),
  (.iload_n 3, 1, (0, 0), []),
  (.iaload, 1, (0, 0), []),
  (.goto 5, 3, (0, 0), [[53]])]
def qX11_comes_51 : List mO := [(.bipush (-3), 2, ((-3), 0), [])]
def qX11_comes_53 : List mO := [(.ireturn, 1, (0, 0), [])]
def pX11_comes : List (Nat × List mO) := [(0, qX11_comes_0), (6, qX11_comes_6), (17, qX11_comes_17), (20, qX11_comes_20), (22, qX11_comes_22), (28, qX11_comes_28), (36, qX11_comes_36), (51, qX11_comes_51), (53, qX11_comes_53)]
def qX11_holds_0 : List mO := [(.aload_n 0, 1, (0, 0), []),
  (.iload_n 1, 1, (0, 0), []),
  (.iload_n 2, 1, (0, 0), []),
  (.invokevirtual 191, 3, (0, 0), [[2, 3165, 0], [11, 118, 25, 3167]])]
def qX11_holds_6 : List mO := [(.ifCond .eq 14, 3, (0, 0), [[20]]),
  (.aload_n 0, 1, (0, 0), []),
  (.getfield 10, 3, (0, 0), [[0, 2091, 0, 1], [11]]),
  (.iload_n 3, 1, (0, 0), []),
  (.invokevirtual 137, 3, (0, 0), [[1, 2160, 0], [9, 68, 2162, 2161]])]
def qX11_holds_17 : List mO := [(.ifCond .ne 5, 3, (0, 0), [[22]])]
def qX11_holds_20 : List mO := [(.iconst (-1), 1, ((-1), 0), []),
  (.ireturn, 1, (0, 0), [])]
def qX11_holds_22 : List mO := [(.aload_n 0, 1, (0, 0), []),
  (.iload_n 1, 1, (0, 0), []),
  (.iload_n 2, 1, (0, 0), []),
  (.invokevirtual 218, 3, (0, 0), [[2, 3239, 0], [11, 120, 32, 4001]])]
def qX11_holds_28 : List mO := [(.aload_n 0, 1, (0, 0), []),
  (.getfield 35, 3, (0, 0), [[4, 2095, 0, 1], [11]]),
  (.iload_n 3, 1, (0, 0), []),
  (.invokevirtual 198, 3, (0, 0), [[1, 3212, 0], [0, 10, 3206, 3205]])]
def qX11_holds_36 : List mO := [(.ifCond .eq 15, 3, (0, 0), [[51]]),
  (.aload_n 0, 1, (0, 0), []),
  (.getfield 35, 3, (0, 0), [[4, 2095, 0, 1], [11]]),
  (.getfield 201, 3, (0, 0), [[7, 1205, 0, 1], [0]]),
  (.iload_n 3, 1, (0, 0), []),
  (.iaload, 1, (0, 0), []),
  (.goto 5, 3, (0, 0), [[53]])]
def qX11_holds_51 : List mO := [(.bipush (-3), 2, ((-3), 0), [])]
def qX11_holds_53 : List mO := [(.ireturn, 1, (0, 0), [])]
def pX11_holds : List (Nat × List mO) := [(0, qX11_holds_0), (6, qX11_holds_6), (17, qX11_holds_17), (20, qX11_holds_20), (22, qX11_holds_22), (28, qX11_holds_28), (36, qX11_holds_36), (51, qX11_holds_51), (53, qX11_holds_53)]
def qX11_off_0 : List mO := [(.aload_n 0, 1, (0, 0), []),
  (.iload_n 1, 1, (0, 0), []),
  (.iload_n 2, 1, (0, 0), []),
  (.invokevirtual 191, 3, (0, 0), [[2, 3165, 0], [11, 118, 25, 3167]])]
def qX11_off_6 : List mO := [(.ifCond .eq 14, 3, (0, 0), [[20]]),
  (.aload_n 0, 1, (0, 0), []),
  (.getfield 10, 3, (0, 0), [[0, 2091, 0, 1], [11]]),
  (.iload_n 3, 1, (0, 0), []),
  (.invokevirtual 137, 3, (0, 0), [[1, 2160, 0], [9, 68, 2162, 2161]])]
def qX11_off_17 : List mO := [(.ifCond .ne 5, 3, (0, 0), [[22]])]
def qX11_off_20 : List mO := [(.iconst (-1), 1, ((-1), 0), []),
  (.ireturn, 1, (0, 0), [])]
def qX11_off_22 : List mO := [(.aload_n 0, 1, (0, 0), []),
  (.iload_n 1, 1, (0, 0), []),
  (.iload_n 2, 1, (0, 0), []),
  (.invokevirtual 218, 3, (0, 0), [[2, 3239, 0], [11, 120, 32, 4001]])]
def qX11_off_28 : List mO := [(.aload_n 0, 1, (0, 0), []),
  (.getfield 35, 3, (0, 0), [[4, 2095, 0, 1], [11]]),
  (.iload_n 3, 1, (0, 0), []),
  (.invokevirtual 198, 3, (0, 0), [[1, 3212, 0], [0, 10, 3206, 3205]])]
def qX11_off_36 : List mO := [(.ifCond .eq 18, 3, (0, 0), [[54]]),
  (.aload_n 0, 1, (0, 0), []),
  (.getfield 35, 3, (0, 0), [[4, 2095, 0, 1], [11]]),
  (.iload_n 3, 1, (0, 0), []),
  (.invokevirtual 222, 3, (0, 0), [[1, 4015, 0], [0, 12, 4017, 4016]])]
def qX11_off_47 : List mO := [(.sipush 10000, 3, (10000, 0), []),
  (.iadd, 1, (0, 0), []),
  (.goto 5, 3, (0, 0), [[56]])]
def qX11_off_54 : List mO := [(.bipush (-3), 2, ((-3), 0), [])]
def qX11_off_56 : List mO := [(.ireturn, 1, (0, 0), [])]
def pX11_off : List (Nat × List mO) := [(0, qX11_off_0), (6, qX11_off_6), (17, qX11_off_17), (20, qX11_off_20), (22, qX11_off_22), (28, qX11_off_28), (36, qX11_off_36), (47, qX11_off_47), (54, qX11_off_54), (56, qX11_off_56)]
def qX11_worst_0 : List mO := [(.aload_n 0, 1, (0, 0), []),
  (.iload_n 1, 1, (0, 0), []),
  (.iload_n 2, 1, (0, 0), []),
  (.invokevirtual 191, 3, (0, 0), [[2, 3165, 0], [11, 118, 25, 3167]])]
def qX11_worst_6 : List mO := [(.ifCond .ne 5, 3, (0, 0), [[11]]),
  (.iconst (-1), 1, ((-1), 0), []),
  (.ireturn, 1, (0, 0), [])]
def qX11_worst_11 : List mO := [(.aload_n 0, 1, (0, 0), []),
  (.iload_n 1, 1, (0, 0), []),
  (.iload_n 2, 1, (0, 0), []),
  (.invokevirtual 218, 3, (0, 0), [[2, 3239, 0], [11, 120, 32, 4001]])]
def qX11_worst_17 : List mO := [(.iload_n 1, 1, (0, 0), []),
  (.istore_n 3, 1, (0, 0), []),
  (.iconst (-1), 1, ((-1), 0), []),
  (.istore 4, 2, (0, 0), []),
  (.iconst 0, 1, (0, 0), []),
  (.istore 5, 2, (0, 0), [])]
def qX11_worst_25 : List mO := [(.iload 5, 2, (0, 0), []),
  (.aload_n 0, 1, (0, 0), []),
  (.getfield 10, 3, (0, 0), [[0, 2091, 0, 1], [11]]),
  (.getfield 116, 3, (0, 0), [[0, 1074, 0, 0], [9]]),
  (.if_icmp .ge 49, 3, (0, 0), [[83]]),
  (.aload_n 0, 1, (0, 0), []),
  (.getfield 35, 3, (0, 0), [[4, 2095, 0, 1], [11]]),
  (.iload 5, 2, (0, 0), []),
  (.invokevirtual 198, 3, (0, 0), [[1, 3212, 0], [0, 10, 3206, 3205]])]
def qX11_worst_46 : List mO := [(.ifCond .eq 31, 3, (0, 0), [[77]]),
  (.aload_n 0, 1, (0, 0), []),
  (.getfield 35, 3, (0, 0), [[4, 2095, 0, 1], [11]]),
  (.iload 5, 2, (0, 0), []),
  (.invokevirtual 226, 3, (0, 0), [[1, 4023, 0], [0, 13, 4025, 4024]])]
def qX11_worst_58 : List mO := [(.iload 4, 2, (0, 0), []),
  (.if_icmp .le 17, 3, (0, 0), [[77]]),
  (.iload 5, 2, (0, 0), []),
  (.istore_n 3, 1, (0, 0), []),
  (.aload_n 0, 1, (0, 0), []),
  (.getfield 35, 3, (0, 0), [[4, 2095, 0, 1], [11]]),
  (.iload 5, 2, (0, 0), []),
  (.invokevirtual 226, 3, (0, 0), [[1, 4023, 0], [0, 13, 4025, 4024]])]
def qX11_worst_75 : List mO := [(.istore 4, 2, (0, 0), [])]
def qX11_worst_77 : List mO := [(.iinc 5 1, 3, (1, 0), []),
  (.goto (-55), 3, (0, 0), [[25]])]
def qX11_worst_83 : List mO := [(.iload_n 3, 1, (0, 0), []),
  (.ireturn, 1, (0, 0), [])]
def pX11_worst : List (Nat × List mO) := [(0, qX11_worst_0), (6, qX11_worst_6), (11, qX11_worst_11), (17, qX11_worst_17), (25, qX11_worst_25), (46, qX11_worst_46), (58, qX11_worst_58), (75, qX11_worst_75), (77, qX11_worst_77), (83, qX11_worst_83)]
def qX11_within_0 : List mO := [(.aload_n 0, 1, (0, 0), []),
  (.iload_n 1, 1, (0, 0), []),
  (.iload_n 2, 1, (0, 0), []),
  (.invokevirtual 191, 3, (0, 0), [[2, 3165, 0], [11, 118, 25, 3167]])]
def qX11_within_6 : List mO := [(.ifCond .eq 10, 3, (0, 0), [[16]]),
  (.iload_n 3, 1, (0, 0), []),
  (.invokestatic 229, 3, (0, 0), [[1, 117, 4035, 4036, 0]])]
def qX11_within_13 : List mO := [(.ifCond .ne 5, 3, (0, 0), [[18]])]
def qX11_within_16 : List mO := [(.iconst (-1), 1, ((-1), 0), []),
  (.ireturn, 1, (0, 0), [])]
def qX11_within_18 : List mO := [(.aload_n 0, 1, (0, 0), []),
  (.iload_n 1, 1, (0, 0), []),
  (.iload_n 2, 1, (0, 0), []),
  (.invokevirtual 218, 3, (0, 0), [[2, 3239, 0], [11, 120, 32, 4001]])]
def qX11_within_24 : List mO := [(.iconst 0, 1, (0, 0), []),
  (.istore 4, 2, (0, 0), []),
  (.iconst 0, 1, (0, 0), []),
  (.istore 5, 2, (0, 0), [])]
def qX11_within_30 : List mO := [(.iload 5, 2, (0, 0), []),
  (.aload_n 0, 1, (0, 0), []),
  (.getfield 10, 3, (0, 0), [[0, 2091, 0, 1], [11]]),
  (.getfield 116, 3, (0, 0), [[0, 1074, 0, 0], [9]]),
  (.if_icmp .ge 37, 3, (0, 0), [[76]]),
  (.aload_n 0, 1, (0, 0), []),
  (.getfield 35, 3, (0, 0), [[4, 2095, 0, 1], [11]]),
  (.iload 5, 2, (0, 0), []),
  (.invokevirtual 198, 3, (0, 0), [[1, 3212, 0], [0, 10, 3206, 3205]])]
def qX11_within_51 : List mO := [(.ifCond .eq 19, 3, (0, 0), [[70]]),
  (.aload_n 0, 1, (0, 0), []),
  (.getfield 35, 3, (0, 0), [[4, 2095, 0, 1], [11]]),
  (.iload 5, 2, (0, 0), []),
  (.invokevirtual 226, 3, (0, 0), [[1, 4023, 0], [0, 13, 4025, 4024]])]
def qX11_within_63 : List mO := [(.iload_n 3, 1, (0, 0), []),
  (.if_icmp .gt 6, 3, (0, 0), [[70]]),
  (.iinc 4 1, 3, (1, 0), [])]
def qX11_within_70 : List mO := [(.iinc 5 1, 3, (1, 0), []),
  (.goto (-43), 3, (0, 0), [[30]])]
def qX11_within_76 : List mO := [(.iload 4, 2, (0, 0), []),
  (.ireturn, 1, (0, 0), [])]
def pX11_within : List (Nat × List mO) := [(0, qX11_within_0), (6, qX11_within_6), (13, qX11_within_13), (16, qX11_within_16), (18, qX11_within_18), (24, qX11_within_24), (30, qX11_within_30), (51, qX11_within_51), (63, qX11_within_63), (70, qX11_within_70), (76, qX11_within_76)]
def qX11_bestAdd_0 : List mO := [(.aload_n 0, 1, (0, 0), []),
  (.getfield 10, 3, (0, 0), [[0, 2091, 0, 1], [11]]),
  (.iload_n 1, 1, (0, 0), []),
  (.invokevirtual 137, 3, (0, 0), [[1, 2160, 0], [9, 68, 2162, 2161]])]
def qX11_bestAdd_8 : List mO := [(.ifCond .eq 17, 3, (0, 0), [[25]]),
  (.aload_n 0, 1, (0, 0), []),
  (.iload_n 2, 1, (0, 0), []),
  (.iload_n 3, 1, (0, 0), []),
  (.invokevirtual 191, 3, (0, 0), [[2, 3165, 0], [11, 118, 25, 3167]])]
def qX11_bestAdd_17 : List mO := [(.ifCond .eq 8, 3, (0, 0), [[25]]),
  (.iload_n 1, 1, (0, 0), []),
  (.iload_n 2, 1, (0, 0), []),
  (.if_icmp .ne 5, 3, (0, 0), [[27]])]
def qX11_bestAdd_25 : List mO := [(.iconst (-1), 1, ((-1), 0), []),
  (.ireturn, 1, (0, 0), [])]
def qX11_bestAdd_27 : List mO := [(.aload_n 0, 1, (0, 0), []),
  (.getfield 10, 3, (0, 0), [[0, 2091, 0, 1], [11]]),
  (.getfield 122, 3, (0, 0), [[2, 1079, 0, 1], [9]]),
  (.iload_n 1, 1, (0, 0), []),
  (.iaload, 1, (0, 0), []),
  (.istore 4, 2, (0, 0), []),
  (.bipush (-3), 2, ((-3), 0), []),
  (.istore 5, 2, (0, 0), []),
  (.ldc 234, 2, (2147483647, 0), [[0, 4042]]),
  (.istore 6, 2, (0, 0), []),
  (.aload_n 0, 1, (0, 0), []),
  (.iload_n 1, 1, (0, 0), []),
  (.iload_n 2, 1, (0, 0), []),
  (.iload_n 3, 1, (0, 0), []),
  (.invokevirtual 235, 3, (0, 0), [[3, 4043, 0], [11, 124, 33, 4045]])]
def qX11_bestAdd_53 : List mO := [(.ifCond .eq 52, 3, (0, 0), [[105]]),
  (.iconst 0, 1, (0, 0), []),
  (.istore 7, 2, (0, 0), [])]
def qX11_bestAdd_59 : List mO := [(.iload 7, 2, (0, 0), []),
  (.bipush 99, 2, (99, 0), []),
  (.if_icmp .gt 42, 3, (0, 0), [[105]]),
  (.aload_n 0, 1, (0, 0), []),
  (.getfield 10, 3, (0, 0), [[0, 2091, 0, 1], [11]]),
  (.getfield 122, 3, (0, 0), [[2, 1079, 0, 1], [9]]),
  (.iload_n 1, 1, (0, 0), []),
  (.iload 7, 2, (0, 0), []),
  (.iastore, 1, (0, 0), []),
  (.aload_n 0, 1, (0, 0), []),
  (.iload_n 1, 1, (0, 0), []),
  (.invokevirtual 239, 3, (0, 0), [[1, 4047, 0], [11, 125, 34, 4049]])]
def qX11_bestAdd_82 : List mO := [(.istore 8, 2, (0, 0), []),
  (.iload 8, 2, (0, 0), []),
  (.iload 6, 2, (0, 0), []),
  (.if_icmp .ge 11, 3, (0, 0), [[99]]),
  (.iload 7, 2, (0, 0), []),
  (.istore 5, 2, (0, 0), []),
  (.iload 8, 2, (0, 0), []),
  (.istore 6, 2, (0, 0), [])]
def qX11_bestAdd_99 : List mO := [(.iinc 7 1, 3, (1, 0), []),
  (.goto (-43), 3, (0, 0), [[59]])]
def qX11_bestAdd_105 : List mO := [(.aload_n 0, 1, (0, 0), []),
  (.getfield 10, 3, (0, 0), [[0, 2091, 0, 1], [11]]),
  (.getfield 122, 3, (0, 0), [[2, 1079, 0, 1], [9]]),
  (.iload_n 1, 1, (0, 0), []),
  (.iload 4, 2, (0, 0), []),
  (.iastore, 1, (0, 0), []),
  (.iload 5, 2, (0, 0), []),
  (.ireturn, 1, (0, 0), [])]
def pX11_bestAdd : List (Nat × List mO) := [(0, qX11_bestAdd_0), (8, qX11_bestAdd_8), (17, qX11_bestAdd_17), (25, qX11_bestAdd_25), (27, qX11_bestAdd_27), (53, qX11_bestAdd_53), (59, qX11_bestAdd_59), (82, qX11_bestAdd_82), (99, qX11_bestAdd_99), (105, qX11_bestAdd_105)]
def qX11_clocks_0 : List mO := [(.aload_n 0, 1, (0, 0), []),
  (.iload_n 1, 1, (0, 0), []),
  (.invokevirtual 242, 3, (0, 0), [[1, 4059, 0], [11, 119, 35, 4061]])]
def qX11_clocks_5 : List mO := [(.ifCond .eq 10, 3, (0, 0), [[15]]),
  (.iload_n 2, 1, (0, 0), []),
  (.invokestatic 245, 3, (0, 0), [[1, 115, 3169, 3170, 0]])]
def qX11_clocks_12 : List mO := [(.ifCond .ne 5, 3, (0, 0), [[17]])]
def qX11_clocks_15 : List mO := [(.iconst (-1), 1, ((-1), 0), []),
  (.ireturn, 1, (0, 0), [])]
def qX11_clocks_17 : List mO := [(.aload_n 0, 1, (0, 0), []),
  (.getfield 35, 3, (0, 0), [[4, 2095, 0, 1], [11]]),
  (.aload_n 0, 1, (0, 0), []),
  (.getfield 10, 3, (0, 0), [[0, 2091, 0, 1], [11]]),
  (.getfield 140, 3, (0, 0), [[7, 1091, 0, 0], [9]]),
  (.invokevirtual 248, 3, (0, 0), [[1, 3176, 0], [0, 1, 3178, 3177]])]
def qX11_clocks_31 : List mO := [(.aload_n 0, 1, (0, 0), []),
  (.getfield 35, 3, (0, 0), [[4, 2095, 0, 1], [11]]),
  (.iload_n 1, 1, (0, 0), []),
  (.iload_n 2, 1, (0, 0), []),
  (.invokevirtual 252, 3, (0, 0), [[2, 4063, 0], [0, 4, 4065, 4064]])]
def qX11_clocks_40 : List mO := [(.istore_n 3, 1, (0, 0), []),
  (.iload_n 3, 1, (0, 0), []),
  (.ifCond .ge 8, 3, (0, 0), [[50]]),
  (.bipush (-3), 2, ((-3), 0), []),
  (.goto 4, 3, (0, 0), [[51]])]
def qX11_clocks_50 : List mO := [(.iload_n 3, 1, (0, 0), [])]
def qX11_clocks_51 : List mO := [(.ireturn, 1, (0, 0), [])]
def pX11_clocks : List (Nat × List mO) := [(0, qX11_clocks_0), (5, qX11_clocks_5), (12, qX11_clocks_12), (15, qX11_clocks_15), (17, qX11_clocks_17), (31, qX11_clocks_31), (40, qX11_clocks_40), (50, qX11_clocks_50), (51, qX11_clocks_51)]
def qX11_fewest_0 : List mO := [(.iload_n 1, 1, (0, 0), []),
  (.invokestatic 229, 3, (0, 0), [[1, 117, 4035, 4036, 0]])]
def qX11_fewest_4 : List mO := [(.ifCond .eq 10, 3, (0, 0), [[14]]),
  (.iload_n 2, 1, (0, 0), []),
  (.invokestatic 245, 3, (0, 0), [[1, 115, 3169, 3170, 0]])]
def qX11_fewest_11 : List mO := [(.ifCond .ne 5, 3, (0, 0), [[16]])]
def qX11_fewest_14 : List mO := [(.iconst (-1), 1, ((-1), 0), []),
  (.ireturn, 1, (0, 0), [])]
def qX11_fewest_16 : List mO := [(.aload_n 0, 1, (0, 0), []),
  (.getfield 35, 3, (0, 0), [[4, 2095, 0, 1], [11]]),
  (.aload_n 0, 1, (0, 0), []),
  (.getfield 10, 3, (0, 0), [[0, 2091, 0, 1], [11]]),
  (.getfield 140, 3, (0, 0), [[7, 1091, 0, 0], [9]]),
  (.invokevirtual 248, 3, (0, 0), [[1, 3176, 0], [0, 1, 3178, 3177]])]
def qX11_fewest_30 : List mO := [(.bipush (-3), 2, ((-3), 0), []),
  (.istore_n 3, 1, (0, 0), []),
  (.bipush 10, 2, (10, 0), []),
  (.istore 4, 2, (0, 0), []),
  (.iconst 1, 1, (1, 0), []),
  (.istore 5, 2, (0, 0), [])]
def qX11_fewest_40 : List mO := [(.aload_n 0, 1, (0, 0), []),
  (.iload 5, 2, (0, 0), []),
  (.invokevirtual 242, 3, (0, 0), [[1, 4059, 0], [11, 119, 35, 4061]])]
def qX11_fewest_46 : List mO := [(.ifCond .eq 60, 3, (0, 0), [[106]]),
  (.iload 5, 2, (0, 0), []),
  (.sipush 512, 3, (512, 0), []),
  (.if_icmp .ge 52, 3, (0, 0), [[106]]),
  (.aload_n 0, 1, (0, 0), []),
  (.getfield 35, 3, (0, 0), [[4, 2095, 0, 1], [11]]),
  (.iload 5, 2, (0, 0), []),
  (.iload_n 2, 1, (0, 0), []),
  (.invokevirtual 252, 3, (0, 0), [[2, 4063, 0], [0, 4, 4065, 4064]])]
def qX11_fewest_67 : List mO := [(.istore 6, 2, (0, 0), []),
  (.iload 6, 2, (0, 0), []),
  (.ifCond .lt 29, 3, (0, 0), [[100]]),
  (.iload 6, 2, (0, 0), []),
  (.iload_n 1, 1, (0, 0), []),
  (.if_icmp .gt 23, 3, (0, 0), [[100]]),
  (.iload 5, 2, (0, 0), []),
  (.invokestatic 255, 3, (0, 0), [[1, 266, 4073, 4074, 0]])]
def qX11_fewest_85 : List mO := [(.iload 4, 2, (0, 0), []),
  (.if_icmp .ge 13, 3, (0, 0), [[100]]),
  (.iload 5, 2, (0, 0), []),
  (.istore_n 3, 1, (0, 0), []),
  (.iload 5, 2, (0, 0), []),
  (.invokestatic 255, 3, (0, 0), [[1, 266, 4073, 4074, 0]])]
def qX11_fewest_98 : List mO := [(.istore 4, 2, (0, 0), [])]
def qX11_fewest_100 : List mO := [(.iinc 5 1, 3, (1, 0), []),
  (.goto (-63), 3, (0, 0), [[40]])]
def qX11_fewest_106 : List mO := [(.iload_n 3, 1, (0, 0), []),
  (.ireturn, 1, (0, 0), [])]
def pX11_fewest : List (Nat × List mO) := [(0, qX11_fewest_0), (4, qX11_fewest_4), (11, qX11_fewest_11), (14, qX11_fewest_14), (16, qX11_fewest_16), (30, qX11_fewest_30), (40, qX11_fewest_40), (46, qX11_fewest_46), (67, qX11_fewest_67), (85, qX11_fewest_85), (98, qX11_fewest_98), (100, qX11_fewest_100), (106, qX11_fewest_106)]
def qX11_crossed_0 : List mO := [(.iload_n 1, 1, (0, 0), []),
  (.invokestatic 245, 3, (0, 0), [[1, 115, 3169, 3170, 0]])]
def qX11_crossed_4 : List mO := [(.ifCond .eq 10, 3, (0, 0), [[14]]),
  (.iload_n 2, 1, (0, 0), []),
  (.invokestatic 245, 3, (0, 0), [[1, 115, 3169, 3170, 0]])]
def qX11_crossed_11 : List mO := [(.ifCond .ne 5, 3, (0, 0), [[16]])]
def qX11_crossed_14 : List mO := [(.iconst (-1), 1, ((-1), 0), []),
  (.ireturn, 1, (0, 0), [])]
def qX11_crossed_16 : List mO := [(.aload_n 0, 1, (0, 0), []),
  (.getfield 10, 3, (0, 0), [[0, 2091, 0, 1], [11]]),
  (.getfield 116, 3, (0, 0), [[0, 1074, 0, 0], [9]]),
  (.ifCond .ne 6, 3, (0, 0), [[29]]),
  (.bipush (-3), 2, ((-3), 0), []),
  (.ireturn, 1, (0, 0), [])]
def qX11_crossed_29 : List mO := [(.aload_n 0, 1, (0, 0), []),
  (.iconst 0, 1, (0, 0), []),
  (.iload_n 1, 1, (0, 0), []),
  (.invokevirtual 218, 3, (0, 0), [[2, 3239, 0], [11, 120, 32, 4001]])]
def qX11_crossed_35 : List mO := [(.aload_n 0, 1, (0, 0), []),
  (.getfield 39, 3, (0, 0), [[5, 2096, 0, 1], [11]]),
  (.aload_n 0, 1, (0, 0), []),
  (.getfield 10, 3, (0, 0), [[0, 2091, 0, 1], [11]]),
  (.getfield 140, 3, (0, 0), [[7, 1091, 0, 0], [9]]),
  (.invokevirtual 248, 3, (0, 0), [[1, 3176, 0], [0, 1, 3178, 3177]])]
def qX11_crossed_49 : List mO := [(.aload_n 0, 1, (0, 0), []),
  (.getfield 39, 3, (0, 0), [[5, 2096, 0, 1], [11]]),
  (.aload_n 0, 1, (0, 0), []),
  (.getfield 10, 3, (0, 0), [[0, 2091, 0, 1], [11]]),
  (.getfield 116, 3, (0, 0), [[0, 1074, 0, 0], [9]]),
  (.iconst 1, 1, (1, 0), []),
  (.isub, 1, (0, 0), []),
  (.iload_n 2, 1, (0, 0), []),
  (.invokevirtual 258, 3, (0, 0), [[2, 4003, 0], [0, 2, 4005, 4004]])]
def qX11_crossed_66 : List mO := [(.iconst 0, 1, (0, 0), []),
  (.istore_n 3, 1, (0, 0), [])]
def qX11_crossed_68 : List mO := [(.iload_n 3, 1, (0, 0), []),
  (.aload_n 0, 1, (0, 0), []),
  (.getfield 10, 3, (0, 0), [[0, 2091, 0, 1], [11]]),
  (.getfield 116, 3, (0, 0), [[0, 1074, 0, 0], [9]]),
  (.if_icmp .ge 54, 3, (0, 0), [[130]]),
  (.aload_n 0, 1, (0, 0), []),
  (.getfield 35, 3, (0, 0), [[4, 2095, 0, 1], [11]]),
  (.iload_n 3, 1, (0, 0), []),
  (.invokevirtual 198, 3, (0, 0), [[1, 3212, 0], [0, 10, 3206, 3205]])]
def qX11_crossed_87 : List mO := [(.ifCond .eq 37, 3, (0, 0), [[124]]),
  (.aload_n 0, 1, (0, 0), []),
  (.getfield 39, 3, (0, 0), [[5, 2096, 0, 1], [11]]),
  (.iload_n 3, 1, (0, 0), []),
  (.invokevirtual 198, 3, (0, 0), [[1, 3212, 0], [0, 10, 3206, 3205]])]
def qX11_crossed_98 : List mO := [(.ifCond .eq 26, 3, (0, 0), [[124]]),
  (.aload_n 0, 1, (0, 0), []),
  (.getfield 39, 3, (0, 0), [[5, 2096, 0, 1], [11]]),
  (.getfield 202, 3, (0, 0), [[6, 1203, 0, 1], [0]]),
  (.iload_n 3, 1, (0, 0), []),
  (.iaload, 1, (0, 0), []),
  (.aload_n 0, 1, (0, 0), []),
  (.getfield 35, 3, (0, 0), [[4, 2095, 0, 1], [11]]),
  (.getfield 202, 3, (0, 0), [[6, 1203, 0, 1], [0]]),
  (.iload_n 3, 1, (0, 0), []),
  (.iaload, 1, (0, 0), []),
  (.if_icmp .gt 5, 3, (0, 0), [[124]]),
  (.iload_n 3, 1, (0, 0), []),
  (.ireturn, 1, (0, 0), [])]
def qX11_crossed_124 : List mO := [(.iinc 3 1, 3, (1, 0), []),
  (.goto (-59), 3, (0, 0), [[68]])]
def qX11_crossed_130 : List mO := [(.bipush (-3), 2, ((-3), 0), []),
  (.ireturn, 1, (0, 0), [])]
def pX11_crossed : List (Nat × List mO) := [(0, qX11_crossed_0), (4, qX11_crossed_4), (11, qX11_crossed_11), (14, qX11_crossed_14), (16, qX11_crossed_16), (29, qX11_crossed_29), (35, qX11_crossed_35), (49, qX11_crossed_49), (66, qX11_crossed_66), (68, qX11_crossed_68), (87, qX11_crossed_87), (98, qX11_crossed_98), (124, qX11_crossed_124), (130, qX11_crossed_130)]
def qX11_noon_0 : List mO := [(.aload_n 0, 1, (0, 0), []),
  (.getfield 10, 3, (0, 0), [[0, 2091, 0, 1], [11]]),
  (.iload_n 1, 1, (0, 0), []),
  (.invokevirtual 137, 3, (0, 0), [[1, 2160, 0], [9, 68, 2162, 2161]])]
def qX11_noon_8 : List mO := [(.ifCond .eq 10, 3, (0, 0), [[18]]),
  (.iload_n 2, 1, (0, 0), []),
  (.invokestatic 245, 3, (0, 0), [[1, 115, 3169, 3170, 0]])]
def qX11_noon_15 : List mO := [(.ifCond .ne 5, 3, (0, 0), [[20]])]
def qX11_noon_18 : List mO := [(.iconst (-1), 1, ((-1), 0), []),
  (.ireturn, 1, (0, 0), [])]
def qX11_noon_20 : List mO := [(.aload_n 0, 1, (0, 0), []),
  (.iconst 0, 1, (0, 0), []),
  (.iload_n 2, 1, (0, 0), []),
  (.invokevirtual 218, 3, (0, 0), [[2, 3239, 0], [11, 120, 32, 4001]])]
def qX11_noon_26 : List mO := [(.aload_n 0, 1, (0, 0), []),
  (.getfield 35, 3, (0, 0), [[4, 2095, 0, 1], [11]]),
  (.iload_n 1, 1, (0, 0), []),
  (.invokevirtual 198, 3, (0, 0), [[1, 3212, 0], [0, 10, 3206, 3205]])]
def qX11_noon_34 : List mO := [(.ifCond .eq 18, 3, (0, 0), [[52]]),
  (.aload_n 0, 1, (0, 0), []),
  (.getfield 35, 3, (0, 0), [[4, 2095, 0, 1], [11]]),
  (.iload_n 1, 1, (0, 0), []),
  (.invokevirtual 261, 3, (0, 0), [[1, 4087, 0], [0, 15, 4089, 4088]])]
def qX11_noon_45 : List mO := [(.sipush 10000, 3, (10000, 0), []),
  (.iadd, 1, (0, 0), []),
  (.goto 5, 3, (0, 0), [[54]])]
def qX11_noon_52 : List mO := [(.bipush (-3), 2, ((-3), 0), [])]
def qX11_noon_54 : List mO := [(.ireturn, 1, (0, 0), [])]
def pX11_noon : List (Nat × List mO) := [(0, qX11_noon_0), (8, qX11_noon_8), (15, qX11_noon_15), (18, qX11_noon_18), (20, qX11_noon_20), (26, qX11_noon_26), (34, qX11_noon_34), (45, qX11_noon_45), (52, qX11_noon_52), (54, qX11_noon_54)]
def qX11_firstNoon_0 : List mO := [(.iload_n 1, 1, (0, 0), []),
  (.invokestatic 245, 3, (0, 0), [[1, 115, 3169, 3170, 0]])]
def qX11_firstNoon_4 : List mO := [(.ifCond .ne 5, 3, (0, 0), [[9]]),
  (.iconst (-1), 1, ((-1), 0), []),
  (.ireturn, 1, (0, 0), [])]
def qX11_firstNoon_9 : List mO := [(.aload_n 0, 1, (0, 0), []),
  (.getfield 10, 3, (0, 0), [[0, 2091, 0, 1], [11]]),
  (.getfield 116, 3, (0, 0), [[0, 1074, 0, 0], [9]]),
  (.ifCond .ne 6, 3, (0, 0), [[22]]),
  (.bipush (-3), 2, ((-3), 0), []),
  (.ireturn, 1, (0, 0), [])]
def qX11_firstNoon_22 : List mO := [(.aload_n 0, 1, (0, 0), []),
  (.iconst 0, 1, (0, 0), []),
  (.iload_n 1, 1, (0, 0), []),
  (.invokevirtual 218, 3, (0, 0), [[2, 3239, 0], [11, 120, 32, 4001]])]
def qX11_firstNoon_28 : List mO := [(.iconst 0, 1, (0, 0), []),
  (.istore_n 2, 1, (0, 0), []),
  (.iconst 1, 1, (1, 0), []),
  (.istore_n 3, 1, (0, 0), [])]
def qX11_firstNoon_32 : List mO := [(.iload_n 3, 1, (0, 0), []),
  (.aload_n 0, 1, (0, 0), []),
  (.getfield 10, 3, (0, 0), [[0, 2091, 0, 1], [11]]),
  (.getfield 116, 3, (0, 0), [[0, 1074, 0, 0], [9]]),
  (.if_icmp .ge 41, 3, (0, 0), [[81]]),
  (.aload_n 0, 1, (0, 0), []),
  (.getfield 35, 3, (0, 0), [[4, 2095, 0, 1], [11]]),
  (.iload_n 3, 1, (0, 0), []),
  (.invokevirtual 198, 3, (0, 0), [[1, 3212, 0], [0, 10, 3206, 3205]])]
def qX11_firstNoon_51 : List mO := [(.ifCond .eq 24, 3, (0, 0), [[75]]),
  (.aload_n 0, 1, (0, 0), []),
  (.getfield 35, 3, (0, 0), [[4, 2095, 0, 1], [11]]),
  (.iload_n 3, 1, (0, 0), []),
  (.invokevirtual 261, 3, (0, 0), [[1, 4087, 0], [0, 15, 4089, 4088]])]
def qX11_firstNoon_62 : List mO := [(.aload_n 0, 1, (0, 0), []),
  (.getfield 35, 3, (0, 0), [[4, 2095, 0, 1], [11]]),
  (.iload_n 2, 1, (0, 0), []),
  (.invokevirtual 261, 3, (0, 0), [[1, 4087, 0], [0, 15, 4089, 4088]])]
def qX11_firstNoon_70 : List mO := [(.if_icmp .ge 5, 3, (0, 0), [[75]]),
  (.iload_n 3, 1, (0, 0), []),
  (.istore_n 2, 1, (0, 0), [])]
def qX11_firstNoon_75 : List mO := [(.iinc 3 1, 3, (1, 0), []),
  (.goto (-46), 3, (0, 0), [[32]])]
def qX11_firstNoon_81 : List mO := [(.iload_n 2, 1, (0, 0), []),
  (.ireturn, 1, (0, 0), [])]
def pX11_firstNoon : List (Nat × List mO) := [(0, qX11_firstNoon_0), (4, qX11_firstNoon_4), (9, qX11_firstNoon_9), (22, qX11_firstNoon_22), (28, qX11_firstNoon_28), (32, qX11_firstNoon_32), (51, qX11_firstNoon_51), (62, qX11_firstNoon_62), (70, qX11_firstNoon_70), (75, qX11_firstNoon_75), (81, qX11_firstNoon_81)]
def qX11_waits_0 : List mO := [(.aload_n 0, 1, (0, 0), []),
  (.getfield 10, 3, (0, 0), [[0, 2091, 0, 1], [11]]),
  (.iload_n 1, 1, (0, 0), []),
  (.invokevirtual 137, 3, (0, 0), [[1, 2160, 0], [9, 68, 2162, 2161]])]
def qX11_waits_8 : List mO := [(.ifCond .eq 26, 3, (0, 0), [[34]]),
  (.aload_n 0, 1, (0, 0), []),
  (.getfield 10, 3, (0, 0), [[0, 2091, 0, 1], [11]]),
  (.iload_n 2, 1, (0, 0), []),
  (.invokevirtual 137, 3, (0, 0), [[1, 2160, 0], [9, 68, 2162, 2161]])]
def qX11_waits_19 : List mO := [(.ifCond .eq 15, 3, (0, 0), [[34]]),
  (.iload_n 1, 1, (0, 0), []),
  (.iload_n 2, 1, (0, 0), []),
  (.if_icmp .eq 10, 3, (0, 0), [[34]]),
  (.iload_n 3, 1, (0, 0), []),
  (.invokestatic 245, 3, (0, 0), [[1, 115, 3169, 3170, 0]])]
def qX11_waits_31 : List mO := [(.ifCond .ne 5, 3, (0, 0), [[36]])]
def qX11_waits_34 : List mO := [(.iconst (-1), 1, ((-1), 0), []),
  (.ireturn, 1, (0, 0), [])]
def qX11_waits_36 : List mO := [(.aload_n 0, 1, (0, 0), []),
  (.iconst 0, 1, (0, 0), []),
  (.iload_n 3, 1, (0, 0), []),
  (.invokevirtual 218, 3, (0, 0), [[2, 3239, 0], [11, 120, 32, 4001]])]
def qX11_waits_42 : List mO := [(.aload_n 0, 1, (0, 0), []),
  (.getfield 35, 3, (0, 0), [[4, 2095, 0, 1], [11]]),
  (.iload_n 1, 1, (0, 0), []),
  (.invokevirtual 198, 3, (0, 0), [[1, 3212, 0], [0, 10, 3206, 3205]])]
def qX11_waits_50 : List mO := [(.ifCond .eq 14, 3, (0, 0), [[64]]),
  (.aload_n 0, 1, (0, 0), []),
  (.getfield 35, 3, (0, 0), [[4, 2095, 0, 1], [11]]),
  (.iload_n 2, 1, (0, 0), []),
  (.invokevirtual 198, 3, (0, 0), [[1, 3212, 0], [0, 10, 3206, 3205]])]
def qX11_waits_61 : List mO := [(.ifCond .ne 6, 3, (0, 0), [[67]])]
def qX11_waits_64 : List mO := [(.bipush (-3), 2, ((-3), 0), []),
  (.ireturn, 1, (0, 0), [])]
def qX11_waits_67 : List mO := [(.iconst 0, 1, (0, 0), []),
  (.istore 4, 2, (0, 0), []),
  (.iload_n 1, 1, (0, 0), []),
  (.iload_n 2, 1, (0, 0), []),
  (.invokestatic 264, 3, (0, 0), [[2, 996, 4099, 4100, 1020, 4101]]),
  (.iconst 1, 1, (1, 0), []),
  (.iadd, 1, (0, 0), []),
  (.istore 5, 2, (0, 0), [])]
def qX11_waits_79 : List mO := [(.iload 5, 2, (0, 0), []),
  (.iload_n 1, 1, (0, 0), []),
  (.iload_n 2, 1, (0, 0), []),
  (.invokestatic 269, 3, (0, 0), [[2, 995, 4052, 4053, 1020, 4054]]),
  (.if_icmp .gt 24, 3, (0, 0), [[110]]),
  (.iload 4, 2, (0, 0), []),
  (.aload_n 0, 1, (0, 0), []),
  (.getfield 10, 3, (0, 0), [[0, 2091, 0, 1], [11]]),
  (.getfield 128, 3, (0, 0), [[4, 1084, 0, 1], [9]]),
  (.iload 5, 2, (0, 0), []),
  (.iaload, 1, (0, 0), []),
  (.iadd, 1, (0, 0), []),
  (.istore 4, 2, (0, 0), []),
  (.iinc 5 1, 3, (1, 0), []),
  (.goto (-28), 3, (0, 0), [[79]])]
def qX11_waits_110 : List mO := [(.aload_n 0, 1, (0, 0), []),
  (.getfield 35, 3, (0, 0), [[4, 2095, 0, 1], [11]]),
  (.iload_n 2, 1, (0, 0), []),
  (.invokevirtual 261, 3, (0, 0), [[1, 4087, 0], [0, 15, 4089, 4088]])]
def qX11_waits_118 : List mO := [(.aload_n 0, 1, (0, 0), []),
  (.getfield 35, 3, (0, 0), [[4, 2095, 0, 1], [11]]),
  (.iload_n 1, 1, (0, 0), []),
  (.invokevirtual 261, 3, (0, 0), [[1, 4087, 0], [0, 15, 4089, 4088]])]
def qX11_waits_126 : List mO := [(.bipush 20, 2, (20, 0), []),
  (.iload 4, 2, (0, 0), []),
  (.imul, 1, (0, 0), []),
  (.iadd, 1, (0, 0), []),
  (.isub, 1, (0, 0), []),
  (.sipush 10000, 3, (10000, 0), []),
  (.iadd, 1, (0, 0), []),
  (.ireturn, 1, (0, 0), [])]
def pX11_waits : List (Nat × List mO) := [(0, qX11_waits_0), (8, qX11_waits_8), (19, qX11_waits_19), (31, qX11_waits_31), (34, qX11_waits_34), (36, qX11_waits_36), (42, qX11_waits_42), (50, qX11_waits_50), (61, qX11_waits_61), (64, qX11_waits_64), (67, qX11_waits_67), (79, qX11_waits_79), (110, qX11_waits_110), (118, qX11_waits_118), (126, qX11_waits_126)]
def qX11_mender_0 : List mO := [(.aload_n 0, 1, (0, 0), []),
  (.iload_n 1, 1, (0, 0), []),
  (.iload_n 2, 1, (0, 0), []),
  (.invokevirtual 191, 3, (0, 0), [[2, 3165, 0], [11, 118, 25, 3167]])]
def qX11_mender_6 : List mO := [(.ifCond .ne 5, 3, (0, 0), [[11]]),
  (.iconst (-1), 1, ((-1), 0), []),
  (.ireturn, 1, (0, 0), [])]
def qX11_mender_11 : List mO := [(.aload_n 0, 1, (0, 0), []),
  (.iload_n 1, 1, (0, 0), []),
  (.iload_n 2, 1, (0, 0), []),
  (.invokevirtual 218, 3, (0, 0), [[2, 3239, 0], [11, 120, 32, 4001]])]
def qX11_mender_17 : List mO := [(.aload_n 0, 1, (0, 0), []),
  (.getfield 35, 3, (0, 0), [[4, 2095, 0, 1], [11]]),
  (.invokevirtual 203, 3, (0, 0), [[0, 3213, 0], [0, 11, 3215, 3214]])]
def qX11_mender_24 : List mO := [(.istore_n 3, 1, (0, 0), []),
  (.aload_n 0, 1, (0, 0), []),
  (.getfield 35, 3, (0, 0), [[4, 2095, 0, 1], [11]]),
  (.invokevirtual 272, 3, (0, 0), [[0, 4106, 0], [0, 14, 4108, 4107]])]
def qX11_mender_32 : List mO := [(.istore 4, 2, (0, 0), []),
  (.bipush (-3), 2, ((-3), 0), []),
  (.istore 5, 2, (0, 0), []),
  (.iconst 0, 1, (0, 0), []),
  (.istore 6, 2, (0, 0), [])]
def qX11_mender_41 : List mO := [(.iload 6, 2, (0, 0), []),
  (.aload_n 0, 1, (0, 0), []),
  (.getfield 10, 3, (0, 0), [[0, 2091, 0, 1], [11]]),
  (.getfield 116, 3, (0, 0), [[0, 1074, 0, 0], [9]]),
  (.if_icmp .ge 86, 3, (0, 0), [[136]]),
  (.aload_n 0, 1, (0, 0), []),
  (.getfield 10, 3, (0, 0), [[0, 2091, 0, 1], [11]]),
  (.getfield 119, 3, (0, 0), [[1, 1076, 0, 1], [9]]),
  (.iload 6, 2, (0, 0), []),
  (.iaload, 1, (0, 0), []),
  (.istore 7, 2, (0, 0), []),
  (.aload_n 0, 1, (0, 0), []),
  (.getfield 10, 3, (0, 0), [[0, 2091, 0, 1], [11]]),
  (.getfield 119, 3, (0, 0), [[1, 1076, 0, 1], [9]]),
  (.iload 6, 2, (0, 0), []),
  (.iconst 4, 1, (4, 0), []),
  (.iastore, 1, (0, 0), []),
  (.aload_n 0, 1, (0, 0), []),
  (.iload_n 1, 1, (0, 0), []),
  (.iload_n 2, 1, (0, 0), []),
  (.invokevirtual 218, 3, (0, 0), [[2, 3239, 0], [11, 120, 32, 4001]])]
def qX11_mender_82 : List mO := [(.aload_n 0, 1, (0, 0), []),
  (.getfield 10, 3, (0, 0), [[0, 2091, 0, 1], [11]]),
  (.getfield 119, 3, (0, 0), [[1, 1076, 0, 1], [9]]),
  (.iload 6, 2, (0, 0), []),
  (.iload 7, 2, (0, 0), []),
  (.iastore, 1, (0, 0), []),
  (.aload_n 0, 1, (0, 0), []),
  (.getfield 35, 3, (0, 0), [[4, 2095, 0, 1], [11]]),
  (.invokevirtual 203, 3, (0, 0), [[0, 3213, 0], [0, 11, 3215, 3214]])]
def qX11_mender_101 : List mO := [(.iload_n 3, 1, (0, 0), []),
  (.if_icmp .lt 28, 3, (0, 0), [[130]]),
  (.aload_n 0, 1, (0, 0), []),
  (.getfield 35, 3, (0, 0), [[4, 2095, 0, 1], [11]]),
  (.invokevirtual 272, 3, (0, 0), [[0, 4106, 0], [0, 14, 4108, 4107]])]
def qX11_mender_112 : List mO := [(.iload 4, 2, (0, 0), []),
  (.if_icmp .ge 16, 3, (0, 0), [[130]]),
  (.iload 6, 2, (0, 0), []),
  (.istore 5, 2, (0, 0), []),
  (.aload_n 0, 1, (0, 0), []),
  (.getfield 35, 3, (0, 0), [[4, 2095, 0, 1], [11]]),
  (.invokevirtual 272, 3, (0, 0), [[0, 4106, 0], [0, 14, 4108, 4107]])]
def qX11_mender_128 : List mO := [(.istore 4, 2, (0, 0), [])]
def qX11_mender_130 : List mO := [(.iinc 6 1, 3, (1, 0), []),
  (.goto (-92), 3, (0, 0), [[41]])]
def qX11_mender_136 : List mO := [(.iload 5, 2, (0, 0), []),
  (.ireturn, 1, (0, 0), [])]
def pX11_mender : List (Nat × List mO) := [(0, qX11_mender_0), (6, qX11_mender_6), (11, qX11_mender_11), (17, qX11_mender_17), (24, qX11_mender_24), (32, qX11_mender_32), (41, qX11_mender_41), (82, qX11_mender_82), (101, qX11_mender_101), (112, qX11_mender_112), (128, qX11_mender_128), (130, qX11_mender_130), (136, qX11_mender_136)]
def qX11_bestDay_0 : List mO := [(.aload_n 0, 1, (0, 0), []),
  (.getfield 10, 3, (0, 0), [[0, 2091, 0, 1], [11]]),
  (.iload_n 1, 1, (0, 0), []),
  (.invokevirtual 137, 3, (0, 0), [[1, 2160, 0], [9, 68, 2162, 2161]])]
def qX11_bestDay_8 : List mO := [(.ifCond .eq 12, 3, (0, 0), [[20]]),
  (.aload_n 0, 1, (0, 0), []),
  (.iload_n 2, 1, (0, 0), []),
  (.iload_n 3, 1, (0, 0), []),
  (.invokevirtual 191, 3, (0, 0), [[2, 3165, 0], [11, 118, 25, 3167]])]
def qX11_bestDay_17 : List mO := [(.ifCond .ne 5, 3, (0, 0), [[22]])]
def qX11_bestDay_20 : List mO := [(.iconst (-1), 1, ((-1), 0), []),
  (.ireturn, 1, (0, 0), [])]
def qX11_bestDay_22 : List mO := [(.bipush (-3), 2, ((-3), 0), []),
  (.istore 4, 2, (0, 0), []),
  (.ldc 234, 2, (2147483647, 0), [[0, 4042]]),
  (.istore 5, 2, (0, 0), []),
  (.iconst 0, 1, (0, 0), []),
  (.istore 6, 2, (0, 0), [])]
def qX11_bestDay_33 : List mO := [(.iload 6, 2, (0, 0), []),
  (.bipush 7, 2, (7, 0), []),
  (.if_icmp .ge 65, 3, (0, 0), [[102]]),
  (.aload_n 0, 1, (0, 0), []),
  (.getfield 35, 3, (0, 0), [[4, 2095, 0, 1], [11]]),
  (.iload 6, 2, (0, 0), []),
  (.invokevirtual 248, 3, (0, 0), [[1, 3176, 0], [0, 1, 3178, 3177]])]
def qX11_bestDay_49 : List mO := [(.aload_n 0, 1, (0, 0), []),
  (.getfield 35, 3, (0, 0), [[4, 2095, 0, 1], [11]]),
  (.iload_n 2, 1, (0, 0), []),
  (.iload_n 3, 1, (0, 0), []),
  (.invokevirtual 258, 3, (0, 0), [[2, 4003, 0], [0, 2, 4005, 4004]])]
def qX11_bestDay_58 : List mO := [(.aload_n 0, 1, (0, 0), []),
  (.getfield 35, 3, (0, 0), [[4, 2095, 0, 1], [11]]),
  (.iload_n 1, 1, (0, 0), []),
  (.invokevirtual 198, 3, (0, 0), [[1, 3212, 0], [0, 10, 3206, 3205]])]
def qX11_bestDay_66 : List mO := [(.ifCond .eq 30, 3, (0, 0), [[96]]),
  (.aload_n 0, 1, (0, 0), []),
  (.getfield 35, 3, (0, 0), [[4, 2095, 0, 1], [11]]),
  (.iload_n 1, 1, (0, 0), []),
  (.invokevirtual 226, 3, (0, 0), [[1, 4023, 0], [0, 13, 4025, 4024]])]
def qX11_bestDay_77 : List mO := [(.iload 5, 2, (0, 0), []),
  (.if_icmp .ge 17, 3, (0, 0), [[96]]),
  (.iload 6, 2, (0, 0), []),
  (.istore 4, 2, (0, 0), []),
  (.aload_n 0, 1, (0, 0), []),
  (.getfield 35, 3, (0, 0), [[4, 2095, 0, 1], [11]]),
  (.iload_n 1, 1, (0, 0), []),
  (.invokevirtual 226, 3, (0, 0), [[1, 4023, 0], [0, 13, 4025, 4024]])]
def qX11_bestDay_94 : List mO := [(.istore 5, 2, (0, 0), [])]
def qX11_bestDay_96 : List mO := [(.iinc 6 1, 3, (1, 0), []),
  (.goto (-66), 3, (0, 0), [[33]])]
def qX11_bestDay_102 : List mO := [(.iload 4, 2, (0, 0), []),
  (.ireturn, 1, (0, 0), [])]
def pX11_bestDay : List (Nat × List mO) := [(0, qX11_bestDay_0), (8, qX11_bestDay_8), (17, qX11_bestDay_17), (20, qX11_bestDay_20), (22, qX11_bestDay_22), (33, qX11_bestDay_33), (49, qX11_bestDay_49), (58, qX11_bestDay_58), (66, qX11_bestDay_66), (77, qX11_bestDay_77), (94, qX11_bestDay_94), (96, qX11_bestDay_96), (102, qX11_bestDay_102)]
def qX11_latest_0 : List mO := [(.aload_n 0, 1, (0, 0), []),
  (.getfield 10, 3, (0, 0), [[0, 2091, 0, 1], [11]]),
  (.iload_n 1, 1, (0, 0), []),
  (.invokevirtual 137, 3, (0, 0), [[1, 2160, 0], [9, 68, 2162, 2161]])]
def qX11_latest_8 : List mO := [(.ifCond .eq 21, 3, (0, 0), [[29]]),
  (.aload_n 0, 1, (0, 0), []),
  (.getfield 10, 3, (0, 0), [[0, 2091, 0, 1], [11]]),
  (.iload_n 2, 1, (0, 0), []),
  (.invokevirtual 137, 3, (0, 0), [[1, 2160, 0], [9, 68, 2162, 2161]])]
def qX11_latest_19 : List mO := [(.ifCond .eq 10, 3, (0, 0), [[29]]),
  (.iload_n 3, 1, (0, 0), []),
  (.invokestatic 206, 3, (0, 0), [[1, 116, 3221, 3222, 0]])]
def qX11_latest_26 : List mO := [(.ifCond .ne 5, 3, (0, 0), [[31]])]
def qX11_latest_29 : List mO := [(.iconst (-1), 1, ((-1), 0), []),
  (.ireturn, 1, (0, 0), [])]
def qX11_latest_31 : List mO := [(.aload_n 0, 1, (0, 0), []),
  (.getfield 35, 3, (0, 0), [[4, 2095, 0, 1], [11]]),
  (.aload_n 0, 1, (0, 0), []),
  (.getfield 10, 3, (0, 0), [[0, 2091, 0, 1], [11]]),
  (.getfield 140, 3, (0, 0), [[7, 1091, 0, 0], [9]]),
  (.invokevirtual 248, 3, (0, 0), [[1, 3176, 0], [0, 1, 3178, 3177]])]
def qX11_latest_45 : List mO := [(.sipush 1439, 3, (1439, 0), []),
  (.iload_n 3, 1, (0, 0), []),
  (.invokestatic 264, 3, (0, 0), [[2, 996, 4099, 4100, 1020, 4101]]),
  (.istore 4, 2, (0, 0), [])]
def qX11_latest_54 : List mO := [(.iload 4, 2, (0, 0), []),
  (.ifCond .lt 46, 3, (0, 0), [[102]]),
  (.aload_n 0, 1, (0, 0), []),
  (.getfield 35, 3, (0, 0), [[4, 2095, 0, 1], [11]]),
  (.iload_n 1, 1, (0, 0), []),
  (.iload 4, 2, (0, 0), []),
  (.invokevirtual 258, 3, (0, 0), [[2, 4003, 0], [0, 2, 4005, 4004]])]
def qX11_latest_69 : List mO := [(.aload_n 0, 1, (0, 0), []),
  (.getfield 35, 3, (0, 0), [[4, 2095, 0, 1], [11]]),
  (.iload_n 2, 1, (0, 0), []),
  (.invokevirtual 198, 3, (0, 0), [[1, 3212, 0], [0, 10, 3206, 3205]])]
def qX11_latest_77 : List mO := [(.ifCond .eq 19, 3, (0, 0), [[96]]),
  (.aload_n 0, 1, (0, 0), []),
  (.getfield 35, 3, (0, 0), [[4, 2095, 0, 1], [11]]),
  (.getfield 202, 3, (0, 0), [[6, 1203, 0, 1], [0]]),
  (.iload_n 2, 1, (0, 0), []),
  (.iaload, 1, (0, 0), []),
  (.iload_n 3, 1, (0, 0), []),
  (.if_icmp .gt 6, 3, (0, 0), [[96]]),
  (.iload 4, 2, (0, 0), []),
  (.ireturn, 1, (0, 0), [])]
def qX11_latest_96 : List mO := [(.iinc 4 (-1), 3, ((-1), 0), []),
  (.goto (-45), 3, (0, 0), [[54]])]
def qX11_latest_102 : List mO := [(.bipush (-3), 2, ((-3), 0), []),
  (.ireturn, 1, (0, 0), [])]
def pX11_latest : List (Nat × List mO) := [(0, qX11_latest_0), (8, qX11_latest_8), (19, qX11_latest_19), (26, qX11_latest_26), (29, qX11_latest_29), (31, qX11_latest_31), (45, qX11_latest_45), (54, qX11_latest_54), (69, qX11_latest_69), (77, qX11_latest_77), (96, qX11_latest_96), (102, qX11_latest_102)]
def qX11_seed_0 : List mO := [(.aload_n 0, 1, (0, 0), []),
  (.getfield 10, 3, (0, 0), [[0, 2091, 0, 1], [11]]),
  (.getfield 275, 3, (0, 0), [[9, 1095, 0, 0], [9]]),
  (.istore_n 2, 1, (0, 0), []),
  (.aload_n 0, 1, (0, 0), []),
  (.getfield 10, 3, (0, 0), [[0, 2091, 0, 1], [11]]),
  (.iload_n 1, 1, (0, 0), []),
  (.putfield 275, 3, (0, 0), [[9, 1095, 0, 0], [9]]),
  (.iload_n 2, 1, (0, 0), []),
  (.ireturn, 1, (0, 0), [])]
def pX11_seed : List (Nat × List mO) := [(0, qX11_seed_0)]
def qX11_draw_0 : List mO := [(.iload_n 1, 1, (0, 0), []),
  (.invokestatic 160, 3, (0, 0), [[1, 89, 2206, 2207, 0]])]
def qX11_draw_4 : List mO := [(.ifCond .ne 5, 3, (0, 0), [[9]]),
  (.iconst (-1), 1, ((-1), 0), []),
  (.ireturn, 1, (0, 0), [])]
def qX11_draw_9 : List mO := [(.aload_n 0, 1, (0, 0), []),
  (.getfield 10, 3, (0, 0), [[0, 2091, 0, 1], [11]]),
  (.aload_n 0, 1, (0, 0), []),
  (.getfield 10, 3, (0, 0), [[0, 2091, 0, 1], [11]]),
  (.getfield 275, 3, (0, 0), [[9, 1095, 0, 0], [9]]),
  (.invokestatic 278, 3, (0, 0), [[1, 122, 4126, 4127, 0]])]
def qX11_draw_23 : List mO := [(.putfield 275, 3, (0, 0), [[9, 1095, 0, 0], [9]]),
  (.aload_n 0, 1, (0, 0), []),
  (.getfield 10, 3, (0, 0), [[0, 2091, 0, 1], [11]]),
  (.getfield 163, 3, (0, 0), [[8, 1093, 0, 1], [9]]),
  (.iload_n 1, 1, (0, 0), []),
  (.aload_n 0, 1, (0, 0), []),
  (.getfield 10, 3, (0, 0), [[0, 2091, 0, 1], [11]]),
  (.getfield 275, 3, (0, 0), [[9, 1095, 0, 0], [9]]),
  (.invokestatic 281, 3, (0, 0), [[1, 123, 4130, 4131, 0]])]
def qX11_draw_44 : List mO := [(.iastore, 1, (0, 0), []),
  (.aload_n 0, 1, (0, 0), []),
  (.getfield 10, 3, (0, 0), [[0, 2091, 0, 1], [11]]),
  (.getfield 163, 3, (0, 0), [[8, 1093, 0, 1], [9]]),
  (.iload_n 1, 1, (0, 0), []),
  (.iaload, 1, (0, 0), []),
  (.bipush 100, 2, (100, 0), []),
  (.iadd, 1, (0, 0), []),
  (.ireturn, 1, (0, 0), [])]
def pX11_draw : List (Nat × List mO) := [(0, qX11_draw_0), (4, qX11_draw_4), (9, qX11_draw_9), (23, qX11_draw_23), (44, qX11_draw_44)]
def qX11_often_0 : List mO := [(.aload_n 0, 1, (0, 0), []),
  (.getfield 10, 3, (0, 0), [[0, 2091, 0, 1], [11]]),
  (.iload_n 1, 1, (0, 0), []),
  (.invokevirtual 137, 3, (0, 0), [[1, 2160, 0], [9, 68, 2162, 2161]])]
def qX11_often_8 : List mO := [(.ifCond .eq 30, 3, (0, 0), [[38]]),
  (.iload_n 2, 1, (0, 0), []),
  (.invokestatic 229, 3, (0, 0), [[1, 117, 4035, 4036, 0]])]
def qX11_often_15 : List mO := [(.ifCond .eq 23, 3, (0, 0), [[38]]),
  (.iload_n 3, 1, (0, 0), []),
  (.invokestatic 245, 3, (0, 0), [[1, 115, 3169, 3170, 0]])]
def qX11_often_22 : List mO := [(.ifCond .eq 16, 3, (0, 0), [[38]]),
  (.iload 4, 2, (0, 0), []),
  (.iconst 1, 1, (1, 0), []),
  (.if_icmp .lt 10, 3, (0, 0), [[38]]),
  (.iload 4, 2, (0, 0), []),
  (.bipush 60, 2, (60, 0), []),
  (.if_icmp .le 5, 3, (0, 0), [[40]])]
def qX11_often_38 : List mO := [(.iconst (-1), 1, ((-1), 0), []),
  (.ireturn, 1, (0, 0), [])]
def qX11_often_40 : List mO := [(.aload_n 0, 1, (0, 0), []),
  (.getfield 10, 3, (0, 0), [[0, 2091, 0, 1], [11]]),
  (.getfield 163, 3, (0, 0), [[8, 1093, 0, 1], [9]]),
  (.aload_n 0, 1, (0, 0), []),
  (.getfield 10, 3, (0, 0), [[0, 2091, 0, 1], [11]]),
  (.getfield 140, 3, (0, 0), [[7, 1091, 0, 0], [9]]),
  (.iaload, 1, (0, 0), []),
  (.istore 5, 2, (0, 0), []),
  (.aload_n 0, 1, (0, 0), []),
  (.getfield 10, 3, (0, 0), [[0, 2091, 0, 1], [11]]),
  (.getfield 275, 3, (0, 0), [[9, 1095, 0, 0], [9]]),
  (.istore 6, 2, (0, 0), []),
  (.iconst 0, 1, (0, 0), []),
  (.istore 7, 2, (0, 0), []),
  (.iconst 0, 1, (0, 0), []),
  (.istore 8, 2, (0, 0), [])]
def qX11_often_72 : List mO := [(.iload 8, 2, (0, 0), []),
  (.iload 4, 2, (0, 0), []),
  (.if_icmp .ge 68, 3, (0, 0), [[144]]),
  (.iload 6, 2, (0, 0), []),
  (.invokestatic 278, 3, (0, 0), [[1, 122, 4126, 4127, 0]])]
def qX11_often_84 : List mO := [(.istore 6, 2, (0, 0), []),
  (.aload_n 0, 1, (0, 0), []),
  (.getfield 10, 3, (0, 0), [[0, 2091, 0, 1], [11]]),
  (.getfield 163, 3, (0, 0), [[8, 1093, 0, 1], [9]]),
  (.aload_n 0, 1, (0, 0), []),
  (.getfield 10, 3, (0, 0), [[0, 2091, 0, 1], [11]]),
  (.getfield 140, 3, (0, 0), [[7, 1091, 0, 0], [9]]),
  (.iload 6, 2, (0, 0), []),
  (.invokestatic 281, 3, (0, 0), [[1, 123, 4130, 4131, 0]])]
def qX11_often_105 : List mO := [(.iastore, 1, (0, 0), []),
  (.aload_n 0, 1, (0, 0), []),
  (.iconst 0, 1, (0, 0), []),
  (.iload_n 3, 1, (0, 0), []),
  (.invokevirtual 218, 3, (0, 0), [[2, 3239, 0], [11, 120, 32, 4001]])]
def qX11_often_112 : List mO := [(.aload_n 0, 1, (0, 0), []),
  (.getfield 35, 3, (0, 0), [[4, 2095, 0, 1], [11]]),
  (.iload_n 1, 1, (0, 0), []),
  (.invokevirtual 198, 3, (0, 0), [[1, 3212, 0], [0, 10, 3206, 3205]])]
def qX11_often_120 : List mO := [(.ifCond .eq 18, 3, (0, 0), [[138]]),
  (.aload_n 0, 1, (0, 0), []),
  (.getfield 35, 3, (0, 0), [[4, 2095, 0, 1], [11]]),
  (.iload_n 1, 1, (0, 0), []),
  (.invokevirtual 226, 3, (0, 0), [[1, 4023, 0], [0, 13, 4025, 4024]])]
def qX11_often_131 : List mO := [(.iload_n 2, 1, (0, 0), []),
  (.if_icmp .gt 6, 3, (0, 0), [[138]]),
  (.iinc 7 1, 3, (1, 0), [])]
def qX11_often_138 : List mO := [(.iinc 8 1, 3, (1, 0), []),
  (.goto (-69), 3, (0, 0), [[72]])]
def qX11_often_144 : List mO := [(.aload_n 0, 1, (0, 0), []),
  (.getfield 10, 3, (0, 0), [[0, 2091, 0, 1], [11]]),
  (.getfield 163, 3, (0, 0), [[8, 1093, 0, 1], [9]]),
  (.aload_n 0, 1, (0, 0), []),
  (.getfield 10, 3, (0, 0), [[0, 2091, 0, 1], [11]]),
  (.getfield 140, 3, (0, 0), [[7, 1091, 0, 0], [9]]),
  (.iload 5, 2, (0, 0), []),
  (.iastore, 1, (0, 0), []),
  (.iload 7, 2, (0, 0), []),
  (.ireturn, 1, (0, 0), [])]
def pX11_often : List (Nat × List mO) := [(0, qX11_often_0), (8, qX11_often_8), (15, qX11_often_15), (22, qX11_often_22), (38, qX11_often_38), (40, qX11_often_40), (72, qX11_often_72), (84, qX11_often_84), (105, qX11_often_105), (112, qX11_often_112), (120, qX11_often_120), (131, qX11_often_131), (138, qX11_often_138), (144, qX11_often_144)]
def qX11_lost_0 : List mO := [(.aload_n 0, 1, (0, 0), []),
  (.getfield 10, 3, (0, 0), [[0, 2091, 0, 1], [11]]),
  (.iload_n 1, 1, (0, 0), []),
  (.invokevirtual 137, 3, (0, 0), [[1, 2160, 0], [9, 68, 2162, 2161]])]
def qX11_lost_8 : List mO := [(.ifCond .eq 10, 3, (0, 0), [[18]]),
  (.iload_n 2, 1, (0, 0), []),
  (.invokestatic 245, 3, (0, 0), [[1, 115, 3169, 3170, 0]])]
def qX11_lost_15 : List mO := [(.ifCond .ne 5, 3, (0, 0), [[20]])]
def qX11_lost_18 : List mO := [(.iconst (-1), 1, ((-1), 0), []),
  (.ireturn, 1, (0, 0), [])]
def qX11_lost_20 : List mO := [(.aload_n 0, 1, (0, 0), []),
  (.iconst 0, 1, (0, 0), []),
  (.iload_n 2, 1, (0, 0), []),
  (.invokevirtual 218, 3, (0, 0), [[2, 3239, 0], [11, 120, 32, 4001]])]
def qX11_lost_26 : List mO := [(.iconst 0, 1, (0, 0), []),
  (.istore_n 3, 1, (0, 0), []),
  (.iload_n 1, 1, (0, 0), []),
  (.iconst 1, 1, (1, 0), []),
  (.iadd, 1, (0, 0), []),
  (.istore 4, 2, (0, 0), [])]
def qX11_lost_33 : List mO := [(.iload 4, 2, (0, 0), []),
  (.aload_n 0, 1, (0, 0), []),
  (.getfield 10, 3, (0, 0), [[0, 2091, 0, 1], [11]]),
  (.getfield 116, 3, (0, 0), [[0, 1074, 0, 0], [9]]),
  (.if_icmp .ge 24, 3, (0, 0), [[66]]),
  (.aload_n 0, 1, (0, 0), []),
  (.getfield 35, 3, (0, 0), [[4, 2095, 0, 1], [11]]),
  (.iload 4, 2, (0, 0), []),
  (.invokevirtual 198, 3, (0, 0), [[1, 3212, 0], [0, 10, 3206, 3205]])]
def qX11_lost_54 : List mO := [(.ifCond .eq 6, 3, (0, 0), [[60]]),
  (.iinc 3 1, 3, (1, 0), [])]
def qX11_lost_60 : List mO := [(.iinc 4 1, 3, (1, 0), []),
  (.goto (-30), 3, (0, 0), [[33]])]
def qX11_lost_66 : List mO := [(.iload_n 3, 1, (0, 0), []),
  (.ireturn, 1, (0, 0), [])]
def pX11_lost : List (Nat × List mO) := [(0, qX11_lost_0), (8, qX11_lost_8), (15, qX11_lost_15), (18, qX11_lost_18), (20, qX11_lost_20), (26, qX11_lost_26), (33, qX11_lost_33), (54, qX11_lost_54), (60, qX11_lost_60), (66, qX11_lost_66)]
def qX11_isT_0 : List mO := [(.iload_n 0, 1, (0, 0), []),
  (.ifCond .lt 14, 3, (0, 0), [[15]]),
  (.iload_n 0, 1, (0, 0), []),
  (.sipush 1439, 3, (1439, 0), []),
  (.if_icmp .gt 7, 3, (0, 0), [[15]]),
  (.iconst 1, 1, (1, 0), []),
  (.goto 4, 3, (0, 0), [[16]])]
def qX11_isT_15 : List mO := [(.iconst 0, 1, (0, 0), [])]
def qX11_isT_16 : List mO := [(.ireturn, 1, (0, 0), [[1]])]
def pX11_isT : List (Nat × List mO) := [(0, qX11_isT_0), (15, qX11_isT_15), (16, qX11_isT_16)]
def qX11_isMinute_0 : List mO := [(.iload_n 0, 1, (0, 0), []),
  (.ifCond .lt 14, 3, (0, 0), [[15]]),
  (.iload_n 0, 1, (0, 0), []),
  (.sipush 9999, 3, (9999, 0), []),
  (.if_icmp .gt 7, 3, (0, 0), [[15]]),
  (.iconst 1, 1, (1, 0), []),
  (.goto 4, 3, (0, 0), [[16]])]
def qX11_isMinute_15 : List mO := [(.iconst 0, 1, (0, 0), [])]
def qX11_isMinute_16 : List mO := [(.ireturn, 1, (0, 0), [[1]])]
def pX11_isMinute : List (Nat × List mO) := [(0, qX11_isMinute_0), (15, qX11_isMinute_15), (16, qX11_isMinute_16)]
def qX11_isBound_0 : List mO := [(.iload_n 0, 1, (0, 0), []),
  (.ifCond .lt 14, 3, (0, 0), [[15]]),
  (.iload_n 0, 1, (0, 0), []),
  (.sipush 999, 3, (999, 0), []),
  (.if_icmp .gt 7, 3, (0, 0), [[15]]),
  (.iconst 1, 1, (1, 0), []),
  (.goto 4, 3, (0, 0), [[16]])]
def qX11_isBound_15 : List mO := [(.iconst 0, 1, (0, 0), [])]
def qX11_isBound_16 : List mO := [(.ireturn, 1, (0, 0), [[1]])]
def pX11_isBound : List (Nat × List mO) := [(0, qX11_isBound_0), (15, qX11_isBound_15), (16, qX11_isBound_16)]
def qX11_isCry_0 : List mO := [(.aload_n 0, 1, (0, 0), []),
  (.getfield 10, 3, (0, 0), [[0, 2091, 0, 1], [11]]),
  (.iload_n 1, 1, (0, 0), []),
  (.invokevirtual 137, 3, (0, 0), [[1, 2160, 0], [9, 68, 2162, 2161]])]
def qX11_isCry_8 : List mO := [(.ifCond .eq 14, 3, (0, 0), [[22]]),
  (.iload_n 2, 1, (0, 0), []),
  (.invokestatic 245, 3, (0, 0), [[1, 115, 3169, 3170, 0]])]
def qX11_isCry_15 : List mO := [(.ifCond .eq 7, 3, (0, 0), [[22]]),
  (.iconst 1, 1, (1, 0), []),
  (.goto 4, 3, (0, 0), [[23]])]
def qX11_isCry_22 : List mO := [(.iconst 0, 1, (0, 0), [])]
def qX11_isCry_23 : List mO := [(.ireturn, 1, (0, 0), [[1]])]
def pX11_isCry : List (Nat × List mO) := [(0, qX11_isCry_0), (8, qX11_isCry_8), (15, qX11_isCry_15), (22, qX11_isCry_22), (23, qX11_isCry_23)]
def qX11_isSet_0 : List mO := [(.iload_n 1, 1, (0, 0), []),
  (.ifCond .lt 20, 3, (0, 0), [[21]]),
  (.iload_n 1, 1, (0, 0), []),
  (.iconst 1, 1, (1, 0), []),
  (.aload_n 0, 1, (0, 0), []),
  (.getfield 10, 3, (0, 0), [[0, 2091, 0, 1], [11]]),
  (.getfield 116, 3, (0, 0), [[0, 1074, 0, 0], [9]]),
  (.ishl, 1, (0, 0), []),
  (.if_icmp .ge 7, 3, (0, 0), [[21]]),
  (.iconst 1, 1, (1, 0), []),
  (.goto 4, 3, (0, 0), [[22]])]
def qX11_isSet_21 : List mO := [(.iconst 0, 1, (0, 0), [])]
def qX11_isSet_22 : List mO := [(.ireturn, 1, (0, 0), [[1]])]
def pX11_isSet : List (Nat × List mO) := [(0, qX11_isSet_0), (21, qX11_isSet_21), (22, qX11_isSet_22)]
def qX11_cryBothWays_0 : List mO := [(.aload_n 0, 1, (0, 0), []),
  (.getfield 35, 3, (0, 0), [[4, 2095, 0, 1], [11]]),
  (.aload_n 0, 1, (0, 0), []),
  (.getfield 10, 3, (0, 0), [[0, 2091, 0, 1], [11]]),
  (.getfield 140, 3, (0, 0), [[7, 1091, 0, 0], [9]]),
  (.invokevirtual 248, 3, (0, 0), [[1, 3176, 0], [0, 1, 3178, 3177]])]
def qX11_cryBothWays_14 : List mO := [(.aload_n 0, 1, (0, 0), []),
  (.getfield 35, 3, (0, 0), [[4, 2095, 0, 1], [11]]),
  (.iload_n 1, 1, (0, 0), []),
  (.iload_n 2, 1, (0, 0), []),
  (.invokevirtual 258, 3, (0, 0), [[2, 4003, 0], [0, 2, 4005, 4004]])]
def qX11_cryBothWays_23 : List mO := [(.return_, 1, (0, 0), [])]
def pX11_cryBothWays : List (Nat × List mO) := [(0, qX11_cryBothWays_0), (14, qX11_cryBothWays_14), (23, qX11_cryBothWays_23)]
def qX11_cryOneWay_0 : List mO := [(.aload_n 0, 1, (0, 0), []),
  (.getfield 35, 3, (0, 0), [[4, 2095, 0, 1], [11]]),
  (.aload_n 0, 1, (0, 0), []),
  (.getfield 10, 3, (0, 0), [[0, 2091, 0, 1], [11]]),
  (.getfield 140, 3, (0, 0), [[7, 1091, 0, 0], [9]]),
  (.invokevirtual 248, 3, (0, 0), [[1, 3176, 0], [0, 1, 3178, 3177]])]
def qX11_cryOneWay_14 : List mO := [(.aload_n 0, 1, (0, 0), []),
  (.getfield 35, 3, (0, 0), [[4, 2095, 0, 1], [11]]),
  (.iload_n 1, 1, (0, 0), []),
  (.iload_n 2, 1, (0, 0), []),
  (.iload_n 3, 1, (0, 0), []),
  (.invokevirtual 284, 3, (0, 0), [[3, 3184, 0], [0, 3, 3186, 3185]])]
def qX11_cryOneWay_24 : List mO := [(.return_, 1, (0, 0), [])]
def pX11_cryOneWay : List (Nat × List mO) := [(0, qX11_cryOneWay_0), (14, qX11_cryOneWay_14), (24, qX11_cryOneWay_24)]
def qX11_drawnAfter_0 : List mO := [(.iload_n 0, 1, (0, 0), []),
  (.ldc_w 287, 3, (1103515245, 0), [[0, 4129]]),
  (.imul, 1, (0, 0), []),
  (.sipush 12345, 3, (12345, 0), []),
  (.iadd, 1, (0, 0), []),
  (.ireturn, 1, (0, 0), [])]
def pX11_drawnAfter : List (Nat × List mO) := [(0, qX11_drawnAfter_0)]
def qX11_windDrawn_0 : List mO := [(.iload_n 0, 1, (0, 0), []),
  (.bipush 16, 2, (16, 0), []),
  (.iushr, 1, (0, 0), []),
  (.bipush 7, 2, (7, 0), []),
  (.irem, 1, (0, 0), []),
  (.iconst 3, 1, (3, 0), []),
  (.isub, 1, (0, 0), []),
  (.ireturn, 1, (0, 0), [])]
def pX11_windDrawn : List (Nat × List mO) := [(0, qX11_windDrawn_0)]
def qX11_takeUnaddedOffs_0 : List mO := [(.iconst 0, 1, (0, 0), []),
  (.istore 4, 2, (0, 0), []),
  (.iconst 0, 1, (0, 0), []),
  (.istore 5, 2, (0, 0), [])]
def qX11_takeUnaddedOffs_6 : List mO := [(.iload 5, 2, (0, 0), []),
  (.bipush 7, 2, (7, 0), []),
  (.if_icmp .ge 89, 3, (0, 0), [[99]]),
  (.aload_n 0, 1, (0, 0), []),
  (.getfield 35, 3, (0, 0), [[4, 2095, 0, 1], [11]]),
  (.iload 5, 2, (0, 0), []),
  (.invokevirtual 248, 3, (0, 0), [[1, 3176, 0], [0, 1, 3178, 3177]])]
def qX11_takeUnaddedOffs_22 : List mO := [(.aload_n 0, 1, (0, 0), []),
  (.getfield 35, 3, (0, 0), [[4, 2095, 0, 1], [11]]),
  (.iload_n 2, 1, (0, 0), []),
  (.iload_n 3, 1, (0, 0), []),
  (.invokevirtual 258, 3, (0, 0), [[2, 4003, 0], [0, 2, 4005, 4004]])]
def qX11_takeUnaddedOffs_31 : List mO := [(.aload_n 0, 1, (0, 0), []),
  (.getfield 42, 3, (0, 0), [[6, 2097, 0, 1], [11]]),
  (.iload 5, 2, (0, 0), []),
  (.aload_n 0, 1, (0, 0), []),
  (.getfield 35, 3, (0, 0), [[4, 2095, 0, 1], [11]]),
  (.iload_n 1, 1, (0, 0), []),
  (.invokevirtual 198, 3, (0, 0), [[1, 3212, 0], [0, 10, 3206, 3205]])]
def qX11_takeUnaddedOffs_45 : List mO := [(.bastore, 1, (0, 0), []),
  (.aload_n 0, 1, (0, 0), []),
  (.getfield 46, 3, (0, 0), [[7, 2098, 0, 1], [11]]),
  (.iload 5, 2, (0, 0), []),
  (.aload_n 0, 1, (0, 0), []),
  (.getfield 35, 3, (0, 0), [[4, 2095, 0, 1], [11]]),
  (.iload_n 1, 1, (0, 0), []),
  (.invokevirtual 222, 3, (0, 0), [[1, 4015, 0], [0, 12, 4017, 4016]])]
def qX11_takeUnaddedOffs_60 : List mO := [(.aload_n 0, 1, (0, 0), []),
  (.getfield 35, 3, (0, 0), [[4, 2095, 0, 1], [11]]),
  (.getfield 288, 3, (0, 0), [[1, 1197, 0, 1], [0]]),
  (.iload_n 1, 1, (0, 0), []),
  (.iaload, 1, (0, 0), []),
  (.isub, 1, (0, 0), []),
  (.iastore, 1, (0, 0), []),
  (.iload 4, 2, (0, 0), []),
  (.ifCond .ne 13, 3, (0, 0), [[86]]),
  (.aload_n 0, 1, (0, 0), []),
  (.getfield 42, 3, (0, 0), [[6, 2097, 0, 1], [11]]),
  (.iload 5, 2, (0, 0), []),
  (.baload, 1, (0, 0), []),
  (.ifCond .eq 7, 3, (0, 0), [[90]])]
def qX11_takeUnaddedOffs_86 : List mO := [(.iconst 1, 1, (1, 0), []),
  (.goto 4, 3, (0, 0), [[91]])]
def qX11_takeUnaddedOffs_90 : List mO := [(.iconst 0, 1, (0, 0), [])]
def qX11_takeUnaddedOffs_91 : List mO := [(.istore 4, 2, (0, 0), []),
  (.iinc 5 1, 3, (1, 0), []),
  (.goto (-90), 3, (0, 0), [[6]])]
def qX11_takeUnaddedOffs_99 : List mO := [(.iload 4, 2, (0, 0), []),
  (.ireturn, 1, (0, 0), [[1]])]
def pX11_takeUnaddedOffs : List (Nat × List mO) := [(0, qX11_takeUnaddedOffs_0), (6, qX11_takeUnaddedOffs_6), (22, qX11_takeUnaddedOffs_22), (31, qX11_takeUnaddedOffs_31), (45, qX11_takeUnaddedOffs_45), (60, qX11_takeUnaddedOffs_60), (86, qX11_takeUnaddedOffs_86), (90, qX11_takeUnaddedOffs_90), (91, qX11_takeUnaddedOffs_91), (99, qX11_takeUnaddedOffs_99)]
def qX11_farthestOverDays_0 : List mO := [(.iconst 0, 1, (0, 0), []),
  (.istore_n 2, 1, (0, 0), []),
  (.iconst 0, 1, (0, 0), []),
  (.istore_n 3, 1, (0, 0), [])]
def qX11_farthestOverDays_4 : List mO := [(.iload_n 3, 1, (0, 0), []),
  (.bipush 7, 2, (7, 0), []),
  (.if_icmp .ge 55, 3, (0, 0), [[62]]),
  (.aload_n 0, 1, (0, 0), []),
  (.getfield 42, 3, (0, 0), [[6, 2097, 0, 1], [11]]),
  (.iload_n 3, 1, (0, 0), []),
  (.baload, 1, (0, 0), []),
  (.ifCond .eq 40, 3, (0, 0), [[56]]),
  (.aload_n 0, 1, (0, 0), []),
  (.getfield 10, 3, (0, 0), [[0, 2091, 0, 1], [11]]),
  (.aload_n 0, 1, (0, 0), []),
  (.getfield 10, 3, (0, 0), [[0, 2091, 0, 1], [11]]),
  (.iload_n 1, 1, (0, 0), []),
  (.iload_n 3, 1, (0, 0), []),
  (.invokevirtual 143, 3, (0, 0), [[2, 2164, 0], [9, 71, 2166, 2165]])]
def qX11_farthestOverDays_32 : List mO := [(.iload_n 1, 1, (0, 0), []),
  (.iload_n 3, 1, (0, 0), []),
  (.invokevirtual 147, 3, (0, 0), [[3, 2182, 0], [9, 72, 2184, 2183]])]
def qX11_farthestOverDays_37 : List mO := [(.istore 4, 2, (0, 0), []),
  (.iload_n 2, 1, (0, 0), []),
  (.aload_n 0, 1, (0, 0), []),
  (.getfield 46, 3, (0, 0), [[7, 2098, 0, 1], [11]]),
  (.iload_n 3, 1, (0, 0), []),
  (.iaload, 1, (0, 0), []),
  (.iload 4, 2, (0, 0), []),
  (.iadd, 1, (0, 0), []),
  (.invokestatic 291, 3, (0, 0), [[1, 997, 4051, 4029, 1020, 4030]]),
  (.invokestatic 269, 3, (0, 0), [[2, 995, 4052, 4053, 1020, 4054]]),
  (.istore_n 2, 1, (0, 0), [])]
def qX11_farthestOverDays_56 : List mO := [(.iinc 3 1, 3, (1, 0), []),
  (.goto (-55), 3, (0, 0), [[4]])]
def qX11_farthestOverDays_62 : List mO := [(.iload_n 2, 1, (0, 0), []),
  (.ireturn, 1, (0, 0), [])]
def pX11_farthestOverDays : List (Nat × List mO) := [(0, qX11_farthestOverDays_0), (4, qX11_farthestOverDays_4), (32, qX11_farthestOverDays_32), (37, qX11_farthestOverDays_37), (56, qX11_farthestOverDays_56), (62, qX11_farthestOverDays_62)]
def qX11_report_0 : List mO := [(.aload_n 0, 1, (0, 0), []),
  (.getfield 10, 3, (0, 0), [[0, 2091, 0, 1], [11]]),
  (.iload_n 1, 1, (0, 0), []),
  (.invokevirtual 137, 3, (0, 0), [[1, 2160, 0], [9, 68, 2162, 2161]])]
def qX11_report_8 : List mO := [(.ifCond .eq 14, 3, (0, 0), [[22]]),
  (.iload_n 2, 1, (0, 0), []),
  (.ifCond .lt 10, 3, (0, 0), [[22]]),
  (.iload_n 2, 1, (0, 0), []),
  (.sipush 9999, 3, (9999, 0), []),
  (.if_icmp .le 5, 3, (0, 0), [[24]])]
def qX11_report_22 : List mO := [(.iconst (-1), 1, ((-1), 0), []),
  (.ireturn, 1, (0, 0), [])]
def qX11_report_24 : List mO := [(.aload_n 0, 1, (0, 0), []),
  (.getfield 10, 3, (0, 0), [[0, 2091, 0, 1], [11]]),
  (.getfield 294, 3, (0, 0), [[11, 1100, 0, 0], [9]]),
  (.bipush 6, 2, (6, 0), []),
  (.if_icmp .lt 6, 3, (0, 0), [[39]]),
  (.bipush (-2), 2, ((-2), 0), []),
  (.ireturn, 1, (0, 0), [])]
def qX11_report_39 : List mO := [(.aload_n 0, 1, (0, 0), []),
  (.getfield 10, 3, (0, 0), [[0, 2091, 0, 1], [11]]),
  (.dup, 1, (0, 0), []),
  (.getfield 294, 3, (0, 0), [[11, 1100, 0, 0], [9]]),
  (.dup_x1, 1, (0, 0), []),
  (.iconst 1, 1, (1, 0), []),
  (.iadd, 1, (0, 0), []),
  (.putfield 294, 3, (0, 0), [[11, 1100, 0, 0], [9]]),
  (.istore_n 3, 1, (0, 0), []),
  (.aload_n 0, 1, (0, 0), []),
  (.getfield 10, 3, (0, 0), [[0, 2091, 0, 1], [11]]),
  (.getfield 297, 3, (0, 0), [[12, 1102, 0, 1], [9]]),
  (.iload_n 3, 1, (0, 0), []),
  (.iload_n 1, 1, (0, 0), []),
  (.iastore, 1, (0, 0), []),
  (.aload_n 0, 1, (0, 0), []),
  (.getfield 10, 3, (0, 0), [[0, 2091, 0, 1], [11]]),
  (.getfield 300, 3, (0, 0), [[13, 1104, 0, 1], [9]]),
  (.iload_n 3, 1, (0, 0), []),
  (.iload_n 2, 1, (0, 0), []),
  (.iastore, 1, (0, 0), []),
  (.iload_n 3, 1, (0, 0), []),
  (.ireturn, 1, (0, 0), [])]
def pX11_report : List (Nat × List mO) := [(0, qX11_report_0), (8, qX11_report_8), (22, qX11_report_22), (24, qX11_report_24), (39, qX11_report_39)]
def qX11_forget_0 : List mO := [(.aload_n 0, 1, (0, 0), []),
  (.getfield 10, 3, (0, 0), [[0, 2091, 0, 1], [11]]),
  (.getfield 294, 3, (0, 0), [[11, 1100, 0, 0], [9]]),
  (.istore_n 1, 1, (0, 0), []),
  (.aload_n 0, 1, (0, 0), []),
  (.getfield 10, 3, (0, 0), [[0, 2091, 0, 1], [11]]),
  (.iconst 0, 1, (0, 0), []),
  (.putfield 294, 3, (0, 0), [[11, 1100, 0, 0], [9]]),
  (.iload_n 1, 1, (0, 0), []),
  (.ireturn, 1, (0, 0), [])]
def pX11_forget : List (Nat × List mO) := [(0, qX11_forget_0)]
def qX11_fits_0 : List mO := [(.aload_n 0, 1, (0, 0), []),
  (.getfield 10, 3, (0, 0), [[0, 2091, 0, 1], [11]]),
  (.iload_n 1, 1, (0, 0), []),
  (.invokevirtual 137, 3, (0, 0), [[1, 2160, 0], [9, 68, 2162, 2161]])]
def qX11_fits_8 : List mO := [(.ifCond .eq 12, 3, (0, 0), [[20]]),
  (.iload_n 2, 1, (0, 0), []),
  (.ifCond .lt 8, 3, (0, 0), [[20]]),
  (.iload_n 2, 1, (0, 0), []),
  (.iconst 2, 1, (2, 0), []),
  (.if_icmp .le 5, 3, (0, 0), [[22]])]
def qX11_fits_20 : List mO := [(.iconst (-1), 1, ((-1), 0), []),
  (.ireturn, 1, (0, 0), [])]
def qX11_fits_22 : List mO := [(.aload_n 0, 1, (0, 0), []),
  (.getfield 35, 3, (0, 0), [[4, 2095, 0, 1], [11]]),
  (.aload_n 0, 1, (0, 0), []),
  (.getfield 10, 3, (0, 0), [[0, 2091, 0, 1], [11]]),
  (.getfield 140, 3, (0, 0), [[7, 1091, 0, 0], [9]]),
  (.invokevirtual 248, 3, (0, 0), [[1, 3176, 0], [0, 1, 3178, 3177]])]
def qX11_fits_36 : List mO := [(.iconst 0, 1, (0, 0), []),
  (.istore_n 3, 1, (0, 0), []),
  (.bipush (-3), 2, ((-3), 0), []),
  (.istore 4, 2, (0, 0), []),
  (.bipush (-3), 2, ((-3), 0), []),
  (.istore 5, 2, (0, 0), []),
  (.iconst 0, 1, (0, 0), []),
  (.istore 6, 2, (0, 0), [])]
def qX11_fits_49 : List mO := [(.iload 6, 2, (0, 0), []),
  (.sipush 1439, 3, (1439, 0), []),
  (.if_icmp .gt 49, 3, (0, 0), [[103]]),
  (.aload_n 0, 1, (0, 0), []),
  (.getfield 35, 3, (0, 0), [[4, 2095, 0, 1], [11]]),
  (.iload_n 1, 1, (0, 0), []),
  (.iload 6, 2, (0, 0), []),
  (.invokevirtual 258, 3, (0, 0), [[2, 4003, 0], [0, 2, 4005, 4004]])]
def qX11_fits_67 : List mO := [(.aload_n 0, 1, (0, 0), []),
  (.invokevirtual 303, 3, (0, 0), [[0, 4153, 0], [11, 130, 36, 4155]])]
def qX11_fits_71 : List mO := [(.ifCond .ne 26, 3, (0, 0), [[97]]),
  (.iinc 3 1, 3, (1, 0), []),
  (.iload 4, 2, (0, 0), []),
  (.bipush (-3), 2, ((-3), 0), []),
  (.if_icmp .ne 8, 3, (0, 0), [[89]]),
  (.iload 6, 2, (0, 0), []),
  (.goto 5, 3, (0, 0), [[91]])]
def qX11_fits_89 : List mO := [(.iload 4, 2, (0, 0), [])]
def qX11_fits_91 : List mO := [(.istore 4, 2, (0, 0), []),
  (.iload 6, 2, (0, 0), []),
  (.istore 5, 2, (0, 0), [])]
def qX11_fits_97 : List mO := [(.iinc 6 1, 3, (1, 0), []),
  (.goto (-51), 3, (0, 0), [[49]])]
def qX11_fits_103 : List mO := [(.iload_n 2, 1, (0, 0), []),
  (.ifCond .ne 7, 3, (0, 0), [[111]]),
  (.iload_n 3, 1, (0, 0), []),
  (.goto 15, 3, (0, 0), [[123]])]
def qX11_fits_111 : List mO := [(.iload_n 2, 1, (0, 0), []),
  (.iconst 1, 1, (1, 0), []),
  (.if_icmp .ne 8, 3, (0, 0), [[121]]),
  (.iload 4, 2, (0, 0), []),
  (.goto 5, 3, (0, 0), [[123]])]
def qX11_fits_121 : List mO := [(.iload 5, 2, (0, 0), [])]
def qX11_fits_123 : List mO := [(.ireturn, 1, (0, 0), [])]
def pX11_fits : List (Nat × List mO) := [(0, qX11_fits_0), (8, qX11_fits_8), (20, qX11_fits_20), (22, qX11_fits_22), (36, qX11_fits_36), (49, qX11_fits_49), (67, qX11_fits_67), (71, qX11_fits_71), (89, qX11_fits_89), (91, qX11_fits_91), (97, qX11_fits_97), (103, qX11_fits_103), (111, qX11_fits_111), (121, qX11_fits_121), (123, qX11_fits_123)]
def qX11_liar_0 : List mO := [(.aload_n 0, 1, (0, 0), []),
  (.getfield 10, 3, (0, 0), [[0, 2091, 0, 1], [11]]),
  (.iload_n 1, 1, (0, 0), []),
  (.invokevirtual 137, 3, (0, 0), [[1, 2160, 0], [9, 68, 2162, 2161]])]
def qX11_liar_8 : List mO := [(.ifCond .ne 5, 3, (0, 0), [[13]]),
  (.iconst (-1), 1, ((-1), 0), []),
  (.ireturn, 1, (0, 0), [])]
def qX11_liar_13 : List mO := [(.aload_n 0, 1, (0, 0), []),
  (.getfield 35, 3, (0, 0), [[4, 2095, 0, 1], [11]]),
  (.aload_n 0, 1, (0, 0), []),
  (.getfield 10, 3, (0, 0), [[0, 2091, 0, 1], [11]]),
  (.getfield 140, 3, (0, 0), [[7, 1091, 0, 0], [9]]),
  (.invokevirtual 248, 3, (0, 0), [[1, 3176, 0], [0, 1, 3178, 3177]])]
def qX11_liar_27 : List mO := [(.iconst 0, 1, (0, 0), []),
  (.istore_n 2, 1, (0, 0), []),
  (.iconst 0, 1, (0, 0), []),
  (.istore_n 3, 1, (0, 0), [])]
def qX11_liar_31 : List mO := [(.iload_n 3, 1, (0, 0), []),
  (.sipush 1439, 3, (1439, 0), []),
  (.if_icmp .gt 46, 3, (0, 0), [[81]]),
  (.aload_n 0, 1, (0, 0), []),
  (.getfield 35, 3, (0, 0), [[4, 2095, 0, 1], [11]]),
  (.iload_n 1, 1, (0, 0), []),
  (.iload_n 3, 1, (0, 0), []),
  (.invokevirtual 258, 3, (0, 0), [[2, 4003, 0], [0, 2, 4005, 4004]])]
def qX11_liar_47 : List mO := [(.aload_n 0, 1, (0, 0), []),
  (.invokevirtual 303, 3, (0, 0), [[0, 4153, 0], [11, 130, 36, 4155]])]
def qX11_liar_51 : List mO := [(.istore 4, 2, (0, 0), []),
  (.iload 4, 2, (0, 0), []),
  (.ifCond .ne 6, 3, (0, 0), [[61]]),
  (.bipush (-3), 2, ((-3), 0), []),
  (.ireturn, 1, (0, 0), [])]
def qX11_liar_61 : List mO := [(.iload 4, 2, (0, 0), []),
  (.invokestatic 255, 3, (0, 0), [[1, 266, 4073, 4074, 0]])]
def qX11_liar_66 : List mO := [(.iconst 1, 1, (1, 0), []),
  (.if_icmp .ne 8, 3, (0, 0), [[75]]),
  (.iload_n 2, 1, (0, 0), []),
  (.iload 4, 2, (0, 0), []),
  (.ior, 1, (0, 0), []),
  (.istore_n 2, 1, (0, 0), [])]
def qX11_liar_75 : List mO := [(.iinc 3 1, 3, (1, 0), []),
  (.goto (-47), 3, (0, 0), [[31]])]
def qX11_liar_81 : List mO := [(.iconst 0, 1, (0, 0), []),
  (.istore_n 3, 1, (0, 0), [])]
def qX11_liar_83 : List mO := [(.iload_n 3, 1, (0, 0), []),
  (.aload_n 0, 1, (0, 0), []),
  (.getfield 10, 3, (0, 0), [[0, 2091, 0, 1], [11]]),
  (.getfield 294, 3, (0, 0), [[11, 1100, 0, 0], [9]]),
  (.if_icmp .ge 20, 3, (0, 0), [[111]]),
  (.iload_n 2, 1, (0, 0), []),
  (.iload_n 3, 1, (0, 0), []),
  (.iushr, 1, (0, 0), []),
  (.iconst 1, 1, (1, 0), []),
  (.iand, 1, (0, 0), []),
  (.iconst 1, 1, (1, 0), []),
  (.if_icmp .ne 5, 3, (0, 0), [[105]]),
  (.iload_n 3, 1, (0, 0), []),
  (.ireturn, 1, (0, 0), [])]
def qX11_liar_105 : List mO := [(.iinc 3 1, 3, (1, 0), []),
  (.goto (-25), 3, (0, 0), [[83]])]
def qX11_liar_111 : List mO := [(.bipush (-3), 2, ((-3), 0), []),
  (.ireturn, 1, (0, 0), [])]
def pX11_liar : List (Nat × List mO) := [(0, qX11_liar_0), (8, qX11_liar_8), (13, qX11_liar_13), (27, qX11_liar_27), (31, qX11_liar_31), (47, qX11_liar_47), (51, qX11_liar_51), (61, qX11_liar_61), (66, qX11_liar_66), (75, qX11_liar_75), (81, qX11_liar_81), (83, qX11_liar_83), (105, qX11_liar_105), (111, qX11_liar_111)]
def qX11_wrongReports_0 : List mO := [(.iconst 0, 1, (0, 0), []),
  (.istore_n 1, 1, (0, 0), []),
  (.iconst 0, 1, (0, 0), []),
  (.istore_n 2, 1, (0, 0), [])]
def qX11_wrongReports_4 : List mO := [(.iload_n 2, 1, (0, 0), []),
  (.aload_n 0, 1, (0, 0), []),
  (.getfield 10, 3, (0, 0), [[0, 2091, 0, 1], [11]]),
  (.getfield 294, 3, (0, 0), [[11, 1100, 0, 0], [9]]),
  (.if_icmp .ge 57, 3, (0, 0), [[69]]),
  (.aload_n 0, 1, (0, 0), []),
  (.getfield 10, 3, (0, 0), [[0, 2091, 0, 1], [11]]),
  (.getfield 297, 3, (0, 0), [[12, 1102, 0, 1], [9]]),
  (.iload_n 2, 1, (0, 0), []),
  (.iaload, 1, (0, 0), []),
  (.istore_n 3, 1, (0, 0), []),
  (.aload_n 0, 1, (0, 0), []),
  (.getfield 35, 3, (0, 0), [[4, 2095, 0, 1], [11]]),
  (.iload_n 3, 1, (0, 0), []),
  (.invokevirtual 198, 3, (0, 0), [[1, 3212, 0], [0, 10, 3206, 3205]])]
def qX11_wrongReports_33 : List mO := [(.ifCond .eq 24, 3, (0, 0), [[57]]),
  (.aload_n 0, 1, (0, 0), []),
  (.getfield 35, 3, (0, 0), [[4, 2095, 0, 1], [11]]),
  (.getfield 201, 3, (0, 0), [[7, 1205, 0, 1], [0]]),
  (.iload_n 3, 1, (0, 0), []),
  (.iaload, 1, (0, 0), []),
  (.aload_n 0, 1, (0, 0), []),
  (.getfield 10, 3, (0, 0), [[0, 2091, 0, 1], [11]]),
  (.getfield 300, 3, (0, 0), [[13, 1104, 0, 1], [9]]),
  (.iload_n 2, 1, (0, 0), []),
  (.iaload, 1, (0, 0), []),
  (.if_icmp .eq 9, 3, (0, 0), [[63]])]
def qX11_wrongReports_57 : List mO := [(.iload_n 1, 1, (0, 0), []),
  (.iconst 1, 1, (1, 0), []),
  (.iload_n 2, 1, (0, 0), []),
  (.ishl, 1, (0, 0), []),
  (.ior, 1, (0, 0), []),
  (.istore_n 1, 1, (0, 0), [])]
def qX11_wrongReports_63 : List mO := [(.iinc 2 1, 3, (1, 0), []),
  (.goto (-62), 3, (0, 0), [[4]])]
def qX11_wrongReports_69 : List mO := [(.iload_n 1, 1, (0, 0), []),
  (.ireturn, 1, (0, 0), [])]
def pX11_wrongReports : List (Nat × List mO) := [(0, qX11_wrongReports_0), (4, qX11_wrongReports_4), (33, qX11_wrongReports_33), (57, qX11_wrongReports_57), (63, qX11_wrongReports_63), (69, qX11_wrongReports_69)]
def qX11_prove_0 : List mO := [(.aload_n 0, 1, (0, 0), []),
  (.iload_n 1, 1, (0, 0), []),
  (.iload_n 2, 1, (0, 0), []),
  (.invokevirtual 191, 3, (0, 0), [[2, 3165, 0], [11, 118, 25, 3167]])]
def qX11_prove_6 : List mO := [(.ifCond .ne 5, 3, (0, 0), [[11]]),
  (.iconst (-1), 1, ((-1), 0), []),
  (.ireturn, 1, (0, 0), [])]
def qX11_prove_11 : List mO := [(.aload_n 0, 1, (0, 0), []),
  (.iload_n 1, 1, (0, 0), []),
  (.iload_n 2, 1, (0, 0), []),
  (.iload_n 3, 1, (0, 0), []),
  (.invokevirtual 194, 3, (0, 0), [[3, 3172, 0], [11, 121, 26, 3174]])]
def qX11_prove_18 : List mO := [(.aload_n 0, 1, (0, 0), []),
  (.aload_n 0, 1, (0, 0), []),
  (.getfield 35, 3, (0, 0), [[4, 2095, 0, 1], [11]]),
  (.invokevirtual 203, 3, (0, 0), [[0, 3213, 0], [0, 11, 3215, 3214]])]
def qX11_prove_26 : List mO := [(.putfield 50, 3, (0, 0), [[8, 2099, 0, 0], [11]]),
  (.iconst 0, 1, (0, 0), []),
  (.istore 4, 2, (0, 0), [])]
def qX11_prove_32 : List mO := [(.iload 4, 2, (0, 0), []),
  (.aload_n 0, 1, (0, 0), []),
  (.getfield 50, 3, (0, 0), [[8, 2099, 0, 0], [11]]),
  (.if_icmp .ge 87, 3, (0, 0), [[125]]),
  (.iload_n 3, 1, (0, 0), []),
  (.ifCond .eq 10, 3, (0, 0), [[52]]),
  (.iload_n 1, 1, (0, 0), []),
  (.iload 4, 2, (0, 0), []),
  (.iadd, 1, (0, 0), []),
  (.goto 7, 3, (0, 0), [[56]])]
def qX11_prove_52 : List mO := [(.iload_n 1, 1, (0, 0), []),
  (.iload 4, 2, (0, 0), []),
  (.isub, 1, (0, 0), [])]
def qX11_prove_56 : List mO := [(.istore 5, 2, (0, 0), []),
  (.aload_n 0, 1, (0, 0), []),
  (.getfield 10, 3, (0, 0), [[0, 2091, 0, 1], [11]]),
  (.iload 5, 2, (0, 0), []),
  (.invokevirtual 137, 3, (0, 0), [[1, 2160, 0], [9, 68, 2162, 2161]])]
def qX11_prove_67 : List mO := [(.ifCond .eq 52, 3, (0, 0), [[119]]),
  (.aload_n 0, 1, (0, 0), []),
  (.getfield 56, 3, (0, 0), [[9, 2100, 0, 1], [11]]),
  (.iload 4, 2, (0, 0), []),
  (.aaload, 1, (0, 0), [])]
def qX11_prove_77 : List mO := [(.iconst 0, 1, (0, 0), []),
  (.iload 5, 2, (0, 0), []),
  (.iastore, 1, (0, 0), []),
  (.aload_n 0, 1, (0, 0), []),
  (.getfield 56, 3, (0, 0), [[9, 2100, 0, 1], [11]]),
  (.iload 4, 2, (0, 0), []),
  (.aaload, 1, (0, 0), [])]
def qX11_prove_88 : List mO := [(.iconst 1, 1, (1, 0), []),
  (.aload_n 0, 1, (0, 0), []),
  (.getfield 35, 3, (0, 0), [[4, 2095, 0, 1], [11]]),
  (.getfield 202, 3, (0, 0), [[6, 1203, 0, 1], [0]]),
  (.iload 5, 2, (0, 0), []),
  (.iaload, 1, (0, 0), []),
  (.iastore, 1, (0, 0), []),
  (.aload_n 0, 1, (0, 0), []),
  (.getfield 56, 3, (0, 0), [[9, 2100, 0, 1], [11]]),
  (.iload 4, 2, (0, 0), []),
  (.aaload, 1, (0, 0), [])]
def qX11_prove_107 : List mO := [(.iconst 2, 1, (2, 0), []),
  (.aload_n 0, 1, (0, 0), []),
  (.getfield 35, 3, (0, 0), [[4, 2095, 0, 1], [11]]),
  (.getfield 201, 3, (0, 0), [[7, 1205, 0, 1], [0]]),
  (.iload 5, 2, (0, 0), []),
  (.iaload, 1, (0, 0), []),
  (.iastore, 1, (0, 0), [])]
def qX11_prove_119 : List mO := [(.iinc 4 1, 3, (1, 0), []),
  (.goto (-90), 3, (0, 0), [[32]])]
def qX11_prove_125 : List mO := [(.aload_n 0, 1, (0, 0), []),
  (.getfield 50, 3, (0, 0), [[8, 2099, 0, 0], [11]]),
  (.ireturn, 1, (0, 0), [])]
def pX11_prove : List (Nat × List mO) := [(0, qX11_prove_0), (6, qX11_prove_6), (11, qX11_prove_11), (18, qX11_prove_18), (26, qX11_prove_26), (32, qX11_prove_32), (52, qX11_prove_52), (56, qX11_prove_56), (67, qX11_prove_67), (77, qX11_prove_77), (88, qX11_prove_88), (107, qX11_prove_107), (119, qX11_prove_119), (125, qX11_prove_125)]
def qX11_row_0 : List mO := [(.aload_n 0, 1, (0, 0), []),
  (.iload_n 1, 1, (0, 0), []),
  (.iload_n 2, 1, (0, 0), []),
  (.invokevirtual 306, 3, (0, 0), [[2, 4169, 0], [11, 135, 37, 4171]])]
def qX11_row_6 : List mO := [(.ifCond .eq 14, 3, (0, 0), [[20]]),
  (.aload_n 0, 1, (0, 0), []),
  (.getfield 56, 3, (0, 0), [[9, 2100, 0, 1], [11]]),
  (.iload_n 1, 1, (0, 0), []),
  (.aaload, 1, (0, 0), [])]
def qX11_row_15 : List mO := [(.iload_n 2, 1, (0, 0), []),
  (.iaload, 1, (0, 0), []),
  (.goto 5, 3, (0, 0), [[22]])]
def qX11_row_20 : List mO := [(.bipush (-9), 2, ((-9), 0), [])]
def qX11_row_22 : List mO := [(.ireturn, 1, (0, 0), [])]
def pX11_row : List (Nat × List mO) := [(0, qX11_row_0), (6, qX11_row_6), (15, qX11_row_15), (20, qX11_row_20), (22, qX11_row_22)]
def qX11_alterRow_0 : List mO := [(.aload_n 0, 1, (0, 0), []),
  (.iload_n 1, 1, (0, 0), []),
  (.iload_n 2, 1, (0, 0), []),
  (.invokevirtual 306, 3, (0, 0), [[2, 4169, 0], [11, 135, 37, 4171]])]
def qX11_alterRow_6 : List mO := [(.ifCond .ne 6, 3, (0, 0), [[12]]),
  (.bipush (-9), 2, ((-9), 0), []),
  (.ireturn, 1, (0, 0), [])]
def qX11_alterRow_12 : List mO := [(.aload_n 0, 1, (0, 0), []),
  (.getfield 56, 3, (0, 0), [[9, 2100, 0, 1], [11]]),
  (.iload_n 1, 1, (0, 0), []),
  (.aaload, 1, (0, 0), [])]
def qX11_alterRow_18 : List mO := [(.iload_n 2, 1, (0, 0), []),
  (.iaload, 1, (0, 0), []),
  (.istore 4, 2, (0, 0), []),
  (.aload_n 0, 1, (0, 0), []),
  (.getfield 56, 3, (0, 0), [[9, 2100, 0, 1], [11]]),
  (.iload_n 1, 1, (0, 0), []),
  (.aaload, 1, (0, 0), [])]
def qX11_alterRow_28 : List mO := [(.iload_n 2, 1, (0, 0), []),
  (.iload_n 3, 1, (0, 0), []),
  (.iastore, 1, (0, 0), []),
  (.iload 4, 2, (0, 0), []),
  (.ireturn, 1, (0, 0), [])]
def pX11_alterRow : List (Nat × List mO) := [(0, qX11_alterRow_0), (6, qX11_alterRow_6), (12, qX11_alterRow_12), (18, qX11_alterRow_18), (28, qX11_alterRow_28)]
def qX11_judge_0 : List mO := [(.aload_n 0, 1, (0, 0), []),
  (.getfield 50, 3, (0, 0), [[8, 2099, 0, 0], [11]]),
  (.ifCond .ne 5, 3, (0, 0), [[9]]),
  (.iconst 0, 1, (0, 0), []),
  (.ireturn, 1, (0, 0), [])]
def qX11_judge_9 : List mO := [(.aload_n 0, 1, (0, 0), []),
  (.getfield 56, 3, (0, 0), [[9, 2100, 0, 1], [11]]),
  (.iconst 0, 1, (0, 0), []),
  (.aaload, 1, (0, 0), [])]
def qX11_judge_15 : List mO := [(.iconst 0, 1, (0, 0), []),
  (.iaload, 1, (0, 0), []),
  (.istore_n 2, 1, (0, 0), []),
  (.aload_n 0, 1, (0, 0), []),
  (.getfield 56, 3, (0, 0), [[9, 2100, 0, 1], [11]]),
  (.iconst 0, 1, (0, 0), []),
  (.aaload, 1, (0, 0), [])]
def qX11_judge_24 : List mO := [(.iconst 1, 1, (1, 0), []),
  (.iaload, 1, (0, 0), []),
  (.istore_n 3, 1, (0, 0), []),
  (.aload_n 0, 1, (0, 0), []),
  (.iload_n 2, 1, (0, 0), []),
  (.iload_n 3, 1, (0, 0), []),
  (.invokevirtual 191, 3, (0, 0), [[2, 3165, 0], [11, 118, 25, 3167]])]
def qX11_judge_33 : List mO := [(.ifCond .eq 15, 3, (0, 0), [[48]]),
  (.aload_n 0, 1, (0, 0), []),
  (.getfield 56, 3, (0, 0), [[9, 2100, 0, 1], [11]]),
  (.iconst 0, 1, (0, 0), []),
  (.aaload, 1, (0, 0), [])]
def qX11_judge_42 : List mO := [(.iconst 2, 1, (2, 0), []),
  (.iaload, 1, (0, 0), []),
  (.iload_n 3, 1, (0, 0), []),
  (.if_icmp .eq 5, 3, (0, 0), [[50]])]
def qX11_judge_48 : List mO := [(.iconst 1, 1, (1, 0), []),
  (.ireturn, 1, (0, 0), [])]
def qX11_judge_50 : List mO := [(.aload_n 0, 1, (0, 0), []),
  (.iload_n 2, 1, (0, 0), []),
  (.iload_n 3, 1, (0, 0), []),
  (.iload_n 1, 1, (0, 0), []),
  (.invokevirtual 194, 3, (0, 0), [[3, 3172, 0], [11, 121, 26, 3174]])]
def qX11_judge_57 : List mO := [(.iconst 1, 1, (1, 0), []),
  (.istore 4, 2, (0, 0), [])]
def qX11_judge_60 : List mO := [(.iload 4, 2, (0, 0), []),
  (.aload_n 0, 1, (0, 0), []),
  (.getfield 50, 3, (0, 0), [[8, 2099, 0, 0], [11]]),
  (.if_icmp .ge 66, 3, (0, 0), [[132]]),
  (.iload_n 1, 1, (0, 0), []),
  (.ifCond .eq 10, 3, (0, 0), [[80]]),
  (.iload_n 2, 1, (0, 0), []),
  (.iload 4, 2, (0, 0), []),
  (.iadd, 1, (0, 0), []),
  (.goto 7, 3, (0, 0), [[84]])]
def qX11_judge_80 : List mO := [(.iload_n 2, 1, (0, 0), []),
  (.iload 4, 2, (0, 0), []),
  (.isub, 1, (0, 0), [])]
def qX11_judge_84 : List mO := [(.istore 5, 2, (0, 0), []),
  (.aload_n 0, 1, (0, 0), []),
  (.getfield 10, 3, (0, 0), [[0, 2091, 0, 1], [11]]),
  (.iload 5, 2, (0, 0), []),
  (.invokevirtual 137, 3, (0, 0), [[1, 2160, 0], [9, 68, 2162, 2161]])]
def qX11_judge_95 : List mO := [(.ifCond .eq 26, 3, (0, 0), [[121]]),
  (.aload_n 0, 1, (0, 0), []),
  (.getfield 35, 3, (0, 0), [[4, 2095, 0, 1], [11]]),
  (.iload 5, 2, (0, 0), []),
  (.invokevirtual 198, 3, (0, 0), [[1, 3212, 0], [0, 10, 3206, 3205]])]
def qX11_judge_107 : List mO := [(.ifCond .eq 14, 3, (0, 0), [[121]]),
  (.aload_n 0, 1, (0, 0), []),
  (.iload 4, 2, (0, 0), []),
  (.iload 5, 2, (0, 0), []),
  (.invokevirtual 309, 3, (0, 0), [[2, 4181, 0], [11, 136, 38, 4183]])]
def qX11_judge_118 : List mO := [(.ifCond .ne 8, 3, (0, 0), [[126]])]
def qX11_judge_121 : List mO := [(.iload 4, 2, (0, 0), []),
  (.iconst 1, 1, (1, 0), []),
  (.iadd, 1, (0, 0), []),
  (.ireturn, 1, (0, 0), [])]
def qX11_judge_126 : List mO := [(.iinc 4 1, 3, (1, 0), []),
  (.goto (-69), 3, (0, 0), [[60]])]
def qX11_judge_132 : List mO := [(.iconst 0, 1, (0, 0), []),
  (.ireturn, 1, (0, 0), [])]
def pX11_judge : List (Nat × List mO) := [(0, qX11_judge_0), (9, qX11_judge_9), (15, qX11_judge_15), (24, qX11_judge_24), (33, qX11_judge_33), (42, qX11_judge_42), (48, qX11_judge_48), (50, qX11_judge_50), (57, qX11_judge_57), (60, qX11_judge_60), (80, qX11_judge_80), (84, qX11_judge_84), (95, qX11_judge_95), (107, qX11_judge_107), (118, qX11_judge_118), (121, qX11_judge_121), (126, qX11_judge_126), (132, qX11_judge_132)]
def qX11_isInRows_0 : List mO := [(.iload_n 1, 1, (0, 0), []),
  (.ifCond .lt 24, 3, (0, 0), [[25]]),
  (.iload_n 1, 1, (0, 0), []),
  (.aload_n 0, 1, (0, 0), []),
  (.getfield 50, 3, (0, 0), [[8, 2099, 0, 0], [11]]),
  (.if_icmp .ge 16, 3, (0, 0), [[25]]),
  (.iload_n 2, 1, (0, 0), []),
  (.ifCond .lt 12, 3, (0, 0), [[25]]),
  (.iload_n 2, 1, (0, 0), []),
  (.iconst 2, 1, (2, 0), []),
  (.if_icmp .gt 7, 3, (0, 0), [[25]]),
  (.iconst 1, 1, (1, 0), []),
  (.goto 4, 3, (0, 0), [[26]])]
def qX11_isInRows_25 : List mO := [(.iconst 0, 1, (0, 0), [])]
def qX11_isInRows_26 : List mO := [(.ireturn, 1, (0, 0), [[1]])]
def pX11_isInRows : List (Nat × List mO) := [(0, qX11_isInRows_0), (25, qX11_isInRows_25), (26, qX11_isInRows_26)]
def qX11_isRowOfAsked_0 : List mO := [(.aload_n 0, 1, (0, 0), []),
  (.getfield 56, 3, (0, 0), [[9, 2100, 0, 1], [11]]),
  (.iload_n 1, 1, (0, 0), []),
  (.aaload, 1, (0, 0), [])]
def qX11_isRowOfAsked_6 : List mO := [(.iconst 0, 1, (0, 0), []),
  (.iaload, 1, (0, 0), []),
  (.iload_n 2, 1, (0, 0), []),
  (.if_icmp .ne 47, 3, (0, 0), [[56]]),
  (.aload_n 0, 1, (0, 0), []),
  (.getfield 56, 3, (0, 0), [[9, 2100, 0, 1], [11]]),
  (.iload_n 1, 1, (0, 0), []),
  (.aaload, 1, (0, 0), [])]
def qX11_isRowOfAsked_18 : List mO := [(.iconst 1, 1, (1, 0), []),
  (.iaload, 1, (0, 0), []),
  (.aload_n 0, 1, (0, 0), []),
  (.getfield 35, 3, (0, 0), [[4, 2095, 0, 1], [11]]),
  (.getfield 202, 3, (0, 0), [[6, 1203, 0, 1], [0]]),
  (.iload_n 2, 1, (0, 0), []),
  (.iaload, 1, (0, 0), []),
  (.if_icmp .ne 27, 3, (0, 0), [[56]]),
  (.aload_n 0, 1, (0, 0), []),
  (.getfield 56, 3, (0, 0), [[9, 2100, 0, 1], [11]]),
  (.iload_n 1, 1, (0, 0), []),
  (.aaload, 1, (0, 0), [])]
def qX11_isRowOfAsked_38 : List mO := [(.iconst 2, 1, (2, 0), []),
  (.iaload, 1, (0, 0), []),
  (.aload_n 0, 1, (0, 0), []),
  (.getfield 35, 3, (0, 0), [[4, 2095, 0, 1], [11]]),
  (.getfield 201, 3, (0, 0), [[7, 1205, 0, 1], [0]]),
  (.iload_n 2, 1, (0, 0), []),
  (.iaload, 1, (0, 0), []),
  (.if_icmp .ne 7, 3, (0, 0), [[56]]),
  (.iconst 1, 1, (1, 0), []),
  (.goto 4, 3, (0, 0), [[57]])]
def qX11_isRowOfAsked_56 : List mO := [(.iconst 0, 1, (0, 0), [])]
def qX11_isRowOfAsked_57 : List mO := [(.ireturn, 1, (0, 0), [[1]])]
def pX11_isRowOfAsked : List (Nat × List mO) := [(0, qX11_isRowOfAsked_0), (6, qX11_isRowOfAsked_6), (18, qX11_isRowOfAsked_18), (38, qX11_isRowOfAsked_38), (56, qX11_isRowOfAsked_56), (57, qX11_isRowOfAsked_57)]
def qX11_sheet_0 : List mO := [(.iload_n 1, 1, (0, 0), []),
  (.invokestatic 312, 3, (0, 0), [[1, 146, 4189, 4190, 0]])]
def qX11_sheet_4 : List mO := [(.ifCond .eq 15, 3, (0, 0), [[19]]),
  (.iload_n 2, 1, (0, 0), []),
  (.iconst (-1), 1, ((-1), 0), []),
  (.if_icmp .eq 12, 3, (0, 0), [[21]]),
  (.iload_n 2, 1, (0, 0), []),
  (.invokestatic 315, 3, (0, 0), [[1, 147, 4192, 4193, 0]])]
def qX11_sheet_16 : List mO := [(.ifCond .ne 5, 3, (0, 0), [[21]])]
def qX11_sheet_19 : List mO := [(.iconst (-1), 1, ((-1), 0), []),
  (.ireturn, 1, (0, 0), [])]
def qX11_sheet_21 : List mO := [(.iload_n 2, 1, (0, 0), []),
  (.iconst (-1), 1, ((-1), 0), []),
  (.if_icmp .ne 12, 3, (0, 0), [[35]]),
  (.aload_n 0, 1, (0, 0), []),
  (.getfield 59, 3, (0, 0), [[10, 2101, 0, 1], [11]]),
  (.iload_n 1, 1, (0, 0), []),
  (.iconst (-1), 1, ((-1), 0), []),
  (.iastore, 1, (0, 0), []),
  (.iconst 1, 1, (1, 0), []),
  (.ireturn, 1, (0, 0), [])]
def qX11_sheet_35 : List mO := [(.iload_n 3, 1, (0, 0), []),
  (.bipush 40, 2, (40, 0), []),
  (.if_icmp .le 5, 3, (0, 0), [[43]]),
  (.iconst (-1), 1, ((-1), 0), []),
  (.ireturn, 1, (0, 0), [])]
def qX11_sheet_43 : List mO := [(.iload_n 3, 1, (0, 0), []),
  (.ifCond .ge 6, 3, (0, 0), [[50]]),
  (.bipush (-14), 2, ((-14), 0), []),
  (.ireturn, 1, (0, 0), [])]
def qX11_sheet_50 : List mO := [(.aload_n 0, 1, (0, 0), []),
  (.getfield 59, 3, (0, 0), [[10, 2101, 0, 1], [11]]),
  (.iload_n 1, 1, (0, 0), []),
  (.iload_n 2, 1, (0, 0), []),
  (.iastore, 1, (0, 0), []),
  (.aload_n 0, 1, (0, 0), []),
  (.getfield 62, 3, (0, 0), [[11, 2102, 0, 1], [11]]),
  (.iload_n 1, 1, (0, 0), []),
  (.iload_n 3, 1, (0, 0), []),
  (.iastore, 1, (0, 0), []),
  (.aload_n 0, 1, (0, 0), []),
  (.getfield 65, 3, (0, 0), [[12, 2103, 0, 1], [11]]),
  (.iload_n 1, 1, (0, 0), []),
  (.aaload, 1, (0, 0), [])]
def qX11_sheet_70 : List mO := [(.iconst 0, 1, (0, 0), []),
  (.invokestatic 212, 3, (0, 0), [[2, 267, 3232, 3233, 0]])]
def qX11_sheet_74 : List mO := [(.iconst 1, 1, (1, 0), []),
  (.ireturn, 1, (0, 0), [])]
def pX11_sheet : List (Nat × List mO) := [(0, qX11_sheet_0), (4, qX11_sheet_4), (16, qX11_sheet_16), (19, qX11_sheet_19), (21, qX11_sheet_21), (35, qX11_sheet_35), (43, qX11_sheet_43), (50, qX11_sheet_50), (70, qX11_sheet_70), (74, qX11_sheet_74)]
def qX11_write_0 : List mO := [(.iload_n 1, 1, (0, 0), []),
  (.invokestatic 312, 3, (0, 0), [[1, 146, 4189, 4190, 0]])]
def qX11_write_4 : List mO := [(.ifCond .ne 5, 3, (0, 0), [[9]]),
  (.iconst (-1), 1, ((-1), 0), []),
  (.ireturn, 1, (0, 0), [])]
def qX11_write_9 : List mO := [(.aload_n 0, 1, (0, 0), []),
  (.getfield 59, 3, (0, 0), [[10, 2101, 0, 1], [11]]),
  (.iload_n 1, 1, (0, 0), []),
  (.iaload, 1, (0, 0), []),
  (.iconst (-1), 1, ((-1), 0), []),
  (.if_icmp .ne 6, 3, (0, 0), [[22]]),
  (.bipush (-11), 2, ((-11), 0), []),
  (.ireturn, 1, (0, 0), [])]
def qX11_write_22 : List mO := [(.aload_n 0, 1, (0, 0), []),
  (.iload_n 1, 1, (0, 0), []),
  (.iload_n 2, 1, (0, 0), []),
  (.invokevirtual 318, 3, (0, 0), [[2, 4199, 0], [11, 148, 39, 4201]])]
def qX11_write_28 : List mO := [(.ifCond .ne 6, 3, (0, 0), [[34]]),
  (.bipush (-12), 2, ((-12), 0), []),
  (.ireturn, 1, (0, 0), [])]
def qX11_write_34 : List mO := [(.aload_n 0, 1, (0, 0), []),
  (.getfield 65, 3, (0, 0), [[12, 2103, 0, 1], [11]]),
  (.iload_n 1, 1, (0, 0), []),
  (.aaload, 1, (0, 0), [])]
def qX11_write_40 : List mO := [(.iload_n 2, 1, (0, 0), []),
  (.aload_n 0, 1, (0, 0), []),
  (.getfield 59, 3, (0, 0), [[10, 2101, 0, 1], [11]]),
  (.iload_n 1, 1, (0, 0), []),
  (.iaload, 1, (0, 0), []),
  (.iload_n 3, 1, (0, 0), []),
  (.invokestatic 321, 3, (0, 0), [[2, 149, 4203, 4204, 0]])]
def qX11_write_51 : List mO := [(.iastore, 1, (0, 0), []),
  (.iconst 1, 1, (1, 0), []),
  (.ireturn, 1, (0, 0), [])]
def pX11_write : List (Nat × List mO) := [(0, qX11_write_0), (4, qX11_write_4), (9, qX11_write_9), (22, qX11_write_22), (28, qX11_write_28), (34, qX11_write_34), (40, qX11_write_40), (51, qX11_write_51)]
def qX11_item_0 : List mO := [(.iload_n 1, 1, (0, 0), []),
  (.invokestatic 312, 3, (0, 0), [[1, 146, 4189, 4190, 0]])]
def qX11_item_4 : List mO := [(.ifCond .eq 10, 3, (0, 0), [[14]]),
  (.iload_n 2, 1, (0, 0), []),
  (.invokestatic 315, 3, (0, 0), [[1, 147, 4192, 4193, 0]])]
def qX11_item_11 : List mO := [(.ifCond .ne 5, 3, (0, 0), [[16]])]
def qX11_item_14 : List mO := [(.iconst (-1), 1, ((-1), 0), []),
  (.ireturn, 1, (0, 0), [])]
def qX11_item_16 : List mO := [(.aload_n 0, 1, (0, 0), []),
  (.getfield 59, 3, (0, 0), [[10, 2101, 0, 1], [11]]),
  (.iload_n 1, 1, (0, 0), []),
  (.iaload, 1, (0, 0), []),
  (.iconst (-1), 1, ((-1), 0), []),
  (.if_icmp .ne 6, 3, (0, 0), [[29]]),
  (.bipush (-11), 2, ((-11), 0), []),
  (.ireturn, 1, (0, 0), [])]
def qX11_item_29 : List mO := [(.aload_n 0, 1, (0, 0), []),
  (.getfield 59, 3, (0, 0), [[10, 2101, 0, 1], [11]]),
  (.iload_n 1, 1, (0, 0), []),
  (.iaload, 1, (0, 0), []),
  (.iload_n 2, 1, (0, 0), []),
  (.if_icmp .eq 6, 3, (0, 0), [[42]]),
  (.bipush (-13), 2, ((-13), 0), []),
  (.ireturn, 1, (0, 0), [])]
def qX11_item_42 : List mO := [(.aload_n 0, 1, (0, 0), []),
  (.iload_n 1, 1, (0, 0), []),
  (.iload_n 3, 1, (0, 0), []),
  (.invokevirtual 318, 3, (0, 0), [[2, 4199, 0], [11, 148, 39, 4201]])]
def qX11_item_48 : List mO := [(.ifCond .eq 14, 3, (0, 0), [[62]]),
  (.aload_n 0, 1, (0, 0), []),
  (.getfield 65, 3, (0, 0), [[12, 2103, 0, 1], [11]]),
  (.iload_n 1, 1, (0, 0), []),
  (.aaload, 1, (0, 0), [])]
def qX11_item_57 : List mO := [(.iload_n 3, 1, (0, 0), []),
  (.iaload, 1, (0, 0), []),
  (.goto 5, 3, (0, 0), [[64]])]
def qX11_item_62 : List mO := [(.bipush (-12), 2, ((-12), 0), [])]
def qX11_item_64 : List mO := [(.ireturn, 1, (0, 0), [])]
def pX11_item : List (Nat × List mO) := [(0, qX11_item_0), (4, qX11_item_4), (11, qX11_item_11), (14, qX11_item_14), (16, qX11_item_16), (29, qX11_item_29), (42, qX11_item_42), (48, qX11_item_48), (57, qX11_item_57), (62, qX11_item_62), (64, qX11_item_64)]
def qX11_adds_0 : List mO := [(.iload_n 1, 1, (0, 0), []),
  (.invokestatic 312, 3, (0, 0), [[1, 146, 4189, 4190, 0]])]
def qX11_adds_4 : List mO := [(.ifCond .eq 13, 3, (0, 0), [[17]]),
  (.iload_n 3, 1, (0, 0), []),
  (.ifCond .lt 9, 3, (0, 0), [[17]]),
  (.iload_n 3, 1, (0, 0), []),
  (.bipush 9, 2, (9, 0), []),
  (.if_icmp .le 5, 3, (0, 0), [[19]])]
def qX11_adds_17 : List mO := [(.iconst (-1), 1, ((-1), 0), []),
  (.ireturn, 1, (0, 0), [])]
def qX11_adds_19 : List mO := [(.aload_n 0, 1, (0, 0), []),
  (.getfield 59, 3, (0, 0), [[10, 2101, 0, 1], [11]]),
  (.iload_n 1, 1, (0, 0), []),
  (.iaload, 1, (0, 0), []),
  (.iconst (-1), 1, ((-1), 0), []),
  (.if_icmp .ne 6, 3, (0, 0), [[32]]),
  (.bipush (-11), 2, ((-11), 0), []),
  (.ireturn, 1, (0, 0), [])]
def qX11_adds_32 : List mO := [(.aload_n 0, 1, (0, 0), []),
  (.getfield 59, 3, (0, 0), [[10, 2101, 0, 1], [11]]),
  (.iload_n 1, 1, (0, 0), []),
  (.iaload, 1, (0, 0), []),
  (.ifCond .eq 6, 3, (0, 0), [[44]]),
  (.bipush (-13), 2, ((-13), 0), []),
  (.ireturn, 1, (0, 0), [])]
def qX11_adds_44 : List mO := [(.iconst 0, 1, (0, 0), []),
  (.istore 4, 2, (0, 0), []),
  (.iconst 0, 1, (0, 0), []),
  (.istore 5, 2, (0, 0), [])]
def qX11_adds_50 : List mO := [(.iload 5, 2, (0, 0), []),
  (.iload_n 3, 1, (0, 0), []),
  (.if_icmp .ge 49, 3, (0, 0), [[102]]),
  (.aload_n 0, 1, (0, 0), []),
  (.iload_n 1, 1, (0, 0), []),
  (.iload_n 2, 1, (0, 0), []),
  (.iload 5, 2, (0, 0), []),
  (.iadd, 1, (0, 0), []),
  (.invokevirtual 318, 3, (0, 0), [[2, 4199, 0], [11, 148, 39, 4201]])]
def qX11_adds_65 : List mO := [(.ifCond .ne 6, 3, (0, 0), [[71]]),
  (.bipush (-12), 2, ((-12), 0), []),
  (.ireturn, 1, (0, 0), [])]
def qX11_adds_71 : List mO := [(.aload_n 0, 1, (0, 0), []),
  (.iload 5, 2, (0, 0), []),
  (.iconst 1, 1, (1, 0), []),
  (.aload_n 0, 1, (0, 0), []),
  (.getfield 65, 3, (0, 0), [[12, 2103, 0, 1], [11]]),
  (.iload_n 1, 1, (0, 0), []),
  (.aaload, 1, (0, 0), [])]
def qX11_adds_81 : List mO := [(.iload_n 2, 1, (0, 0), []),
  (.iload 5, 2, (0, 0), []),
  (.iadd, 1, (0, 0), []),
  (.iaload, 1, (0, 0), []),
  (.invokevirtual 324, 3, (0, 0), [[3, 4214, 0], [11, 82, 2196, 2195]])]
def qX11_adds_89 : List mO := [(.iconst (-1), 1, ((-1), 0), []),
  (.if_icmp .eq 6, 3, (0, 0), [[96]]),
  (.iinc 4 1, 3, (1, 0), [])]
def qX11_adds_96 : List mO := [(.iinc 5 1, 3, (1, 0), []),
  (.goto (-49), 3, (0, 0), [[50]])]
def qX11_adds_102 : List mO := [(.iload 4, 2, (0, 0), []),
  (.ireturn, 1, (0, 0), [])]
def pX11_adds : List (Nat × List mO) := [(0, qX11_adds_0), (4, qX11_adds_4), (17, qX11_adds_17), (19, qX11_adds_19), (32, qX11_adds_32), (44, qX11_adds_44), (50, qX11_adds_50), (65, qX11_adds_65), (71, qX11_adds_71), (81, qX11_adds_81), (89, qX11_adds_89), (96, qX11_adds_96), (102, qX11_adds_102)]
def qX11_shelf_0 : List mO := [(.iload_n 1, 1, (0, 0), []),
  (.invokestatic 327, 3, (0, 0), [[1, 150, 4219, 4220, 0]])]
def qX11_shelf_4 : List mO := [(.ifCond .ne 5, 3, (0, 0), [[9]]),
  (.iconst (-1), 1, ((-1), 0), []),
  (.ireturn, 1, (0, 0), [])]
def qX11_shelf_9 : List mO := [(.iload_n 2, 1, (0, 0), []),
  (.tableswitch 120 0 2 #[26, 55, 111], 26, (0, 0), [[130], [0, 36], [1, 65], [2, 121]])]
def qX11_shelf_36 : List mO := [(.aload_n 0, 1, (0, 0), []),
  (.getfield 10, 3, (0, 0), [[0, 2091, 0, 1], [11]]),
  (.iload_n 3, 1, (0, 0), []),
  (.invokevirtual 137, 3, (0, 0), [[1, 2160, 0], [9, 68, 2162, 2161]])]
def qX11_shelf_44 : List mO := [(.ifCond .ne 5, 3, (0, 0), [[49]]),
  (.iconst (-1), 1, ((-1), 0), []),
  (.ireturn, 1, (0, 0), [])]
def qX11_shelf_49 : List mO := [(.aload_n 0, 1, (0, 0), []),
  (.getfield 68, 3, (0, 0), [[13, 2104, 0, 1], [11]]),
  (.iload_n 1, 1, (0, 0), []),
  (.iconst 0, 1, (0, 0), []),
  (.iastore, 1, (0, 0), []),
  (.aload_n 0, 1, (0, 0), []),
  (.getfield 71, 3, (0, 0), [[14, 2105, 0, 1], [11]]),
  (.iload_n 1, 1, (0, 0), []),
  (.iload_n 3, 1, (0, 0), []),
  (.iastore, 1, (0, 0), []),
  (.iconst 1, 1, (1, 0), []),
  (.ireturn, 1, (0, 0), [])]
def qX11_shelf_65 : List mO := [(.iload_n 3, 1, (0, 0), []),
  (.invokestatic 312, 3, (0, 0), [[1, 146, 4189, 4190, 0]])]
def qX11_shelf_69 : List mO := [(.ifCond .ne 5, 3, (0, 0), [[74]]),
  (.iconst (-1), 1, ((-1), 0), []),
  (.ireturn, 1, (0, 0), [])]
def qX11_shelf_74 : List mO := [(.aload_n 0, 1, (0, 0), []),
  (.getfield 68, 3, (0, 0), [[13, 2104, 0, 1], [11]]),
  (.iload_n 1, 1, (0, 0), []),
  (.aload_n 0, 1, (0, 0), []),
  (.getfield 59, 3, (0, 0), [[10, 2101, 0, 1], [11]]),
  (.iload_n 3, 1, (0, 0), []),
  (.iaload, 1, (0, 0), []),
  (.iconst (-1), 1, ((-1), 0), []),
  (.if_icmp .ne 7, 3, (0, 0), [[93]]),
  (.iconst 2, 1, (2, 0), []),
  (.goto 4, 3, (0, 0), [[94]])]
def qX11_shelf_93 : List mO := [(.iconst 1, 1, (1, 0), [])]
def qX11_shelf_94 : List mO := [(.iastore, 1, (0, 0), []),
  (.aload_n 0, 1, (0, 0), []),
  (.getfield 71, 3, (0, 0), [[14, 2105, 0, 1], [11]]),
  (.iload_n 1, 1, (0, 0), []),
  (.aload_n 0, 1, (0, 0), []),
  (.getfield 59, 3, (0, 0), [[10, 2101, 0, 1], [11]]),
  (.iload_n 3, 1, (0, 0), []),
  (.iaload, 1, (0, 0), []),
  (.iastore, 1, (0, 0), []),
  (.aload_n 0, 1, (0, 0), []),
  (.getfield 74, 3, (0, 0), [[15, 2106, 0, 1], [11]]),
  (.iload_n 1, 1, (0, 0), []),
  (.aload_n 0, 1, (0, 0), []),
  (.getfield 62, 3, (0, 0), [[11, 2102, 0, 1], [11]]),
  (.iload_n 3, 1, (0, 0), []),
  (.iaload, 1, (0, 0), []),
  (.iastore, 1, (0, 0), []),
  (.iconst 1, 1, (1, 0), []),
  (.ireturn, 1, (0, 0), [])]
def qX11_shelf_121 : List mO := [(.aload_n 0, 1, (0, 0), []),
  (.getfield 68, 3, (0, 0), [[13, 2104, 0, 1], [11]]),
  (.iload_n 1, 1, (0, 0), []),
  (.iconst 2, 1, (2, 0), []),
  (.iastore, 1, (0, 0), []),
  (.iconst 1, 1, (1, 0), []),
  (.ireturn, 1, (0, 0), [])]
def qX11_shelf_130 : List mO := [(.iconst (-1), 1, ((-1), 0), []),
  (.ireturn, 1, (0, 0), [])]
def pX11_shelf : List (Nat × List mO) := [(0, qX11_shelf_0), (4, qX11_shelf_4), (9, qX11_shelf_9), (36, qX11_shelf_36), (44, qX11_shelf_44), (49, qX11_shelf_49), (65, qX11_shelf_65), (69, qX11_shelf_69), (74, qX11_shelf_74), (93, qX11_shelf_93), (94, qX11_shelf_94), (121, qX11_shelf_121), (130, qX11_shelf_130)]
def qX11_taken_0 : List mO := [(.iload_n 2, 1, (0, 0), []),
  (.ifCond .lt 12, 3, (0, 0), [[13]]),
  (.iload_n 2, 1, (0, 0), []),
  (.iconst 5, 1, (5, 0), []),
  (.if_icmp .gt 7, 3, (0, 0), [[13]]),
  (.iconst 1, 1, (1, 0), []),
  (.goto 4, 3, (0, 0), [[14]])]
def qX11_taken_13 : List mO := [(.iconst 0, 1, (0, 0), [])]
def qX11_taken_14 : List mO := [(.istore_n 3, 1, (0, 0), []),
  (.iload_n 1, 1, (0, 0), []),
  (.invokestatic 327, 3, (0, 0), [[1, 150, 4219, 4220, 0]])]
def qX11_taken_19 : List mO := [(.ifCond .eq 17, 3, (0, 0), [[36]]),
  (.iload_n 3, 1, (0, 0), []),
  (.ifCond .ne 15, 3, (0, 0), [[38]]),
  (.iload_n 2, 1, (0, 0), []),
  (.bipush 10, 2, (10, 0), []),
  (.isub, 1, (0, 0), []),
  (.invokestatic 315, 3, (0, 0), [[1, 147, 4192, 4193, 0]])]
def qX11_taken_33 : List mO := [(.ifCond .ne 5, 3, (0, 0), [[38]])]
def qX11_taken_36 : List mO := [(.iconst (-1), 1, ((-1), 0), []),
  (.ireturn, 1, (0, 0), [])]
def qX11_taken_38 : List mO := [(.aload_n 0, 1, (0, 0), []),
  (.getfield 71, 3, (0, 0), [[14, 2105, 0, 1], [11]]),
  (.iload_n 1, 1, (0, 0), []),
  (.iaload, 1, (0, 0), []),
  (.istore 4, 2, (0, 0), []),
  (.aload_n 0, 1, (0, 0), []),
  (.iload_n 1, 1, (0, 0), []),
  (.invokevirtual 330, 3, (0, 0), [[1, 4226, 0], [11, 151, 40, 4228]])]
def qX11_taken_51 : List mO := [(.ifCond .eq 32, 3, (0, 0), [[83]]),
  (.iload_n 3, 1, (0, 0), []),
  (.ifCond .eq 25, 3, (0, 0), [[80]]),
  (.aload_n 0, 1, (0, 0), []),
  (.getfield 10, 3, (0, 0), [[0, 2091, 0, 1], [11]]),
  (.getfield 119, 3, (0, 0), [[1, 1076, 0, 1], [9]]),
  (.iload 4, 2, (0, 0), []),
  (.iaload, 1, (0, 0), []),
  (.iload_n 2, 1, (0, 0), []),
  (.invokestatic 333, 3, (0, 0), [[2, 90, 4230, 2173, 0]])]
def qX11_taken_72 : List mO := [(.ifCond .eq 8, 3, (0, 0), [[80]]),
  (.iload 4, 2, (0, 0), []),
  (.goto 5, 3, (0, 0), [[82]])]
def qX11_taken_80 : List mO := [(.bipush (-13), 2, ((-13), 0), [])]
def qX11_taken_82 : List mO := [(.ireturn, 1, (0, 0), [])]
def qX11_taken_83 : List mO := [(.aload_n 0, 1, (0, 0), []),
  (.getfield 68, 3, (0, 0), [[13, 2104, 0, 1], [11]]),
  (.iload_n 1, 1, (0, 0), []),
  (.iaload, 1, (0, 0), []),
  (.iconst 1, 1, (1, 0), []),
  (.if_icmp .ne 24, 3, (0, 0), [[114]]),
  (.iload 4, 2, (0, 0), []),
  (.iload_n 2, 1, (0, 0), []),
  (.bipush 10, 2, (10, 0), []),
  (.isub, 1, (0, 0), []),
  (.if_icmp .ne 12, 3, (0, 0), [[111]]),
  (.aload_n 0, 1, (0, 0), []),
  (.getfield 74, 3, (0, 0), [[15, 2106, 0, 1], [11]]),
  (.iload_n 1, 1, (0, 0), []),
  (.iaload, 1, (0, 0), []),
  (.goto 5, 3, (0, 0), [[113]])]
def qX11_taken_111 : List mO := [(.bipush (-13), 2, ((-13), 0), [])]
def qX11_taken_113 : List mO := [(.ireturn, 1, (0, 0), [])]
def qX11_taken_114 : List mO := [(.bipush (-11), 2, ((-11), 0), []),
  (.ireturn, 1, (0, 0), [])]
def pX11_taken : List (Nat × List mO) := [(0, qX11_taken_0), (13, qX11_taken_13), (14, qX11_taken_14), (19, qX11_taken_19), (33, qX11_taken_33), (36, qX11_taken_36), (38, qX11_taken_38), (51, qX11_taken_51), (72, qX11_taken_72), (80, qX11_taken_80), (82, qX11_taken_82), (83, qX11_taken_83), (111, qX11_taken_111), (113, qX11_taken_113), (114, qX11_taken_114)]
def qX11_act_0 : List mO := [(.aload_n 0, 1, (0, 0), []),
  (.getfield 80, 3, (0, 0), [[16, 2107, 0, 1], [11]]),
  (.invokevirtual 336, 3, (0, 0), [[0, 4235, 0], [8, 65, 4237, 4236]])]
def qX11_act_7 : List mO := [(.iload_n 1, 1, (0, 0), []),
  (.invokestatic 327, 3, (0, 0), [[1, 150, 4219, 4220, 0]])]
def qX11_act_11 : List mO := [(.ifCond .eq 20, 3, (0, 0), [[31]]),
  (.iload_n 2, 1, (0, 0), []),
  (.ifCond .lt 16, 3, (0, 0), [[31]]),
  (.iload_n 2, 1, (0, 0), []),
  (.iconst 3, 1, (3, 0), []),
  (.if_icmp .gt 11, 3, (0, 0), [[31]]),
  (.aload_n 0, 1, (0, 0), []),
  (.iload_n 1, 1, (0, 0), []),
  (.invokevirtual 330, 3, (0, 0), [[1, 4226, 0], [11, 151, 40, 4228]])]
def qX11_act_28 : List mO := [(.ifCond .ne 5, 3, (0, 0), [[33]])]
def qX11_act_31 : List mO := [(.iconst 0, 1, (0, 0), []),
  (.ireturn, 1, (0, 0), [])]
def qX11_act_33 : List mO := [(.aload_n 0, 1, (0, 0), []),
  (.getfield 71, 3, (0, 0), [[14, 2105, 0, 1], [11]]),
  (.iload_n 1, 1, (0, 0), []),
  (.iaload, 1, (0, 0), []),
  (.istore 4, 2, (0, 0), []),
  (.aload_n 0, 1, (0, 0), []),
  (.getfield 104, 3, (0, 0), [[17, 2108, 0, 1], [11]]),
  (.aload_n 0, 1, (0, 0), []),
  (.getfield 10, 3, (0, 0), [[0, 2091, 0, 1], [11]]),
  (.getfield 119, 3, (0, 0), [[1, 1076, 0, 1], [9]]),
  (.iload 4, 2, (0, 0), []),
  (.iaload, 1, (0, 0), []),
  (.aaload, 1, (0, 0), [])]
def qX11_act_56 : List mO := [(.astore 5, 2, (0, 0), []),
  (.aload 5, 2, (0, 0), []),
  (.iload 4, 2, (0, 0), []),
  (.putfield 339, 3, (0, 0), [[1, 2027, 0, 0], [1, 2, 3, 4, 7, 10]]),
  (.aload 5, 2, (0, 0), []),
  (.aload_n 0, 1, (0, 0), []),
  (.getfield 10, 3, (0, 0), [[0, 2091, 0, 1], [11]]),
  (.getfield 125, 3, (0, 0), [[3, 1081, 0, 1], [9]]),
  (.iload 4, 2, (0, 0), []),
  (.iaload, 1, (0, 0), []),
  (.putfield 342, 3, (0, 0), [[2, 2033, 0, 0], [1, 2, 3, 4, 7, 10]]),
  (.iload_n 2, 1, (0, 0), []),
  (.tableswitch 60 0 2 #[27, 38, 49], 27, (0, 0), [[141], [0, 108], [1, 119], [2, 130]])]
def qX11_act_108 : List mO := [(.aload 5, 2, (0, 0), []),
  (.iload_n 3, 1, (0, 0), []),
  (.invokevirtual 345, 3, (0, 0), [[1, 4239, 1, 5002, 5000, 5021], [1, 17, 5003, 5004], [2, 75, 5013, 5000], [3, 22, 5014, 5015], [4, 75, 5019, 5000], [7, 75, 5020, 5000], [10, 75, 5001, 5000]])]
def qX11_act_114 : List mO := [(.istore 6, 2, (0, 0), []),
  (.goto 33, 3, (0, 0), [[149]])]
def qX11_act_119 : List mO := [(.aload 5, 2, (0, 0), []),
  (.iload_n 3, 1, (0, 0), []),
  (.invokevirtual 348, 3, (0, 0), [[1, 5023, 1, 5026, 5024, 5042], [1, 24, 5027, 5028], [2, 76, 5032, 5024], [3, 76, 5033, 5024], [4, 24, 5034, 5028], [7, 62, 5035, 5036], [10, 76, 5025, 5024]])]
def qX11_act_125 : List mO := [(.istore 6, 2, (0, 0), []),
  (.goto 22, 3, (0, 0), [[149]])]
def qX11_act_130 : List mO := [(.aload 5, 2, (0, 0), []),
  (.iload_n 3, 1, (0, 0), []),
  (.invokevirtual 351, 3, (0, 0), [[1, 5044, 1, 5047, 5045, 5063], [1, 77, 5048, 5045], [2, 20, 5049, 5050], [3, 77, 5054, 5045], [4, 77, 5055, 5045], [7, 63, 5056, 5057], [10, 77, 5046, 5045]])]
def qX11_act_136 : List mO := [(.istore 6, 2, (0, 0), []),
  (.goto 11, 3, (0, 0), [[149]])]
def qX11_act_141 : List mO := [(.aload 5, 2, (0, 0), []),
  (.iload_n 3, 1, (0, 0), []),
  (.invokevirtual 354, 3, (0, 0), [[1, 5064, 1, 5067, 5065, 5082], [1, 18, 5068, 5069], [2, 78, 5078, 5065], [3, 78, 5079, 5065], [4, 78, 5080, 5065], [7, 78, 5081, 5065], [10, 78, 5066, 5065]])]
def qX11_act_147 : List mO := [(.istore 6, 2, (0, 0), [])]
def qX11_act_149 : List mO := [(.aload_n 0, 1, (0, 0), []),
  (.getfield 80, 3, (0, 0), [[16, 2107, 0, 1], [11]]),
  (.getfield 357, 3, (0, 0), [[2, 1238, 0, 0], [8]]),
  (.ifCond .eq 8, 3, (0, 0), [[164]]),
  (.bipush (-15), 2, ((-15), 0), []),
  (.goto 5, 3, (0, 0), [[166]])]
def qX11_act_164 : List mO := [(.iload 6, 2, (0, 0), [])]
def qX11_act_166 : List mO := [(.ireturn, 1, (0, 0), [])]
def pX11_act : List (Nat × List mO) := [(0, qX11_act_0), (7, qX11_act_7), (11, qX11_act_11), (28, qX11_act_28), (31, qX11_act_31), (33, qX11_act_33), (56, qX11_act_56), (108, qX11_act_108), (114, qX11_act_114), (119, qX11_act_119), (125, qX11_act_125), (130, qX11_act_130), (136, qX11_act_136), (141, qX11_act_141), (147, qX11_act_147), (149, qX11_act_149), (164, qX11_act_164), (166, qX11_act_166)]
def qX11_trace_0 : List mO := [(.iload_n 1, 1, (0, 0), []),
  (.ifCond .lt 26, 3, (0, 0), [[27]]),
  (.iload_n 1, 1, (0, 0), []),
  (.aload_n 0, 1, (0, 0), []),
  (.getfield 80, 3, (0, 0), [[16, 2107, 0, 1], [11]]),
  (.getfield 360, 3, (0, 0), [[0, 1233, 0, 0], [8]]),
  (.if_icmp .ge 15, 3, (0, 0), [[27]]),
  (.aload_n 0, 1, (0, 0), []),
  (.getfield 80, 3, (0, 0), [[16, 2107, 0, 1], [11]]),
  (.getfield 361, 3, (0, 0), [[1, 1235, 0, 1], [8]]),
  (.iload_n 1, 1, (0, 0), []),
  (.iaload, 1, (0, 0), []),
  (.goto 5, 3, (0, 0), [[29]])]
def qX11_trace_27 : List mO := [(.bipush (-3), 2, ((-3), 0), [])]
def qX11_trace_29 : List mO := [(.ireturn, 1, (0, 0), [])]
def pX11_trace : List (Nat × List mO) := [(0, qX11_trace_0), (27, qX11_trace_27), (29, qX11_trace_29)]
def qX11_many_0 : List mO := [(.iload_n 1, 1, (0, 0), []),
  (.tableswitch 99 0 6 #[43, 51, 62, 70, 75, 83, 91], 43, (0, 0), [[100], [0, 44], [1, 52], [2, 63], [3, 71], [4, 76], [5, 84], [6, 92]])]
def qX11_many_44 : List mO := [(.aload_n 0, 1, (0, 0), []),
  (.getfield 10, 3, (0, 0), [[0, 2091, 0, 1], [11]]),
  (.getfield 116, 3, (0, 0), [[0, 1074, 0, 0], [9]]),
  (.ireturn, 1, (0, 0), [])]
def qX11_many_52 : List mO := [(.aload_n 0, 1, (0, 0), []),
  (.getfield 10, 3, (0, 0), [[0, 2091, 0, 1], [11]]),
  (.getfield 151, 3, (0, 0), [[10, 1098, 0, 1], [9]]),
  (.getfield 188, 3, (0, 0), [[0, 1044, 0, 0], [5]]),
  (.ireturn, 1, (0, 0), [])]
def qX11_many_63 : List mO := [(.aload_n 0, 1, (0, 0), []),
  (.getfield 10, 3, (0, 0), [[0, 2091, 0, 1], [11]]),
  (.getfield 294, 3, (0, 0), [[11, 1100, 0, 0], [9]]),
  (.ireturn, 1, (0, 0), [])]
def qX11_many_71 : List mO := [(.aload_n 0, 1, (0, 0), []),
  (.getfield 50, 3, (0, 0), [[8, 2099, 0, 0], [11]]),
  (.ireturn, 1, (0, 0), [])]
def qX11_many_76 : List mO := [(.aload_n 0, 1, (0, 0), []),
  (.getfield 10, 3, (0, 0), [[0, 2091, 0, 1], [11]]),
  (.invokevirtual 209, 3, (0, 0), [[0, 3228, 0], [9, 69, 3230, 3229]])]
def qX11_many_83 : List mO := [(.ireturn, 1, (0, 0), [])]
def qX11_many_84 : List mO := [(.aload_n 0, 1, (0, 0), []),
  (.getfield 26, 3, (0, 0), [[3, 2094, 0, 1], [11]]),
  (.getfield 170, 3, (0, 0), [[0, 1146, 0, 0], [6]]),
  (.ireturn, 1, (0, 0), [])]
def qX11_many_92 : List mO := [(.aload_n 0, 1, (0, 0), []),
  (.getfield 80, 3, (0, 0), [[16, 2107, 0, 1], [11]]),
  (.getfield 360, 3, (0, 0), [[0, 1233, 0, 0], [8]]),
  (.ireturn, 1, (0, 0), [])]
def qX11_many_100 : List mO := [(.iconst (-1), 1, ((-1), 0), []),
  (.ireturn, 1, (0, 0), [])]
def pX11_many : List (Nat × List mO) := [(0, qX11_many_0), (44, qX11_many_44), (52, qX11_many_52), (63, qX11_many_63), (71, qX11_many_71), (76, qX11_many_76), (83, qX11_many_83), (84, qX11_many_84), (92, qX11_many_92), (100, qX11_many_100)]
def qX11_isSheet_0 : List mO := [(.iload_n 0, 1, (0, 0), []),
  (.ifCond .lt 12, 3, (0, 0), [[13]]),
  (.iload_n 0, 1, (0, 0), []),
  (.iconst 4, 1, (4, 0), []),
  (.if_icmp .ge 7, 3, (0, 0), [[13]]),
  (.iconst 1, 1, (1, 0), []),
  (.goto 4, 3, (0, 0), [[14]])]
def qX11_isSheet_13 : List mO := [(.iconst 0, 1, (0, 0), [])]
def qX11_isSheet_14 : List mO := [(.ireturn, 1, (0, 0), [[1]])]
def pX11_isSheet : List (Nat × List mO) := [(0, qX11_isSheet_0), (13, qX11_isSheet_13), (14, qX11_isSheet_14)]
def qX11_isSort_0 : List mO := [(.iload_n 0, 1, (0, 0), []),
  (.ifCond .lt 12, 3, (0, 0), [[13]]),
  (.iload_n 0, 1, (0, 0), []),
  (.iconst 4, 1, (4, 0), []),
  (.if_icmp .gt 7, 3, (0, 0), [[13]]),
  (.iconst 1, 1, (1, 0), []),
  (.goto 4, 3, (0, 0), [[14]])]
def qX11_isSort_13 : List mO := [(.iconst 0, 1, (0, 0), [])]
def qX11_isSort_14 : List mO := [(.ireturn, 1, (0, 0), [[1]])]
def pX11_isSort : List (Nat × List mO) := [(0, qX11_isSort_0), (13, qX11_isSort_13), (14, qX11_isSort_14)]
def qX11_isItem_0 : List mO := [(.iload_n 2, 1, (0, 0), []),
  (.ifCond .lt 17, 3, (0, 0), [[18]]),
  (.iload_n 2, 1, (0, 0), []),
  (.aload_n 0, 1, (0, 0), []),
  (.getfield 62, 3, (0, 0), [[11, 2102, 0, 1], [11]]),
  (.iload_n 1, 1, (0, 0), []),
  (.iaload, 1, (0, 0), []),
  (.if_icmp .ge 7, 3, (0, 0), [[18]]),
  (.iconst 1, 1, (1, 0), []),
  (.goto 4, 3, (0, 0), [[19]])]
def qX11_isItem_18 : List mO := [(.iconst 0, 1, (0, 0), [])]
def qX11_isItem_19 : List mO := [(.ireturn, 1, (0, 0), [[1]])]
def pX11_isItem : List (Nat × List mO) := [(0, qX11_isItem_0), (18, qX11_isItem_18), (19, qX11_isItem_19)]
def qX11_narrowed_0 : List mO := [(.iload_n 0, 1, (0, 0), []),
  (.tableswitch 51 0 4 #[35, 38, 51, 51, 41], 35, (0, 0), [[52], [0, 36], [1, 39], [2, 52], [3, 52], [4, 42]])]
def qX11_narrowed_36 : List mO := [(.iload_n 1, 1, (0, 0), []),
  (.i2b, 1, (0, 0), []),
  (.ireturn, 1, (0, 0), [])]
def qX11_narrowed_39 : List mO := [(.iload_n 1, 1, (0, 0), []),
  (.i2s, 1, (0, 0), []),
  (.ireturn, 1, (0, 0), [])]
def qX11_narrowed_42 : List mO := [(.iload_n 1, 1, (0, 0), []),
  (.ifCond .eq 7, 3, (0, 0), [[50]]),
  (.iconst 1, 1, (1, 0), []),
  (.goto 4, 3, (0, 0), [[51]])]
def qX11_narrowed_50 : List mO := [(.iconst 0, 1, (0, 0), [])]
def qX11_narrowed_51 : List mO := [(.ireturn, 1, (0, 0), [])]
def qX11_narrowed_52 : List mO := [(.iload_n 1, 1, (0, 0), []),
  (.ireturn, 1, (0, 0), [])]
def pX11_narrowed : List (Nat × List mO) := [(0, qX11_narrowed_0), (36, qX11_narrowed_36), (39, qX11_narrowed_39), (42, qX11_narrowed_42), (50, qX11_narrowed_50), (51, qX11_narrowed_51), (52, qX11_narrowed_52)]
def qX11_isShelf_0 : List mO := [(.iload_n 0, 1, (0, 0), []),
  (.ifCond .lt 12, 3, (0, 0), [[13]]),
  (.iload_n 0, 1, (0, 0), []),
  (.iconst 4, 1, (4, 0), []),
  (.if_icmp .ge 7, 3, (0, 0), [[13]]),
  (.iconst 1, 1, (1, 0), []),
  (.goto 4, 3, (0, 0), [[14]])]
def qX11_isShelf_13 : List mO := [(.iconst 0, 1, (0, 0), [])]
def qX11_isShelf_14 : List mO := [(.ireturn, 1, (0, 0), [[1]])]
def pX11_isShelf : List (Nat × List mO) := [(0, qX11_isShelf_0), (13, qX11_isShelf_13), (14, qX11_isShelf_14)]
def qX11_isTowerOnShelf_0 : List mO := [(.aload_n 0, 1, (0, 0), []),
  (.getfield 68, 3, (0, 0), [[13, 2104, 0, 1], [11]]),
  (.iload_n 1, 1, (0, 0), []),
  (.iaload, 1, (0, 0), []),
  (.ifCond .ne 23, 3, (0, 0), [[29]]),
  (.aload_n 0, 1, (0, 0), []),
  (.getfield 10, 3, (0, 0), [[0, 2091, 0, 1], [11]]),
  (.aload_n 0, 1, (0, 0), []),
  (.getfield 71, 3, (0, 0), [[14, 2105, 0, 1], [11]]),
  (.iload_n 1, 1, (0, 0), []),
  (.iaload, 1, (0, 0), []),
  (.invokevirtual 137, 3, (0, 0), [[1, 2160, 0], [9, 68, 2162, 2161]])]
def qX11_isTowerOnShelf_22 : List mO := [(.ifCond .eq 7, 3, (0, 0), [[29]]),
  (.iconst 1, 1, (1, 0), []),
  (.goto 4, 3, (0, 0), [[30]])]
def qX11_isTowerOnShelf_29 : List mO := [(.iconst 0, 1, (0, 0), [])]
def qX11_isTowerOnShelf_30 : List mO := [(.ireturn, 1, (0, 0), [[1]])]
def pX11_isTowerOnShelf : List (Nat × List mO) := [(0, qX11_isTowerOnShelf_0), (22, qX11_isTowerOnShelf_22), (29, qX11_isTowerOnShelf_29), (30, qX11_isTowerOnShelf_30)]
def qX11_keep_0 : List mO := [(.aload_n 0, 1, (0, 0), []),
  (.getfield 16, 3, (0, 0), [[1, 2092, 0, 1], [11]]),
  (.aload_n 0, 1, (0, 0), []),
  (.getfield 10, 3, (0, 0), [[0, 2091, 0, 1], [11]]),
  (.invokevirtual 364, 3, (0, 0), [[1, 5096, 0], [9, 73, 5098, 5097]])]
def qX11_keep_11 : List mO := [(.aload_n 0, 1, (0, 0), []),
  (.iconst 1, 1, (1, 0), []),
  (.putfield 19, 3, (0, 0), [[2, 2093, 0, 0], [11]]),
  (.iconst 1, 1, (1, 0), []),
  (.ireturn, 1, (0, 0), [])]
def pX11_keep : List (Nat × List mO) := [(0, qX11_keep_0), (11, qX11_keep_11)]
def qX11_again_0 : List mO := [(.aload_n 0, 1, (0, 0), []),
  (.getfield 19, 3, (0, 0), [[2, 2093, 0, 0], [11]]),
  (.ifCond .ne 6, 3, (0, 0), [[10]]),
  (.bipush (-3), 2, ((-3), 0), []),
  (.ireturn, 1, (0, 0), [])]
def qX11_again_10 : List mO := [(.aload_n 0, 1, (0, 0), []),
  (.getfield 10, 3, (0, 0), [[0, 2091, 0, 1], [11]]),
  (.aload_n 0, 1, (0, 0), []),
  (.getfield 16, 3, (0, 0), [[1, 2092, 0, 1], [11]]),
  (.invokevirtual 364, 3, (0, 0), [[1, 5096, 0], [9, 73, 5098, 5097]])]
def qX11_again_21 : List mO := [(.aload_n 0, 1, (0, 0), []),
  (.getfield 10, 3, (0, 0), [[0, 2091, 0, 1], [11]]),
  (.getfield 116, 3, (0, 0), [[0, 1074, 0, 0], [9]]),
  (.ireturn, 1, (0, 0), [])]
def pX11_again : List (Nat × List mO) := [(0, qX11_again_0), (10, qX11_again_10), (21, qX11_again_21)]
def qX12_init_0 : List mO := [(.aload_n 0, 1, (0, 0), []),
  (.invokespecial 1, 3, (0, 0), [[0, 999, 5111, 1028, 1029]]),
  (.aload_n 0, 1, (0, 0), []),
  (.sipush 310, 3, (310, 0), []),
  (.newarray .int, 2, (0, 0), [[1071]]),
  (.putfield 7, 3, (0, 0), [[0, 5112, 0, 1], [12]]),
  (.aload_n 0, 1, (0, 0), []),
  (.sipush 310, 3, (310, 0), []),
  (.newarray .int, 2, (0, 0), [[1071]]),
  (.putfield 13, 3, (0, 0), [[1, 5113, 0, 1], [12]]),
  (.aload_n 0, 1, (0, 0), []),
  (.sipush 310, 3, (310, 0), []),
  (.newarray .int, 2, (0, 0), [[1071]]),
  (.putfield 16, 3, (0, 0), [[2, 5114, 0, 1], [12]]),
  (.aload_n 0, 1, (0, 0), []),
  (.sipush 200, 3, (200, 0), []),
  (.newarray .int, 2, (0, 0), [[1071]]),
  (.putfield 19, 3, (0, 0), [[4, 5116, 0, 1], [12]]),
  (.aload_n 0, 1, (0, 0), []),
  (.bipush 9, 2, (9, 0), []),
  (.newarray .int, 2, (0, 0), [[1071]]),
  (.putfield 22, 3, (0, 0), [[7, 5119, 0, 1], [12]]),
  (.aload_n 0, 1, (0, 0), []),
  (.bipush 9, 2, (9, 0), []),
  (.newarray .int, 2, (0, 0), [[1071]]),
  (.putfield 25, 3, (0, 0), [[8, 5120, 0, 1], [12]]),
  (.aload_n 0, 1, (0, 0), []),
  (.bipush 9, 2, (9, 0), []),
  (.newarray .int, 2, (0, 0), [[1071]]),
  (.putfield 28, 3, (0, 0), [[9, 5121, 0, 1], [12]]),
  (.aload_n 0, 1, (0, 0), []),
  (.bipush 27, 2, (27, 0), []),
  (.newarray .int, 2, (0, 0), [[1071]]),
  (.putfield 31, 3, (0, 0), [[14, 5126, 0, 1], [12]]),
  (.aload_n 0, 1, (0, 0), []),
  (.sipush 200, 3, (200, 0), []),
  (.newarray .int, 2, (0, 0), [[1071]]),
  (.putfield 34, 3, (0, 0), [[16, 5128, 0, 1], [12]]),
  (.aload_n 0, 1, (0, 0), []),
  (.iconst 4, 1, (4, 0), []),
  (.newarray .int, 2, (0, 0), [[1071]]),
  (.putfield 37, 3, (0, 0), [[24, 5136, 0, 1], [12]]),
  (.aload_n 0, 1, (0, 0), []),
  (.iconst 4, 1, (4, 0), []),
  (.newarray .int, 2, (0, 0), [[1071]]),
  (.putfield 40, 3, (0, 0), [[25, 5137, 0, 1], [12]]),
  (.aload_n 0, 1, (0, 0), []),
  (.sipush 160, 3, (160, 0), []),
  (.newarray .int, 2, (0, 0), [[1071]]),
  (.putfield 43, 3, (0, 0), [[26, 5138, 0, 1], [12]]),
  (.aload_n 0, 1, (0, 0), []),
  (.iconst 4, 1, (4, 0), []),
  (.newarray .int, 2, (0, 0), [[1071]]),
  (.putfield 46, 3, (0, 0), [[27, 5139, 0, 1], [12]]),
  (.aload_n 0, 1, (0, 0), []),
  (.iconst 4, 1, (4, 0), []),
  (.newarray .int, 2, (0, 0), [[1071]]),
  (.putfield 49, 3, (0, 0), [[28, 5140, 0, 1], [12]]),
  (.aload_n 0, 1, (0, 0), []),
  (.iconst 4, 1, (4, 0), []),
  (.newarray .int, 2, (0, 0), [[1071]]),
  (.putfield 52, 3, (0, 0), [[29, 5141, 0, 1], [12]]),
  (.aload_n 0, 1, (0, 0), []),
  (.bipush 30, 2, (30, 0), []),
  (.newarray .int, 2, (0, 0), [[1071]]),
  (.putfield 55, 3, (0, 0), [[30, 5142, 0, 1], [12]]),
  (.aload_n 0, 1, (0, 0), []),
  (.getfield 7, 3, (0, 0), [[0, 5112, 0, 1], [12]]),
  (.iconst 3, 1, (3, 0), []),
  (.iconst 1, 1, (1, 0), []),
  (.iastore, 1, (0, 0), []),
  (.iconst 0, 1, (0, 0), []),
  (.istore_n 1, 1, (0, 0), [])]
def qX12_init_142 : List mO := [(.iload_n 1, 1, (0, 0), []),
  (.iconst 4, 1, (4, 0), []),
  (.if_icmp .ge 16, 3, (0, 0), [[160]]),
  (.aload_n 0, 1, (0, 0), []),
  (.getfield 37, 3, (0, 0), [[24, 5136, 0, 1], [12]]),
  (.iload_n 1, 1, (0, 0), []),
  (.iconst (-1), 1, ((-1), 0), []),
  (.iastore, 1, (0, 0), []),
  (.iinc 1 1, 3, (1, 0), []),
  (.goto (-15), 3, (0, 0), [[142]])]
def qX12_init_160 : List mO := [(.return_, 1, (0, 0), [])]
def pX12_init : List (Nat × List mO) := [(0, qX12_init_0), (142, qX12_init_142), (160, qX12_init_160)]
def qX12_in_0 : List mO := [(.lload_n 0, 1, (0, 0), []),
  (.lload_n 2, 1, (0, 0), []),
  (.lcmp, 1, (0, 0), []),
  (.ifCond .lt 14, 3, (0, 0), [[17]]),
  (.lload_n 0, 1, (0, 0), []),
  (.lload 4, 2, (0, 0), []),
  (.lcmp, 1, (0, 0), []),
  (.ifCond .gt 7, 3, (0, 0), [[17]]),
  (.iconst 1, 1, (1, 0), []),
  (.goto 4, 3, (0, 0), [[18]])]
def qX12_in_17 : List mO := [(.iconst 0, 1, (0, 0), [])]
def qX12_in_18 : List mO := [(.ireturn, 1, (0, 0), [[1]])]
def pX12_in : List (Nat × List mO) := [(0, qX12_in_0), (17, qX12_in_17), (18, qX12_in_18)]
def qX12_isTower_0 : List mO := [(.iload_n 1, 1, (0, 0), []),
  (.i2l, 1, (0, 0), []),
  (.lconst 0, 1, (0, 0), []),
  (.aload_n 0, 1, (0, 0), []),
  (.getfield 7, 3, (0, 0), [[0, 5112, 0, 1], [12]]),
  (.iconst 0, 1, (0, 0), []),
  (.iaload, 1, (0, 0), []),
  (.iconst 1, 1, (1, 0), []),
  (.isub, 1, (0, 0), []),
  (.i2l, 1, (0, 0), []),
  (.invokestatic 58, 3, (0, 0), [[3, 155, 5226, 5227, 0]])]
def qX12_isTower_15 : List mO := [(.ireturn, 1, (0, 0), [[1]])]
def pX12_isTower : List (Nat × List mO) := [(0, qX12_isTower_0), (15, qX12_isTower_15)]
def qX12_isDay_0 : List mO := [(.iload_n 0, 1, (0, 0), []),
  (.i2l, 1, (0, 0), []),
  (.lconst 0, 1, (0, 0), []),
  (.ldc2_w 62, 3, (0, 6), [[6044]]),
  (.invokestatic 58, 3, (0, 0), [[3, 155, 5226, 5227, 0]])]
def qX12_isDay_9 : List mO := [(.ireturn, 1, (0, 0), [[1]])]
def pX12_isDay : List (Nat × List mO) := [(0, qX12_isDay_0), (9, qX12_isDay_9)]
def qX12_isTime_0 : List mO := [(.iload_n 0, 1, (0, 0), []),
  (.i2l, 1, (0, 0), []),
  (.lconst 0, 1, (0, 0), []),
  (.ldc2_w 64, 3, (0, 1439), [[6062]]),
  (.invokestatic 58, 3, (0, 0), [[3, 155, 5226, 5227, 0]])]
def qX12_isTime_9 : List mO := [(.ireturn, 1, (0, 0), [[1]])]
def pX12_isTime : List (Nat × List mO) := [(0, qX12_isTime_0), (9, qX12_isTime_9)]
def qX12_has_0 : List mO := [(.iload_n 0, 1, (0, 0), []),
  (.iload_n 1, 1, (0, 0), []),
  (.ishr, 1, (0, 0), []),
  (.iconst 1, 1, (1, 0), []),
  (.iand, 1, (0, 0), []),
  (.iconst 1, 1, (1, 0), []),
  (.if_icmp .ne 7, 3, (0, 0), [[13]]),
  (.iconst 1, 1, (1, 0), []),
  (.goto 4, 3, (0, 0), [[14]])]
def qX12_has_13 : List mO := [(.iconst 0, 1, (0, 0), [])]
def qX12_has_14 : List mO := [(.ireturn, 1, (0, 0), [[1]])]
def pX12_has : List (Nat × List mO) := [(0, qX12_has_0), (13, qX12_has_13), (14, qX12_has_14)]
def qX12_size_0 : List mO := [(.iload_n 0, 1, (0, 0), []),
  (.ifCond .ge 9, 3, (0, 0), [[10]]),
  (.iconst 0, 1, (0, 0), []),
  (.iload_n 0, 1, (0, 0), []),
  (.isub, 1, (0, 0), []),
  (.goto 4, 3, (0, 0), [[11]])]
def qX12_size_10 : List mO := [(.iload_n 0, 1, (0, 0), [])]
def qX12_size_11 : List mO := [(.ireturn, 1, (0, 0), [])]
def pX12_size : List (Nat × List mO) := [(0, qX12_size_0), (10, qX12_size_10), (11, qX12_size_11)]
def qX12_puts_0 : List mO := [(.iconst 0, 1, (0, 0), []),
  (.istore_n 1, 1, (0, 0), [])]
def qX12_puts_2 : List mO := [(.iload_n 1, 1, (0, 0), []),
  (.sipush 310, 3, (310, 0), []),
  (.if_icmp .ge 21, 3, (0, 0), [[27]]),
  (.aload_n 0, 1, (0, 0), []),
  (.getfield 16, 3, (0, 0), [[2, 5114, 0, 1], [12]]),
  (.iload_n 1, 1, (0, 0), []),
  (.aload_n 0, 1, (0, 0), []),
  (.getfield 7, 3, (0, 0), [[0, 5112, 0, 1], [12]]),
  (.iload_n 1, 1, (0, 0), []),
  (.iaload, 1, (0, 0), []),
  (.iastore, 1, (0, 0), []),
  (.iinc 1 1, 3, (1, 0), []),
  (.goto (-22), 3, (0, 0), [[2]])]
def qX12_puts_27 : List mO := [(.return_, 1, (0, 0), [])]
def pX12_puts : List (Nat × List mO) := [(0, qX12_puts_0), (2, qX12_puts_2), (27, qX12_puts_27)]
def qX12_putsBack_0 : List mO := [(.iconst 0, 1, (0, 0), []),
  (.istore_n 1, 1, (0, 0), [])]
def qX12_putsBack_2 : List mO := [(.iload_n 1, 1, (0, 0), []),
  (.sipush 310, 3, (310, 0), []),
  (.if_icmp .ge 21, 3, (0, 0), [[27]]),
  (.aload_n 0, 1, (0, 0), []),
  (.getfield 7, 3, (0, 0), [[0, 5112, 0, 1], [12]]),
  (.iload_n 1, 1, (0, 0), []),
  (.aload_n 0, 1, (0, 0), []),
  (.getfield 16, 3, (0, 0), [[2, 5114, 0, 1], [12]]),
  (.iload_n 1, 1, (0, 0), []),
  (.iaload, 1, (0, 0), []),
  (.iastore, 1, (0, 0), []),
  (.iinc 1 1, 3, (1, 0), []),
  (.goto (-22), 3, (0, 0), [[2]])]
def qX12_putsBack_27 : List mO := [(.return_, 1, (0, 0), [])]
def pX12_putsBack : List (Nat × List mO) := [(0, qX12_putsBack_0), (2, qX12_putsBack_2), (27, qX12_putsBack_27)]
def qX12_at_0 : List mO := [(.bipush 12, 2, (12, 0), []),
  (.bipush 6, 2, (6, 0), []),
  (.iload_n 0, 1, (0, 0), []),
  (.imul, 1, (0, 0), []),
  (.iadd, 1, (0, 0), []),
  (.iload_n 1, 1, (0, 0), []),
  (.iadd, 1, (0, 0), []),
  (.ireturn, 1, (0, 0), [])]
def pX12_at : List (Nat × List mO) := [(0, qX12_at_0)]
def qX12_its_0 : List mO := [(.aload_n 0, 1, (0, 0), []),
  (.getfield 7, 3, (0, 0), [[0, 5112, 0, 1], [12]]),
  (.iload_n 1, 1, (0, 0), []),
  (.iload_n 2, 1, (0, 0), []),
  (.invokestatic 66, 3, (0, 0), [[2, 163, 5235, 5236, 0]])]
def qX12_its_9 : List mO := [(.iaload, 1, (0, 0), []),
  (.ireturn, 1, (0, 0), [])]
def pX12_its : List (Nat × List mO) := [(0, qX12_its_0), (9, qX12_its_9)]
def qX12_isPart_0 : List mO := [(.iload_n 0, 1, (0, 0), []),
  (.lookupswitch 47 #[(1, 27), (2, 37)], 27, (0, 0), [[48], [1, 28], [2, 38]])]
def qX12_isPart_28 : List mO := [(.iload_n 1, 1, (0, 0), []),
  (.i2l, 1, (0, 0), []),
  (.lconst 0, 1, (0, 0), []),
  (.ldc2_w 70, 3, (0, 99), [[5232]]),
  (.invokestatic 58, 3, (0, 0), [[3, 155, 5226, 5227, 0]])]
def qX12_isPart_37 : List mO := [(.ireturn, 1, (0, 0), [[1]])]
def qX12_isPart_38 : List mO := [(.iload_n 1, 1, (0, 0), []),
  (.i2l, 1, (0, 0), []),
  (.lconst 0, 1, (0, 0), []),
  (.ldc2_w 72, 3, (0, 9), [[5233]]),
  (.invokestatic 58, 3, (0, 0), [[3, 155, 5226, 5227, 0]])]
def qX12_isPart_47 : List mO := [(.ireturn, 1, (0, 0), [[1]])]
def qX12_isPart_48 : List mO := [(.iload_n 0, 1, (0, 0), []),
  (.iconst 3, 1, (3, 0), []),
  (.if_icmp .ne 19, 3, (0, 0), [[69]]),
  (.iload_n 1, 1, (0, 0), []),
  (.i2l, 1, (0, 0), []),
  (.lconst 1, 1, (0, 1), []),
  (.ldc2_w 74, 3, (0, 20), [[5234]]),
  (.invokestatic 58, 3, (0, 0), [[3, 155, 5226, 5227, 0]])]
def qX12_isPart_62 : List mO := [(.ifCond .eq 7, 3, (0, 0), [[69]]),
  (.iconst 1, 1, (1, 0), []),
  (.goto 4, 3, (0, 0), [[70]])]
def qX12_isPart_69 : List mO := [(.iconst 0, 1, (0, 0), [])]
def qX12_isPart_70 : List mO := [(.ireturn, 1, (0, 0), [[1]])]
def pX12_isPart : List (Nat × List mO) := [(0, qX12_isPart_0), (28, qX12_isPart_28), (37, qX12_isPart_37), (38, qX12_isPart_38), (47, qX12_isPart_47), (48, qX12_isPart_48), (62, qX12_isPart_62), (69, qX12_isPart_69), (70, qX12_isPart_70)]
def qX12_tower_0 : List mO := [(.iload_n 1, 1, (0, 0), []),
  (.i2l, 1, (0, 0), []),
  (.lconst 1, 1, (0, 1), []),
  (.ldc2_w 76, 3, (0, 5), [[5225]]),
  (.invokestatic 58, 3, (0, 0), [[3, 155, 5226, 5227, 0]])]
def qX12_tower_9 : List mO := [(.ifCond .eq 28, 3, (0, 0), [[37]]),
  (.iconst 1, 1, (1, 0), []),
  (.iload_n 2, 1, (0, 0), []),
  (.invokestatic 78, 3, (0, 0), [[2, 165, 5229, 5230, 0]])]
def qX12_tower_17 : List mO := [(.ifCond .eq 20, 3, (0, 0), [[37]]),
  (.iconst 2, 1, (2, 0), []),
  (.iload_n 3, 1, (0, 0), []),
  (.invokestatic 78, 3, (0, 0), [[2, 165, 5229, 5230, 0]])]
def qX12_tower_25 : List mO := [(.ifCond .eq 12, 3, (0, 0), [[37]]),
  (.iconst 3, 1, (3, 0), []),
  (.iload 4, 2, (0, 0), []),
  (.invokestatic 78, 3, (0, 0), [[2, 165, 5229, 5230, 0]])]
def qX12_tower_34 : List mO := [(.ifCond .ne 5, 3, (0, 0), [[39]])]
def qX12_tower_37 : List mO := [(.iconst (-1), 1, ((-1), 0), []),
  (.ireturn, 1, (0, 0), [])]
def qX12_tower_39 : List mO := [(.aload_n 0, 1, (0, 0), []),
  (.getfield 7, 3, (0, 0), [[0, 5112, 0, 1], [12]]),
  (.iconst 0, 1, (0, 0), []),
  (.iaload, 1, (0, 0), []),
  (.bipush 9, 2, (9, 0), []),
  (.if_icmp .ne 6, 3, (0, 0), [[53]]),
  (.bipush (-2), 2, ((-2), 0), []),
  (.ireturn, 1, (0, 0), [])]
def qX12_tower_53 : List mO := [(.aload_n 0, 1, (0, 0), []),
  (.getfield 7, 3, (0, 0), [[0, 5112, 0, 1], [12]]),
  (.iconst 0, 1, (0, 0), []),
  (.iaload, 1, (0, 0), []),
  (.istore 5, 2, (0, 0), []),
  (.aload_n 0, 1, (0, 0), []),
  (.getfield 7, 3, (0, 0), [[0, 5112, 0, 1], [12]]),
  (.iload 5, 2, (0, 0), []),
  (.iconst 0, 1, (0, 0), []),
  (.invokestatic 66, 3, (0, 0), [[2, 163, 5235, 5236, 0]])]
def qX12_tower_71 : List mO := [(.iload_n 1, 1, (0, 0), []),
  (.iastore, 1, (0, 0), []),
  (.aload_n 0, 1, (0, 0), []),
  (.getfield 7, 3, (0, 0), [[0, 5112, 0, 1], [12]]),
  (.iload 5, 2, (0, 0), []),
  (.iconst 1, 1, (1, 0), []),
  (.invokestatic 66, 3, (0, 0), [[2, 163, 5235, 5236, 0]])]
def qX12_tower_83 : List mO := [(.iload_n 2, 1, (0, 0), []),
  (.iastore, 1, (0, 0), []),
  (.aload_n 0, 1, (0, 0), []),
  (.getfield 7, 3, (0, 0), [[0, 5112, 0, 1], [12]]),
  (.iload 5, 2, (0, 0), []),
  (.iconst 2, 1, (2, 0), []),
  (.invokestatic 66, 3, (0, 0), [[2, 163, 5235, 5236, 0]])]
def qX12_tower_95 : List mO := [(.iload_n 3, 1, (0, 0), []),
  (.iastore, 1, (0, 0), []),
  (.aload_n 0, 1, (0, 0), []),
  (.getfield 7, 3, (0, 0), [[0, 5112, 0, 1], [12]]),
  (.iload 5, 2, (0, 0), []),
  (.iconst 3, 1, (3, 0), []),
  (.invokestatic 66, 3, (0, 0), [[2, 163, 5235, 5236, 0]])]
def qX12_tower_107 : List mO := [(.iload 4, 2, (0, 0), []),
  (.iastore, 1, (0, 0), []),
  (.aload_n 0, 1, (0, 0), []),
  (.getfield 7, 3, (0, 0), [[0, 5112, 0, 1], [12]]),
  (.iload 5, 2, (0, 0), []),
  (.iconst 5, 1, (5, 0), []),
  (.invokestatic 66, 3, (0, 0), [[2, 163, 5235, 5236, 0]])]
def qX12_tower_120 : List mO := [(.iconst (-1), 1, ((-1), 0), []),
  (.iastore, 1, (0, 0), []),
  (.aload_n 0, 1, (0, 0), []),
  (.getfield 7, 3, (0, 0), [[0, 5112, 0, 1], [12]]),
  (.iconst 0, 1, (0, 0), []),
  (.dup2, 1, (0, 0), []),
  (.iaload, 1, (0, 0), []),
  (.iconst 1, 1, (1, 0), []),
  (.iadd, 1, (0, 0), []),
  (.iastore, 1, (0, 0), []),
  (.iload 5, 2, (0, 0), []),
  (.ireturn, 1, (0, 0), [])]
def pX12_tower : List (Nat × List mO) := [(0, qX12_tower_0), (9, qX12_tower_9), (17, qX12_tower_17), (25, qX12_tower_25), (34, qX12_tower_34), (37, qX12_tower_37), (39, qX12_tower_39), (53, qX12_tower_53), (71, qX12_tower_71), (83, qX12_tower_83), (95, qX12_tower_95), (107, qX12_tower_107), (120, qX12_tower_120)]
def qX12_isUnder_0 : List mO := [(.iload_n 1, 1, (0, 0), []),
  (.ifCond .eq 28, 3, (0, 0), [[29]]),
  (.iload_n 0, 1, (0, 0), []),
  (.iload_n 1, 1, (0, 0), []),
  (.if_icmp .eq 23, 3, (0, 0), [[29]]),
  (.iload_n 1, 1, (0, 0), []),
  (.iconst 2, 1, (2, 0), []),
  (.if_icmp .ne 8, 3, (0, 0), [[19]]),
  (.iload_n 0, 1, (0, 0), []),
  (.iconst 3, 1, (3, 0), []),
  (.if_icmp .eq 13, 3, (0, 0), [[29]])]
def qX12_isUnder_19 : List mO := [(.iload_n 1, 1, (0, 0), []),
  (.iconst 4, 1, (4, 0), []),
  (.if_icmp .ne 12, 3, (0, 0), [[33]]),
  (.iload_n 0, 1, (0, 0), []),
  (.iconst 5, 1, (5, 0), []),
  (.if_icmp .ne 7, 3, (0, 0), [[33]])]
def qX12_isUnder_29 : List mO := [(.iconst 1, 1, (1, 0), []),
  (.goto 4, 3, (0, 0), [[34]])]
def qX12_isUnder_33 : List mO := [(.iconst 0, 1, (0, 0), [])]
def qX12_isUnder_34 : List mO := [(.ireturn, 1, (0, 0), [[1]])]
def pX12_isUnder : List (Nat × List mO) := [(0, qX12_isUnder_0), (19, qX12_isUnder_19), (29, qX12_isUnder_29), (33, qX12_isUnder_33), (34, qX12_isUnder_34)]
def qX12_fact_0 : List mO := [(.iload_n 1, 1, (0, 0), []),
  (.tableswitch 85 (-6) (-1) #[83, 76, 69, 62, 46, 39], 39, (0, 0), [[86], [4294967290, 84], [4294967291, 77], [4294967292, 70], [4294967293, 63], [4294967294, 47], [4294967295, 40]])]
def qX12_fact_40 : List mO := [(.aload_n 0, 1, (0, 0), []),
  (.getfield 7, 3, (0, 0), [[0, 5112, 0, 1], [12]]),
  (.iconst 2, 1, (2, 0), []),
  (.iaload, 1, (0, 0), []),
  (.ireturn, 1, (0, 0), [])]
def qX12_fact_47 : List mO := [(.aload_n 0, 1, (0, 0), []),
  (.getfield 7, 3, (0, 0), [[0, 5112, 0, 1], [12]]),
  (.iconst 5, 1, (5, 0), []),
  (.aload_n 0, 1, (0, 0), []),
  (.getfield 7, 3, (0, 0), [[0, 5112, 0, 1], [12]]),
  (.iconst 2, 1, (2, 0), []),
  (.iaload, 1, (0, 0), []),
  (.iadd, 1, (0, 0), []),
  (.iaload, 1, (0, 0), []),
  (.iconst 3, 1, (3, 0), []),
  (.iadd, 1, (0, 0), []),
  (.ireturn, 1, (0, 0), [])]
def qX12_fact_63 : List mO := [(.aload_n 0, 1, (0, 0), []),
  (.iload_n 2, 1, (0, 0), []),
  (.iconst 1, 1, (1, 0), []),
  (.invokevirtual 82, 3, (0, 0), [[2, 6011, 0], [12, 164, 43, 6013]])]
def qX12_fact_69 : List mO := [(.ireturn, 1, (0, 0), [])]
def qX12_fact_70 : List mO := [(.aload_n 0, 1, (0, 0), []),
  (.iload_n 2, 1, (0, 0), []),
  (.iconst 2, 1, (2, 0), []),
  (.invokevirtual 82, 3, (0, 0), [[2, 6011, 0], [12, 164, 43, 6013]])]
def qX12_fact_76 : List mO := [(.ireturn, 1, (0, 0), [])]
def qX12_fact_77 : List mO := [(.aload_n 0, 1, (0, 0), []),
  (.iload_n 2, 1, (0, 0), []),
  (.iconst 3, 1, (3, 0), []),
  (.invokevirtual 82, 3, (0, 0), [[2, 6011, 0], [12, 164, 43, 6013]])]
def qX12_fact_83 : List mO := [(.ireturn, 1, (0, 0), [])]
def qX12_fact_84 : List mO := [(.iload_n 2, 1, (0, 0), []),
  (.ireturn, 1, (0, 0), [])]
def qX12_fact_86 : List mO := [(.iload_n 1, 1, (0, 0), []),
  (.ireturn, 1, (0, 0), [])]
def pX12_fact : List (Nat × List mO) := [(0, qX12_fact_0), (40, qX12_fact_40), (47, qX12_fact_47), (63, qX12_fact_63), (69, qX12_fact_69), (70, qX12_fact_70), (76, qX12_fact_76), (77, qX12_fact_77), (83, qX12_fact_83), (84, qX12_fact_84), (86, qX12_fact_86)]
def qX12_isHolding_0 : List mO := [(.iload_n 0, 1, (0, 0), []),
  (.lookupswitch 92 #[(-21, 76), (-13, 65), (-12, 54), (-11, 43)], 43, (0, 0), [[93], [4294967275, 77], [4294967283, 66], [4294967284, 55], [4294967285, 44]])]
def qX12_isHolding_44 : List mO := [(.iload_n 1, 1, (0, 0), []),
  (.iload_n 2, 1, (0, 0), []),
  (.if_icmp .ge 7, 3, (0, 0), [[53]]),
  (.iconst 1, 1, (1, 0), []),
  (.goto 4, 3, (0, 0), [[54]])]
def qX12_isHolding_53 : List mO := [(.iconst 0, 1, (0, 0), [])]
def qX12_isHolding_54 : List mO := [(.ireturn, 1, (0, 0), [[1]])]
def qX12_isHolding_55 : List mO := [(.iload_n 1, 1, (0, 0), []),
  (.iload_n 2, 1, (0, 0), []),
  (.if_icmp .ne 7, 3, (0, 0), [[64]]),
  (.iconst 1, 1, (1, 0), []),
  (.goto 4, 3, (0, 0), [[65]])]
def qX12_isHolding_64 : List mO := [(.iconst 0, 1, (0, 0), [])]
def qX12_isHolding_65 : List mO := [(.ireturn, 1, (0, 0), [[1]])]
def qX12_isHolding_66 : List mO := [(.iload_n 1, 1, (0, 0), []),
  (.iload_n 2, 1, (0, 0), []),
  (.if_icmp .le 7, 3, (0, 0), [[75]]),
  (.iconst 1, 1, (1, 0), []),
  (.goto 4, 3, (0, 0), [[76]])]
def qX12_isHolding_75 : List mO := [(.iconst 0, 1, (0, 0), [])]
def qX12_isHolding_76 : List mO := [(.ireturn, 1, (0, 0), [[1]])]
def qX12_isHolding_77 : List mO := [(.iload_n 1, 1, (0, 0), []),
  (.iconst 1, 1, (1, 0), []),
  (.if_icmp .ne 12, 3, (0, 0), [[91]]),
  (.iload_n 2, 1, (0, 0), []),
  (.iconst 1, 1, (1, 0), []),
  (.if_icmp .ne 7, 3, (0, 0), [[91]]),
  (.iconst 1, 1, (1, 0), []),
  (.goto 4, 3, (0, 0), [[92]])]
def qX12_isHolding_91 : List mO := [(.iconst 0, 1, (0, 0), [])]
def qX12_isHolding_92 : List mO := [(.ireturn, 1, (0, 0), [[1]])]
def qX12_isHolding_93 : List mO := [(.iload_n 1, 1, (0, 0), []),
  (.iconst 1, 1, (1, 0), []),
  (.if_icmp .eq 8, 3, (0, 0), [[103]]),
  (.iload_n 2, 1, (0, 0), []),
  (.iconst 1, 1, (1, 0), []),
  (.if_icmp .ne 7, 3, (0, 0), [[107]])]
def qX12_isHolding_103 : List mO := [(.iconst 1, 1, (1, 0), []),
  (.goto 4, 3, (0, 0), [[108]])]
def qX12_isHolding_107 : List mO := [(.iconst 0, 1, (0, 0), [])]
def qX12_isHolding_108 : List mO := [(.ireturn, 1, (0, 0), [[1]])]
def pX12_isHolding : List (Nat × List mO) := [(0, qX12_isHolding_0), (44, qX12_isHolding_44), (53, qX12_isHolding_53), (54, qX12_isHolding_54), (55, qX12_isHolding_55), (64, qX12_isHolding_64), (65, qX12_isHolding_65), (66, qX12_isHolding_66), (75, qX12_isHolding_75), (76, qX12_isHolding_76), (77, qX12_isHolding_77), (91, qX12_isHolding_91), (92, qX12_isHolding_92), (93, qX12_isHolding_93), (103, qX12_isHolding_103), (107, qX12_isHolding_107), (108, qX12_isHolding_108)]
def qX12_isSo_0 : List mO := [(.iconst 0, 1, (0, 0), []),
  (.istore 4, 2, (0, 0), []),
  (.iload_n 1, 1, (0, 0), []),
  (.istore 5, 2, (0, 0), [])]
def qX12_isSo_6 : List mO := [(.iload 5, 2, (0, 0), []),
  (.iload_n 2, 1, (0, 0), []),
  (.if_icmp .ge 119, 3, (0, 0), [[128]]),
  (.aload_n 0, 1, (0, 0), []),
  (.getfield 7, 3, (0, 0), [[0, 5112, 0, 1], [12]]),
  (.bipush 110, 2, (110, 0), []),
  (.iload 5, 2, (0, 0), []),
  (.iadd, 1, (0, 0), []),
  (.iaload, 1, (0, 0), []),
  (.istore 6, 2, (0, 0), []),
  (.iload 6, 2, (0, 0), []),
  (.bipush (-10), 2, ((-10), 0), []),
  (.if_icmp .le 23, 3, (0, 0), [[51]]),
  (.aload_n 0, 1, (0, 0), []),
  (.getfield 19, 3, (0, 0), [[4, 5116, 0, 1], [12]]),
  (.iload 4, 2, (0, 0), []),
  (.aload_n 0, 1, (0, 0), []),
  (.iload 6, 2, (0, 0), []),
  (.iload_n 3, 1, (0, 0), []),
  (.invokevirtual 85, 3, (0, 0), [[2, 6022, 0], [12, 168, 45, 6024]])]
def qX12_isSo_44 : List mO := [(.iastore, 1, (0, 0), []),
  (.iinc 4 1, 3, (1, 0), []),
  (.goto 74, 3, (0, 0), [[122]])]
def qX12_isSo_51 : List mO := [(.iload 6, 2, (0, 0), []),
  (.bipush (-20), 2, ((-20), 0), []),
  (.if_icmp .ne 26, 3, (0, 0), [[81]]),
  (.aload_n 0, 1, (0, 0), []),
  (.getfield 19, 3, (0, 0), [[4, 5116, 0, 1], [12]]),
  (.iload 4, 2, (0, 0), []),
  (.iconst 1, 1, (1, 0), []),
  (.isub, 1, (0, 0), []),
  (.iconst 1, 1, (1, 0), []),
  (.aload_n 0, 1, (0, 0), []),
  (.getfield 19, 3, (0, 0), [[4, 5116, 0, 1], [12]]),
  (.iload 4, 2, (0, 0), []),
  (.iconst 1, 1, (1, 0), []),
  (.isub, 1, (0, 0), []),
  (.iaload, 1, (0, 0), []),
  (.isub, 1, (0, 0), []),
  (.iastore, 1, (0, 0), []),
  (.goto 44, 3, (0, 0), [[122]])]
def qX12_isSo_81 : List mO := [(.iinc 4 (-1), 3, ((-1), 0), []),
  (.aload_n 0, 1, (0, 0), []),
  (.getfield 19, 3, (0, 0), [[4, 5116, 0, 1], [12]]),
  (.iload 4, 2, (0, 0), []),
  (.iconst 1, 1, (1, 0), []),
  (.isub, 1, (0, 0), []),
  (.iload 6, 2, (0, 0), []),
  (.aload_n 0, 1, (0, 0), []),
  (.getfield 19, 3, (0, 0), [[4, 5116, 0, 1], [12]]),
  (.iload 4, 2, (0, 0), []),
  (.iconst 1, 1, (1, 0), []),
  (.isub, 1, (0, 0), []),
  (.iaload, 1, (0, 0), []),
  (.aload_n 0, 1, (0, 0), []),
  (.getfield 19, 3, (0, 0), [[4, 5116, 0, 1], [12]]),
  (.iload 4, 2, (0, 0), []),
  (.iaload, 1, (0, 0), []),
  (.invokestatic 88, 3, (0, 0), [[3, 169, 6026, 6027, 0]])]
def qX12_isSo_113 : List mO := [(.ifCond .eq 7, 3, (0, 0), [[120]]),
  (.iconst 1, 1, (1, 0), []),
  (.goto 4, 3, (0, 0), [[121]])]
def qX12_isSo_120 : List mO := [(.iconst 0, 1, (0, 0), [])]
def qX12_isSo_121 : List mO := [(.iastore, 1, (0, 0), [])]
def qX12_isSo_122 : List mO := [(.iinc 5 1, 3, (1, 0), []),
  (.goto (-119), 3, (0, 0), [[6]])]
def qX12_isSo_128 : List mO := [(.iload 4, 2, (0, 0), []),
  (.ifCond .eq 13, 3, (0, 0), [[143]]),
  (.aload_n 0, 1, (0, 0), []),
  (.getfield 19, 3, (0, 0), [[4, 5116, 0, 1], [12]]),
  (.iconst 0, 1, (0, 0), []),
  (.iaload, 1, (0, 0), []),
  (.iconst 1, 1, (1, 0), []),
  (.if_icmp .ne 7, 3, (0, 0), [[147]])]
def qX12_isSo_143 : List mO := [(.iconst 1, 1, (1, 0), []),
  (.goto 4, 3, (0, 0), [[148]])]
def qX12_isSo_147 : List mO := [(.iconst 0, 1, (0, 0), [])]
def qX12_isSo_148 : List mO := [(.ireturn, 1, (0, 0), [[1]])]
def pX12_isSo : List (Nat × List mO) := [(0, qX12_isSo_0), (6, qX12_isSo_6), (44, qX12_isSo_44), (51, qX12_isSo_51), (81, qX12_isSo_81), (113, qX12_isSo_113), (120, qX12_isSo_120), (121, qX12_isSo_121), (122, qX12_isSo_122), (128, qX12_isSo_128), (143, qX12_isSo_143), (147, qX12_isSo_147), (148, qX12_isSo_148)]
def qX12_asks_0 : List mO := [(.aload_n 0, 1, (0, 0), []),
  (.iload_n 1, 1, (0, 0), []),
  (.iconst 0, 1, (0, 0), []),
  (.invokevirtual 82, 3, (0, 0), [[2, 6011, 0], [12, 164, 43, 6013]])]
def qX12_asks_6 : List mO := [(.istore_n 2, 1, (0, 0), []),
  (.iconst (-1), 1, ((-1), 0), []),
  (.istore_n 3, 1, (0, 0), []),
  (.iconst 0, 1, (0, 0), []),
  (.istore 4, 2, (0, 0), []),
  (.iconst 0, 1, (0, 0), []),
  (.istore 5, 2, (0, 0), [])]
def qX12_asks_15 : List mO := [(.iload 5, 2, (0, 0), []),
  (.aload_n 0, 1, (0, 0), []),
  (.getfield 7, 3, (0, 0), [[0, 5112, 0, 1], [12]]),
  (.iconst 4, 1, (4, 0), []),
  (.iaload, 1, (0, 0), []),
  (.if_icmp .ge 75, 3, (0, 0), [[98]]),
  (.iload_n 3, 1, (0, 0), []),
  (.ifCond .ge 71, 3, (0, 0), [[98]]),
  (.bipush 78, 2, (78, 0), []),
  (.iconst 4, 1, (4, 0), []),
  (.iload 5, 2, (0, 0), []),
  (.imul, 1, (0, 0), []),
  (.iadd, 1, (0, 0), []),
  (.istore 6, 2, (0, 0), []),
  (.iload_n 2, 1, (0, 0), []),
  (.aload_n 0, 1, (0, 0), []),
  (.getfield 7, 3, (0, 0), [[0, 5112, 0, 1], [12]]),
  (.iload 6, 2, (0, 0), []),
  (.iconst 0, 1, (0, 0), []),
  (.iadd, 1, (0, 0), []),
  (.iaload, 1, (0, 0), []),
  (.invokestatic 92, 3, (0, 0), [[2, 167, 6015, 6016, 0]])]
def qX12_asks_52 : List mO := [(.ifCond .eq 27, 3, (0, 0), [[79]]),
  (.aload_n 0, 1, (0, 0), []),
  (.iload 4, 2, (0, 0), []),
  (.aload_n 0, 1, (0, 0), []),
  (.getfield 7, 3, (0, 0), [[0, 5112, 0, 1], [12]]),
  (.iload 6, 2, (0, 0), []),
  (.iconst 3, 1, (3, 0), []),
  (.iadd, 1, (0, 0), []),
  (.iaload, 1, (0, 0), []),
  (.iload_n 1, 1, (0, 0), []),
  (.invokevirtual 95, 3, (0, 0), [[3, 6018, 0], [12, 170, 44, 6020]])]
def qX12_asks_71 : List mO := [(.ifCond .eq 8, 3, (0, 0), [[79]]),
  (.iload 6, 2, (0, 0), []),
  (.goto 4, 3, (0, 0), [[80]])]
def qX12_asks_79 : List mO := [(.iconst (-1), 1, ((-1), 0), [])]
def qX12_asks_80 : List mO := [(.istore_n 3, 1, (0, 0), []),
  (.aload_n 0, 1, (0, 0), []),
  (.getfield 7, 3, (0, 0), [[0, 5112, 0, 1], [12]]),
  (.iload 6, 2, (0, 0), []),
  (.iconst 3, 1, (3, 0), []),
  (.iadd, 1, (0, 0), []),
  (.iaload, 1, (0, 0), []),
  (.istore 4, 2, (0, 0), []),
  (.iinc 5 1, 3, (1, 0), []),
  (.goto (-80), 3, (0, 0), [[15]])]
def qX12_asks_98 : List mO := [(.iload_n 3, 1, (0, 0), []),
  (.ifCond .ge 7, 3, (0, 0), [[106]]),
  (.iconst (-1), 1, ((-1), 0), []),
  (.goto 11, 3, (0, 0), [[114]])]
def qX12_asks_106 : List mO := [(.aload_n 0, 1, (0, 0), []),
  (.getfield 7, 3, (0, 0), [[0, 5112, 0, 1], [12]]),
  (.iload_n 3, 1, (0, 0), []),
  (.iconst 1, 1, (1, 0), []),
  (.iadd, 1, (0, 0), []),
  (.iaload, 1, (0, 0), [])]
def qX12_asks_114 : List mO := [(.istore 5, 2, (0, 0), []),
  (.iload_n 3, 1, (0, 0), []),
  (.ifCond .ge 7, 3, (0, 0), [[124]]),
  (.iconst 0, 1, (0, 0), []),
  (.goto 11, 3, (0, 0), [[132]])]
def qX12_asks_124 : List mO := [(.aload_n 0, 1, (0, 0), []),
  (.getfield 7, 3, (0, 0), [[0, 5112, 0, 1], [12]]),
  (.iload_n 3, 1, (0, 0), []),
  (.iconst 2, 1, (2, 0), []),
  (.iadd, 1, (0, 0), []),
  (.iaload, 1, (0, 0), [])]
def qX12_asks_132 : List mO := [(.istore 6, 2, (0, 0), []),
  (.iload 5, 2, (0, 0), []),
  (.ifCond .ne 8, 3, (0, 0), [[144]]),
  (.iload 6, 2, (0, 0), []),
  (.goto 45, 3, (0, 0), [[186]])]
def qX12_asks_144 : List mO := [(.iload 5, 2, (0, 0), []),
  (.iconst 1, 1, (1, 0), []),
  (.if_icmp .ne 15, 3, (0, 0), [[162]]),
  (.aload_n 0, 1, (0, 0), []),
  (.iload_n 1, 1, (0, 0), []),
  (.iconst 1, 1, (1, 0), []),
  (.invokevirtual 82, 3, (0, 0), [[2, 6011, 0], [12, 164, 43, 6013]])]
def qX12_asks_156 : List mO := [(.iload 6, 2, (0, 0), []),
  (.iadd, 1, (0, 0), []),
  (.goto 27, 3, (0, 0), [[186]])]
def qX12_asks_162 : List mO := [(.iload 5, 2, (0, 0), []),
  (.iconst 2, 1, (2, 0), []),
  (.if_icmp .ne 15, 3, (0, 0), [[180]]),
  (.iload 6, 2, (0, 0), []),
  (.aload_n 0, 1, (0, 0), []),
  (.iload_n 1, 1, (0, 0), []),
  (.iconst 3, 1, (3, 0), []),
  (.invokevirtual 82, 3, (0, 0), [[2, 6011, 0], [12, 164, 43, 6013]])]
def qX12_asks_176 : List mO := [(.imul, 1, (0, 0), []),
  (.goto 9, 3, (0, 0), [[186]])]
def qX12_asks_180 : List mO := [(.aload_n 0, 1, (0, 0), []),
  (.iload_n 1, 1, (0, 0), []),
  (.iconst 1, 1, (1, 0), []),
  (.invokevirtual 82, 3, (0, 0), [[2, 6011, 0], [12, 164, 43, 6013]])]
def qX12_asks_186 : List mO := [(.istore 7, 2, (0, 0), []),
  (.aload_n 0, 1, (0, 0), []),
  (.iload_n 2, 1, (0, 0), []),
  (.iconst 2, 1, (2, 0), []),
  (.if_icmp .ne 10, 3, (0, 0), [[201]]),
  (.iconst 2, 1, (2, 0), []),
  (.iload 7, 2, (0, 0), []),
  (.imul, 1, (0, 0), []),
  (.goto 52, 3, (0, 0), [[250]])]
def qX12_asks_201 : List mO := [(.iload_n 2, 1, (0, 0), []),
  (.iconst 3, 1, (3, 0), []),
  (.if_icmp .ne 28, 3, (0, 0), [[231]]),
  (.iconst 2, 1, (2, 0), []),
  (.iload 7, 2, (0, 0), []),
  (.imul, 1, (0, 0), []),
  (.aload_n 0, 1, (0, 0), []),
  (.getfield 7, 3, (0, 0), [[0, 5112, 0, 1], [12]]),
  (.iconst 2, 1, (2, 0), []),
  (.iaload, 1, (0, 0), []),
  (.bipush 6, 2, (6, 0), []),
  (.if_icmp .ne 8, 3, (0, 0), [[226]]),
  (.bipush 10, 2, (10, 0), []),
  (.goto 4, 3, (0, 0), [[227]])]
def qX12_asks_226 : List mO := [(.iconst 0, 1, (0, 0), [])]
def qX12_asks_227 : List mO := [(.iadd, 1, (0, 0), []),
  (.goto 22, 3, (0, 0), [[250]])]
def qX12_asks_231 : List mO := [(.iload_n 2, 1, (0, 0), []),
  (.iconst 3, 1, (3, 0), []),
  (.if_icmp .le 15, 3, (0, 0), [[248]]),
  (.iload 7, 2, (0, 0), []),
  (.aload_n 0, 1, (0, 0), []),
  (.iload_n 1, 1, (0, 0), []),
  (.iconst 2, 1, (2, 0), []),
  (.invokevirtual 82, 3, (0, 0), [[2, 6011, 0], [12, 164, 43, 6013]])]
def qX12_asks_244 : List mO := [(.iadd, 1, (0, 0), []),
  (.goto 5, 3, (0, 0), [[250]])]
def qX12_asks_248 : List mO := [(.iload 7, 2, (0, 0), [])]
def qX12_asks_250 : List mO := [(.putfield 98, 3, (0, 0), [[5, 5117, 0, 0], [12]]),
  (.aload_n 0, 1, (0, 0), []),
  (.iload 5, 2, (0, 0), []),
  (.iconst 3, 1, (3, 0), []),
  (.if_icmp .ne 7, 3, (0, 0), [[264]]),
  (.iconst 1, 1, (1, 0), []),
  (.goto 4, 3, (0, 0), [[265]])]
def qX12_asks_264 : List mO := [(.iconst 0, 1, (0, 0), [])]
def qX12_asks_265 : List mO := [(.putfield 102, 3, (0, 0), [[6, 5118, 0, 0], [12]]),
  (.return_, 1, (0, 0), [])]
def pX12_asks : List (Nat × List mO) := [(0, qX12_asks_0), (6, qX12_asks_6), (15, qX12_asks_15), (52, qX12_asks_52), (71, qX12_asks_71), (79, qX12_asks_79), (80, qX12_asks_80), (98, qX12_asks_98), (106, qX12_asks_106), (114, qX12_asks_114), (124, qX12_asks_124), (132, qX12_asks_132), (144, qX12_asks_144), (156, qX12_asks_156), (162, qX12_asks_162), (176, qX12_asks_176), (180, qX12_asks_180), (186, qX12_asks_186), (201, qX12_asks_201), (226, qX12_asks_226), (227, qX12_asks_227), (231, qX12_asks_231), (244, qX12_asks_244), (248, qX12_asks_248), (250, qX12_asks_250), (264, qX12_asks_264), (265, qX12_asks_265)]
def qX12_towerOf_0 : List mO := [(.aload_n 0, 1, (0, 0), []),
  (.iload_n 1, 1, (0, 0), []),
  (.invokevirtual 106, 3, (0, 0), [[1, 6002, 0], [12, 156, 41, 6004]])]
def qX12_towerOf_5 : List mO := [(.ifCond .eq 15, 3, (0, 0), [[20]]),
  (.iload_n 2, 1, (0, 0), []),
  (.i2l, 1, (0, 0), []),
  (.lconst 0, 1, (0, 0), []),
  (.ldc2_w 110, 3, (0, 7), [[6006]]),
  (.invokestatic 58, 3, (0, 0), [[3, 155, 5226, 5227, 0]])]
def qX12_towerOf_17 : List mO := [(.ifCond .ne 5, 3, (0, 0), [[22]])]
def qX12_towerOf_20 : List mO := [(.iconst (-1), 1, ((-1), 0), []),
  (.ireturn, 1, (0, 0), [])]
def qX12_towerOf_22 : List mO := [(.aload_n 0, 1, (0, 0), []),
  (.iload_n 1, 1, (0, 0), []),
  (.invokevirtual 112, 3, (0, 0), [[1, 6007, 0], [12, 171, 42, 6009]])]
def qX12_towerOf_27 : List mO := [(.aload_n 0, 1, (0, 0), []),
  (.iload_n 1, 1, (0, 0), []),
  (.iconst 5, 1, (5, 0), []),
  (.invokevirtual 82, 3, (0, 0), [[2, 6011, 0], [12, 164, 43, 6013]])]
def qX12_towerOf_33 : List mO := [(.ifCond .lt 7, 3, (0, 0), [[40]]),
  (.iconst 1, 1, (1, 0), []),
  (.goto 4, 3, (0, 0), [[41]])]
def qX12_towerOf_40 : List mO := [(.iconst 0, 1, (0, 0), [])]
def qX12_towerOf_41 : List mO := [(.istore_n 3, 1, (0, 0), []),
  (.iload_n 2, 1, (0, 0), []),
  (.iconst 4, 1, (4, 0), []),
  (.if_icmp .ge 12, 3, (0, 0), [[56]]),
  (.aload_n 0, 1, (0, 0), []),
  (.iload_n 1, 1, (0, 0), []),
  (.iload_n 2, 1, (0, 0), []),
  (.invokevirtual 82, 3, (0, 0), [[2, 6011, 0], [12, 164, 43, 6013]])]
def qX12_towerOf_53 : List mO := [(.goto 52, 3, (0, 0), [[105]])]
def qX12_towerOf_56 : List mO := [(.iload_n 2, 1, (0, 0), []),
  (.iconst 4, 1, (4, 0), []),
  (.if_icmp .ne 10, 3, (0, 0), [[68]]),
  (.aload_n 0, 1, (0, 0), []),
  (.getfield 98, 3, (0, 0), [[5, 5117, 0, 0], [12]]),
  (.goto 40, 3, (0, 0), [[105]])]
def qX12_towerOf_68 : List mO := [(.iload_n 2, 1, (0, 0), []),
  (.iconst 5, 1, (5, 0), []),
  (.if_icmp .ne 18, 3, (0, 0), [[88]]),
  (.aload_n 0, 1, (0, 0), []),
  (.getfield 102, 3, (0, 0), [[6, 5118, 0, 0], [12]]),
  (.ifCond .eq 7, 3, (0, 0), [[84]]),
  (.iconst 1, 1, (1, 0), []),
  (.goto 24, 3, (0, 0), [[105]])]
def qX12_towerOf_84 : List mO := [(.iconst 0, 1, (0, 0), []),
  (.goto 20, 3, (0, 0), [[105]])]
def qX12_towerOf_88 : List mO := [(.iload_n 3, 1, (0, 0), []),
  (.ifCond .eq 14, 3, (0, 0), [[103]]),
  (.aload_n 0, 1, (0, 0), []),
  (.iload_n 1, 1, (0, 0), []),
  (.iload_n 2, 1, (0, 0), []),
  (.iconst 2, 1, (2, 0), []),
  (.isub, 1, (0, 0), []),
  (.invokevirtual 82, 3, (0, 0), [[2, 6011, 0], [12, 164, 43, 6013]])]
def qX12_towerOf_100 : List mO := [(.goto 5, 3, (0, 0), [[105]])]
def qX12_towerOf_103 : List mO := [(.bipush (-9), 2, ((-9), 0), [])]
def qX12_towerOf_105 : List mO := [(.ireturn, 1, (0, 0), [])]
def pX12_towerOf : List (Nat × List mO) := [(0, qX12_towerOf_0), (5, qX12_towerOf_5), (17, qX12_towerOf_17), (20, qX12_towerOf_20), (22, qX12_towerOf_22), (27, qX12_towerOf_27), (33, qX12_towerOf_33), (40, qX12_towerOf_40), (41, qX12_towerOf_41), (53, qX12_towerOf_53), (56, qX12_towerOf_56), (68, qX12_towerOf_68), (84, qX12_towerOf_84), (88, qX12_towerOf_88), (100, qX12_towerOf_100), (103, qX12_towerOf_103), (105, qX12_towerOf_105)]
def qX12_change_0 : List mO := [(.aload_n 0, 1, (0, 0), []),
  (.iload_n 1, 1, (0, 0), []),
  (.invokevirtual 106, 3, (0, 0), [[1, 6002, 0], [12, 156, 41, 6004]])]
def qX12_change_5 : List mO := [(.ifCond .eq 11, 3, (0, 0), [[16]]),
  (.iload_n 2, 1, (0, 0), []),
  (.iload_n 3, 1, (0, 0), []),
  (.invokestatic 78, 3, (0, 0), [[2, 165, 5229, 5230, 0]])]
def qX12_change_13 : List mO := [(.ifCond .ne 5, 3, (0, 0), [[18]])]
def qX12_change_16 : List mO := [(.iconst (-1), 1, ((-1), 0), []),
  (.ireturn, 1, (0, 0), [])]
def qX12_change_18 : List mO := [(.aload_n 0, 1, (0, 0), []),
  (.iload_n 1, 1, (0, 0), []),
  (.iload_n 2, 1, (0, 0), []),
  (.invokevirtual 82, 3, (0, 0), [[2, 6011, 0], [12, 164, 43, 6013]])]
def qX12_change_24 : List mO := [(.istore 4, 2, (0, 0), []),
  (.aload_n 0, 1, (0, 0), []),
  (.getfield 7, 3, (0, 0), [[0, 5112, 0, 1], [12]]),
  (.iload_n 1, 1, (0, 0), []),
  (.iload_n 2, 1, (0, 0), []),
  (.invokestatic 66, 3, (0, 0), [[2, 163, 5235, 5236, 0]])]
def qX12_change_35 : List mO := [(.iload_n 3, 1, (0, 0), []),
  (.iastore, 1, (0, 0), []),
  (.iload 4, 2, (0, 0), []),
  (.ireturn, 1, (0, 0), [])]
def pX12_change : List (Nat × List mO) := [(0, qX12_change_0), (5, qX12_change_5), (13, qX12_change_13), (16, qX12_change_16), (18, qX12_change_18), (24, qX12_change_24), (35, qX12_change_35)]
def qX12_turn_0 : List mO := [(.aload_n 0, 1, (0, 0), []),
  (.iload_n 1, 1, (0, 0), []),
  (.invokevirtual 106, 3, (0, 0), [[1, 6002, 0], [12, 156, 41, 6004]])]
def qX12_turn_5 : List mO := [(.ifCond .eq 15, 3, (0, 0), [[20]]),
  (.iload_n 2, 1, (0, 0), []),
  (.i2l, 1, (0, 0), []),
  (.lconst 1, 1, (0, 1), []),
  (.ldc2_w 76, 3, (0, 5), [[5225]]),
  (.invokestatic 58, 3, (0, 0), [[3, 155, 5226, 5227, 0]])]
def qX12_turn_17 : List mO := [(.ifCond .ne 5, 3, (0, 0), [[22]])]
def qX12_turn_20 : List mO := [(.iconst (-1), 1, ((-1), 0), []),
  (.ireturn, 1, (0, 0), [])]
def qX12_turn_22 : List mO := [(.aload_n 0, 1, (0, 0), []),
  (.iload_n 1, 1, (0, 0), []),
  (.iconst 0, 1, (0, 0), []),
  (.invokevirtual 82, 3, (0, 0), [[2, 6011, 0], [12, 164, 43, 6013]])]
def qX12_turn_28 : List mO := [(.istore_n 3, 1, (0, 0), []),
  (.aload_n 0, 1, (0, 0), []),
  (.getfield 7, 3, (0, 0), [[0, 5112, 0, 1], [12]]),
  (.iload_n 1, 1, (0, 0), []),
  (.iconst 0, 1, (0, 0), []),
  (.invokestatic 66, 3, (0, 0), [[2, 163, 5235, 5236, 0]])]
def qX12_turn_38 : List mO := [(.iload_n 2, 1, (0, 0), []),
  (.iastore, 1, (0, 0), []),
  (.iload_n 3, 1, (0, 0), []),
  (.ireturn, 1, (0, 0), [])]
def pX12_turn : List (Nat × List mO) := [(0, qX12_turn_0), (5, qX12_turn_5), (17, qX12_turn_17), (20, qX12_turn_20), (22, qX12_turn_22), (28, qX12_turn_28), (38, qX12_turn_38)]
def qX12_day_0 : List mO := [(.iload_n 1, 1, (0, 0), []),
  (.invokestatic 116, 3, (0, 0), [[1, 157, 6041, 6042, 0]])]
def qX12_day_4 : List mO := [(.ifCond .ne 5, 3, (0, 0), [[9]]),
  (.iconst (-1), 1, ((-1), 0), []),
  (.ireturn, 1, (0, 0), [])]
def qX12_day_9 : List mO := [(.aload_n 0, 1, (0, 0), []),
  (.getfield 7, 3, (0, 0), [[0, 5112, 0, 1], [12]]),
  (.iconst 2, 1, (2, 0), []),
  (.iaload, 1, (0, 0), []),
  (.istore_n 2, 1, (0, 0), []),
  (.aload_n 0, 1, (0, 0), []),
  (.getfield 7, 3, (0, 0), [[0, 5112, 0, 1], [12]]),
  (.iconst 2, 1, (2, 0), []),
  (.iload_n 1, 1, (0, 0), []),
  (.iastore, 1, (0, 0), []),
  (.iload_n 2, 1, (0, 0), []),
  (.ireturn, 1, (0, 0), [])]
def pX12_day : List (Nat × List mO) := [(0, qX12_day_0), (4, qX12_day_4), (9, qX12_day_9)]
def qX12_wind_0 : List mO := [(.iload_n 1, 1, (0, 0), []),
  (.invokestatic 116, 3, (0, 0), [[1, 157, 6041, 6042, 0]])]
def qX12_wind_4 : List mO := [(.ifCond .eq 17, 3, (0, 0), [[21]]),
  (.iload_n 2, 1, (0, 0), []),
  (.i2l, 1, (0, 0), []),
  (.ldc2_w 119, 3, (0, (-3)), [[6049]]),
  (.ldc2_w 121, 3, (0, 3), [[6050]]),
  (.invokestatic 58, 3, (0, 0), [[3, 155, 5226, 5227, 0]])]
def qX12_wind_18 : List mO := [(.ifCond .ne 5, 3, (0, 0), [[23]])]
def qX12_wind_21 : List mO := [(.iconst (-1), 1, ((-1), 0), []),
  (.ireturn, 1, (0, 0), [])]
def qX12_wind_23 : List mO := [(.aload_n 0, 1, (0, 0), []),
  (.getfield 7, 3, (0, 0), [[0, 5112, 0, 1], [12]]),
  (.iconst 5, 1, (5, 0), []),
  (.iload_n 1, 1, (0, 0), []),
  (.iadd, 1, (0, 0), []),
  (.iaload, 1, (0, 0), []),
  (.istore_n 3, 1, (0, 0), []),
  (.aload_n 0, 1, (0, 0), []),
  (.getfield 7, 3, (0, 0), [[0, 5112, 0, 1], [12]]),
  (.iconst 5, 1, (5, 0), []),
  (.iload_n 1, 1, (0, 0), []),
  (.iadd, 1, (0, 0), []),
  (.iload_n 2, 1, (0, 0), []),
  (.iastore, 1, (0, 0), []),
  (.iload_n 3, 1, (0, 0), []),
  (.bipush 100, 2, (100, 0), []),
  (.iadd, 1, (0, 0), []),
  (.ireturn, 1, (0, 0), [])]
def pX12_wind : List (Nat × List mO) := [(0, qX12_wind_0), (4, qX12_wind_4), (18, qX12_wind_18), (21, qX12_wind_21), (23, qX12_wind_23)]
def qX12_pace_0 : List mO := [(.iload_n 1, 1, (0, 0), []),
  (.ifCond .eq 21, 3, (0, 0), [[22]]),
  (.iconst 4, 1, (4, 0), []),
  (.aload_n 0, 1, (0, 0), []),
  (.getfield 7, 3, (0, 0), [[0, 5112, 0, 1], [12]]),
  (.iconst 5, 1, (5, 0), []),
  (.aload_n 0, 1, (0, 0), []),
  (.getfield 7, 3, (0, 0), [[0, 5112, 0, 1], [12]]),
  (.iconst 2, 1, (2, 0), []),
  (.iaload, 1, (0, 0), []),
  (.iadd, 1, (0, 0), []),
  (.iaload, 1, (0, 0), []),
  (.iadd, 1, (0, 0), []),
  (.goto 18, 3, (0, 0), [[37]])]
def qX12_pace_22 : List mO := [(.iconst 4, 1, (4, 0), []),
  (.aload_n 0, 1, (0, 0), []),
  (.getfield 7, 3, (0, 0), [[0, 5112, 0, 1], [12]]),
  (.iconst 5, 1, (5, 0), []),
  (.aload_n 0, 1, (0, 0), []),
  (.getfield 7, 3, (0, 0), [[0, 5112, 0, 1], [12]]),
  (.iconst 2, 1, (2, 0), []),
  (.iaload, 1, (0, 0), []),
  (.iadd, 1, (0, 0), []),
  (.iaload, 1, (0, 0), []),
  (.isub, 1, (0, 0), [])]
def qX12_pace_37 : List mO := [(.ireturn, 1, (0, 0), [])]
def pX12_pace : List (Nat × List mO) := [(0, qX12_pace_0), (22, qX12_pace_22), (37, qX12_pace_37)]
def qX12_quiets_0 : List mO := [(.iconst 0, 1, (0, 0), []),
  (.istore_n 1, 1, (0, 0), [])]
def qX12_quiets_2 : List mO := [(.iload_n 1, 1, (0, 0), []),
  (.bipush 9, 2, (9, 0), []),
  (.if_icmp .ge 16, 3, (0, 0), [[21]]),
  (.aload_n 0, 1, (0, 0), []),
  (.getfield 22, 3, (0, 0), [[7, 5119, 0, 1], [12]]),
  (.iload_n 1, 1, (0, 0), []),
  (.iconst (-1), 1, ((-1), 0), []),
  (.iastore, 1, (0, 0), []),
  (.iinc 1 1, 3, (1, 0), []),
  (.goto (-16), 3, (0, 0), [[2]])]
def qX12_quiets_21 : List mO := [(.return_, 1, (0, 0), [])]
def pX12_quiets : List (Nat × List mO) := [(0, qX12_quiets_0), (2, qX12_quiets_2), (21, qX12_quiets_21)]
def qX12_goes_0 : List mO := [(.aload_n 0, 1, (0, 0), []),
  (.getfield 22, 3, (0, 0), [[7, 5119, 0, 1], [12]]),
  (.iload_n 1, 1, (0, 0), []),
  (.iload_n 2, 1, (0, 0), []),
  (.iastore, 1, (0, 0), []),
  (.aload_n 0, 1, (0, 0), []),
  (.getfield 25, 3, (0, 0), [[8, 5120, 0, 1], [12]]),
  (.iload_n 1, 1, (0, 0), []),
  (.iload_n 2, 1, (0, 0), []),
  (.iastore, 1, (0, 0), []),
  (.iload_n 1, 1, (0, 0), []),
  (.istore 6, 2, (0, 0), []),
  (.iload_n 2, 1, (0, 0), []),
  (.istore 7, 2, (0, 0), []),
  (.iconst 1, 1, (1, 0), []),
  (.istore 8, 2, (0, 0), [])]
def qX12_goes_23 : List mO := [(.iload 8, 2, (0, 0), []),
  (.ifCond .eq 183, 3, (0, 0), [[208]]),
  (.iload 6, 2, (0, 0), []),
  (.iload 5, 2, (0, 0), []),
  (.if_icmp .eq 176, 3, (0, 0), [[208]]),
  (.iload_n 3, 1, (0, 0), []),
  (.ifCond .eq 10, 3, (0, 0), [[46]]),
  (.iload 6, 2, (0, 0), []),
  (.iconst 1, 1, (1, 0), []),
  (.iadd, 1, (0, 0), []),
  (.goto 7, 3, (0, 0), [[50]])]
def qX12_goes_46 : List mO := [(.iload 6, 2, (0, 0), []),
  (.iconst 1, 1, (1, 0), []),
  (.isub, 1, (0, 0), [])]
def qX12_goes_50 : List mO := [(.istore 9, 2, (0, 0), []),
  (.aload_n 0, 1, (0, 0), []),
  (.iload 9, 2, (0, 0), []),
  (.invokevirtual 106, 3, (0, 0), [[1, 6002, 0], [12, 156, 41, 6004]])]
def qX12_goes_58 : List mO := [(.ifCond .eq 17, 3, (0, 0), [[75]]),
  (.iload 4, 2, (0, 0), []),
  (.iload 9, 2, (0, 0), []),
  (.invokestatic 123, 3, (0, 0), [[2, 159, 6071, 6072, 0]])]
def qX12_goes_68 : List mO := [(.ifCond .ne 7, 3, (0, 0), [[75]]),
  (.iconst 1, 1, (1, 0), []),
  (.goto 4, 3, (0, 0), [[76]])]
def qX12_goes_75 : List mO := [(.iconst 0, 1, (0, 0), [])]
def qX12_goes_76 : List mO := [(.istore 8, 2, (0, 0), []),
  (.iload 8, 2, (0, 0), []),
  (.ifCond .eq 125, 3, (0, 0), [[205]]),
  (.iload 7, 2, (0, 0), []),
  (.aload_n 0, 1, (0, 0), []),
  (.iload_n 3, 1, (0, 0), []),
  (.invokevirtual 126, 3, (0, 0), [[1, 6074, 0], [12, 177, 6053, 6052]])]
def qX12_goes_90 : List mO := [(.aload_n 0, 1, (0, 0), []),
  (.iload_n 3, 1, (0, 0), []),
  (.ifCond .eq 8, 3, (0, 0), [[100]]),
  (.iload 9, 2, (0, 0), []),
  (.goto 5, 3, (0, 0), [[102]])]
def qX12_goes_100 : List mO := [(.iload 6, 2, (0, 0), [])]
def qX12_goes_102 : List mO := [(.iconst 3, 1, (3, 0), []),
  (.invokevirtual 82, 3, (0, 0), [[2, 6011, 0], [12, 164, 43, 6013]])]
def qX12_goes_106 : List mO := [(.imul, 1, (0, 0), []),
  (.iadd, 1, (0, 0), []),
  (.istore 10, 2, (0, 0), []),
  (.aload_n 0, 1, (0, 0), []),
  (.iload 9, 2, (0, 0), []),
  (.invokevirtual 112, 3, (0, 0), [[1, 6007, 0], [12, 171, 42, 6009]])]
def qX12_goes_116 : List mO := [(.aload_n 0, 1, (0, 0), []),
  (.iload 9, 2, (0, 0), []),
  (.iconst 0, 1, (0, 0), []),
  (.invokevirtual 82, 3, (0, 0), [[2, 6011, 0], [12, 164, 43, 6013]])]
def qX12_goes_123 : List mO := [(.iconst 5, 1, (5, 0), []),
  (.if_icmp .ne 11, 3, (0, 0), [[135]]),
  (.iload 10, 2, (0, 0), []),
  (.sipush 360, 3, (360, 0), []),
  (.if_icmp .lt 7, 3, (0, 0), [[139]])]
def qX12_goes_135 : List mO := [(.iconst 1, 1, (1, 0), []),
  (.goto 4, 3, (0, 0), [[140]])]
def qX12_goes_139 : List mO := [(.iconst 0, 1, (0, 0), [])]
def qX12_goes_140 : List mO := [(.istore 8, 2, (0, 0), []),
  (.iload 8, 2, (0, 0), []),
  (.ifCond .eq 61, 3, (0, 0), [[205]]),
  (.aload_n 0, 1, (0, 0), []),
  (.getfield 22, 3, (0, 0), [[7, 5119, 0, 1], [12]]),
  (.iload 9, 2, (0, 0), []),
  (.iload 10, 2, (0, 0), []),
  (.iastore, 1, (0, 0), []),
  (.aload_n 0, 1, (0, 0), []),
  (.getfield 25, 3, (0, 0), [[8, 5120, 0, 1], [12]]),
  (.iload 9, 2, (0, 0), []),
  (.aload_n 0, 1, (0, 0), []),
  (.getfield 25, 3, (0, 0), [[8, 5120, 0, 1], [12]]),
  (.iload 6, 2, (0, 0), []),
  (.iaload, 1, (0, 0), []),
  (.aload_n 0, 1, (0, 0), []),
  (.getfield 98, 3, (0, 0), [[5, 5117, 0, 0], [12]]),
  (.iadd, 1, (0, 0), []),
  (.iastore, 1, (0, 0), []),
  (.iload 10, 2, (0, 0), []),
  (.aload_n 0, 1, (0, 0), []),
  (.iload 9, 2, (0, 0), []),
  (.iconst 2, 1, (2, 0), []),
  (.invokevirtual 82, 3, (0, 0), [[2, 6011, 0], [12, 164, 43, 6013]])]
def qX12_goes_184 : List mO := [(.iadd, 1, (0, 0), []),
  (.istore 7, 2, (0, 0), []),
  (.aload_n 0, 1, (0, 0), []),
  (.getfield 102, 3, (0, 0), [[6, 5118, 0, 0], [12]]),
  (.ifCond .ne 7, 3, (0, 0), [[198]]),
  (.iconst 1, 1, (1, 0), []),
  (.goto 4, 3, (0, 0), [[199]])]
def qX12_goes_198 : List mO := [(.iconst 0, 1, (0, 0), [])]
def qX12_goes_199 : List mO := [(.istore 8, 2, (0, 0), []),
  (.iload 9, 2, (0, 0), []),
  (.istore 6, 2, (0, 0), [])]
def qX12_goes_205 : List mO := [(.goto (-182), 3, (0, 0), [[23]])]
def qX12_goes_208 : List mO := [(.return_, 1, (0, 0), [])]
def pX12_goes : List (Nat × List mO) := [(0, qX12_goes_0), (23, qX12_goes_23), (46, qX12_goes_46), (50, qX12_goes_50), (58, qX12_goes_58), (68, qX12_goes_68), (75, qX12_goes_75), (76, qX12_goes_76), (90, qX12_goes_90), (100, qX12_goes_100), (102, qX12_goes_102), (106, qX12_goes_106), (116, qX12_goes_116), (123, qX12_goes_123), (135, qX12_goes_135), (139, qX12_goes_139), (140, qX12_goes_140), (184, qX12_goes_184), (198, qX12_goes_198), (199, qX12_goes_199), (205, qX12_goes_205), (208, qX12_goes_208)]
def qX12_goesBoth_0 : List mO := [(.aload_n 0, 1, (0, 0), []),
  (.invokevirtual 130, 3, (0, 0), [[0, 6063, 0], [12, 178, 46, 6065]])]
def qX12_goesBoth_4 : List mO := [(.aload_n 0, 1, (0, 0), []),
  (.iload_n 1, 1, (0, 0), []),
  (.iload_n 2, 1, (0, 0), []),
  (.iconst 1, 1, (1, 0), []),
  (.iconst 0, 1, (0, 0), []),
  (.iconst (-1), 1, ((-1), 0), []),
  (.invokevirtual 133, 3, (0, 0), [[5, 6067, 0], [12, 179, 47, 6069]])]
def qX12_goesBoth_13 : List mO := [(.aload_n 0, 1, (0, 0), []),
  (.iload_n 1, 1, (0, 0), []),
  (.iload_n 2, 1, (0, 0), []),
  (.iconst 0, 1, (0, 0), []),
  (.iconst 0, 1, (0, 0), []),
  (.iconst (-1), 1, ((-1), 0), []),
  (.invokevirtual 133, 3, (0, 0), [[5, 6067, 0], [12, 179, 47, 6069]])]
def qX12_goesBoth_22 : List mO := [(.return_, 1, (0, 0), [])]
def pX12_goesBoth : List (Nat × List mO) := [(0, qX12_goesBoth_0), (4, qX12_goesBoth_4), (13, qX12_goesBoth_13), (22, qX12_goesBoth_22)]
def qX12_comers_0 : List mO := [(.iconst 0, 1, (0, 0), []),
  (.istore_n 1, 1, (0, 0), []),
  (.iconst 0, 1, (0, 0), []),
  (.istore_n 2, 1, (0, 0), [])]
def qX12_comers_4 : List mO := [(.iload_n 2, 1, (0, 0), []),
  (.aload_n 0, 1, (0, 0), []),
  (.getfield 7, 3, (0, 0), [[0, 5112, 0, 1], [12]]),
  (.iconst 0, 1, (0, 0), []),
  (.iaload, 1, (0, 0), []),
  (.if_icmp .ge 26, 3, (0, 0), [[37]]),
  (.iload_n 1, 1, (0, 0), []),
  (.aload_n 0, 1, (0, 0), []),
  (.getfield 22, 3, (0, 0), [[7, 5119, 0, 1], [12]]),
  (.iload_n 2, 1, (0, 0), []),
  (.iaload, 1, (0, 0), []),
  (.ifCond .ge 7, 3, (0, 0), [[28]]),
  (.iconst 0, 1, (0, 0), []),
  (.goto 4, 3, (0, 0), [[29]])]
def qX12_comers_28 : List mO := [(.iconst 1, 1, (1, 0), [])]
def qX12_comers_29 : List mO := [(.iadd, 1, (0, 0), []),
  (.istore_n 1, 1, (0, 0), []),
  (.iinc 2 1, 3, (1, 0), []),
  (.goto (-30), 3, (0, 0), [[4]])]
def qX12_comers_37 : List mO := [(.iload_n 1, 1, (0, 0), []),
  (.ireturn, 1, (0, 0), [])]
def pX12_comers : List (Nat × List mO) := [(0, qX12_comers_0), (4, qX12_comers_4), (28, qX12_comers_28), (29, qX12_comers_29), (37, qX12_comers_37)]
def qX12_offOf_0 : List mO := [(.aload_n 0, 1, (0, 0), []),
  (.getfield 25, 3, (0, 0), [[8, 5120, 0, 1], [12]]),
  (.iload_n 1, 1, (0, 0), []),
  (.iaload, 1, (0, 0), []),
  (.aload_n 0, 1, (0, 0), []),
  (.getfield 22, 3, (0, 0), [[7, 5119, 0, 1], [12]]),
  (.iload_n 1, 1, (0, 0), []),
  (.iaload, 1, (0, 0), []),
  (.isub, 1, (0, 0), []),
  (.ireturn, 1, (0, 0), [])]
def pX12_offOf : List (Nat × List mO) := [(0, qX12_offOf_0)]
def qX12_cry_0 : List mO := [(.aload_n 0, 1, (0, 0), []),
  (.iload_n 1, 1, (0, 0), []),
  (.invokevirtual 106, 3, (0, 0), [[1, 6002, 0], [12, 156, 41, 6004]])]
def qX12_cry_5 : List mO := [(.ifCond .eq 10, 3, (0, 0), [[15]]),
  (.iload_n 2, 1, (0, 0), []),
  (.invokestatic 137, 3, (0, 0), [[1, 158, 6059, 6060, 0]])]
def qX12_cry_12 : List mO := [(.ifCond .ne 5, 3, (0, 0), [[17]])]
def qX12_cry_15 : List mO := [(.iconst (-1), 1, ((-1), 0), []),
  (.ireturn, 1, (0, 0), [])]
def qX12_cry_17 : List mO := [(.aload_n 0, 1, (0, 0), []),
  (.invokevirtual 130, 3, (0, 0), [[0, 6063, 0], [12, 178, 46, 6065]])]
def qX12_cry_21 : List mO := [(.aload_n 0, 1, (0, 0), []),
  (.iload_n 1, 1, (0, 0), []),
  (.iload_n 2, 1, (0, 0), []),
  (.iload_n 3, 1, (0, 0), []),
  (.iconst 0, 1, (0, 0), []),
  (.iconst (-1), 1, ((-1), 0), []),
  (.invokevirtual 133, 3, (0, 0), [[5, 6067, 0], [12, 179, 47, 6069]])]
def qX12_cry_30 : List mO := [(.iconst 0, 1, (0, 0), []),
  (.istore 4, 2, (0, 0), [])]
def qX12_cry_33 : List mO := [(.iload 4, 2, (0, 0), []),
  (.aload_n 0, 1, (0, 0), []),
  (.getfield 7, 3, (0, 0), [[0, 5112, 0, 1], [12]]),
  (.iconst 0, 1, (0, 0), []),
  (.iaload, 1, (0, 0), []),
  (.if_icmp .ge 55, 3, (0, 0), [[96]]),
  (.aload_n 0, 1, (0, 0), []),
  (.getfield 22, 3, (0, 0), [[7, 5119, 0, 1], [12]]),
  (.iload 4, 2, (0, 0), []),
  (.iaload, 1, (0, 0), []),
  (.ifCond .lt 39, 3, (0, 0), [[90]]),
  (.aload_n 0, 1, (0, 0), []),
  (.getfield 7, 3, (0, 0), [[0, 5112, 0, 1], [12]]),
  (.iload 4, 2, (0, 0), []),
  (.iconst 4, 1, (4, 0), []),
  (.invokestatic 66, 3, (0, 0), [[2, 163, 5235, 5236, 0]])]
def qX12_cry_64 : List mO := [(.aload_n 0, 1, (0, 0), []),
  (.getfield 25, 3, (0, 0), [[8, 5120, 0, 1], [12]]),
  (.iload 4, 2, (0, 0), []),
  (.iaload, 1, (0, 0), []),
  (.iastore, 1, (0, 0), []),
  (.aload_n 0, 1, (0, 0), []),
  (.getfield 7, 3, (0, 0), [[0, 5112, 0, 1], [12]]),
  (.iload 4, 2, (0, 0), []),
  (.iconst 5, 1, (5, 0), []),
  (.invokestatic 66, 3, (0, 0), [[2, 163, 5235, 5236, 0]])]
def qX12_cry_82 : List mO := [(.aload_n 0, 1, (0, 0), []),
  (.getfield 22, 3, (0, 0), [[7, 5119, 0, 1], [12]]),
  (.iload 4, 2, (0, 0), []),
  (.iaload, 1, (0, 0), []),
  (.iastore, 1, (0, 0), [])]
def qX12_cry_90 : List mO := [(.iinc 4 1, 3, (1, 0), []),
  (.goto (-60), 3, (0, 0), [[33]])]
def qX12_cry_96 : List mO := [(.aload_n 0, 1, (0, 0), []),
  (.invokevirtual 140, 3, (0, 0), [[0, 6075, 0], [12, 181, 48, 6077]])]
def qX12_cry_100 : List mO := [(.ireturn, 1, (0, 0), [])]
def pX12_cry : List (Nat × List mO) := [(0, qX12_cry_0), (5, qX12_cry_5), (12, qX12_cry_12), (15, qX12_cry_15), (17, qX12_cry_17), (21, qX12_cry_21), (30, qX12_cry_30), (33, qX12_cry_33), (64, qX12_cry_64), (82, qX12_cry_82), (90, qX12_cry_90), (96, qX12_cry_96), (100, qX12_cry_100)]
def qX12_shows_0 : List mO := [(.aload_n 0, 1, (0, 0), []),
  (.iload_n 1, 1, (0, 0), []),
  (.invokevirtual 106, 3, (0, 0), [[1, 6002, 0], [12, 156, 41, 6004]])]
def qX12_shows_5 : List mO := [(.ifCond .eq 15, 3, (0, 0), [[20]]),
  (.iload_n 2, 1, (0, 0), []),
  (.i2l, 1, (0, 0), []),
  (.lconst 0, 1, (0, 0), []),
  (.ldc2_w 144, 3, (0, 9999), [[6083]]),
  (.invokestatic 58, 3, (0, 0), [[3, 155, 5226, 5227, 0]])]
def qX12_shows_17 : List mO := [(.ifCond .ne 5, 3, (0, 0), [[22]])]
def qX12_shows_20 : List mO := [(.iconst (-1), 1, ((-1), 0), []),
  (.ireturn, 1, (0, 0), [])]
def qX12_shows_22 : List mO := [(.aload_n 0, 1, (0, 0), []),
  (.iload_n 1, 1, (0, 0), []),
  (.iconst 5, 1, (5, 0), []),
  (.invokevirtual 82, 3, (0, 0), [[2, 6011, 0], [12, 164, 43, 6013]])]
def qX12_shows_28 : List mO := [(.ifCond .ge 6, 3, (0, 0), [[34]]),
  (.bipush (-3), 2, ((-3), 0), []),
  (.ireturn, 1, (0, 0), [])]
def qX12_shows_34 : List mO := [(.iload_n 2, 1, (0, 0), []),
  (.aload_n 0, 1, (0, 0), []),
  (.iload_n 1, 1, (0, 0), []),
  (.iconst 5, 1, (5, 0), []),
  (.invokevirtual 82, 3, (0, 0), [[2, 6011, 0], [12, 164, 43, 6013]])]
def qX12_shows_41 : List mO := [(.if_icmp .ge 8, 3, (0, 0), [[49]]),
  (.bipush (-4), 2, ((-4), 0), []),
  (.goto 18, 3, (0, 0), [[64]])]
def qX12_shows_49 : List mO := [(.aload_n 0, 1, (0, 0), []),
  (.iload_n 1, 1, (0, 0), []),
  (.iconst 4, 1, (4, 0), []),
  (.invokevirtual 82, 3, (0, 0), [[2, 6011, 0], [12, 164, 43, 6013]])]
def qX12_shows_55 : List mO := [(.iload_n 2, 1, (0, 0), []),
  (.iadd, 1, (0, 0), []),
  (.aload_n 0, 1, (0, 0), []),
  (.iload_n 1, 1, (0, 0), []),
  (.iconst 5, 1, (5, 0), []),
  (.invokevirtual 82, 3, (0, 0), [[2, 6011, 0], [12, 164, 43, 6013]])]
def qX12_shows_63 : List mO := [(.isub, 1, (0, 0), [])]
def qX12_shows_64 : List mO := [(.ireturn, 1, (0, 0), [])]
def pX12_shows : List (Nat × List mO) := [(0, qX12_shows_0), (5, qX12_shows_5), (17, qX12_shows_17), (20, qX12_shows_20), (22, qX12_shows_22), (28, qX12_shows_28), (34, qX12_shows_34), (41, qX12_shows_41), (49, qX12_shows_49), (55, qX12_shows_55), (63, qX12_shows_63), (64, qX12_shows_64)]
def qX12_holders_0 : List mO := [(.iconst 0, 1, (0, 0), []),
  (.istore_n 1, 1, (0, 0), []),
  (.iconst 0, 1, (0, 0), []),
  (.istore_n 2, 1, (0, 0), [])]
def qX12_holders_4 : List mO := [(.iload_n 2, 1, (0, 0), []),
  (.aload_n 0, 1, (0, 0), []),
  (.getfield 7, 3, (0, 0), [[0, 5112, 0, 1], [12]]),
  (.iconst 0, 1, (0, 0), []),
  (.iaload, 1, (0, 0), []),
  (.if_icmp .ge 26, 3, (0, 0), [[37]]),
  (.iload_n 1, 1, (0, 0), []),
  (.aload_n 0, 1, (0, 0), []),
  (.iload_n 2, 1, (0, 0), []),
  (.iconst 5, 1, (5, 0), []),
  (.invokevirtual 82, 3, (0, 0), [[2, 6011, 0], [12, 164, 43, 6013]])]
def qX12_holders_21 : List mO := [(.ifCond .ge 7, 3, (0, 0), [[28]]),
  (.iconst 0, 1, (0, 0), []),
  (.goto 4, 3, (0, 0), [[29]])]
def qX12_holders_28 : List mO := [(.iconst 1, 1, (1, 0), [])]
def qX12_holders_29 : List mO := [(.iadd, 1, (0, 0), []),
  (.istore_n 1, 1, (0, 0), []),
  (.iinc 2 1, 3, (1, 0), []),
  (.goto (-30), 3, (0, 0), [[4]])]
def qX12_holders_37 : List mO := [(.iload_n 1, 1, (0, 0), []),
  (.ireturn, 1, (0, 0), [])]
def pX12_holders : List (Nat × List mO) := [(0, qX12_holders_0), (4, qX12_holders_4), (21, qX12_holders_21), (28, qX12_holders_28), (29, qX12_holders_29), (37, qX12_holders_37)]
def qX12_hush_0 : List mO := [(.aload_n 0, 1, (0, 0), []),
  (.invokevirtual 146, 3, (0, 0), [[0, 6088, 0], [12, 185, 49, 6090]])]
def qX12_hush_4 : List mO := [(.istore_n 1, 1, (0, 0), []),
  (.iconst 0, 1, (0, 0), []),
  (.istore_n 2, 1, (0, 0), [])]
def qX12_hush_7 : List mO := [(.iload_n 2, 1, (0, 0), []),
  (.aload_n 0, 1, (0, 0), []),
  (.getfield 7, 3, (0, 0), [[0, 5112, 0, 1], [12]]),
  (.iconst 0, 1, (0, 0), []),
  (.iaload, 1, (0, 0), []),
  (.if_icmp .ge 20, 3, (0, 0), [[34]]),
  (.aload_n 0, 1, (0, 0), []),
  (.getfield 7, 3, (0, 0), [[0, 5112, 0, 1], [12]]),
  (.iload_n 2, 1, (0, 0), []),
  (.iconst 5, 1, (5, 0), []),
  (.invokestatic 66, 3, (0, 0), [[2, 163, 5235, 5236, 0]])]
def qX12_hush_26 : List mO := [(.iconst (-1), 1, ((-1), 0), []),
  (.iastore, 1, (0, 0), []),
  (.iinc 2 1, 3, (1, 0), []),
  (.goto (-24), 3, (0, 0), [[7]])]
def qX12_hush_34 : List mO := [(.iload_n 1, 1, (0, 0), []),
  (.ireturn, 1, (0, 0), [])]
def pX12_hush : List (Nat × List mO) := [(0, qX12_hush_0), (4, qX12_hush_4), (7, qX12_hush_7), (26, qX12_hush_26), (34, qX12_hush_34)]
def qX12_isAsk_0 : List mO := [(.aload_n 0, 1, (0, 0), []),
  (.iload_n 1, 1, (0, 0), []),
  (.invokevirtual 106, 3, (0, 0), [[1, 6002, 0], [12, 156, 41, 6004]])]
def qX12_isAsk_5 : List mO := [(.ifCond .eq 22, 3, (0, 0), [[27]]),
  (.iload_n 2, 1, (0, 0), []),
  (.invokestatic 137, 3, (0, 0), [[1, 158, 6059, 6060, 0]])]
def qX12_isAsk_12 : List mO := [(.ifCond .eq 15, 3, (0, 0), [[27]]),
  (.aload_n 0, 1, (0, 0), []),
  (.iload_n 3, 1, (0, 0), []),
  (.invokevirtual 106, 3, (0, 0), [[1, 6002, 0], [12, 156, 41, 6004]])]
def qX12_isAsk_20 : List mO := [(.ifCond .eq 7, 3, (0, 0), [[27]]),
  (.iconst 1, 1, (1, 0), []),
  (.goto 4, 3, (0, 0), [[28]])]
def qX12_isAsk_27 : List mO := [(.iconst 0, 1, (0, 0), [])]
def qX12_isAsk_28 : List mO := [(.ireturn, 1, (0, 0), [[1]])]
def pX12_isAsk : List (Nat × List mO) := [(0, qX12_isAsk_0), (5, qX12_isAsk_5), (12, qX12_isAsk_12), (20, qX12_isAsk_20), (27, qX12_isAsk_27), (28, qX12_isAsk_28)]
def qX12_comes_0 : List mO := [(.aload_n 0, 1, (0, 0), []),
  (.iload_n 1, 1, (0, 0), []),
  (.iload_n 2, 1, (0, 0), []),
  (.iload_n 3, 1, (0, 0), []),
  (.invokevirtual 149, 3, (0, 0), [[3, 6096, 0], [12, 187, 50, 6098]])]
def qX12_comes_7 : List mO := [(.ifCond .ne 5, 3, (0, 0), [[12]]),
  (.iconst (-1), 1, ((-1), 0), []),
  (.ireturn, 1, (0, 0), [])]
def qX12_comes_12 : List mO := [(.aload_n 0, 1, (0, 0), []),
  (.iload_n 1, 1, (0, 0), []),
  (.iload_n 2, 1, (0, 0), []),
  (.invokevirtual 152, 3, (0, 0), [[2, 6100, 0], [12, 180, 51, 6102]])]
def qX12_comes_18 : List mO := [(.aload_n 0, 1, (0, 0), []),
  (.getfield 22, 3, (0, 0), [[7, 5119, 0, 1], [12]]),
  (.iload_n 3, 1, (0, 0), []),
  (.iaload, 1, (0, 0), []),
  (.ifCond .ge 8, 3, (0, 0), [[32]]),
  (.bipush (-3), 2, ((-3), 0), []),
  (.goto 9, 3, (0, 0), [[38]])]
def qX12_comes_32 : List mO := [(.aload_n 0, 1, (0, 0), []),
  (.getfield 22, 3, (0, 0), [[7, 5119, 0, 1], [12]]),
  (.iload_n 3, 1, (0, 0), []),
  (.iaload, 1, (0, 0), [])]
def qX12_comes_38 : List mO := [(.ireturn, 1, (0, 0), [])]
def pX12_comes : List (Nat × List mO) := [(0, qX12_comes_0), (7, qX12_comes_7), (12, qX12_comes_12), (18, qX12_comes_18), (32, qX12_comes_32), (38, qX12_comes_38)]
def qX12_holds_0 : List mO := [(.aload_n 0, 1, (0, 0), []),
  (.iload_n 1, 1, (0, 0), []),
  (.iload_n 2, 1, (0, 0), []),
  (.iload_n 3, 1, (0, 0), []),
  (.invokevirtual 149, 3, (0, 0), [[3, 6096, 0], [12, 187, 50, 6098]])]
def qX12_holds_7 : List mO := [(.ifCond .ne 5, 3, (0, 0), [[12]]),
  (.iconst (-1), 1, ((-1), 0), []),
  (.ireturn, 1, (0, 0), [])]
def qX12_holds_12 : List mO := [(.aload_n 0, 1, (0, 0), []),
  (.iload_n 1, 1, (0, 0), []),
  (.iload_n 2, 1, (0, 0), []),
  (.invokevirtual 152, 3, (0, 0), [[2, 6100, 0], [12, 180, 51, 6102]])]
def qX12_holds_18 : List mO := [(.aload_n 0, 1, (0, 0), []),
  (.getfield 22, 3, (0, 0), [[7, 5119, 0, 1], [12]]),
  (.iload_n 3, 1, (0, 0), []),
  (.iaload, 1, (0, 0), []),
  (.ifCond .ge 8, 3, (0, 0), [[32]]),
  (.bipush (-3), 2, ((-3), 0), []),
  (.goto 9, 3, (0, 0), [[38]])]
def qX12_holds_32 : List mO := [(.aload_n 0, 1, (0, 0), []),
  (.getfield 25, 3, (0, 0), [[8, 5120, 0, 1], [12]]),
  (.iload_n 3, 1, (0, 0), []),
  (.iaload, 1, (0, 0), [])]
def qX12_holds_38 : List mO := [(.ireturn, 1, (0, 0), [])]
def pX12_holds : List (Nat × List mO) := [(0, qX12_holds_0), (7, qX12_holds_7), (12, qX12_holds_12), (18, qX12_holds_18), (32, qX12_holds_32), (38, qX12_holds_38)]
def qX12_off_0 : List mO := [(.aload_n 0, 1, (0, 0), []),
  (.iload_n 1, 1, (0, 0), []),
  (.iload_n 2, 1, (0, 0), []),
  (.iload_n 3, 1, (0, 0), []),
  (.invokevirtual 149, 3, (0, 0), [[3, 6096, 0], [12, 187, 50, 6098]])]
def qX12_off_7 : List mO := [(.ifCond .ne 5, 3, (0, 0), [[12]]),
  (.iconst (-1), 1, ((-1), 0), []),
  (.ireturn, 1, (0, 0), [])]
def qX12_off_12 : List mO := [(.aload_n 0, 1, (0, 0), []),
  (.iload_n 1, 1, (0, 0), []),
  (.iload_n 2, 1, (0, 0), []),
  (.invokevirtual 152, 3, (0, 0), [[2, 6100, 0], [12, 180, 51, 6102]])]
def qX12_off_18 : List mO := [(.aload_n 0, 1, (0, 0), []),
  (.getfield 22, 3, (0, 0), [[7, 5119, 0, 1], [12]]),
  (.iload_n 3, 1, (0, 0), []),
  (.iaload, 1, (0, 0), []),
  (.ifCond .ge 8, 3, (0, 0), [[32]]),
  (.bipush (-3), 2, ((-3), 0), []),
  (.goto 12, 3, (0, 0), [[41]])]
def qX12_off_32 : List mO := [(.aload_n 0, 1, (0, 0), []),
  (.iload_n 3, 1, (0, 0), []),
  (.invokevirtual 156, 3, (0, 0), [[1, 6112, 0], [12, 182, 52, 6114]])]
def qX12_off_37 : List mO := [(.sipush 10000, 3, (10000, 0), []),
  (.iadd, 1, (0, 0), [])]
def qX12_off_41 : List mO := [(.ireturn, 1, (0, 0), [])]
def pX12_off : List (Nat × List mO) := [(0, qX12_off_0), (7, qX12_off_7), (12, qX12_off_12), (18, qX12_off_18), (32, qX12_off_32), (37, qX12_off_37), (41, qX12_off_41)]
def qX12_worst_0 : List mO := [(.aload_n 0, 1, (0, 0), []),
  (.iload_n 1, 1, (0, 0), []),
  (.invokevirtual 106, 3, (0, 0), [[1, 6002, 0], [12, 156, 41, 6004]])]
def qX12_worst_5 : List mO := [(.ifCond .eq 10, 3, (0, 0), [[15]]),
  (.iload_n 2, 1, (0, 0), []),
  (.invokestatic 137, 3, (0, 0), [[1, 158, 6059, 6060, 0]])]
def qX12_worst_12 : List mO := [(.ifCond .ne 5, 3, (0, 0), [[17]])]
def qX12_worst_15 : List mO := [(.iconst (-1), 1, ((-1), 0), []),
  (.ireturn, 1, (0, 0), [])]
def qX12_worst_17 : List mO := [(.aload_n 0, 1, (0, 0), []),
  (.iload_n 1, 1, (0, 0), []),
  (.iload_n 2, 1, (0, 0), []),
  (.invokevirtual 152, 3, (0, 0), [[2, 6100, 0], [12, 180, 51, 6102]])]
def qX12_worst_23 : List mO := [(.iconst (-1), 1, ((-1), 0), []),
  (.istore_n 3, 1, (0, 0), []),
  (.iconst (-1), 1, ((-1), 0), []),
  (.istore 4, 2, (0, 0), []),
  (.iconst 0, 1, (0, 0), []),
  (.istore 5, 2, (0, 0), [])]
def qX12_worst_31 : List mO := [(.iload 5, 2, (0, 0), []),
  (.aload_n 0, 1, (0, 0), []),
  (.getfield 7, 3, (0, 0), [[0, 5112, 0, 1], [12]]),
  (.iconst 0, 1, (0, 0), []),
  (.iaload, 1, (0, 0), []),
  (.if_icmp .ge 64, 3, (0, 0), [[103]]),
  (.aload_n 0, 1, (0, 0), []),
  (.getfield 22, 3, (0, 0), [[7, 5119, 0, 1], [12]]),
  (.iload 5, 2, (0, 0), []),
  (.iaload, 1, (0, 0), []),
  (.ifCond .ge 7, 3, (0, 0), [[56]]),
  (.iconst (-1), 1, ((-1), 0), []),
  (.goto 12, 3, (0, 0), [[65]])]
def qX12_worst_56 : List mO := [(.aload_n 0, 1, (0, 0), []),
  (.iload 5, 2, (0, 0), []),
  (.invokevirtual 156, 3, (0, 0), [[1, 6112, 0], [12, 182, 52, 6114]])]
def qX12_worst_62 : List mO := [(.invokestatic 160, 3, (0, 0), [[1, 160, 6120, 6121, 0]])]
def qX12_worst_65 : List mO := [(.istore 6, 2, (0, 0), []),
  (.iload 6, 2, (0, 0), []),
  (.iload 4, 2, (0, 0), []),
  (.if_icmp .le 8, 3, (0, 0), [[79]]),
  (.iload 5, 2, (0, 0), []),
  (.goto 4, 3, (0, 0), [[80]])]
def qX12_worst_79 : List mO := [(.iload_n 3, 1, (0, 0), [])]
def qX12_worst_80 : List mO := [(.istore_n 3, 1, (0, 0), []),
  (.iload 6, 2, (0, 0), []),
  (.iload 4, 2, (0, 0), []),
  (.if_icmp .le 8, 3, (0, 0), [[93]]),
  (.iload 6, 2, (0, 0), []),
  (.goto 5, 3, (0, 0), [[95]])]
def qX12_worst_93 : List mO := [(.iload 4, 2, (0, 0), [])]
def qX12_worst_95 : List mO := [(.istore 4, 2, (0, 0), []),
  (.iinc 5 1, 3, (1, 0), []),
  (.goto (-69), 3, (0, 0), [[31]])]
def qX12_worst_103 : List mO := [(.iload_n 3, 1, (0, 0), []),
  (.ireturn, 1, (0, 0), [])]
def pX12_worst : List (Nat × List mO) := [(0, qX12_worst_0), (5, qX12_worst_5), (12, qX12_worst_12), (15, qX12_worst_15), (17, qX12_worst_17), (23, qX12_worst_23), (31, qX12_worst_31), (56, qX12_worst_56), (62, qX12_worst_62), (65, qX12_worst_65), (79, qX12_worst_79), (80, qX12_worst_80), (93, qX12_worst_93), (95, qX12_worst_95), (103, qX12_worst_103)]
def qX12_within_0 : List mO := [(.aload_n 0, 1, (0, 0), []),
  (.iload_n 1, 1, (0, 0), []),
  (.invokevirtual 106, 3, (0, 0), [[1, 6002, 0], [12, 156, 41, 6004]])]
def qX12_within_5 : List mO := [(.ifCond .eq 22, 3, (0, 0), [[27]]),
  (.iload_n 2, 1, (0, 0), []),
  (.invokestatic 137, 3, (0, 0), [[1, 158, 6059, 6060, 0]])]
def qX12_within_12 : List mO := [(.ifCond .eq 15, 3, (0, 0), [[27]]),
  (.iload_n 3, 1, (0, 0), []),
  (.i2l, 1, (0, 0), []),
  (.lconst 0, 1, (0, 0), []),
  (.ldc2_w 163, 3, (0, 999), [[6127]]),
  (.invokestatic 58, 3, (0, 0), [[3, 155, 5226, 5227, 0]])]
def qX12_within_24 : List mO := [(.ifCond .ne 5, 3, (0, 0), [[29]])]
def qX12_within_27 : List mO := [(.iconst (-1), 1, ((-1), 0), []),
  (.ireturn, 1, (0, 0), [])]
def qX12_within_29 : List mO := [(.aload_n 0, 1, (0, 0), []),
  (.iload_n 1, 1, (0, 0), []),
  (.iload_n 2, 1, (0, 0), []),
  (.invokevirtual 152, 3, (0, 0), [[2, 6100, 0], [12, 180, 51, 6102]])]
def qX12_within_35 : List mO := [(.iconst 0, 1, (0, 0), []),
  (.istore 4, 2, (0, 0), []),
  (.iconst 0, 1, (0, 0), []),
  (.istore 5, 2, (0, 0), [])]
def qX12_within_41 : List mO := [(.iload 5, 2, (0, 0), []),
  (.aload_n 0, 1, (0, 0), []),
  (.getfield 7, 3, (0, 0), [[0, 5112, 0, 1], [12]]),
  (.iconst 0, 1, (0, 0), []),
  (.iaload, 1, (0, 0), []),
  (.if_icmp .ge 42, 3, (0, 0), [[91]]),
  (.iload 4, 2, (0, 0), []),
  (.aload_n 0, 1, (0, 0), []),
  (.getfield 22, 3, (0, 0), [[7, 5119, 0, 1], [12]]),
  (.iload 5, 2, (0, 0), []),
  (.iaload, 1, (0, 0), []),
  (.ifCond .lt 20, 3, (0, 0), [[81]]),
  (.aload_n 0, 1, (0, 0), []),
  (.iload 5, 2, (0, 0), []),
  (.invokevirtual 156, 3, (0, 0), [[1, 6112, 0], [12, 182, 52, 6114]])]
def qX12_within_70 : List mO := [(.invokestatic 160, 3, (0, 0), [[1, 160, 6120, 6121, 0]])]
def qX12_within_73 : List mO := [(.iload_n 3, 1, (0, 0), []),
  (.if_icmp .gt 7, 3, (0, 0), [[81]]),
  (.iconst 1, 1, (1, 0), []),
  (.goto 4, 3, (0, 0), [[82]])]
def qX12_within_81 : List mO := [(.iconst 0, 1, (0, 0), [])]
def qX12_within_82 : List mO := [(.iadd, 1, (0, 0), []),
  (.istore 4, 2, (0, 0), []),
  (.iinc 5 1, 3, (1, 0), []),
  (.goto (-47), 3, (0, 0), [[41]])]
def qX12_within_91 : List mO := [(.iload 4, 2, (0, 0), []),
  (.ireturn, 1, (0, 0), [])]
def pX12_within : List (Nat × List mO) := [(0, qX12_within_0), (5, qX12_within_5), (12, qX12_within_12), (24, qX12_within_24), (27, qX12_within_27), (29, qX12_within_29), (35, qX12_within_35), (41, qX12_within_41), (70, qX12_within_70), (73, qX12_within_73), (81, qX12_within_81), (82, qX12_within_82), (91, qX12_within_91)]
def qX12_farthest_0 : List mO := [(.aload_n 0, 1, (0, 0), []),
  (.getfield 7, 3, (0, 0), [[0, 5112, 0, 1], [12]]),
  (.iconst 2, 1, (2, 0), []),
  (.iaload, 1, (0, 0), []),
  (.istore 4, 2, (0, 0), []),
  (.iconst (-1), 1, ((-1), 0), []),
  (.istore 5, 2, (0, 0), []),
  (.iconst 0, 1, (0, 0), []),
  (.istore 6, 2, (0, 0), [])]
def qX12_farthest_14 : List mO := [(.iload 6, 2, (0, 0), []),
  (.bipush 7, 2, (7, 0), []),
  (.if_icmp .ge 62, 3, (0, 0), [[80]]),
  (.aload_n 0, 1, (0, 0), []),
  (.getfield 7, 3, (0, 0), [[0, 5112, 0, 1], [12]]),
  (.iconst 2, 1, (2, 0), []),
  (.iload 6, 2, (0, 0), []),
  (.iastore, 1, (0, 0), []),
  (.aload_n 0, 1, (0, 0), []),
  (.iload_n 2, 1, (0, 0), []),
  (.iload_n 3, 1, (0, 0), []),
  (.invokevirtual 152, 3, (0, 0), [[2, 6100, 0], [12, 180, 51, 6102]])]
def qX12_farthest_35 : List mO := [(.aload_n 0, 1, (0, 0), []),
  (.getfield 22, 3, (0, 0), [[7, 5119, 0, 1], [12]]),
  (.iload_n 1, 1, (0, 0), []),
  (.iaload, 1, (0, 0), []),
  (.ifCond .ge 7, 3, (0, 0), [[48]]),
  (.iconst (-1), 1, ((-1), 0), []),
  (.goto 11, 3, (0, 0), [[56]])]
def qX12_farthest_48 : List mO := [(.aload_n 0, 1, (0, 0), []),
  (.iload_n 1, 1, (0, 0), []),
  (.invokevirtual 156, 3, (0, 0), [[1, 6112, 0], [12, 182, 52, 6114]])]
def qX12_farthest_53 : List mO := [(.invokestatic 160, 3, (0, 0), [[1, 160, 6120, 6121, 0]])]
def qX12_farthest_56 : List mO := [(.istore 7, 2, (0, 0), []),
  (.iload 7, 2, (0, 0), []),
  (.iload 5, 2, (0, 0), []),
  (.if_icmp .le 8, 3, (0, 0), [[70]]),
  (.iload 7, 2, (0, 0), []),
  (.goto 5, 3, (0, 0), [[72]])]
def qX12_farthest_70 : List mO := [(.iload 5, 2, (0, 0), [])]
def qX12_farthest_72 : List mO := [(.istore 5, 2, (0, 0), []),
  (.iinc 6 1, 3, (1, 0), []),
  (.goto (-63), 3, (0, 0), [[14]])]
def qX12_farthest_80 : List mO := [(.aload_n 0, 1, (0, 0), []),
  (.getfield 7, 3, (0, 0), [[0, 5112, 0, 1], [12]]),
  (.iconst 2, 1, (2, 0), []),
  (.iload 4, 2, (0, 0), []),
  (.iastore, 1, (0, 0), []),
  (.iload 5, 2, (0, 0), []),
  (.ireturn, 1, (0, 0), [])]
def pX12_farthest : List (Nat × List mO) := [(0, qX12_farthest_0), (14, qX12_farthest_14), (35, qX12_farthest_35), (48, qX12_farthest_48), (53, qX12_farthest_53), (56, qX12_farthest_56), (70, qX12_farthest_70), (72, qX12_farthest_72), (80, qX12_farthest_80)]
def qX12_bestAdd_0 : List mO := [(.aload_n 0, 1, (0, 0), []),
  (.iload_n 2, 1, (0, 0), []),
  (.iload_n 3, 1, (0, 0), []),
  (.iload_n 1, 1, (0, 0), []),
  (.invokevirtual 149, 3, (0, 0), [[3, 6096, 0], [12, 187, 50, 6098]])]
def qX12_bestAdd_7 : List mO := [(.ifCond .eq 8, 3, (0, 0), [[15]]),
  (.iload_n 1, 1, (0, 0), []),
  (.iload_n 2, 1, (0, 0), []),
  (.if_icmp .ne 5, 3, (0, 0), [[17]])]
def qX12_bestAdd_15 : List mO := [(.iconst (-1), 1, ((-1), 0), []),
  (.ireturn, 1, (0, 0), [])]
def qX12_bestAdd_17 : List mO := [(.aload_n 0, 1, (0, 0), []),
  (.iload_n 1, 1, (0, 0), []),
  (.iconst 1, 1, (1, 0), []),
  (.invokevirtual 82, 3, (0, 0), [[2, 6011, 0], [12, 164, 43, 6013]])]
def qX12_bestAdd_23 : List mO := [(.istore 4, 2, (0, 0), []),
  (.iconst (-1), 1, ((-1), 0), []),
  (.istore 5, 2, (0, 0), []),
  (.iconst 0, 1, (0, 0), []),
  (.istore 6, 2, (0, 0), []),
  (.iconst 0, 1, (0, 0), []),
  (.istore 7, 2, (0, 0), [])]
def qX12_bestAdd_34 : List mO := [(.iload 7, 2, (0, 0), []),
  (.bipush 100, 2, (100, 0), []),
  (.if_icmp .ge 55, 3, (0, 0), [[93]]),
  (.aload_n 0, 1, (0, 0), []),
  (.getfield 7, 3, (0, 0), [[0, 5112, 0, 1], [12]]),
  (.iload_n 1, 1, (0, 0), []),
  (.iconst 1, 1, (1, 0), []),
  (.invokestatic 66, 3, (0, 0), [[2, 163, 5235, 5236, 0]])]
def qX12_bestAdd_50 : List mO := [(.iload 7, 2, (0, 0), []),
  (.iastore, 1, (0, 0), []),
  (.aload_n 0, 1, (0, 0), []),
  (.iload_n 1, 1, (0, 0), []),
  (.iload_n 2, 1, (0, 0), []),
  (.iload_n 3, 1, (0, 0), []),
  (.invokevirtual 165, 3, (0, 0), [[3, 6132, 0], [12, 193, 53, 6134]])]
def qX12_bestAdd_60 : List mO := [(.istore 8, 2, (0, 0), []),
  (.iload 8, 2, (0, 0), []),
  (.ifCond .lt 23, 3, (0, 0), [[87]]),
  (.iload 5, 2, (0, 0), []),
  (.ifCond .lt 10, 3, (0, 0), [[79]]),
  (.iload 8, 2, (0, 0), []),
  (.iload 6, 2, (0, 0), []),
  (.if_icmp .ge 11, 3, (0, 0), [[87]])]
def qX12_bestAdd_79 : List mO := [(.iload 7, 2, (0, 0), []),
  (.istore 5, 2, (0, 0), []),
  (.iload 8, 2, (0, 0), []),
  (.istore 6, 2, (0, 0), [])]
def qX12_bestAdd_87 : List mO := [(.iinc 7 1, 3, (1, 0), []),
  (.goto (-56), 3, (0, 0), [[34]])]
def qX12_bestAdd_93 : List mO := [(.aload_n 0, 1, (0, 0), []),
  (.getfield 7, 3, (0, 0), [[0, 5112, 0, 1], [12]]),
  (.iload_n 1, 1, (0, 0), []),
  (.iconst 1, 1, (1, 0), []),
  (.invokestatic 66, 3, (0, 0), [[2, 163, 5235, 5236, 0]])]
def qX12_bestAdd_102 : List mO := [(.iload 4, 2, (0, 0), []),
  (.iastore, 1, (0, 0), []),
  (.iload 5, 2, (0, 0), []),
  (.ifCond .ge 8, 3, (0, 0), [[115]]),
  (.bipush (-3), 2, ((-3), 0), []),
  (.goto 5, 3, (0, 0), [[117]])]
def qX12_bestAdd_115 : List mO := [(.iload 5, 2, (0, 0), [])]
def qX12_bestAdd_117 : List mO := [(.ireturn, 1, (0, 0), [])]
def pX12_bestAdd : List (Nat × List mO) := [(0, qX12_bestAdd_0), (7, qX12_bestAdd_7), (15, qX12_bestAdd_15), (17, qX12_bestAdd_17), (23, qX12_bestAdd_23), (34, qX12_bestAdd_34), (50, qX12_bestAdd_50), (60, qX12_bestAdd_60), (79, qX12_bestAdd_79), (87, qX12_bestAdd_87), (93, qX12_bestAdd_93), (102, qX12_bestAdd_102), (115, qX12_bestAdd_115), (117, qX12_bestAdd_117)]
def qX12_clocked_0 : List mO := [(.aload_n 0, 1, (0, 0), []),
  (.invokevirtual 130, 3, (0, 0), [[0, 6063, 0], [12, 178, 46, 6065]])]
def qX12_clocked_4 : List mO := [(.iconst 0, 1, (0, 0), []),
  (.istore_n 3, 1, (0, 0), [])]
def qX12_clocked_6 : List mO := [(.iload_n 3, 1, (0, 0), []),
  (.aload_n 0, 1, (0, 0), []),
  (.getfield 7, 3, (0, 0), [[0, 5112, 0, 1], [12]]),
  (.iconst 0, 1, (0, 0), []),
  (.iaload, 1, (0, 0), []),
  (.if_icmp .ge 26, 3, (0, 0), [[39]]),
  (.iload_n 1, 1, (0, 0), []),
  (.iload_n 3, 1, (0, 0), []),
  (.invokestatic 123, 3, (0, 0), [[2, 159, 6071, 6072, 0]])]
def qX12_clocked_21 : List mO := [(.ifCond .eq 12, 3, (0, 0), [[33]]),
  (.aload_n 0, 1, (0, 0), []),
  (.iload_n 3, 1, (0, 0), []),
  (.iload_n 2, 1, (0, 0), []),
  (.iconst 1, 1, (1, 0), []),
  (.iload_n 1, 1, (0, 0), []),
  (.iconst (-1), 1, ((-1), 0), []),
  (.invokevirtual 133, 3, (0, 0), [[5, 6067, 0], [12, 179, 47, 6069]])]
def qX12_clocked_33 : List mO := [(.iinc 3 1, 3, (1, 0), []),
  (.goto (-30), 3, (0, 0), [[6]])]
def qX12_clocked_39 : List mO := [(.iconst 0, 1, (0, 0), []),
  (.istore_n 3, 1, (0, 0), []),
  (.iconst 0, 1, (0, 0), []),
  (.istore 4, 2, (0, 0), [])]
def qX12_clocked_44 : List mO := [(.iload 4, 2, (0, 0), []),
  (.aload_n 0, 1, (0, 0), []),
  (.getfield 7, 3, (0, 0), [[0, 5112, 0, 1], [12]]),
  (.iconst 0, 1, (0, 0), []),
  (.iaload, 1, (0, 0), []),
  (.if_icmp .ge 60, 3, (0, 0), [[112]]),
  (.aload_n 0, 1, (0, 0), []),
  (.getfield 22, 3, (0, 0), [[7, 5119, 0, 1], [12]]),
  (.iload 4, 2, (0, 0), []),
  (.iaload, 1, (0, 0), []),
  (.ifCond .ge 7, 3, (0, 0), [[69]]),
  (.iconst (-1), 1, ((-1), 0), []),
  (.goto 12, 3, (0, 0), [[78]])]
def qX12_clocked_69 : List mO := [(.aload_n 0, 1, (0, 0), []),
  (.iload 4, 2, (0, 0), []),
  (.invokevirtual 156, 3, (0, 0), [[1, 6112, 0], [12, 182, 52, 6114]])]
def qX12_clocked_75 : List mO := [(.invokestatic 160, 3, (0, 0), [[1, 160, 6120, 6121, 0]])]
def qX12_clocked_78 : List mO := [(.istore 5, 2, (0, 0), []),
  (.iload 5, 2, (0, 0), []),
  (.ifCond .lt 7, 3, (0, 0), [[89]]),
  (.iload_n 3, 1, (0, 0), []),
  (.ifCond .ge 7, 3, (0, 0), [[93]])]
def qX12_clocked_89 : List mO := [(.iconst (-1), 1, ((-1), 0), []),
  (.goto 15, 3, (0, 0), [[105]])]
def qX12_clocked_93 : List mO := [(.iload 5, 2, (0, 0), []),
  (.iload_n 3, 1, (0, 0), []),
  (.if_icmp .le 8, 3, (0, 0), [[104]]),
  (.iload 5, 2, (0, 0), []),
  (.goto 4, 3, (0, 0), [[105]])]
def qX12_clocked_104 : List mO := [(.iload_n 3, 1, (0, 0), [])]
def qX12_clocked_105 : List mO := [(.istore_n 3, 1, (0, 0), []),
  (.iinc 4 1, 3, (1, 0), []),
  (.goto (-65), 3, (0, 0), [[44]])]
def qX12_clocked_112 : List mO := [(.iload_n 3, 1, (0, 0), []),
  (.ireturn, 1, (0, 0), [])]
def pX12_clocked : List (Nat × List mO) := [(0, qX12_clocked_0), (4, qX12_clocked_4), (6, qX12_clocked_6), (21, qX12_clocked_21), (33, qX12_clocked_33), (39, qX12_clocked_39), (44, qX12_clocked_44), (69, qX12_clocked_69), (75, qX12_clocked_75), (78, qX12_clocked_78), (89, qX12_clocked_89), (93, qX12_clocked_93), (104, qX12_clocked_104), (105, qX12_clocked_105), (112, qX12_clocked_112)]
def qX12_clocks_0 : List mO := [(.iload_n 1, 1, (0, 0), []),
  (.i2l, 1, (0, 0), []),
  (.lconst 0, 1, (0, 0), []),
  (.iconst 1, 1, (1, 0), []),
  (.aload_n 0, 1, (0, 0), []),
  (.getfield 7, 3, (0, 0), [[0, 5112, 0, 1], [12]]),
  (.iconst 0, 1, (0, 0), []),
  (.iaload, 1, (0, 0), []),
  (.ishl, 1, (0, 0), []),
  (.iconst 1, 1, (1, 0), []),
  (.isub, 1, (0, 0), []),
  (.i2l, 1, (0, 0), []),
  (.invokestatic 58, 3, (0, 0), [[3, 155, 5226, 5227, 0]])]
def qX12_clocks_17 : List mO := [(.ifCond .eq 10, 3, (0, 0), [[27]]),
  (.iload_n 2, 1, (0, 0), []),
  (.invokestatic 137, 3, (0, 0), [[1, 158, 6059, 6060, 0]])]
def qX12_clocks_24 : List mO := [(.ifCond .ne 5, 3, (0, 0), [[29]])]
def qX12_clocks_27 : List mO := [(.iconst (-1), 1, ((-1), 0), []),
  (.ireturn, 1, (0, 0), [])]
def qX12_clocks_29 : List mO := [(.aload_n 0, 1, (0, 0), []),
  (.iload_n 1, 1, (0, 0), []),
  (.iload_n 2, 1, (0, 0), []),
  (.invokevirtual 169, 3, (0, 0), [[2, 6140, 0], [12, 195, 54, 6142]])]
def qX12_clocks_35 : List mO := [(.istore_n 3, 1, (0, 0), []),
  (.iload_n 3, 1, (0, 0), []),
  (.ifCond .ge 8, 3, (0, 0), [[45]]),
  (.bipush (-3), 2, ((-3), 0), []),
  (.goto 4, 3, (0, 0), [[46]])]
def qX12_clocks_45 : List mO := [(.iload_n 3, 1, (0, 0), [])]
def qX12_clocks_46 : List mO := [(.ireturn, 1, (0, 0), [])]
def pX12_clocks : List (Nat × List mO) := [(0, qX12_clocks_0), (17, qX12_clocks_17), (24, qX12_clocks_24), (27, qX12_clocks_27), (29, qX12_clocks_29), (35, qX12_clocks_35), (45, qX12_clocks_45), (46, qX12_clocks_46)]
def qX12_ones_0 : List mO := [(.iconst 0, 1, (0, 0), []),
  (.istore_n 1, 1, (0, 0), []),
  (.iload_n 0, 1, (0, 0), []),
  (.istore_n 2, 1, (0, 0), [])]
def qX12_ones_4 : List mO := [(.iload_n 2, 1, (0, 0), []),
  (.ifCond .eq 15, 3, (0, 0), [[20]]),
  (.iinc 1 1, 3, (1, 0), []),
  (.iload_n 2, 1, (0, 0), []),
  (.iload_n 2, 1, (0, 0), []),
  (.iconst 1, 1, (1, 0), []),
  (.isub, 1, (0, 0), []),
  (.iand, 1, (0, 0), []),
  (.istore_n 2, 1, (0, 0), []),
  (.goto (-13), 3, (0, 0), [[4]])]
def qX12_ones_20 : List mO := [(.iload_n 1, 1, (0, 0), []),
  (.ireturn, 1, (0, 0), [])]
def pX12_ones : List (Nat × List mO) := [(0, qX12_ones_0), (4, qX12_ones_4), (20, qX12_ones_20)]
def qX12_fewest_0 : List mO := [(.iload_n 1, 1, (0, 0), []),
  (.i2l, 1, (0, 0), []),
  (.lconst 0, 1, (0, 0), []),
  (.ldc2_w 163, 3, (0, 999), [[6127]]),
  (.invokestatic 58, 3, (0, 0), [[3, 155, 5226, 5227, 0]])]
def qX12_fewest_9 : List mO := [(.ifCond .eq 10, 3, (0, 0), [[19]]),
  (.iload_n 2, 1, (0, 0), []),
  (.invokestatic 137, 3, (0, 0), [[1, 158, 6059, 6060, 0]])]
def qX12_fewest_16 : List mO := [(.ifCond .ne 5, 3, (0, 0), [[21]])]
def qX12_fewest_19 : List mO := [(.iconst (-1), 1, ((-1), 0), []),
  (.ireturn, 1, (0, 0), [])]
def qX12_fewest_21 : List mO := [(.iconst (-1), 1, ((-1), 0), []),
  (.istore_n 3, 1, (0, 0), []),
  (.iconst 1, 1, (1, 0), []),
  (.istore 4, 2, (0, 0), [])]
def qX12_fewest_26 : List mO := [(.iload 4, 2, (0, 0), []),
  (.iconst 1, 1, (1, 0), []),
  (.aload_n 0, 1, (0, 0), []),
  (.getfield 7, 3, (0, 0), [[0, 5112, 0, 1], [12]]),
  (.iconst 0, 1, (0, 0), []),
  (.iaload, 1, (0, 0), []),
  (.ishl, 1, (0, 0), []),
  (.if_icmp .ge 52, 3, (0, 0), [[88]]),
  (.iload_n 3, 1, (0, 0), []),
  (.ifCond .lt 15, 3, (0, 0), [[55]]),
  (.iload 4, 2, (0, 0), []),
  (.invokestatic 172, 3, (0, 0), [[1, 197, 6148, 6149, 0]])]
def qX12_fewest_48 : List mO := [(.iload_n 3, 1, (0, 0), []),
  (.invokestatic 172, 3, (0, 0), [[1, 197, 6148, 6149, 0]])]
def qX12_fewest_52 : List mO := [(.if_icmp .ge 30, 3, (0, 0), [[82]])]
def qX12_fewest_55 : List mO := [(.aload_n 0, 1, (0, 0), []),
  (.iload 4, 2, (0, 0), []),
  (.iload_n 2, 1, (0, 0), []),
  (.invokevirtual 169, 3, (0, 0), [[2, 6140, 0], [12, 195, 54, 6142]])]
def qX12_fewest_62 : List mO := [(.istore 5, 2, (0, 0), []),
  (.iload 5, 2, (0, 0), []),
  (.ifCond .lt 14, 3, (0, 0), [[80]]),
  (.iload 5, 2, (0, 0), []),
  (.iload_n 1, 1, (0, 0), []),
  (.if_icmp .gt 8, 3, (0, 0), [[80]]),
  (.iload 4, 2, (0, 0), []),
  (.goto 4, 3, (0, 0), [[81]])]
def qX12_fewest_80 : List mO := [(.iload_n 3, 1, (0, 0), [])]
def qX12_fewest_81 : List mO := [(.istore_n 3, 1, (0, 0), [])]
def qX12_fewest_82 : List mO := [(.iinc 4 1, 3, (1, 0), []),
  (.goto (-59), 3, (0, 0), [[26]])]
def qX12_fewest_88 : List mO := [(.iload_n 3, 1, (0, 0), []),
  (.ifCond .ge 8, 3, (0, 0), [[97]]),
  (.bipush (-3), 2, ((-3), 0), []),
  (.goto 4, 3, (0, 0), [[98]])]
def qX12_fewest_97 : List mO := [(.iload_n 3, 1, (0, 0), [])]
def qX12_fewest_98 : List mO := [(.ireturn, 1, (0, 0), [])]
def pX12_fewest : List (Nat × List mO) := [(0, qX12_fewest_0), (9, qX12_fewest_9), (16, qX12_fewest_16), (19, qX12_fewest_19), (21, qX12_fewest_21), (26, qX12_fewest_26), (48, qX12_fewest_48), (52, qX12_fewest_52), (55, qX12_fewest_55), (62, qX12_fewest_62), (80, qX12_fewest_80), (81, qX12_fewest_81), (82, qX12_fewest_82), (88, qX12_fewest_88), (97, qX12_fewest_97), (98, qX12_fewest_98)]
def qX12_crossed_0 : List mO := [(.iload_n 1, 1, (0, 0), []),
  (.invokestatic 137, 3, (0, 0), [[1, 158, 6059, 6060, 0]])]
def qX12_crossed_4 : List mO := [(.ifCond .eq 10, 3, (0, 0), [[14]]),
  (.iload_n 2, 1, (0, 0), []),
  (.invokestatic 137, 3, (0, 0), [[1, 158, 6059, 6060, 0]])]
def qX12_crossed_11 : List mO := [(.ifCond .ne 5, 3, (0, 0), [[16]])]
def qX12_crossed_14 : List mO := [(.iconst (-1), 1, ((-1), 0), []),
  (.ireturn, 1, (0, 0), [])]
def qX12_crossed_16 : List mO := [(.aload_n 0, 1, (0, 0), []),
  (.getfield 7, 3, (0, 0), [[0, 5112, 0, 1], [12]]),
  (.iconst 0, 1, (0, 0), []),
  (.iaload, 1, (0, 0), []),
  (.istore_n 3, 1, (0, 0), []),
  (.aload_n 0, 1, (0, 0), []),
  (.invokevirtual 130, 3, (0, 0), [[0, 6063, 0], [12, 178, 46, 6065]])]
def qX12_crossed_27 : List mO := [(.iload_n 3, 1, (0, 0), []),
  (.ifCond .le 12, 3, (0, 0), [[40]]),
  (.aload_n 0, 1, (0, 0), []),
  (.iconst 0, 1, (0, 0), []),
  (.iload_n 1, 1, (0, 0), []),
  (.iconst 1, 1, (1, 0), []),
  (.iconst 0, 1, (0, 0), []),
  (.iconst (-1), 1, ((-1), 0), []),
  (.invokevirtual 133, 3, (0, 0), [[5, 6067, 0], [12, 179, 47, 6069]])]
def qX12_crossed_40 : List mO := [(.iconst 0, 1, (0, 0), []),
  (.istore 4, 2, (0, 0), [])]
def qX12_crossed_43 : List mO := [(.iload 4, 2, (0, 0), []),
  (.bipush 9, 2, (9, 0), []),
  (.if_icmp .ge 23, 3, (0, 0), [[70]]),
  (.aload_n 0, 1, (0, 0), []),
  (.getfield 28, 3, (0, 0), [[9, 5121, 0, 1], [12]]),
  (.iload 4, 2, (0, 0), []),
  (.aload_n 0, 1, (0, 0), []),
  (.getfield 22, 3, (0, 0), [[7, 5119, 0, 1], [12]]),
  (.iload 4, 2, (0, 0), []),
  (.iaload, 1, (0, 0), []),
  (.iastore, 1, (0, 0), []),
  (.iinc 4 1, 3, (1, 0), []),
  (.goto (-24), 3, (0, 0), [[43]])]
def qX12_crossed_70 : List mO := [(.aload_n 0, 1, (0, 0), []),
  (.invokevirtual 130, 3, (0, 0), [[0, 6063, 0], [12, 178, 46, 6065]])]
def qX12_crossed_74 : List mO := [(.iload_n 3, 1, (0, 0), []),
  (.ifCond .le 14, 3, (0, 0), [[89]]),
  (.aload_n 0, 1, (0, 0), []),
  (.iload_n 3, 1, (0, 0), []),
  (.iconst 1, 1, (1, 0), []),
  (.isub, 1, (0, 0), []),
  (.iload_n 2, 1, (0, 0), []),
  (.iconst 0, 1, (0, 0), []),
  (.iconst 0, 1, (0, 0), []),
  (.iconst (-1), 1, ((-1), 0), []),
  (.invokevirtual 133, 3, (0, 0), [[5, 6067, 0], [12, 179, 47, 6069]])]
def qX12_crossed_89 : List mO := [(.iconst (-1), 1, ((-1), 0), []),
  (.istore 4, 2, (0, 0), []),
  (.iconst 0, 1, (0, 0), []),
  (.istore 5, 2, (0, 0), [])]
def qX12_crossed_95 : List mO := [(.iload 5, 2, (0, 0), []),
  (.iload_n 3, 1, (0, 0), []),
  (.if_icmp .ge 59, 3, (0, 0), [[157]]),
  (.iload 4, 2, (0, 0), []),
  (.ifCond .ge 54, 3, (0, 0), [[157]]),
  (.aload_n 0, 1, (0, 0), []),
  (.getfield 22, 3, (0, 0), [[7, 5119, 0, 1], [12]]),
  (.iload 5, 2, (0, 0), []),
  (.iaload, 1, (0, 0), []),
  (.ifCond .lt 35, 3, (0, 0), [[148]]),
  (.aload_n 0, 1, (0, 0), []),
  (.getfield 28, 3, (0, 0), [[9, 5121, 0, 1], [12]]),
  (.iload 5, 2, (0, 0), []),
  (.iaload, 1, (0, 0), []),
  (.ifCond .lt 25, 3, (0, 0), [[148]]),
  (.aload_n 0, 1, (0, 0), []),
  (.getfield 22, 3, (0, 0), [[7, 5119, 0, 1], [12]]),
  (.iload 5, 2, (0, 0), []),
  (.iaload, 1, (0, 0), []),
  (.aload_n 0, 1, (0, 0), []),
  (.getfield 28, 3, (0, 0), [[9, 5121, 0, 1], [12]]),
  (.iload 5, 2, (0, 0), []),
  (.iaload, 1, (0, 0), []),
  (.if_icmp .gt 8, 3, (0, 0), [[148]]),
  (.iload 5, 2, (0, 0), []),
  (.goto 4, 3, (0, 0), [[149]])]
def qX12_crossed_148 : List mO := [(.iconst (-1), 1, ((-1), 0), [])]
def qX12_crossed_149 : List mO := [(.istore 4, 2, (0, 0), []),
  (.iinc 5 1, 3, (1, 0), []),
  (.goto (-59), 3, (0, 0), [[95]])]
def qX12_crossed_157 : List mO := [(.iload 4, 2, (0, 0), []),
  (.ifCond .ge 8, 3, (0, 0), [[167]]),
  (.bipush (-3), 2, ((-3), 0), []),
  (.goto 5, 3, (0, 0), [[169]])]
def qX12_crossed_167 : List mO := [(.iload 4, 2, (0, 0), [])]
def qX12_crossed_169 : List mO := [(.ireturn, 1, (0, 0), [])]
def pX12_crossed : List (Nat × List mO) := [(0, qX12_crossed_0), (4, qX12_crossed_4), (11, qX12_crossed_11), (14, qX12_crossed_14), (16, qX12_crossed_16), (27, qX12_crossed_27), (40, qX12_crossed_40), (43, qX12_crossed_43), (70, qX12_crossed_70), (74, qX12_crossed_74), (89, qX12_crossed_89), (95, qX12_crossed_95), (148, qX12_crossed_148), (149, qX12_crossed_149), (157, qX12_crossed_157), (167, qX12_crossed_167), (169, qX12_crossed_169)]
def qX12_fromFirst_0 : List mO := [(.aload_n 0, 1, (0, 0), []),
  (.invokevirtual 130, 3, (0, 0), [[0, 6063, 0], [12, 178, 46, 6065]])]
def qX12_fromFirst_4 : List mO := [(.aload_n 0, 1, (0, 0), []),
  (.iconst 0, 1, (0, 0), []),
  (.iload_n 1, 1, (0, 0), []),
  (.iconst 1, 1, (1, 0), []),
  (.iconst 0, 1, (0, 0), []),
  (.iload_n 2, 1, (0, 0), []),
  (.invokevirtual 133, 3, (0, 0), [[5, 6067, 0], [12, 179, 47, 6069]])]
def qX12_fromFirst_13 : List mO := [(.return_, 1, (0, 0), [])]
def pX12_fromFirst : List (Nat × List mO) := [(0, qX12_fromFirst_0), (4, qX12_fromFirst_4), (13, qX12_fromFirst_13)]
def qX12_noonOf_0 : List mO := [(.aload_n 0, 1, (0, 0), []),
  (.getfield 22, 3, (0, 0), [[7, 5119, 0, 1], [12]]),
  (.iload_n 1, 1, (0, 0), []),
  (.iaload, 1, (0, 0), []),
  (.sipush 720, 3, (720, 0), []),
  (.iadd, 1, (0, 0), []),
  (.aload_n 0, 1, (0, 0), []),
  (.getfield 25, 3, (0, 0), [[8, 5120, 0, 1], [12]]),
  (.iload_n 1, 1, (0, 0), []),
  (.iaload, 1, (0, 0), []),
  (.isub, 1, (0, 0), []),
  (.ireturn, 1, (0, 0), [])]
def pX12_noonOf : List (Nat × List mO) := [(0, qX12_noonOf_0)]
def qX12_noon_0 : List mO := [(.aload_n 0, 1, (0, 0), []),
  (.iload_n 1, 1, (0, 0), []),
  (.invokevirtual 106, 3, (0, 0), [[1, 6002, 0], [12, 156, 41, 6004]])]
def qX12_noon_5 : List mO := [(.ifCond .eq 10, 3, (0, 0), [[15]]),
  (.iload_n 2, 1, (0, 0), []),
  (.invokestatic 137, 3, (0, 0), [[1, 158, 6059, 6060, 0]])]
def qX12_noon_12 : List mO := [(.ifCond .ne 5, 3, (0, 0), [[17]])]
def qX12_noon_15 : List mO := [(.iconst (-1), 1, ((-1), 0), []),
  (.ireturn, 1, (0, 0), [])]
def qX12_noon_17 : List mO := [(.aload_n 0, 1, (0, 0), []),
  (.iload_n 2, 1, (0, 0), []),
  (.iconst (-1), 1, ((-1), 0), []),
  (.invokevirtual 175, 3, (0, 0), [[2, 6159, 0], [12, 200, 55, 6161]])]
def qX12_noon_23 : List mO := [(.aload_n 0, 1, (0, 0), []),
  (.getfield 22, 3, (0, 0), [[7, 5119, 0, 1], [12]]),
  (.iload_n 1, 1, (0, 0), []),
  (.iaload, 1, (0, 0), []),
  (.ifCond .ge 8, 3, (0, 0), [[37]]),
  (.bipush (-3), 2, ((-3), 0), []),
  (.goto 12, 3, (0, 0), [[46]])]
def qX12_noon_37 : List mO := [(.aload_n 0, 1, (0, 0), []),
  (.iload_n 1, 1, (0, 0), []),
  (.invokevirtual 178, 3, (0, 0), [[1, 6163, 0], [12, 201, 56, 6165]])]
def qX12_noon_42 : List mO := [(.sipush 10000, 3, (10000, 0), []),
  (.iadd, 1, (0, 0), [])]
def qX12_noon_46 : List mO := [(.ireturn, 1, (0, 0), [])]
def pX12_noon : List (Nat × List mO) := [(0, qX12_noon_0), (5, qX12_noon_5), (12, qX12_noon_12), (15, qX12_noon_15), (17, qX12_noon_17), (23, qX12_noon_23), (37, qX12_noon_37), (42, qX12_noon_42), (46, qX12_noon_46)]
def qX12_firstNoon_0 : List mO := [(.iload_n 1, 1, (0, 0), []),
  (.invokestatic 137, 3, (0, 0), [[1, 158, 6059, 6060, 0]])]
def qX12_firstNoon_4 : List mO := [(.ifCond .ne 5, 3, (0, 0), [[9]]),
  (.iconst (-1), 1, ((-1), 0), []),
  (.ireturn, 1, (0, 0), [])]
def qX12_firstNoon_9 : List mO := [(.aload_n 0, 1, (0, 0), []),
  (.getfield 7, 3, (0, 0), [[0, 5112, 0, 1], [12]]),
  (.iconst 0, 1, (0, 0), []),
  (.iaload, 1, (0, 0), []),
  (.ifCond .ne 6, 3, (0, 0), [[21]]),
  (.bipush (-3), 2, ((-3), 0), []),
  (.ireturn, 1, (0, 0), [])]
def qX12_firstNoon_21 : List mO := [(.aload_n 0, 1, (0, 0), []),
  (.iload_n 1, 1, (0, 0), []),
  (.iconst (-1), 1, ((-1), 0), []),
  (.invokevirtual 175, 3, (0, 0), [[2, 6159, 0], [12, 200, 55, 6161]])]
def qX12_firstNoon_27 : List mO := [(.iconst 0, 1, (0, 0), []),
  (.istore_n 2, 1, (0, 0), []),
  (.iconst 1, 1, (1, 0), []),
  (.istore_n 3, 1, (0, 0), [])]
def qX12_firstNoon_31 : List mO := [(.iload_n 3, 1, (0, 0), []),
  (.aload_n 0, 1, (0, 0), []),
  (.getfield 7, 3, (0, 0), [[0, 5112, 0, 1], [12]]),
  (.iconst 0, 1, (0, 0), []),
  (.iaload, 1, (0, 0), []),
  (.if_icmp .ge 37, 3, (0, 0), [[75]]),
  (.aload_n 0, 1, (0, 0), []),
  (.getfield 22, 3, (0, 0), [[7, 5119, 0, 1], [12]]),
  (.iload_n 3, 1, (0, 0), []),
  (.iaload, 1, (0, 0), []),
  (.ifCond .lt 20, 3, (0, 0), [[67]]),
  (.aload_n 0, 1, (0, 0), []),
  (.iload_n 3, 1, (0, 0), []),
  (.invokevirtual 178, 3, (0, 0), [[1, 6163, 0], [12, 201, 56, 6165]])]
def qX12_firstNoon_55 : List mO := [(.aload_n 0, 1, (0, 0), []),
  (.iload_n 2, 1, (0, 0), []),
  (.invokevirtual 178, 3, (0, 0), [[1, 6163, 0], [12, 201, 56, 6165]])]
def qX12_firstNoon_60 : List mO := [(.if_icmp .ge 7, 3, (0, 0), [[67]]),
  (.iload_n 3, 1, (0, 0), []),
  (.goto 4, 3, (0, 0), [[68]])]
def qX12_firstNoon_67 : List mO := [(.iload_n 2, 1, (0, 0), [])]
def qX12_firstNoon_68 : List mO := [(.istore_n 2, 1, (0, 0), []),
  (.iinc 3 1, 3, (1, 0), []),
  (.goto (-41), 3, (0, 0), [[31]])]
def qX12_firstNoon_75 : List mO := [(.iload_n 2, 1, (0, 0), []),
  (.ireturn, 1, (0, 0), [])]
def pX12_firstNoon : List (Nat × List mO) := [(0, qX12_firstNoon_0), (4, qX12_firstNoon_4), (9, qX12_firstNoon_9), (21, qX12_firstNoon_21), (27, qX12_firstNoon_27), (31, qX12_firstNoon_31), (55, qX12_firstNoon_55), (60, qX12_firstNoon_60), (67, qX12_firstNoon_67), (68, qX12_firstNoon_68), (75, qX12_firstNoon_75)]
def qX12_waits_0 : List mO := [(.aload_n 0, 1, (0, 0), []),
  (.iload_n 1, 1, (0, 0), []),
  (.invokevirtual 106, 3, (0, 0), [[1, 6002, 0], [12, 156, 41, 6004]])]
def qX12_waits_5 : List mO := [(.ifCond .eq 23, 3, (0, 0), [[28]]),
  (.aload_n 0, 1, (0, 0), []),
  (.iload_n 2, 1, (0, 0), []),
  (.invokevirtual 106, 3, (0, 0), [[1, 6002, 0], [12, 156, 41, 6004]])]
def qX12_waits_13 : List mO := [(.ifCond .eq 15, 3, (0, 0), [[28]]),
  (.iload_n 1, 1, (0, 0), []),
  (.iload_n 2, 1, (0, 0), []),
  (.if_icmp .eq 10, 3, (0, 0), [[28]]),
  (.iload_n 3, 1, (0, 0), []),
  (.invokestatic 137, 3, (0, 0), [[1, 158, 6059, 6060, 0]])]
def qX12_waits_25 : List mO := [(.ifCond .ne 5, 3, (0, 0), [[30]])]
def qX12_waits_28 : List mO := [(.iconst (-1), 1, ((-1), 0), []),
  (.ireturn, 1, (0, 0), [])]
def qX12_waits_30 : List mO := [(.aload_n 0, 1, (0, 0), []),
  (.iload_n 3, 1, (0, 0), []),
  (.iconst (-1), 1, ((-1), 0), []),
  (.invokevirtual 175, 3, (0, 0), [[2, 6159, 0], [12, 200, 55, 6161]])]
def qX12_waits_36 : List mO := [(.aload_n 0, 1, (0, 0), []),
  (.getfield 22, 3, (0, 0), [[7, 5119, 0, 1], [12]]),
  (.iload_n 1, 1, (0, 0), []),
  (.iaload, 1, (0, 0), []),
  (.ifCond .lt 12, 3, (0, 0), [[54]]),
  (.aload_n 0, 1, (0, 0), []),
  (.getfield 22, 3, (0, 0), [[7, 5119, 0, 1], [12]]),
  (.iload_n 2, 1, (0, 0), []),
  (.iaload, 1, (0, 0), []),
  (.ifCond .ge 6, 3, (0, 0), [[57]])]
def qX12_waits_54 : List mO := [(.bipush (-3), 2, ((-3), 0), []),
  (.ireturn, 1, (0, 0), [])]
def qX12_waits_57 : List mO := [(.iconst 0, 1, (0, 0), []),
  (.istore 4, 2, (0, 0), []),
  (.iconst 1, 1, (1, 0), []),
  (.istore 5, 2, (0, 0), [])]
def qX12_waits_63 : List mO := [(.iload 5, 2, (0, 0), []),
  (.aload_n 0, 1, (0, 0), []),
  (.getfield 7, 3, (0, 0), [[0, 5112, 0, 1], [12]]),
  (.iconst 0, 1, (0, 0), []),
  (.iaload, 1, (0, 0), []),
  (.if_icmp .ge 74, 3, (0, 0), [[145]]),
  (.iload_n 1, 1, (0, 0), []),
  (.iload_n 2, 1, (0, 0), []),
  (.if_icmp .ge 23, 3, (0, 0), [[99]]),
  (.iload 5, 2, (0, 0), []),
  (.iload_n 1, 1, (0, 0), []),
  (.if_icmp .le 13, 3, (0, 0), [[95]]),
  (.iload 5, 2, (0, 0), []),
  (.iload_n 2, 1, (0, 0), []),
  (.if_icmp .gt 7, 3, (0, 0), [[95]]),
  (.iconst 1, 1, (1, 0), []),
  (.goto 24, 3, (0, 0), [[116]])]
def qX12_waits_95 : List mO := [(.iconst 0, 1, (0, 0), []),
  (.goto 20, 3, (0, 0), [[116]])]
def qX12_waits_99 : List mO := [(.iload 5, 2, (0, 0), []),
  (.iload_n 2, 1, (0, 0), []),
  (.if_icmp .le 13, 3, (0, 0), [[115]]),
  (.iload 5, 2, (0, 0), []),
  (.iload_n 1, 1, (0, 0), []),
  (.if_icmp .gt 7, 3, (0, 0), [[115]]),
  (.iconst 1, 1, (1, 0), []),
  (.goto 4, 3, (0, 0), [[116]])]
def qX12_waits_115 : List mO := [(.iconst 0, 1, (0, 0), [])]
def qX12_waits_116 : List mO := [(.istore 6, 2, (0, 0), []),
  (.iload 4, 2, (0, 0), []),
  (.iload 6, 2, (0, 0), []),
  (.ifCond .eq 13, 3, (0, 0), [[135]]),
  (.aload_n 0, 1, (0, 0), []),
  (.iload 5, 2, (0, 0), []),
  (.iconst 3, 1, (3, 0), []),
  (.invokevirtual 82, 3, (0, 0), [[2, 6011, 0], [12, 164, 43, 6013]])]
def qX12_waits_132 : List mO := [(.goto 4, 3, (0, 0), [[136]])]
def qX12_waits_135 : List mO := [(.iconst 0, 1, (0, 0), [])]
def qX12_waits_136 : List mO := [(.iadd, 1, (0, 0), []),
  (.istore 4, 2, (0, 0), []),
  (.iinc 5 1, 3, (1, 0), []),
  (.goto (-79), 3, (0, 0), [[63]])]
def qX12_waits_145 : List mO := [(.aload_n 0, 1, (0, 0), []),
  (.iload_n 2, 1, (0, 0), []),
  (.invokevirtual 178, 3, (0, 0), [[1, 6163, 0], [12, 201, 56, 6165]])]
def qX12_waits_150 : List mO := [(.aload_n 0, 1, (0, 0), []),
  (.iload_n 1, 1, (0, 0), []),
  (.invokevirtual 178, 3, (0, 0), [[1, 6163, 0], [12, 201, 56, 6165]])]
def qX12_waits_155 : List mO := [(.isub, 1, (0, 0), []),
  (.bipush 20, 2, (20, 0), []),
  (.iload 4, 2, (0, 0), []),
  (.imul, 1, (0, 0), []),
  (.isub, 1, (0, 0), []),
  (.sipush 10000, 3, (10000, 0), []),
  (.iadd, 1, (0, 0), []),
  (.ireturn, 1, (0, 0), [])]
def pX12_waits : List (Nat × List mO) := [(0, qX12_waits_0), (5, qX12_waits_5), (13, qX12_waits_13), (25, qX12_waits_25), (28, qX12_waits_28), (30, qX12_waits_30), (36, qX12_waits_36), (54, qX12_waits_54), (57, qX12_waits_57), (63, qX12_waits_63), (95, qX12_waits_95), (99, qX12_waits_99), (115, qX12_waits_115), (116, qX12_waits_116), (132, qX12_waits_132), (135, qX12_waits_135), (136, qX12_waits_136), (145, qX12_waits_145), (150, qX12_waits_150), (155, qX12_waits_155)]
def qX12_offs_0 : List mO := [(.iconst 0, 1, (0, 0), []),
  (.istore_n 1, 1, (0, 0), []),
  (.iconst 0, 1, (0, 0), []),
  (.istore_n 2, 1, (0, 0), [])]
def qX12_offs_4 : List mO := [(.iload_n 2, 1, (0, 0), []),
  (.aload_n 0, 1, (0, 0), []),
  (.getfield 7, 3, (0, 0), [[0, 5112, 0, 1], [12]]),
  (.iconst 0, 1, (0, 0), []),
  (.iaload, 1, (0, 0), []),
  (.if_icmp .ge 33, 3, (0, 0), [[44]]),
  (.iload_n 1, 1, (0, 0), []),
  (.aload_n 0, 1, (0, 0), []),
  (.getfield 22, 3, (0, 0), [[7, 5119, 0, 1], [12]]),
  (.iload_n 2, 1, (0, 0), []),
  (.iaload, 1, (0, 0), []),
  (.ifCond .ge 7, 3, (0, 0), [[28]]),
  (.iconst 0, 1, (0, 0), []),
  (.goto 11, 3, (0, 0), [[36]])]
def qX12_offs_28 : List mO := [(.aload_n 0, 1, (0, 0), []),
  (.iload_n 2, 1, (0, 0), []),
  (.invokevirtual 156, 3, (0, 0), [[1, 6112, 0], [12, 182, 52, 6114]])]
def qX12_offs_33 : List mO := [(.invokestatic 160, 3, (0, 0), [[1, 160, 6120, 6121, 0]])]
def qX12_offs_36 : List mO := [(.iadd, 1, (0, 0), []),
  (.istore_n 1, 1, (0, 0), []),
  (.iinc 2 1, 3, (1, 0), []),
  (.goto (-37), 3, (0, 0), [[4]])]
def qX12_offs_44 : List mO := [(.iload_n 1, 1, (0, 0), []),
  (.ireturn, 1, (0, 0), [])]
def pX12_offs : List (Nat × List mO) := [(0, qX12_offs_0), (4, qX12_offs_4), (28, qX12_offs_28), (33, qX12_offs_33), (36, qX12_offs_36), (44, qX12_offs_44)]
def qX12_mender_0 : List mO := [(.aload_n 0, 1, (0, 0), []),
  (.iload_n 1, 1, (0, 0), []),
  (.invokevirtual 106, 3, (0, 0), [[1, 6002, 0], [12, 156, 41, 6004]])]
def qX12_mender_5 : List mO := [(.ifCond .eq 10, 3, (0, 0), [[15]]),
  (.iload_n 2, 1, (0, 0), []),
  (.invokestatic 137, 3, (0, 0), [[1, 158, 6059, 6060, 0]])]
def qX12_mender_12 : List mO := [(.ifCond .ne 5, 3, (0, 0), [[17]])]
def qX12_mender_15 : List mO := [(.iconst (-1), 1, ((-1), 0), []),
  (.ireturn, 1, (0, 0), [])]
def qX12_mender_17 : List mO := [(.aload_n 0, 1, (0, 0), []),
  (.iload_n 1, 1, (0, 0), []),
  (.iload_n 2, 1, (0, 0), []),
  (.invokevirtual 152, 3, (0, 0), [[2, 6100, 0], [12, 180, 51, 6102]])]
def qX12_mender_23 : List mO := [(.aload_n 0, 1, (0, 0), []),
  (.invokevirtual 140, 3, (0, 0), [[0, 6075, 0], [12, 181, 48, 6077]])]
def qX12_mender_27 : List mO := [(.istore_n 3, 1, (0, 0), []),
  (.aload_n 0, 1, (0, 0), []),
  (.invokevirtual 181, 3, (0, 0), [[0, 6179, 0], [12, 205, 57, 6181]])]
def qX12_mender_32 : List mO := [(.istore 4, 2, (0, 0), []),
  (.iconst (-1), 1, ((-1), 0), []),
  (.istore 5, 2, (0, 0), []),
  (.iconst 0, 1, (0, 0), []),
  (.istore 6, 2, (0, 0), [])]
def qX12_mender_40 : List mO := [(.iload 6, 2, (0, 0), []),
  (.aload_n 0, 1, (0, 0), []),
  (.getfield 7, 3, (0, 0), [[0, 5112, 0, 1], [12]]),
  (.iconst 0, 1, (0, 0), []),
  (.iaload, 1, (0, 0), []),
  (.if_icmp .ge 76, 3, (0, 0), [[124]]),
  (.aload_n 0, 1, (0, 0), []),
  (.iload 6, 2, (0, 0), []),
  (.iconst 0, 1, (0, 0), []),
  (.invokevirtual 82, 3, (0, 0), [[2, 6011, 0], [12, 164, 43, 6013]])]
def qX12_mender_58 : List mO := [(.istore 7, 2, (0, 0), []),
  (.aload_n 0, 1, (0, 0), []),
  (.getfield 7, 3, (0, 0), [[0, 5112, 0, 1], [12]]),
  (.iload 6, 2, (0, 0), []),
  (.iconst 0, 1, (0, 0), []),
  (.invokestatic 66, 3, (0, 0), [[2, 163, 5235, 5236, 0]])]
def qX12_mender_70 : List mO := [(.iconst 4, 1, (4, 0), []),
  (.iastore, 1, (0, 0), []),
  (.aload_n 0, 1, (0, 0), []),
  (.iload_n 1, 1, (0, 0), []),
  (.iload_n 2, 1, (0, 0), []),
  (.invokevirtual 152, 3, (0, 0), [[2, 6100, 0], [12, 180, 51, 6102]])]
def qX12_mender_78 : List mO := [(.aload_n 0, 1, (0, 0), []),
  (.getfield 7, 3, (0, 0), [[0, 5112, 0, 1], [12]]),
  (.iload 6, 2, (0, 0), []),
  (.iconst 0, 1, (0, 0), []),
  (.invokestatic 66, 3, (0, 0), [[2, 163, 5235, 5236, 0]])]
def qX12_mender_88 : List mO := [(.iload 7, 2, (0, 0), []),
  (.iastore, 1, (0, 0), []),
  (.aload_n 0, 1, (0, 0), []),
  (.invokevirtual 140, 3, (0, 0), [[0, 6075, 0], [12, 181, 48, 6077]])]
def qX12_mender_95 : List mO := [(.iload_n 3, 1, (0, 0), []),
  (.if_icmp .lt 22, 3, (0, 0), [[118]]),
  (.aload_n 0, 1, (0, 0), []),
  (.invokevirtual 181, 3, (0, 0), [[0, 6179, 0], [12, 205, 57, 6181]])]
def qX12_mender_103 : List mO := [(.iload 4, 2, (0, 0), []),
  (.if_icmp .ge 13, 3, (0, 0), [[118]]),
  (.iload 6, 2, (0, 0), []),
  (.istore 5, 2, (0, 0), []),
  (.aload_n 0, 1, (0, 0), []),
  (.invokevirtual 181, 3, (0, 0), [[0, 6179, 0], [12, 205, 57, 6181]])]
def qX12_mender_116 : List mO := [(.istore 4, 2, (0, 0), [])]
def qX12_mender_118 : List mO := [(.iinc 6 1, 3, (1, 0), []),
  (.goto (-81), 3, (0, 0), [[40]])]
def qX12_mender_124 : List mO := [(.iload 5, 2, (0, 0), []),
  (.ifCond .ge 8, 3, (0, 0), [[134]]),
  (.bipush (-3), 2, ((-3), 0), []),
  (.goto 5, 3, (0, 0), [[136]])]
def qX12_mender_134 : List mO := [(.iload 5, 2, (0, 0), [])]
def qX12_mender_136 : List mO := [(.ireturn, 1, (0, 0), [])]
def pX12_mender : List (Nat × List mO) := [(0, qX12_mender_0), (5, qX12_mender_5), (12, qX12_mender_12), (15, qX12_mender_15), (17, qX12_mender_17), (23, qX12_mender_23), (27, qX12_mender_27), (32, qX12_mender_32), (40, qX12_mender_40), (58, qX12_mender_58), (70, qX12_mender_70), (78, qX12_mender_78), (88, qX12_mender_88), (95, qX12_mender_95), (103, qX12_mender_103), (116, qX12_mender_116), (118, qX12_mender_118), (124, qX12_mender_124), (134, qX12_mender_134), (136, qX12_mender_136)]
def qX12_bestDay_0 : List mO := [(.aload_n 0, 1, (0, 0), []),
  (.iload_n 2, 1, (0, 0), []),
  (.iload_n 3, 1, (0, 0), []),
  (.iload_n 1, 1, (0, 0), []),
  (.invokevirtual 149, 3, (0, 0), [[3, 6096, 0], [12, 187, 50, 6098]])]
def qX12_bestDay_7 : List mO := [(.ifCond .ne 5, 3, (0, 0), [[12]]),
  (.iconst (-1), 1, ((-1), 0), []),
  (.ireturn, 1, (0, 0), [])]
def qX12_bestDay_12 : List mO := [(.aload_n 0, 1, (0, 0), []),
  (.getfield 7, 3, (0, 0), [[0, 5112, 0, 1], [12]]),
  (.iconst 2, 1, (2, 0), []),
  (.iaload, 1, (0, 0), []),
  (.istore 4, 2, (0, 0), []),
  (.iconst (-1), 1, ((-1), 0), []),
  (.istore 5, 2, (0, 0), []),
  (.iconst 0, 1, (0, 0), []),
  (.istore 6, 2, (0, 0), []),
  (.iconst 0, 1, (0, 0), []),
  (.istore 7, 2, (0, 0), [])]
def qX12_bestDay_29 : List mO := [(.iload 7, 2, (0, 0), []),
  (.bipush 7, 2, (7, 0), []),
  (.if_icmp .ge 64, 3, (0, 0), [[97]]),
  (.aload_n 0, 1, (0, 0), []),
  (.getfield 7, 3, (0, 0), [[0, 5112, 0, 1], [12]]),
  (.iconst 2, 1, (2, 0), []),
  (.iload 7, 2, (0, 0), []),
  (.iastore, 1, (0, 0), []),
  (.aload_n 0, 1, (0, 0), []),
  (.iload_n 2, 1, (0, 0), []),
  (.iload_n 3, 1, (0, 0), []),
  (.invokevirtual 152, 3, (0, 0), [[2, 6100, 0], [12, 180, 51, 6102]])]
def qX12_bestDay_50 : List mO := [(.aload_n 0, 1, (0, 0), []),
  (.getfield 22, 3, (0, 0), [[7, 5119, 0, 1], [12]]),
  (.iload_n 1, 1, (0, 0), []),
  (.iaload, 1, (0, 0), []),
  (.ifCond .lt 35, 3, (0, 0), [[91]]),
  (.iload 5, 2, (0, 0), []),
  (.ifCond .lt 16, 3, (0, 0), [[77]]),
  (.aload_n 0, 1, (0, 0), []),
  (.iload_n 1, 1, (0, 0), []),
  (.invokevirtual 156, 3, (0, 0), [[1, 6112, 0], [12, 182, 52, 6114]])]
def qX12_bestDay_69 : List mO := [(.invokestatic 160, 3, (0, 0), [[1, 160, 6120, 6121, 0]])]
def qX12_bestDay_72 : List mO := [(.iload 6, 2, (0, 0), []),
  (.if_icmp .ge 17, 3, (0, 0), [[91]])]
def qX12_bestDay_77 : List mO := [(.iload 7, 2, (0, 0), []),
  (.istore 5, 2, (0, 0), []),
  (.aload_n 0, 1, (0, 0), []),
  (.iload_n 1, 1, (0, 0), []),
  (.invokevirtual 156, 3, (0, 0), [[1, 6112, 0], [12, 182, 52, 6114]])]
def qX12_bestDay_86 : List mO := [(.invokestatic 160, 3, (0, 0), [[1, 160, 6120, 6121, 0]])]
def qX12_bestDay_89 : List mO := [(.istore 6, 2, (0, 0), [])]
def qX12_bestDay_91 : List mO := [(.iinc 7 1, 3, (1, 0), []),
  (.goto (-65), 3, (0, 0), [[29]])]
def qX12_bestDay_97 : List mO := [(.aload_n 0, 1, (0, 0), []),
  (.getfield 7, 3, (0, 0), [[0, 5112, 0, 1], [12]]),
  (.iconst 2, 1, (2, 0), []),
  (.iload 4, 2, (0, 0), []),
  (.iastore, 1, (0, 0), []),
  (.iload 5, 2, (0, 0), []),
  (.ifCond .ge 8, 3, (0, 0), [[115]]),
  (.bipush (-3), 2, ((-3), 0), []),
  (.goto 5, 3, (0, 0), [[117]])]
def qX12_bestDay_115 : List mO := [(.iload 5, 2, (0, 0), [])]
def qX12_bestDay_117 : List mO := [(.ireturn, 1, (0, 0), [])]
def pX12_bestDay : List (Nat × List mO) := [(0, qX12_bestDay_0), (7, qX12_bestDay_7), (12, qX12_bestDay_12), (29, qX12_bestDay_29), (50, qX12_bestDay_50), (69, qX12_bestDay_69), (72, qX12_bestDay_72), (77, qX12_bestDay_77), (86, qX12_bestDay_86), (89, qX12_bestDay_89), (91, qX12_bestDay_91), (97, qX12_bestDay_97), (115, qX12_bestDay_115), (117, qX12_bestDay_117)]
def qX12_latest_0 : List mO := [(.aload_n 0, 1, (0, 0), []),
  (.iload_n 1, 1, (0, 0), []),
  (.invokevirtual 106, 3, (0, 0), [[1, 6002, 0], [12, 156, 41, 6004]])]
def qX12_latest_5 : List mO := [(.ifCond .eq 23, 3, (0, 0), [[28]]),
  (.aload_n 0, 1, (0, 0), []),
  (.iload_n 2, 1, (0, 0), []),
  (.invokevirtual 106, 3, (0, 0), [[1, 6002, 0], [12, 156, 41, 6004]])]
def qX12_latest_13 : List mO := [(.ifCond .eq 15, 3, (0, 0), [[28]]),
  (.iload_n 3, 1, (0, 0), []),
  (.i2l, 1, (0, 0), []),
  (.lconst 0, 1, (0, 0), []),
  (.ldc2_w 144, 3, (0, 9999), [[6083]]),
  (.invokestatic 58, 3, (0, 0), [[3, 155, 5226, 5227, 0]])]
def qX12_latest_25 : List mO := [(.ifCond .ne 5, 3, (0, 0), [[30]])]
def qX12_latest_28 : List mO := [(.iconst (-1), 1, ((-1), 0), []),
  (.ireturn, 1, (0, 0), [])]
def qX12_latest_30 : List mO := [(.sipush 1439, 3, (1439, 0), []),
  (.istore 4, 2, (0, 0), [])]
def qX12_latest_35 : List mO := [(.iload 4, 2, (0, 0), []),
  (.ifCond .lt 38, 3, (0, 0), [[75]]),
  (.aload_n 0, 1, (0, 0), []),
  (.iload_n 1, 1, (0, 0), []),
  (.iload 4, 2, (0, 0), []),
  (.invokevirtual 152, 3, (0, 0), [[2, 6100, 0], [12, 180, 51, 6102]])]
def qX12_latest_47 : List mO := [(.aload_n 0, 1, (0, 0), []),
  (.getfield 22, 3, (0, 0), [[7, 5119, 0, 1], [12]]),
  (.iload_n 2, 1, (0, 0), []),
  (.iaload, 1, (0, 0), []),
  (.ifCond .lt 16, 3, (0, 0), [[69]]),
  (.aload_n 0, 1, (0, 0), []),
  (.getfield 22, 3, (0, 0), [[7, 5119, 0, 1], [12]]),
  (.iload_n 2, 1, (0, 0), []),
  (.iaload, 1, (0, 0), []),
  (.iload_n 3, 1, (0, 0), []),
  (.if_icmp .gt 6, 3, (0, 0), [[69]]),
  (.iload 4, 2, (0, 0), []),
  (.ireturn, 1, (0, 0), [])]
def qX12_latest_69 : List mO := [(.iinc 4 (-1), 3, ((-1), 0), []),
  (.goto (-37), 3, (0, 0), [[35]])]
def qX12_latest_75 : List mO := [(.bipush (-3), 2, ((-3), 0), []),
  (.ireturn, 1, (0, 0), [])]
def pX12_latest : List (Nat × List mO) := [(0, qX12_latest_0), (5, qX12_latest_5), (13, qX12_latest_13), (25, qX12_latest_25), (28, qX12_latest_28), (30, qX12_latest_30), (35, qX12_latest_35), (47, qX12_latest_47), (69, qX12_latest_69), (75, qX12_latest_75)]
def qX12_seed_0 : List mO := [(.aload_n 0, 1, (0, 0), []),
  (.getfield 7, 3, (0, 0), [[0, 5112, 0, 1], [12]]),
  (.iconst 3, 1, (3, 0), []),
  (.iaload, 1, (0, 0), []),
  (.istore_n 2, 1, (0, 0), []),
  (.aload_n 0, 1, (0, 0), []),
  (.getfield 7, 3, (0, 0), [[0, 5112, 0, 1], [12]]),
  (.iconst 3, 1, (3, 0), []),
  (.iload_n 1, 1, (0, 0), []),
  (.iastore, 1, (0, 0), []),
  (.iload_n 2, 1, (0, 0), []),
  (.ireturn, 1, (0, 0), [])]
def pX12_seed : List (Nat × List mO) := [(0, qX12_seed_0)]
def qX12_draws_0 : List mO := [(.aload_n 0, 1, (0, 0), []),
  (.getfield 7, 3, (0, 0), [[0, 5112, 0, 1], [12]]),
  (.iconst 3, 1, (3, 0), []),
  (.aload_n 0, 1, (0, 0), []),
  (.getfield 7, 3, (0, 0), [[0, 5112, 0, 1], [12]]),
  (.iconst 3, 1, (3, 0), []),
  (.iaload, 1, (0, 0), []),
  (.ldc 184, 2, (1103515245, 0), [[0, 6203]]),
  (.imul, 1, (0, 0), []),
  (.sipush 12345, 3, (12345, 0), []),
  (.iadd, 1, (0, 0), []),
  (.iastore, 1, (0, 0), []),
  (.aload_n 0, 1, (0, 0), []),
  (.getfield 7, 3, (0, 0), [[0, 5112, 0, 1], [12]]),
  (.iconst 5, 1, (5, 0), []),
  (.iload_n 1, 1, (0, 0), []),
  (.iadd, 1, (0, 0), []),
  (.aload_n 0, 1, (0, 0), []),
  (.getfield 7, 3, (0, 0), [[0, 5112, 0, 1], [12]]),
  (.iconst 3, 1, (3, 0), []),
  (.iaload, 1, (0, 0), []),
  (.bipush 16, 2, (16, 0), []),
  (.iushr, 1, (0, 0), []),
  (.bipush 7, 2, (7, 0), []),
  (.irem, 1, (0, 0), []),
  (.iconst 3, 1, (3, 0), []),
  (.isub, 1, (0, 0), []),
  (.iastore, 1, (0, 0), []),
  (.return_, 1, (0, 0), [])]
def pX12_draws : List (Nat × List mO) := [(0, qX12_draws_0)]
def qX12_draw_0 : List mO := [(.iload_n 1, 1, (0, 0), []),
  (.invokestatic 116, 3, (0, 0), [[1, 157, 6041, 6042, 0]])]
def qX12_draw_4 : List mO := [(.ifCond .ne 5, 3, (0, 0), [[9]]),
  (.iconst (-1), 1, ((-1), 0), []),
  (.ireturn, 1, (0, 0), [])]
def qX12_draw_9 : List mO := [(.aload_n 0, 1, (0, 0), []),
  (.iload_n 1, 1, (0, 0), []),
  (.invokevirtual 185, 3, (0, 0), [[1, 6199, 0], [12, 210, 58, 6201]])]
def qX12_draw_14 : List mO := [(.aload_n 0, 1, (0, 0), []),
  (.getfield 7, 3, (0, 0), [[0, 5112, 0, 1], [12]]),
  (.iconst 5, 1, (5, 0), []),
  (.iload_n 1, 1, (0, 0), []),
  (.iadd, 1, (0, 0), []),
  (.iaload, 1, (0, 0), []),
  (.bipush 100, 2, (100, 0), []),
  (.iadd, 1, (0, 0), []),
  (.ireturn, 1, (0, 0), [])]
def pX12_draw : List (Nat × List mO) := [(0, qX12_draw_0), (4, qX12_draw_4), (9, qX12_draw_9), (14, qX12_draw_14)]
def qX12_often_0 : List mO := [(.aload_n 0, 1, (0, 0), []),
  (.iload_n 1, 1, (0, 0), []),
  (.invokevirtual 106, 3, (0, 0), [[1, 6002, 0], [12, 156, 41, 6004]])]
def qX12_often_5 : List mO := [(.ifCond .eq 35, 3, (0, 0), [[40]]),
  (.iload_n 2, 1, (0, 0), []),
  (.i2l, 1, (0, 0), []),
  (.lconst 0, 1, (0, 0), []),
  (.ldc2_w 163, 3, (0, 999), [[6127]]),
  (.invokestatic 58, 3, (0, 0), [[3, 155, 5226, 5227, 0]])]
def qX12_often_17 : List mO := [(.ifCond .eq 23, 3, (0, 0), [[40]]),
  (.iload_n 3, 1, (0, 0), []),
  (.invokestatic 137, 3, (0, 0), [[1, 158, 6059, 6060, 0]])]
def qX12_often_24 : List mO := [(.ifCond .eq 16, 3, (0, 0), [[40]]),
  (.iload 4, 2, (0, 0), []),
  (.i2l, 1, (0, 0), []),
  (.lconst 1, 1, (0, 1), []),
  (.ldc2_w 188, 3, (0, 60), [[6208]]),
  (.invokestatic 58, 3, (0, 0), [[3, 155, 5226, 5227, 0]])]
def qX12_often_37 : List mO := [(.ifCond .ne 5, 3, (0, 0), [[42]])]
def qX12_often_40 : List mO := [(.iconst (-1), 1, ((-1), 0), []),
  (.ireturn, 1, (0, 0), [])]
def qX12_often_42 : List mO := [(.aload_n 0, 1, (0, 0), []),
  (.getfield 7, 3, (0, 0), [[0, 5112, 0, 1], [12]]),
  (.iconst 3, 1, (3, 0), []),
  (.iaload, 1, (0, 0), []),
  (.istore 5, 2, (0, 0), []),
  (.aload_n 0, 1, (0, 0), []),
  (.getfield 7, 3, (0, 0), [[0, 5112, 0, 1], [12]]),
  (.iconst 5, 1, (5, 0), []),
  (.aload_n 0, 1, (0, 0), []),
  (.getfield 7, 3, (0, 0), [[0, 5112, 0, 1], [12]]),
  (.iconst 2, 1, (2, 0), []),
  (.iaload, 1, (0, 0), []),
  (.iadd, 1, (0, 0), []),
  (.iaload, 1, (0, 0), []),
  (.istore 6, 2, (0, 0), []),
  (.iconst 0, 1, (0, 0), []),
  (.istore 7, 2, (0, 0), []),
  (.iconst 0, 1, (0, 0), []),
  (.istore 8, 2, (0, 0), [])]
def qX12_often_71 : List mO := [(.iload 8, 2, (0, 0), []),
  (.iload 4, 2, (0, 0), []),
  (.if_icmp .ge 56, 3, (0, 0), [[131]]),
  (.aload_n 0, 1, (0, 0), []),
  (.aload_n 0, 1, (0, 0), []),
  (.getfield 7, 3, (0, 0), [[0, 5112, 0, 1], [12]]),
  (.iconst 2, 1, (2, 0), []),
  (.iaload, 1, (0, 0), []),
  (.invokevirtual 185, 3, (0, 0), [[1, 6199, 0], [12, 210, 58, 6201]])]
def qX12_often_88 : List mO := [(.aload_n 0, 1, (0, 0), []),
  (.iload_n 3, 1, (0, 0), []),
  (.iconst (-1), 1, ((-1), 0), []),
  (.invokevirtual 175, 3, (0, 0), [[2, 6159, 0], [12, 200, 55, 6161]])]
def qX12_often_94 : List mO := [(.iload 7, 2, (0, 0), []),
  (.aload_n 0, 1, (0, 0), []),
  (.getfield 22, 3, (0, 0), [[7, 5119, 0, 1], [12]]),
  (.iload_n 1, 1, (0, 0), []),
  (.iaload, 1, (0, 0), []),
  (.ifCond .lt 19, 3, (0, 0), [[121]]),
  (.aload_n 0, 1, (0, 0), []),
  (.iload_n 1, 1, (0, 0), []),
  (.invokevirtual 156, 3, (0, 0), [[1, 6112, 0], [12, 182, 52, 6114]])]
def qX12_often_110 : List mO := [(.invokestatic 160, 3, (0, 0), [[1, 160, 6120, 6121, 0]])]
def qX12_often_113 : List mO := [(.iload_n 2, 1, (0, 0), []),
  (.if_icmp .gt 7, 3, (0, 0), [[121]]),
  (.iconst 1, 1, (1, 0), []),
  (.goto 4, 3, (0, 0), [[122]])]
def qX12_often_121 : List mO := [(.iconst 0, 1, (0, 0), [])]
def qX12_often_122 : List mO := [(.iadd, 1, (0, 0), []),
  (.istore 7, 2, (0, 0), []),
  (.iinc 8 1, 3, (1, 0), []),
  (.goto (-57), 3, (0, 0), [[71]])]
def qX12_often_131 : List mO := [(.aload_n 0, 1, (0, 0), []),
  (.getfield 7, 3, (0, 0), [[0, 5112, 0, 1], [12]]),
  (.iconst 3, 1, (3, 0), []),
  (.iload 5, 2, (0, 0), []),
  (.iastore, 1, (0, 0), []),
  (.aload_n 0, 1, (0, 0), []),
  (.getfield 7, 3, (0, 0), [[0, 5112, 0, 1], [12]]),
  (.iconst 5, 1, (5, 0), []),
  (.aload_n 0, 1, (0, 0), []),
  (.getfield 7, 3, (0, 0), [[0, 5112, 0, 1], [12]]),
  (.iconst 2, 1, (2, 0), []),
  (.iaload, 1, (0, 0), []),
  (.iadd, 1, (0, 0), []),
  (.iload 6, 2, (0, 0), []),
  (.iastore, 1, (0, 0), []),
  (.iload 7, 2, (0, 0), []),
  (.ireturn, 1, (0, 0), [])]
def pX12_often : List (Nat × List mO) := [(0, qX12_often_0), (5, qX12_often_5), (17, qX12_often_17), (24, qX12_often_24), (37, qX12_often_37), (40, qX12_often_40), (42, qX12_often_42), (71, qX12_often_71), (88, qX12_often_88), (94, qX12_often_94), (110, qX12_often_110), (113, qX12_often_113), (121, qX12_often_121), (122, qX12_often_122), (131, qX12_often_131)]
def qX12_lost_0 : List mO := [(.aload_n 0, 1, (0, 0), []),
  (.iload_n 1, 1, (0, 0), []),
  (.invokevirtual 106, 3, (0, 0), [[1, 6002, 0], [12, 156, 41, 6004]])]
def qX12_lost_5 : List mO := [(.ifCond .eq 10, 3, (0, 0), [[15]]),
  (.iload_n 2, 1, (0, 0), []),
  (.invokestatic 137, 3, (0, 0), [[1, 158, 6059, 6060, 0]])]
def qX12_lost_12 : List mO := [(.ifCond .ne 5, 3, (0, 0), [[17]])]
def qX12_lost_15 : List mO := [(.iconst (-1), 1, ((-1), 0), []),
  (.ireturn, 1, (0, 0), [])]
def qX12_lost_17 : List mO := [(.aload_n 0, 1, (0, 0), []),
  (.iload_n 2, 1, (0, 0), []),
  (.iconst (-1), 1, ((-1), 0), []),
  (.invokevirtual 175, 3, (0, 0), [[2, 6159, 0], [12, 200, 55, 6161]])]
def qX12_lost_23 : List mO := [(.aload_n 0, 1, (0, 0), []),
  (.invokevirtual 140, 3, (0, 0), [[0, 6075, 0], [12, 181, 48, 6077]])]
def qX12_lost_27 : List mO := [(.istore_n 3, 1, (0, 0), []),
  (.aload_n 0, 1, (0, 0), []),
  (.iload_n 2, 1, (0, 0), []),
  (.iload_n 1, 1, (0, 0), []),
  (.invokevirtual 175, 3, (0, 0), [[2, 6159, 0], [12, 200, 55, 6161]])]
def qX12_lost_34 : List mO := [(.iload_n 3, 1, (0, 0), []),
  (.aload_n 0, 1, (0, 0), []),
  (.invokevirtual 140, 3, (0, 0), [[0, 6075, 0], [12, 181, 48, 6077]])]
def qX12_lost_39 : List mO := [(.isub, 1, (0, 0), []),
  (.ireturn, 1, (0, 0), [])]
def pX12_lost : List (Nat × List mO) := [(0, qX12_lost_0), (5, qX12_lost_5), (12, qX12_lost_12), (15, qX12_lost_15), (17, qX12_lost_17), (23, qX12_lost_23), (27, qX12_lost_27), (34, qX12_lost_34), (39, qX12_lost_39)]
def qX12_report_0 : List mO := [(.aload_n 0, 1, (0, 0), []),
  (.iload_n 1, 1, (0, 0), []),
  (.invokevirtual 106, 3, (0, 0), [[1, 6002, 0], [12, 156, 41, 6004]])]
def qX12_report_5 : List mO := [(.ifCond .eq 15, 3, (0, 0), [[20]]),
  (.iload_n 2, 1, (0, 0), []),
  (.i2l, 1, (0, 0), []),
  (.lconst 0, 1, (0, 0), []),
  (.ldc2_w 144, 3, (0, 9999), [[6083]]),
  (.invokestatic 58, 3, (0, 0), [[3, 155, 5226, 5227, 0]])]
def qX12_report_17 : List mO := [(.ifCond .ne 5, 3, (0, 0), [[22]])]
def qX12_report_20 : List mO := [(.iconst (-1), 1, ((-1), 0), []),
  (.ireturn, 1, (0, 0), [])]
def qX12_report_22 : List mO := [(.aload_n 0, 1, (0, 0), []),
  (.getfield 7, 3, (0, 0), [[0, 5112, 0, 1], [12]]),
  (.iconst 1, 1, (1, 0), []),
  (.iaload, 1, (0, 0), []),
  (.bipush 6, 2, (6, 0), []),
  (.if_icmp .ne 6, 3, (0, 0), [[36]]),
  (.bipush (-2), 2, ((-2), 0), []),
  (.ireturn, 1, (0, 0), [])]
def qX12_report_36 : List mO := [(.aload_n 0, 1, (0, 0), []),
  (.getfield 7, 3, (0, 0), [[0, 5112, 0, 1], [12]]),
  (.bipush 66, 2, (66, 0), []),
  (.iconst 2, 1, (2, 0), []),
  (.aload_n 0, 1, (0, 0), []),
  (.getfield 7, 3, (0, 0), [[0, 5112, 0, 1], [12]]),
  (.iconst 1, 1, (1, 0), []),
  (.iaload, 1, (0, 0), []),
  (.imul, 1, (0, 0), []),
  (.iadd, 1, (0, 0), []),
  (.iload_n 1, 1, (0, 0), []),
  (.iastore, 1, (0, 0), []),
  (.aload_n 0, 1, (0, 0), []),
  (.getfield 7, 3, (0, 0), [[0, 5112, 0, 1], [12]]),
  (.bipush 66, 2, (66, 0), []),
  (.iconst 2, 1, (2, 0), []),
  (.aload_n 0, 1, (0, 0), []),
  (.getfield 7, 3, (0, 0), [[0, 5112, 0, 1], [12]]),
  (.iconst 1, 1, (1, 0), []),
  (.iaload, 1, (0, 0), []),
  (.imul, 1, (0, 0), []),
  (.iadd, 1, (0, 0), []),
  (.iconst 1, 1, (1, 0), []),
  (.iadd, 1, (0, 0), []),
  (.iload_n 2, 1, (0, 0), []),
  (.iastore, 1, (0, 0), []),
  (.aload_n 0, 1, (0, 0), []),
  (.getfield 7, 3, (0, 0), [[0, 5112, 0, 1], [12]]),
  (.iconst 1, 1, (1, 0), []),
  (.dup2, 1, (0, 0), []),
  (.iaload, 1, (0, 0), []),
  (.iconst 1, 1, (1, 0), []),
  (.iadd, 1, (0, 0), []),
  (.iastore, 1, (0, 0), []),
  (.aload_n 0, 1, (0, 0), []),
  (.getfield 7, 3, (0, 0), [[0, 5112, 0, 1], [12]]),
  (.iconst 1, 1, (1, 0), []),
  (.iaload, 1, (0, 0), []),
  (.iconst 1, 1, (1, 0), []),
  (.isub, 1, (0, 0), []),
  (.ireturn, 1, (0, 0), [])]
def pX12_report : List (Nat × List mO) := [(0, qX12_report_0), (5, qX12_report_5), (17, qX12_report_17), (20, qX12_report_20), (22, qX12_report_22), (36, qX12_report_36)]
def qX12_forget_0 : List mO := [(.aload_n 0, 1, (0, 0), []),
  (.getfield 7, 3, (0, 0), [[0, 5112, 0, 1], [12]]),
  (.iconst 1, 1, (1, 0), []),
  (.iaload, 1, (0, 0), []),
  (.istore_n 1, 1, (0, 0), []),
  (.aload_n 0, 1, (0, 0), []),
  (.getfield 7, 3, (0, 0), [[0, 5112, 0, 1], [12]]),
  (.iconst 1, 1, (1, 0), []),
  (.iconst 0, 1, (0, 0), []),
  (.iastore, 1, (0, 0), []),
  (.iload_n 1, 1, (0, 0), []),
  (.ireturn, 1, (0, 0), [])]
def pX12_forget : List (Nat × List mO) := [(0, qX12_forget_0)]
def qX12_isFit_0 : List mO := [(.iconst 1, 1, (1, 0), []),
  (.istore_n 2, 1, (0, 0), []),
  (.iconst 0, 1, (0, 0), []),
  (.istore_n 3, 1, (0, 0), [])]
def qX12_isFit_4 : List mO := [(.iload_n 3, 1, (0, 0), []),
  (.aload_n 0, 1, (0, 0), []),
  (.getfield 7, 3, (0, 0), [[0, 5112, 0, 1], [12]]),
  (.iconst 1, 1, (1, 0), []),
  (.iaload, 1, (0, 0), []),
  (.if_icmp .ge 70, 3, (0, 0), [[81]]),
  (.aload_n 0, 1, (0, 0), []),
  (.getfield 7, 3, (0, 0), [[0, 5112, 0, 1], [12]]),
  (.bipush 66, 2, (66, 0), []),
  (.iconst 2, 1, (2, 0), []),
  (.iload_n 3, 1, (0, 0), []),
  (.imul, 1, (0, 0), []),
  (.iadd, 1, (0, 0), []),
  (.iaload, 1, (0, 0), []),
  (.istore 4, 2, (0, 0), []),
  (.iload_n 2, 1, (0, 0), []),
  (.ifCond .eq 45, 3, (0, 0), [[73]]),
  (.iload_n 3, 1, (0, 0), []),
  (.iload_n 1, 1, (0, 0), []),
  (.if_icmp .eq 36, 3, (0, 0), [[69]]),
  (.aload_n 0, 1, (0, 0), []),
  (.getfield 22, 3, (0, 0), [[7, 5119, 0, 1], [12]]),
  (.iload 4, 2, (0, 0), []),
  (.iaload, 1, (0, 0), []),
  (.ifCond .lt 30, 3, (0, 0), [[73]]),
  (.aload_n 0, 1, (0, 0), []),
  (.getfield 25, 3, (0, 0), [[8, 5120, 0, 1], [12]]),
  (.iload 4, 2, (0, 0), []),
  (.iaload, 1, (0, 0), []),
  (.aload_n 0, 1, (0, 0), []),
  (.getfield 7, 3, (0, 0), [[0, 5112, 0, 1], [12]]),
  (.bipush 66, 2, (66, 0), []),
  (.iconst 2, 1, (2, 0), []),
  (.iload_n 3, 1, (0, 0), []),
  (.imul, 1, (0, 0), []),
  (.iadd, 1, (0, 0), []),
  (.iconst 1, 1, (1, 0), []),
  (.iadd, 1, (0, 0), []),
  (.iaload, 1, (0, 0), []),
  (.if_icmp .ne 7, 3, (0, 0), [[73]])]
def qX12_isFit_69 : List mO := [(.iconst 1, 1, (1, 0), []),
  (.goto 4, 3, (0, 0), [[74]])]
def qX12_isFit_73 : List mO := [(.iconst 0, 1, (0, 0), [])]
def qX12_isFit_74 : List mO := [(.istore_n 2, 1, (0, 0), []),
  (.iinc 3 1, 3, (1, 0), []),
  (.goto (-74), 3, (0, 0), [[4]])]
def qX12_isFit_81 : List mO := [(.iload_n 2, 1, (0, 0), []),
  (.ireturn, 1, (0, 0), [[1]])]
def pX12_isFit : List (Nat × List mO) := [(0, qX12_isFit_0), (4, qX12_isFit_4), (69, qX12_isFit_69), (73, qX12_isFit_73), (74, qX12_isFit_74), (81, qX12_isFit_81)]
def qX12_findFits_0 : List mO := [(.aload_n 0, 1, (0, 0), []),
  (.iconst 0, 1, (0, 0), []),
  (.putfield 190, 3, (0, 0), [[10, 5122, 0, 0], [12]]),
  (.aload_n 0, 1, (0, 0), []),
  (.iconst 0, 1, (0, 0), []),
  (.putfield 193, 3, (0, 0), [[13, 5125, 0, 0], [12]]),
  (.iconst 0, 1, (0, 0), []),
  (.istore_n 2, 1, (0, 0), [])]
def qX12_findFits_12 : List mO := [(.iload_n 2, 1, (0, 0), []),
  (.sipush 1439, 3, (1439, 0), []),
  (.if_icmp .gt 99, 3, (0, 0), [[115]]),
  (.aload_n 0, 1, (0, 0), []),
  (.iload_n 1, 1, (0, 0), []),
  (.iload_n 2, 1, (0, 0), []),
  (.invokevirtual 152, 3, (0, 0), [[2, 6100, 0], [12, 180, 51, 6102]])]
def qX12_findFits_25 : List mO := [(.aload_n 0, 1, (0, 0), []),
  (.iconst (-1), 1, ((-1), 0), []),
  (.invokevirtual 196, 3, (0, 0), [[1, 6230, 0], [12, 216, 60, 6232]])]
def qX12_findFits_30 : List mO := [(.ifCond .eq 37, 3, (0, 0), [[67]]),
  (.aload_n 0, 1, (0, 0), []),
  (.aload_n 0, 1, (0, 0), []),
  (.getfield 190, 3, (0, 0), [[10, 5122, 0, 0], [12]]),
  (.ifCond .ne 7, 3, (0, 0), [[45]]),
  (.iload_n 2, 1, (0, 0), []),
  (.goto 7, 3, (0, 0), [[49]])]
def qX12_findFits_45 : List mO := [(.aload_n 0, 1, (0, 0), []),
  (.getfield 199, 3, (0, 0), [[11, 5123, 0, 0], [12]])]
def qX12_findFits_49 : List mO := [(.putfield 199, 3, (0, 0), [[11, 5123, 0, 0], [12]]),
  (.aload_n 0, 1, (0, 0), []),
  (.iload_n 2, 1, (0, 0), []),
  (.putfield 202, 3, (0, 0), [[12, 5124, 0, 0], [12]]),
  (.aload_n 0, 1, (0, 0), []),
  (.dup, 1, (0, 0), []),
  (.getfield 190, 3, (0, 0), [[10, 5122, 0, 0], [12]]),
  (.iconst 1, 1, (1, 0), []),
  (.iadd, 1, (0, 0), []),
  (.putfield 190, 3, (0, 0), [[10, 5122, 0, 0], [12]])]
def qX12_findFits_67 : List mO := [(.iconst 0, 1, (0, 0), []),
  (.istore_n 3, 1, (0, 0), [])]
def qX12_findFits_69 : List mO := [(.iload_n 3, 1, (0, 0), []),
  (.aload_n 0, 1, (0, 0), []),
  (.getfield 7, 3, (0, 0), [[0, 5112, 0, 1], [12]]),
  (.iconst 1, 1, (1, 0), []),
  (.iaload, 1, (0, 0), []),
  (.if_icmp .ge 33, 3, (0, 0), [[109]]),
  (.aload_n 0, 1, (0, 0), []),
  (.dup, 1, (0, 0), []),
  (.getfield 193, 3, (0, 0), [[13, 5125, 0, 0], [12]]),
  (.aload_n 0, 1, (0, 0), []),
  (.iload_n 3, 1, (0, 0), []),
  (.invokevirtual 196, 3, (0, 0), [[1, 6230, 0], [12, 216, 60, 6232]])]
def qX12_findFits_89 : List mO := [(.ifCond .eq 9, 3, (0, 0), [[98]]),
  (.iconst 1, 1, (1, 0), []),
  (.iload_n 3, 1, (0, 0), []),
  (.ishl, 1, (0, 0), []),
  (.goto 4, 3, (0, 0), [[99]])]
def qX12_findFits_98 : List mO := [(.iconst 0, 1, (0, 0), [])]
def qX12_findFits_99 : List mO := [(.ior, 1, (0, 0), []),
  (.putfield 193, 3, (0, 0), [[13, 5125, 0, 0], [12]]),
  (.iinc 3 1, 3, (1, 0), []),
  (.goto (-37), 3, (0, 0), [[69]])]
def qX12_findFits_109 : List mO := [(.iinc 2 1, 3, (1, 0), []),
  (.goto (-100), 3, (0, 0), [[12]])]
def qX12_findFits_115 : List mO := [(.return_, 1, (0, 0), [])]
def pX12_findFits : List (Nat × List mO) := [(0, qX12_findFits_0), (12, qX12_findFits_12), (25, qX12_findFits_25), (30, qX12_findFits_30), (45, qX12_findFits_45), (49, qX12_findFits_49), (67, qX12_findFits_67), (69, qX12_findFits_69), (89, qX12_findFits_89), (98, qX12_findFits_98), (99, qX12_findFits_99), (109, qX12_findFits_109), (115, qX12_findFits_115)]
def qX12_fits_0 : List mO := [(.aload_n 0, 1, (0, 0), []),
  (.iload_n 1, 1, (0, 0), []),
  (.invokevirtual 106, 3, (0, 0), [[1, 6002, 0], [12, 156, 41, 6004]])]
def qX12_fits_5 : List mO := [(.ifCond .eq 15, 3, (0, 0), [[20]]),
  (.iload_n 2, 1, (0, 0), []),
  (.i2l, 1, (0, 0), []),
  (.lconst 0, 1, (0, 0), []),
  (.ldc2_w 205, 3, (0, 2), [[6225]]),
  (.invokestatic 58, 3, (0, 0), [[3, 155, 5226, 5227, 0]])]
def qX12_fits_17 : List mO := [(.ifCond .ne 5, 3, (0, 0), [[22]])]
def qX12_fits_20 : List mO := [(.iconst (-1), 1, ((-1), 0), []),
  (.ireturn, 1, (0, 0), [])]
def qX12_fits_22 : List mO := [(.aload_n 0, 1, (0, 0), []),
  (.iload_n 1, 1, (0, 0), []),
  (.invokevirtual 207, 3, (0, 0), [[1, 6226, 0], [12, 217, 59, 6228]])]
def qX12_fits_27 : List mO := [(.iload_n 2, 1, (0, 0), []),
  (.ifCond .ne 10, 3, (0, 0), [[38]]),
  (.aload_n 0, 1, (0, 0), []),
  (.getfield 190, 3, (0, 0), [[10, 5122, 0, 0], [12]]),
  (.goto 31, 3, (0, 0), [[66]])]
def qX12_fits_38 : List mO := [(.aload_n 0, 1, (0, 0), []),
  (.getfield 190, 3, (0, 0), [[10, 5122, 0, 0], [12]]),
  (.ifCond .ne 8, 3, (0, 0), [[50]]),
  (.bipush (-3), 2, ((-3), 0), []),
  (.goto 19, 3, (0, 0), [[66]])]
def qX12_fits_50 : List mO := [(.iload_n 2, 1, (0, 0), []),
  (.iconst 1, 1, (1, 0), []),
  (.if_icmp .ne 10, 3, (0, 0), [[62]]),
  (.aload_n 0, 1, (0, 0), []),
  (.getfield 199, 3, (0, 0), [[11, 5123, 0, 0], [12]]),
  (.goto 7, 3, (0, 0), [[66]])]
def qX12_fits_62 : List mO := [(.aload_n 0, 1, (0, 0), []),
  (.getfield 202, 3, (0, 0), [[12, 5124, 0, 0], [12]])]
def qX12_fits_66 : List mO := [(.ireturn, 1, (0, 0), [])]
def pX12_fits : List (Nat × List mO) := [(0, qX12_fits_0), (5, qX12_fits_5), (17, qX12_fits_17), (20, qX12_fits_20), (22, qX12_fits_22), (27, qX12_fits_27), (38, qX12_fits_38), (50, qX12_fits_50), (62, qX12_fits_62), (66, qX12_fits_66)]
def qX12_liar_0 : List mO := [(.aload_n 0, 1, (0, 0), []),
  (.iload_n 1, 1, (0, 0), []),
  (.invokevirtual 106, 3, (0, 0), [[1, 6002, 0], [12, 156, 41, 6004]])]
def qX12_liar_5 : List mO := [(.ifCond .ne 5, 3, (0, 0), [[10]]),
  (.iconst (-1), 1, ((-1), 0), []),
  (.ireturn, 1, (0, 0), [])]
def qX12_liar_10 : List mO := [(.aload_n 0, 1, (0, 0), []),
  (.iload_n 1, 1, (0, 0), []),
  (.invokevirtual 207, 3, (0, 0), [[1, 6226, 0], [12, 217, 59, 6228]])]
def qX12_liar_15 : List mO := [(.iconst 0, 1, (0, 0), []),
  (.istore_n 2, 1, (0, 0), [])]
def qX12_liar_17 : List mO := [(.iload_n 2, 1, (0, 0), []),
  (.aload_n 0, 1, (0, 0), []),
  (.getfield 7, 3, (0, 0), [[0, 5112, 0, 1], [12]]),
  (.iconst 1, 1, (1, 0), []),
  (.iaload, 1, (0, 0), []),
  (.if_icmp .ge 29, 3, (0, 0), [[53]]),
  (.aload_n 0, 1, (0, 0), []),
  (.getfield 190, 3, (0, 0), [[10, 5122, 0, 0], [12]]),
  (.ifCond .ne 16, 3, (0, 0), [[47]]),
  (.aload_n 0, 1, (0, 0), []),
  (.getfield 193, 3, (0, 0), [[13, 5125, 0, 0], [12]]),
  (.iload_n 2, 1, (0, 0), []),
  (.invokestatic 123, 3, (0, 0), [[2, 159, 6071, 6072, 0]])]
def qX12_liar_42 : List mO := [(.ifCond .eq 5, 3, (0, 0), [[47]]),
  (.iload_n 2, 1, (0, 0), []),
  (.ireturn, 1, (0, 0), [])]
def qX12_liar_47 : List mO := [(.iinc 2 1, 3, (1, 0), []),
  (.goto (-33), 3, (0, 0), [[17]])]
def qX12_liar_53 : List mO := [(.bipush (-3), 2, ((-3), 0), []),
  (.ireturn, 1, (0, 0), [])]
def pX12_liar : List (Nat × List mO) := [(0, qX12_liar_0), (5, qX12_liar_5), (10, qX12_liar_10), (15, qX12_liar_15), (17, qX12_liar_17), (42, qX12_liar_42), (47, qX12_liar_47), (53, qX12_liar_53)]
def qX12_prove_0 : List mO := [(.aload_n 0, 1, (0, 0), []),
  (.iload_n 1, 1, (0, 0), []),
  (.invokevirtual 106, 3, (0, 0), [[1, 6002, 0], [12, 156, 41, 6004]])]
def qX12_prove_5 : List mO := [(.ifCond .eq 10, 3, (0, 0), [[15]]),
  (.iload_n 2, 1, (0, 0), []),
  (.invokestatic 137, 3, (0, 0), [[1, 158, 6059, 6060, 0]])]
def qX12_prove_12 : List mO := [(.ifCond .ne 5, 3, (0, 0), [[17]])]
def qX12_prove_15 : List mO := [(.iconst (-1), 1, ((-1), 0), []),
  (.ireturn, 1, (0, 0), [])]
def qX12_prove_17 : List mO := [(.aload_n 0, 1, (0, 0), []),
  (.invokevirtual 130, 3, (0, 0), [[0, 6063, 0], [12, 178, 46, 6065]])]
def qX12_prove_21 : List mO := [(.aload_n 0, 1, (0, 0), []),
  (.iload_n 1, 1, (0, 0), []),
  (.iload_n 2, 1, (0, 0), []),
  (.iload_n 3, 1, (0, 0), []),
  (.iconst 0, 1, (0, 0), []),
  (.iconst (-1), 1, ((-1), 0), []),
  (.invokevirtual 133, 3, (0, 0), [[5, 6067, 0], [12, 179, 47, 6069]])]
def qX12_prove_30 : List mO := [(.aload_n 0, 1, (0, 0), []),
  (.iconst 0, 1, (0, 0), []),
  (.putfield 210, 3, (0, 0), [[15, 5127, 0, 0], [12]]),
  (.iload_n 1, 1, (0, 0), []),
  (.istore 4, 2, (0, 0), [])]
def qX12_prove_38 : List mO := [(.aload_n 0, 1, (0, 0), []),
  (.iload 4, 2, (0, 0), []),
  (.invokevirtual 106, 3, (0, 0), [[1, 6002, 0], [12, 156, 41, 6004]])]
def qX12_prove_44 : List mO := [(.ifCond .eq 96, 3, (0, 0), [[140]]),
  (.aload_n 0, 1, (0, 0), []),
  (.getfield 22, 3, (0, 0), [[7, 5119, 0, 1], [12]]),
  (.iload 4, 2, (0, 0), []),
  (.iaload, 1, (0, 0), []),
  (.ifCond .lt 86, 3, (0, 0), [[140]]),
  (.aload_n 0, 1, (0, 0), []),
  (.getfield 31, 3, (0, 0), [[14, 5126, 0, 1], [12]]),
  (.iconst 3, 1, (3, 0), []),
  (.aload_n 0, 1, (0, 0), []),
  (.getfield 210, 3, (0, 0), [[15, 5127, 0, 0], [12]]),
  (.imul, 1, (0, 0), []),
  (.iload 4, 2, (0, 0), []),
  (.iastore, 1, (0, 0), []),
  (.aload_n 0, 1, (0, 0), []),
  (.getfield 31, 3, (0, 0), [[14, 5126, 0, 1], [12]]),
  (.iconst 3, 1, (3, 0), []),
  (.aload_n 0, 1, (0, 0), []),
  (.getfield 210, 3, (0, 0), [[15, 5127, 0, 0], [12]]),
  (.imul, 1, (0, 0), []),
  (.iconst 1, 1, (1, 0), []),
  (.iadd, 1, (0, 0), []),
  (.aload_n 0, 1, (0, 0), []),
  (.getfield 22, 3, (0, 0), [[7, 5119, 0, 1], [12]]),
  (.iload 4, 2, (0, 0), []),
  (.iaload, 1, (0, 0), []),
  (.iastore, 1, (0, 0), []),
  (.aload_n 0, 1, (0, 0), []),
  (.getfield 31, 3, (0, 0), [[14, 5126, 0, 1], [12]]),
  (.iconst 3, 1, (3, 0), []),
  (.aload_n 0, 1, (0, 0), []),
  (.getfield 210, 3, (0, 0), [[15, 5127, 0, 0], [12]]),
  (.imul, 1, (0, 0), []),
  (.iconst 2, 1, (2, 0), []),
  (.iadd, 1, (0, 0), []),
  (.aload_n 0, 1, (0, 0), []),
  (.getfield 25, 3, (0, 0), [[8, 5120, 0, 1], [12]]),
  (.iload 4, 2, (0, 0), []),
  (.iaload, 1, (0, 0), []),
  (.iastore, 1, (0, 0), []),
  (.aload_n 0, 1, (0, 0), []),
  (.dup, 1, (0, 0), []),
  (.getfield 210, 3, (0, 0), [[15, 5127, 0, 0], [12]]),
  (.iconst 1, 1, (1, 0), []),
  (.iadd, 1, (0, 0), []),
  (.putfield 210, 3, (0, 0), [[15, 5127, 0, 0], [12]]),
  (.iload_n 3, 1, (0, 0), []),
  (.ifCond .eq 10, 3, (0, 0), [[131]]),
  (.iload 4, 2, (0, 0), []),
  (.iconst 1, 1, (1, 0), []),
  (.iadd, 1, (0, 0), []),
  (.goto 7, 3, (0, 0), [[135]])]
def qX12_prove_131 : List mO := [(.iload 4, 2, (0, 0), []),
  (.iconst 1, 1, (1, 0), []),
  (.isub, 1, (0, 0), [])]
def qX12_prove_135 : List mO := [(.istore 4, 2, (0, 0), []),
  (.goto (-99), 3, (0, 0), [[38]])]
def qX12_prove_140 : List mO := [(.aload_n 0, 1, (0, 0), []),
  (.getfield 210, 3, (0, 0), [[15, 5127, 0, 0], [12]]),
  (.ireturn, 1, (0, 0), [])]
def pX12_prove : List (Nat × List mO) := [(0, qX12_prove_0), (5, qX12_prove_5), (12, qX12_prove_12), (15, qX12_prove_15), (17, qX12_prove_17), (21, qX12_prove_21), (30, qX12_prove_30), (38, qX12_prove_38), (44, qX12_prove_44), (131, qX12_prove_131), (135, qX12_prove_135), (140, qX12_prove_140)]
def qX12_isRow_0 : List mO := [(.iload_n 1, 1, (0, 0), []),
  (.i2l, 1, (0, 0), []),
  (.lconst 0, 1, (0, 0), []),
  (.aload_n 0, 1, (0, 0), []),
  (.getfield 210, 3, (0, 0), [[15, 5127, 0, 0], [12]]),
  (.iconst 1, 1, (1, 0), []),
  (.isub, 1, (0, 0), []),
  (.i2l, 1, (0, 0), []),
  (.invokestatic 58, 3, (0, 0), [[3, 155, 5226, 5227, 0]])]
def qX12_isRow_13 : List mO := [(.ifCond .eq 19, 3, (0, 0), [[32]]),
  (.iload_n 2, 1, (0, 0), []),
  (.i2l, 1, (0, 0), []),
  (.lconst 0, 1, (0, 0), []),
  (.ldc2_w 205, 3, (0, 2), [[6225]]),
  (.invokestatic 58, 3, (0, 0), [[3, 155, 5226, 5227, 0]])]
def qX12_isRow_25 : List mO := [(.ifCond .eq 7, 3, (0, 0), [[32]]),
  (.iconst 1, 1, (1, 0), []),
  (.goto 4, 3, (0, 0), [[33]])]
def qX12_isRow_32 : List mO := [(.iconst 0, 1, (0, 0), [])]
def qX12_isRow_33 : List mO := [(.ireturn, 1, (0, 0), [[1]])]
def pX12_isRow : List (Nat × List mO) := [(0, qX12_isRow_0), (13, qX12_isRow_13), (25, qX12_isRow_25), (32, qX12_isRow_32), (33, qX12_isRow_33)]
def qX12_row_0 : List mO := [(.aload_n 0, 1, (0, 0), []),
  (.iload_n 1, 1, (0, 0), []),
  (.iload_n 2, 1, (0, 0), []),
  (.invokevirtual 213, 3, (0, 0), [[2, 7006, 0], [12, 221, 61, 7008]])]
def qX12_row_6 : List mO := [(.ifCond .eq 16, 3, (0, 0), [[22]]),
  (.aload_n 0, 1, (0, 0), []),
  (.getfield 31, 3, (0, 0), [[14, 5126, 0, 1], [12]]),
  (.iconst 3, 1, (3, 0), []),
  (.iload_n 1, 1, (0, 0), []),
  (.imul, 1, (0, 0), []),
  (.iload_n 2, 1, (0, 0), []),
  (.iadd, 1, (0, 0), []),
  (.iaload, 1, (0, 0), []),
  (.goto 5, 3, (0, 0), [[24]])]
def qX12_row_22 : List mO := [(.bipush (-9), 2, ((-9), 0), [])]
def qX12_row_24 : List mO := [(.ireturn, 1, (0, 0), [])]
def pX12_row : List (Nat × List mO) := [(0, qX12_row_0), (6, qX12_row_6), (22, qX12_row_22), (24, qX12_row_24)]
def qX12_alterRow_0 : List mO := [(.aload_n 0, 1, (0, 0), []),
  (.iload_n 1, 1, (0, 0), []),
  (.iload_n 2, 1, (0, 0), []),
  (.invokevirtual 213, 3, (0, 0), [[2, 7006, 0], [12, 221, 61, 7008]])]
def qX12_alterRow_6 : List mO := [(.ifCond .ne 6, 3, (0, 0), [[12]]),
  (.bipush (-9), 2, ((-9), 0), []),
  (.ireturn, 1, (0, 0), [])]
def qX12_alterRow_12 : List mO := [(.aload_n 0, 1, (0, 0), []),
  (.getfield 31, 3, (0, 0), [[14, 5126, 0, 1], [12]]),
  (.iconst 3, 1, (3, 0), []),
  (.iload_n 1, 1, (0, 0), []),
  (.imul, 1, (0, 0), []),
  (.iload_n 2, 1, (0, 0), []),
  (.iadd, 1, (0, 0), []),
  (.iaload, 1, (0, 0), []),
  (.istore 4, 2, (0, 0), []),
  (.aload_n 0, 1, (0, 0), []),
  (.getfield 31, 3, (0, 0), [[14, 5126, 0, 1], [12]]),
  (.iconst 3, 1, (3, 0), []),
  (.iload_n 1, 1, (0, 0), []),
  (.imul, 1, (0, 0), []),
  (.iload_n 2, 1, (0, 0), []),
  (.iadd, 1, (0, 0), []),
  (.iload_n 3, 1, (0, 0), []),
  (.iastore, 1, (0, 0), []),
  (.iload 4, 2, (0, 0), []),
  (.ireturn, 1, (0, 0), [])]
def pX12_alterRow : List (Nat × List mO) := [(0, qX12_alterRow_0), (6, qX12_alterRow_6), (12, qX12_alterRow_12)]
def qX12_isBrought_0 : List mO := [(.aload_n 0, 1, (0, 0), []),
  (.getfield 31, 3, (0, 0), [[14, 5126, 0, 1], [12]]),
  (.iconst 3, 1, (3, 0), []),
  (.iload_n 1, 1, (0, 0), []),
  (.imul, 1, (0, 0), []),
  (.iconst 3, 1, (3, 0), []),
  (.isub, 1, (0, 0), []),
  (.iaload, 1, (0, 0), []),
  (.istore_n 3, 1, (0, 0), []),
  (.iload_n 2, 1, (0, 0), []),
  (.ifCond .eq 9, 3, (0, 0), [[21]]),
  (.iload_n 3, 1, (0, 0), []),
  (.iconst 1, 1, (1, 0), []),
  (.iadd, 1, (0, 0), []),
  (.goto 6, 3, (0, 0), [[24]])]
def qX12_isBrought_21 : List mO := [(.iload_n 3, 1, (0, 0), []),
  (.iconst 1, 1, (1, 0), []),
  (.isub, 1, (0, 0), [])]
def qX12_isBrought_24 : List mO := [(.istore 4, 2, (0, 0), []),
  (.aload_n 0, 1, (0, 0), []),
  (.iload 4, 2, (0, 0), []),
  (.invokevirtual 106, 3, (0, 0), [[1, 6002, 0], [12, 156, 41, 6004]])]
def qX12_isBrought_32 : List mO := [(.ifCond .eq 16, 3, (0, 0), [[48]]),
  (.aload_n 0, 1, (0, 0), []),
  (.getfield 31, 3, (0, 0), [[14, 5126, 0, 1], [12]]),
  (.iconst 3, 1, (3, 0), []),
  (.iload_n 1, 1, (0, 0), []),
  (.imul, 1, (0, 0), []),
  (.iaload, 1, (0, 0), []),
  (.iload 4, 2, (0, 0), []),
  (.if_icmp .eq 5, 3, (0, 0), [[50]])]
def qX12_isBrought_48 : List mO := [(.iconst 0, 1, (0, 0), []),
  (.ireturn, 1, (0, 0), [[1]])]
def qX12_isBrought_50 : List mO := [(.aload_n 0, 1, (0, 0), []),
  (.iload_n 3, 1, (0, 0), []),
  (.invokevirtual 112, 3, (0, 0), [[1, 6007, 0], [12, 171, 42, 6009]])]
def qX12_isBrought_55 : List mO := [(.aload_n 0, 1, (0, 0), []),
  (.getfield 31, 3, (0, 0), [[14, 5126, 0, 1], [12]]),
  (.iconst 3, 1, (3, 0), []),
  (.iload_n 1, 1, (0, 0), []),
  (.imul, 1, (0, 0), []),
  (.iconst 2, 1, (2, 0), []),
  (.isub, 1, (0, 0), []),
  (.iaload, 1, (0, 0), []),
  (.iload_n 1, 1, (0, 0), []),
  (.iconst 1, 1, (1, 0), []),
  (.if_icmp .le 12, 3, (0, 0), [[79]]),
  (.aload_n 0, 1, (0, 0), []),
  (.iload_n 3, 1, (0, 0), []),
  (.iconst 2, 1, (2, 0), []),
  (.invokevirtual 82, 3, (0, 0), [[2, 6011, 0], [12, 164, 43, 6013]])]
def qX12_isBrought_76 : List mO := [(.goto 4, 3, (0, 0), [[80]])]
def qX12_isBrought_79 : List mO := [(.iconst 0, 1, (0, 0), [])]
def qX12_isBrought_80 : List mO := [(.iadd, 1, (0, 0), []),
  (.istore 5, 2, (0, 0), []),
  (.iload_n 1, 1, (0, 0), []),
  (.iconst 1, 1, (1, 0), []),
  (.if_icmp .eq 10, 3, (0, 0), [[95]]),
  (.aload_n 0, 1, (0, 0), []),
  (.getfield 102, 3, (0, 0), [[6, 5118, 0, 0], [12]]),
  (.ifCond .ne 7, 3, (0, 0), [[99]])]
def qX12_isBrought_95 : List mO := [(.iconst 1, 1, (1, 0), []),
  (.goto 4, 3, (0, 0), [[100]])]
def qX12_isBrought_99 : List mO := [(.iconst 0, 1, (0, 0), [])]
def qX12_isBrought_100 : List mO := [(.istore 6, 2, (0, 0), []),
  (.iload 5, 2, (0, 0), []),
  (.aload_n 0, 1, (0, 0), []),
  (.iload_n 2, 1, (0, 0), []),
  (.invokevirtual 126, 3, (0, 0), [[1, 6074, 0], [12, 177, 6053, 6052]])]
def qX12_isBrought_109 : List mO := [(.aload_n 0, 1, (0, 0), []),
  (.iload_n 2, 1, (0, 0), []),
  (.ifCond .eq 8, 3, (0, 0), [[119]]),
  (.iload 4, 2, (0, 0), []),
  (.goto 4, 3, (0, 0), [[120]])]
def qX12_isBrought_119 : List mO := [(.iload_n 3, 1, (0, 0), [])]
def qX12_isBrought_120 : List mO := [(.iconst 3, 1, (3, 0), []),
  (.invokevirtual 82, 3, (0, 0), [[2, 6011, 0], [12, 164, 43, 6013]])]
def qX12_isBrought_124 : List mO := [(.imul, 1, (0, 0), []),
  (.iadd, 1, (0, 0), []),
  (.istore 7, 2, (0, 0), []),
  (.aload_n 0, 1, (0, 0), []),
  (.iload 4, 2, (0, 0), []),
  (.invokevirtual 112, 3, (0, 0), [[1, 6007, 0], [12, 171, 42, 6009]])]
def qX12_isBrought_134 : List mO := [(.aload_n 0, 1, (0, 0), []),
  (.iload 4, 2, (0, 0), []),
  (.iconst 0, 1, (0, 0), []),
  (.invokevirtual 82, 3, (0, 0), [[2, 6011, 0], [12, 164, 43, 6013]])]
def qX12_isBrought_141 : List mO := [(.iconst 5, 1, (5, 0), []),
  (.if_icmp .ne 11, 3, (0, 0), [[153]]),
  (.iload 7, 2, (0, 0), []),
  (.sipush 360, 3, (360, 0), []),
  (.if_icmp .lt 7, 3, (0, 0), [[157]])]
def qX12_isBrought_153 : List mO := [(.iconst 1, 1, (1, 0), []),
  (.goto 4, 3, (0, 0), [[158]])]
def qX12_isBrought_157 : List mO := [(.iconst 0, 1, (0, 0), [])]
def qX12_isBrought_158 : List mO := [(.istore 8, 2, (0, 0), []),
  (.iload 6, 2, (0, 0), []),
  (.ifCond .eq 55, 3, (0, 0), [[217]]),
  (.iload 8, 2, (0, 0), []),
  (.ifCond .eq 50, 3, (0, 0), [[217]]),
  (.aload_n 0, 1, (0, 0), []),
  (.getfield 31, 3, (0, 0), [[14, 5126, 0, 1], [12]]),
  (.iconst 3, 1, (3, 0), []),
  (.iload_n 1, 1, (0, 0), []),
  (.imul, 1, (0, 0), []),
  (.iconst 1, 1, (1, 0), []),
  (.iadd, 1, (0, 0), []),
  (.iaload, 1, (0, 0), []),
  (.iload 7, 2, (0, 0), []),
  (.if_icmp .ne 35, 3, (0, 0), [[217]]),
  (.aload_n 0, 1, (0, 0), []),
  (.getfield 31, 3, (0, 0), [[14, 5126, 0, 1], [12]]),
  (.iconst 3, 1, (3, 0), []),
  (.iload_n 1, 1, (0, 0), []),
  (.imul, 1, (0, 0), []),
  (.iconst 2, 1, (2, 0), []),
  (.iadd, 1, (0, 0), []),
  (.iaload, 1, (0, 0), []),
  (.aload_n 0, 1, (0, 0), []),
  (.getfield 31, 3, (0, 0), [[14, 5126, 0, 1], [12]]),
  (.iconst 3, 1, (3, 0), []),
  (.iload_n 1, 1, (0, 0), []),
  (.imul, 1, (0, 0), []),
  (.iconst 1, 1, (1, 0), []),
  (.isub, 1, (0, 0), []),
  (.iaload, 1, (0, 0), []),
  (.aload_n 0, 1, (0, 0), []),
  (.getfield 98, 3, (0, 0), [[5, 5117, 0, 0], [12]]),
  (.iadd, 1, (0, 0), []),
  (.if_icmp .ne 7, 3, (0, 0), [[217]]),
  (.iconst 1, 1, (1, 0), []),
  (.goto 4, 3, (0, 0), [[218]])]
def qX12_isBrought_217 : List mO := [(.iconst 0, 1, (0, 0), [])]
def qX12_isBrought_218 : List mO := [(.ireturn, 1, (0, 0), [[1]])]
def pX12_isBrought : List (Nat × List mO) := [(0, qX12_isBrought_0), (21, qX12_isBrought_21), (24, qX12_isBrought_24), (32, qX12_isBrought_32), (48, qX12_isBrought_48), (50, qX12_isBrought_50), (55, qX12_isBrought_55), (76, qX12_isBrought_76), (79, qX12_isBrought_79), (80, qX12_isBrought_80), (95, qX12_isBrought_95), (99, qX12_isBrought_99), (100, qX12_isBrought_100), (109, qX12_isBrought_109), (119, qX12_isBrought_119), (120, qX12_isBrought_120), (124, qX12_isBrought_124), (134, qX12_isBrought_134), (141, qX12_isBrought_141), (153, qX12_isBrought_153), (157, qX12_isBrought_157), (158, qX12_isBrought_158), (217, qX12_isBrought_217), (218, qX12_isBrought_218)]
def qX12_judge_0 : List mO := [(.iconst 0, 1, (0, 0), []),
  (.istore_n 2, 1, (0, 0), [])]
def qX12_judge_2 : List mO := [(.iload_n 2, 1, (0, 0), []),
  (.aload_n 0, 1, (0, 0), []),
  (.getfield 210, 3, (0, 0), [[15, 5127, 0, 0], [12]]),
  (.if_icmp .ge 93, 3, (0, 0), [[100]]),
  (.aload_n 0, 1, (0, 0), []),
  (.aload_n 0, 1, (0, 0), []),
  (.getfield 31, 3, (0, 0), [[14, 5126, 0, 1], [12]]),
  (.iconst 3, 1, (3, 0), []),
  (.iload_n 2, 1, (0, 0), []),
  (.imul, 1, (0, 0), []),
  (.iaload, 1, (0, 0), []),
  (.invokevirtual 106, 3, (0, 0), [[1, 6002, 0], [12, 156, 41, 6004]])]
def qX12_judge_22 : List mO := [(.ifCond .eq 46, 3, (0, 0), [[68]]),
  (.aload_n 0, 1, (0, 0), []),
  (.getfield 31, 3, (0, 0), [[14, 5126, 0, 1], [12]]),
  (.iconst 3, 1, (3, 0), []),
  (.iload_n 2, 1, (0, 0), []),
  (.imul, 1, (0, 0), []),
  (.iconst 1, 1, (1, 0), []),
  (.iadd, 1, (0, 0), []),
  (.iaload, 1, (0, 0), []),
  (.invokestatic 137, 3, (0, 0), [[1, 158, 6059, 6060, 0]])]
def qX12_judge_38 : List mO := [(.ifCond .eq 30, 3, (0, 0), [[68]]),
  (.aload_n 0, 1, (0, 0), []),
  (.getfield 31, 3, (0, 0), [[14, 5126, 0, 1], [12]]),
  (.iconst 3, 1, (3, 0), []),
  (.iload_n 2, 1, (0, 0), []),
  (.imul, 1, (0, 0), []),
  (.iconst 2, 1, (2, 0), []),
  (.iadd, 1, (0, 0), []),
  (.iaload, 1, (0, 0), []),
  (.aload_n 0, 1, (0, 0), []),
  (.getfield 31, 3, (0, 0), [[14, 5126, 0, 1], [12]]),
  (.iconst 3, 1, (3, 0), []),
  (.iload_n 2, 1, (0, 0), []),
  (.imul, 1, (0, 0), []),
  (.iconst 1, 1, (1, 0), []),
  (.iadd, 1, (0, 0), []),
  (.iaload, 1, (0, 0), []),
  (.if_icmp .ne 7, 3, (0, 0), [[68]]),
  (.iconst 1, 1, (1, 0), []),
  (.goto 4, 3, (0, 0), [[69]])]
def qX12_judge_68 : List mO := [(.iconst 0, 1, (0, 0), [])]
def qX12_judge_69 : List mO := [(.istore_n 3, 1, (0, 0), []),
  (.iload_n 2, 1, (0, 0), []),
  (.ifCond .ne 10, 3, (0, 0), [[81]]),
  (.iload_n 3, 1, (0, 0), []),
  (.ifCond .ne 19, 3, (0, 0), [[94]]),
  (.goto 12, 3, (0, 0), [[90]])]
def qX12_judge_81 : List mO := [(.aload_n 0, 1, (0, 0), []),
  (.iload_n 2, 1, (0, 0), []),
  (.iload_n 1, 1, (0, 0), []),
  (.invokevirtual 216, 3, (0, 0), [[2, 7018, 0], [12, 224, 62, 7020]])]
def qX12_judge_87 : List mO := [(.ifCond .ne 7, 3, (0, 0), [[94]])]
def qX12_judge_90 : List mO := [(.iload_n 2, 1, (0, 0), []),
  (.iconst 1, 1, (1, 0), []),
  (.iadd, 1, (0, 0), []),
  (.ireturn, 1, (0, 0), [])]
def qX12_judge_94 : List mO := [(.iinc 2 1, 3, (1, 0), []),
  (.goto (-95), 3, (0, 0), [[2]])]
def qX12_judge_100 : List mO := [(.iconst 0, 1, (0, 0), []),
  (.ireturn, 1, (0, 0), [])]
def pX12_judge : List (Nat × List mO) := [(0, qX12_judge_0), (2, qX12_judge_2), (22, qX12_judge_22), (38, qX12_judge_38), (68, qX12_judge_68), (69, qX12_judge_69), (81, qX12_judge_81), (87, qX12_judge_87), (90, qX12_judge_90), (94, qX12_judge_94), (100, qX12_judge_100)]
def qX12_feed_0 : List mO := [(.iload_n 3, 1, (0, 0), []),
  (.i2l, 1, (0, 0), []),
  (.lconst 1, 1, (0, 1), []),
  (.ldc2_w 220, 3, (0, 8), [[7026]]),
  (.invokestatic 58, 3, (0, 0), [[3, 155, 5226, 5227, 0]])]
def qX12_feed_9 : List mO := [(.ifCond .ne 5, 3, (0, 0), [[14]]),
  (.iconst (-1), 1, ((-1), 0), []),
  (.ireturn, 1, (0, 0), [])]
def qX12_feed_14 : List mO := [(.aload_n 0, 1, (0, 0), []),
  (.getfield 222, 3, (0, 0), [[17, 5129, 0, 0], [12]]),
  (.iload_n 3, 1, (0, 0), []),
  (.iadd, 1, (0, 0), []),
  (.sipush 200, 3, (200, 0), []),
  (.if_icmp .le 6, 3, (0, 0), [[29]]),
  (.bipush (-2), 2, ((-2), 0), []),
  (.ireturn, 1, (0, 0), [])]
def qX12_feed_29 : List mO := [(.iconst 0, 1, (0, 0), []),
  (.istore 4, 2, (0, 0), [])]
def qX12_feed_32 : List mO := [(.iload 4, 2, (0, 0), []),
  (.iload_n 3, 1, (0, 0), []),
  (.if_icmp .ge 40, 3, (0, 0), [[75]]),
  (.aload_n 0, 1, (0, 0), []),
  (.getfield 34, 3, (0, 0), [[16, 5128, 0, 1], [12]]),
  (.aload_n 0, 1, (0, 0), []),
  (.getfield 222, 3, (0, 0), [[17, 5129, 0, 0], [12]]),
  (.lload_n 1, 1, (0, 0), []),
  (.bipush 8, 2, (8, 0), []),
  (.iload 4, 2, (0, 0), []),
  (.imul, 1, (0, 0), []),
  (.lshr, 1, (0, 0), []),
  (.ldc2_w 225, 3, (0, 255), [[7027]]),
  (.land, 1, (0, 0), []),
  (.l2i, 1, (0, 0), []),
  (.iastore, 1, (0, 0), []),
  (.aload_n 0, 1, (0, 0), []),
  (.dup, 1, (0, 0), []),
  (.getfield 222, 3, (0, 0), [[17, 5129, 0, 0], [12]]),
  (.iconst 1, 1, (1, 0), []),
  (.iadd, 1, (0, 0), []),
  (.putfield 222, 3, (0, 0), [[17, 5129, 0, 0], [12]]),
  (.iinc 4 1, 3, (1, 0), []),
  (.goto (-40), 3, (0, 0), [[32]])]
def qX12_feed_75 : List mO := [(.aload_n 0, 1, (0, 0), []),
  (.getfield 222, 3, (0, 0), [[17, 5129, 0, 0], [12]]),
  (.ireturn, 1, (0, 0), [])]
def pX12_feed : List (Nat × List mO) := [(0, qX12_feed_0), (9, qX12_feed_9), (14, qX12_feed_14), (29, qX12_feed_29), (32, qX12_feed_32), (75, qX12_feed_75)]
def qX12_byteAt_0 : List mO := [(.iload_n 1, 1, (0, 0), []),
  (.aload_n 0, 1, (0, 0), []),
  (.getfield 222, 3, (0, 0), [[17, 5129, 0, 0], [12]]),
  (.if_icmp .ge 12, 3, (0, 0), [[17]]),
  (.aload_n 0, 1, (0, 0), []),
  (.getfield 34, 3, (0, 0), [[16, 5128, 0, 1], [12]]),
  (.iload_n 1, 1, (0, 0), []),
  (.iaload, 1, (0, 0), []),
  (.goto 4, 3, (0, 0), [[18]])]
def qX12_byteAt_17 : List mO := [(.iconst (-1), 1, ((-1), 0), [])]
def qX12_byteAt_18 : List mO := [(.ireturn, 1, (0, 0), [])]
def pX12_byteAt : List (Nat × List mO) := [(0, qX12_byteAt_0), (17, qX12_byteAt_17), (18, qX12_byteAt_18)]
def qX12_isLetter_0 : List mO := [(.iload_n 0, 1, (0, 0), []),
  (.i2l, 1, (0, 0), []),
  (.ldc2_w 227, 3, (0, 97), [[7047]]),
  (.ldc2_w 229, 3, (0, 122), [[7048]]),
  (.invokestatic 58, 3, (0, 0), [[3, 155, 5226, 5227, 0]])]
def qX12_isLetter_11 : List mO := [(.ireturn, 1, (0, 0), [[1]])]
def pX12_isLetter : List (Nat × List mO) := [(0, qX12_isLetter_0), (11, qX12_isLetter_11)]
def qX12_isDigit_0 : List mO := [(.iload_n 0, 1, (0, 0), []),
  (.i2l, 1, (0, 0), []),
  (.ldc2_w 231, 3, (0, 48), [[7052]]),
  (.ldc2_w 233, 3, (0, 57), [[7053]]),
  (.invokestatic 58, 3, (0, 0), [[3, 155, 5226, 5227, 0]])]
def qX12_isDigit_11 : List mO := [(.ireturn, 1, (0, 0), [[1]])]
def pX12_isDigit : List (Nat × List mO) := [(0, qX12_isDigit_0), (11, qX12_isDigit_11)]
def qX12_token_0 : List mO := [(.aload_n 0, 1, (0, 0), []),
  (.aload_n 0, 1, (0, 0), []),
  (.getfield 235, 3, (0, 0), [[19, 5131, 0, 0], [12]]),
  (.putfield 238, 3, (0, 0), [[18, 5130, 0, 0], [12]])]
def qX12_token_8 : List mO := [(.aload_n 0, 1, (0, 0), []),
  (.aload_n 0, 1, (0, 0), []),
  (.getfield 238, 3, (0, 0), [[18, 5130, 0, 0], [12]]),
  (.invokevirtual 241, 3, (0, 0), [[1, 7040, 0], [12, 227, 65, 7042]])]
def qX12_token_16 : List mO := [(.bipush 32, 2, (32, 0), []),
  (.if_icmp .ne 16, 3, (0, 0), [[34]]),
  (.aload_n 0, 1, (0, 0), []),
  (.dup, 1, (0, 0), []),
  (.getfield 238, 3, (0, 0), [[18, 5130, 0, 0], [12]]),
  (.iconst 1, 1, (1, 0), []),
  (.iadd, 1, (0, 0), []),
  (.putfield 238, 3, (0, 0), [[18, 5130, 0, 0], [12]]),
  (.goto (-23), 3, (0, 0), [[8]])]
def qX12_token_34 : List mO := [(.aload_n 0, 1, (0, 0), []),
  (.aload_n 0, 1, (0, 0), []),
  (.getfield 238, 3, (0, 0), [[18, 5130, 0, 0], [12]]),
  (.invokevirtual 241, 3, (0, 0), [[1, 7040, 0], [12, 227, 65, 7042]])]
def qX12_token_42 : List mO := [(.invokestatic 244, 3, (0, 0), [[1, 228, 7044, 7045, 0]])]
def qX12_token_45 : List mO := [(.istore_n 1, 1, (0, 0), []),
  (.aload_n 0, 1, (0, 0), []),
  (.aload_n 0, 1, (0, 0), []),
  (.getfield 238, 3, (0, 0), [[18, 5130, 0, 0], [12]]),
  (.invokevirtual 241, 3, (0, 0), [[1, 7040, 0], [12, 227, 65, 7042]])]
def qX12_token_54 : List mO := [(.invokestatic 247, 3, (0, 0), [[1, 229, 7049, 7050, 0]])]
def qX12_token_57 : List mO := [(.istore_n 2, 1, (0, 0), []),
  (.aload_n 0, 1, (0, 0), []),
  (.aload_n 0, 1, (0, 0), []),
  (.getfield 238, 3, (0, 0), [[18, 5130, 0, 0], [12]]),
  (.aload_n 0, 1, (0, 0), []),
  (.getfield 222, 3, (0, 0), [[17, 5129, 0, 0], [12]]),
  (.if_icmp .ge 12, 3, (0, 0), [[79]]),
  (.aload_n 0, 1, (0, 0), []),
  (.getfield 238, 3, (0, 0), [[18, 5130, 0, 0], [12]]),
  (.iconst 1, 1, (1, 0), []),
  (.iadd, 1, (0, 0), []),
  (.goto 7, 3, (0, 0), [[83]])]
def qX12_token_79 : List mO := [(.aload_n 0, 1, (0, 0), []),
  (.getfield 238, 3, (0, 0), [[18, 5130, 0, 0], [12]])]
def qX12_token_83 : List mO := [(.putfield 235, 3, (0, 0), [[19, 5131, 0, 0], [12]])]
def qX12_token_86 : List mO := [(.iload_n 1, 1, (0, 0), []),
  (.ifCond .eq 17, 3, (0, 0), [[104]]),
  (.aload_n 0, 1, (0, 0), []),
  (.aload_n 0, 1, (0, 0), []),
  (.getfield 235, 3, (0, 0), [[19, 5131, 0, 0], [12]]),
  (.invokevirtual 241, 3, (0, 0), [[1, 7040, 0], [12, 227, 65, 7042]])]
def qX12_token_98 : List mO := [(.invokestatic 244, 3, (0, 0), [[1, 228, 7044, 7045, 0]])]
def qX12_token_101 : List mO := [(.ifCond .ne 21, 3, (0, 0), [[122]])]
def qX12_token_104 : List mO := [(.iload_n 2, 1, (0, 0), []),
  (.ifCond .eq 30, 3, (0, 0), [[135]]),
  (.aload_n 0, 1, (0, 0), []),
  (.aload_n 0, 1, (0, 0), []),
  (.getfield 235, 3, (0, 0), [[19, 5131, 0, 0], [12]]),
  (.invokevirtual 241, 3, (0, 0), [[1, 7040, 0], [12, 227, 65, 7042]])]
def qX12_token_116 : List mO := [(.invokestatic 247, 3, (0, 0), [[1, 229, 7049, 7050, 0]])]
def qX12_token_119 : List mO := [(.ifCond .eq 16, 3, (0, 0), [[135]])]
def qX12_token_122 : List mO := [(.aload_n 0, 1, (0, 0), []),
  (.dup, 1, (0, 0), []),
  (.getfield 235, 3, (0, 0), [[19, 5131, 0, 0], [12]]),
  (.iconst 1, 1, (1, 0), []),
  (.iadd, 1, (0, 0), []),
  (.putfield 235, 3, (0, 0), [[19, 5131, 0, 0], [12]]),
  (.goto (-46), 3, (0, 0), [[86]])]
def qX12_token_135 : List mO := [(.return_, 1, (0, 0), [])]
def pX12_token : List (Nat × List mO) := [(0, qX12_token_0), (8, qX12_token_8), (16, qX12_token_16), (34, qX12_token_34), (42, qX12_token_42), (45, qX12_token_45), (54, qX12_token_54), (57, qX12_token_57), (79, qX12_token_79), (83, qX12_token_83), (86, qX12_token_86), (98, qX12_token_98), (101, qX12_token_101), (104, qX12_token_104), (116, qX12_token_116), (119, qX12_token_119), (122, qX12_token_122), (135, qX12_token_135)]
def qX12_needs_0 : List mO := [(.aload_n 0, 1, (0, 0), []),
  (.aload_n 0, 1, (0, 0), []),
  (.getfield 250, 3, (0, 0), [[23, 5135, 0, 0], [12]]),
  (.ifCond .ne 7, 3, (0, 0), [[12]]),
  (.iload_n 1, 1, (0, 0), []),
  (.ifCond .ne 7, 3, (0, 0), [[16]])]
def qX12_needs_12 : List mO := [(.iconst 1, 1, (1, 0), []),
  (.goto 4, 3, (0, 0), [[17]])]
def qX12_needs_16 : List mO := [(.iconst 0, 1, (0, 0), [])]
def qX12_needs_17 : List mO := [(.putfield 250, 3, (0, 0), [[23, 5135, 0, 0], [12]]),
  (.aload_n 0, 1, (0, 0), []),
  (.getfield 250, 3, (0, 0), [[23, 5135, 0, 0], [12]]),
  (.ifCond .ne 7, 3, (0, 0), [[31]]),
  (.aload_n 0, 1, (0, 0), []),
  (.invokevirtual 253, 3, (0, 0), [[0, 7036, 0], [12, 230, 64, 7038]])]
def qX12_needs_31 : List mO := [(.return_, 1, (0, 0), [])]
def pX12_needs : List (Nat × List mO) := [(0, qX12_needs_0), (12, qX12_needs_12), (16, qX12_needs_16), (17, qX12_needs_17), (31, qX12_needs_31)]
def qX12_word_0 : List mO := [(.lconst 0, 1, (0, 0), []),
  (.lstore_n 1, 1, (0, 0), []),
  (.aload_n 0, 1, (0, 0), []),
  (.getfield 238, 3, (0, 0), [[18, 5130, 0, 0], [12]]),
  (.istore_n 3, 1, (0, 0), [])]
def qX12_word_7 : List mO := [(.iload_n 3, 1, (0, 0), []),
  (.aload_n 0, 1, (0, 0), []),
  (.getfield 235, 3, (0, 0), [[19, 5131, 0, 0], [12]]),
  (.if_icmp .ge 38, 3, (0, 0), [[50]]),
  (.lload_n 1, 1, (0, 0), []),
  (.ldc2_w 256, 3, (0, 36028797018963967), [[7066]]),
  (.lcmp, 1, (0, 0), []),
  (.ifCond .le 7, 3, (0, 0), [[27]]),
  (.lload_n 1, 1, (0, 0), []),
  (.goto 19, 3, (0, 0), [[43]])]
def qX12_word_27 : List mO := [(.ldc2_w 258, 3, (0, 32), [[7067]]),
  (.lload_n 1, 1, (0, 0), []),
  (.lmul, 1, (0, 0), []),
  (.aload_n 0, 1, (0, 0), []),
  (.getfield 34, 3, (0, 0), [[16, 5128, 0, 1], [12]]),
  (.iload_n 3, 1, (0, 0), []),
  (.iaload, 1, (0, 0), []),
  (.bipush 96, 2, (96, 0), []),
  (.isub, 1, (0, 0), []),
  (.i2l, 1, (0, 0), []),
  (.ladd, 1, (0, 0), [])]
def qX12_word_43 : List mO := [(.lstore_n 1, 1, (0, 0), []),
  (.iinc 3 1, 3, (1, 0), []),
  (.goto (-40), 3, (0, 0), [[7]])]
def qX12_word_50 : List mO := [(.aload_n 0, 1, (0, 0), []),
  (.getfield 250, 3, (0, 0), [[23, 5135, 0, 0], [12]]),
  (.ifCond .ne 17, 3, (0, 0), [[71]]),
  (.aload_n 0, 1, (0, 0), []),
  (.aload_n 0, 1, (0, 0), []),
  (.getfield 238, 3, (0, 0), [[18, 5130, 0, 0], [12]]),
  (.invokevirtual 241, 3, (0, 0), [[1, 7040, 0], [12, 227, 65, 7042]])]
def qX12_word_65 : List mO := [(.invokestatic 244, 3, (0, 0), [[1, 228, 7044, 7045, 0]])]
def qX12_word_68 : List mO := [(.ifCond .ne 7, 3, (0, 0), [[75]])]
def qX12_word_71 : List mO := [(.lconst 0, 1, (0, 0), []),
  (.goto 4, 3, (0, 0), [[76]])]
def qX12_word_75 : List mO := [(.lload_n 1, 1, (0, 0), [])]
def qX12_word_76 : List mO := [(.lreturn, 1, (0, 0), [])]
def pX12_word : List (Nat × List mO) := [(0, qX12_word_0), (7, qX12_word_7), (27, qX12_word_27), (43, qX12_word_43), (50, qX12_word_50), (65, qX12_word_65), (68, qX12_word_68), (71, qX12_word_71), (75, qX12_word_75), (76, qX12_word_76)]
def qX12_number_0 : List mO := [(.aload_n 0, 1, (0, 0), []),
  (.aload_n 0, 1, (0, 0), []),
  (.getfield 238, 3, (0, 0), [[18, 5130, 0, 0], [12]]),
  (.invokevirtual 241, 3, (0, 0), [[1, 7040, 0], [12, 227, 65, 7042]])]
def qX12_number_8 : List mO := [(.invokestatic 247, 3, (0, 0), [[1, 229, 7049, 7050, 0]])]
def qX12_number_11 : List mO := [(.ifCond .eq 20, 3, (0, 0), [[31]]),
  (.aload_n 0, 1, (0, 0), []),
  (.getfield 235, 3, (0, 0), [[19, 5131, 0, 0], [12]]),
  (.aload_n 0, 1, (0, 0), []),
  (.getfield 238, 3, (0, 0), [[18, 5130, 0, 0], [12]]),
  (.isub, 1, (0, 0), []),
  (.iconst 5, 1, (5, 0), []),
  (.if_icmp .ge 7, 3, (0, 0), [[31]]),
  (.iconst 1, 1, (1, 0), []),
  (.goto 4, 3, (0, 0), [[32]])]
def qX12_number_31 : List mO := [(.iconst 0, 1, (0, 0), [])]
def qX12_number_32 : List mO := [(.istore_n 2, 1, (0, 0), []),
  (.aload_n 0, 1, (0, 0), []),
  (.iconst 0, 1, (0, 0), []),
  (.putfield 260, 3, (0, 0), [[20, 5132, 0, 0], [12]]),
  (.aload_n 0, 1, (0, 0), []),
  (.getfield 238, 3, (0, 0), [[18, 5130, 0, 0], [12]]),
  (.istore_n 3, 1, (0, 0), [])]
def qX12_number_43 : List mO := [(.iload_n 3, 1, (0, 0), []),
  (.aload_n 0, 1, (0, 0), []),
  (.getfield 235, 3, (0, 0), [[19, 5131, 0, 0], [12]]),
  (.if_icmp .ge 34, 3, (0, 0), [[82]]),
  (.iload_n 2, 1, (0, 0), []),
  (.ifCond .eq 30, 3, (0, 0), [[82]]),
  (.aload_n 0, 1, (0, 0), []),
  (.bipush 10, 2, (10, 0), []),
  (.aload_n 0, 1, (0, 0), []),
  (.getfield 260, 3, (0, 0), [[20, 5132, 0, 0], [12]]),
  (.imul, 1, (0, 0), []),
  (.aload_n 0, 1, (0, 0), []),
  (.getfield 34, 3, (0, 0), [[16, 5128, 0, 1], [12]]),
  (.iload_n 3, 1, (0, 0), []),
  (.iaload, 1, (0, 0), []),
  (.iadd, 1, (0, 0), []),
  (.bipush 48, 2, (48, 0), []),
  (.isub, 1, (0, 0), []),
  (.putfield 260, 3, (0, 0), [[20, 5132, 0, 0], [12]]),
  (.iinc 3 1, 3, (1, 0), []),
  (.goto (-36), 3, (0, 0), [[43]])]
def qX12_number_82 : List mO := [(.aload_n 0, 1, (0, 0), []),
  (.iload_n 2, 1, (0, 0), []),
  (.ifCond .eq 15, 3, (0, 0), [[99]]),
  (.aload_n 0, 1, (0, 0), []),
  (.getfield 260, 3, (0, 0), [[20, 5132, 0, 0], [12]]),
  (.iload_n 1, 1, (0, 0), []),
  (.if_icmp .gt 7, 3, (0, 0), [[99]]),
  (.iconst 1, 1, (1, 0), []),
  (.goto 4, 3, (0, 0), [[100]])]
def qX12_number_99 : List mO := [(.iconst 0, 1, (0, 0), [])]
def qX12_number_100 : List mO := [(.invokevirtual 263, 3, (0, 0), [[1, 7074, 0], [12, 231, 69, 7076]])]
def qX12_number_103 : List mO := [(.return_, 1, (0, 0), [])]
def pX12_number : List (Nat × List mO) := [(0, qX12_number_0), (8, qX12_number_8), (11, qX12_number_11), (31, qX12_number_31), (32, qX12_number_32), (43, qX12_number_43), (82, qX12_number_82), (99, qX12_number_99), (100, qX12_number_100), (103, qX12_number_103)]
def qX12_kindHere_0 : List mO := [(.aload_n 0, 1, (0, 0), []),
  (.invokevirtual 267, 3, (0, 0), [[0, 7062, 0], [12, 232, 68, 7064]])]
def qX12_kindHere_4 : List mO := [(.lstore_n 1, 1, (0, 0), []),
  (.lload_n 1, 1, (0, 0), []),
  (.ldc2_w 271, 3, (0, 792022234158), [[7068]]),
  (.lcmp, 1, (0, 0), []),
  (.ifCond .ne 7, 3, (0, 0), [[17]]),
  (.iconst 0, 1, (0, 0), []),
  (.goto 64, 3, (0, 0), [[78]])]
def qX12_kindHere_17 : List mO := [(.lload_n 1, 1, (0, 0), []),
  (.ldc2_w 273, 3, (0, 17171758), [[7069]]),
  (.lcmp, 1, (0, 0), []),
  (.ifCond .ne 7, 3, (0, 0), [[29]]),
  (.iconst 1, 1, (1, 0), []),
  (.goto 52, 3, (0, 0), [[78]])]
def qX12_kindHere_29 : List mO := [(.lload_n 1, 1, (0, 0), []),
  (.ldc2_w 275, 3, (0, 17383076), [[7070]]),
  (.lcmp, 1, (0, 0), []),
  (.ifCond .ne 7, 3, (0, 0), [[41]]),
  (.iconst 2, 1, (2, 0), []),
  (.goto 40, 3, (0, 0), [[78]])]
def qX12_kindHere_41 : List mO := [(.lload_n 1, 1, (0, 0), []),
  (.ldc2_w 277, 3, (0, 4806091), [[7071]]),
  (.lcmp, 1, (0, 0), []),
  (.ifCond .ne 7, 3, (0, 0), [[53]]),
  (.iconst 3, 1, (3, 0), []),
  (.goto 28, 3, (0, 0), [[78]])]
def qX12_kindHere_53 : List mO := [(.lload_n 1, 1, (0, 0), []),
  (.ldc2_w 279, 3, (0, 441913522), [[7072]]),
  (.lcmp, 1, (0, 0), []),
  (.ifCond .ne 7, 3, (0, 0), [[65]]),
  (.iconst 4, 1, (4, 0), []),
  (.goto 16, 3, (0, 0), [[78]])]
def qX12_kindHere_65 : List mO := [(.lload_n 1, 1, (0, 0), []),
  (.ldc2_w 281, 3, (0, 20809171122), [[7073]]),
  (.lcmp, 1, (0, 0), []),
  (.ifCond .ne 7, 3, (0, 0), [[77]]),
  (.iconst 5, 1, (5, 0), []),
  (.goto 4, 3, (0, 0), [[78]])]
def qX12_kindHere_77 : List mO := [(.iconst (-1), 1, ((-1), 0), [])]
def qX12_kindHere_78 : List mO := [(.ireturn, 1, (0, 0), [])]
def pX12_kindHere : List (Nat × List mO) := [(0, qX12_kindHere_0), (4, qX12_kindHere_4), (17, qX12_kindHere_17), (29, qX12_kindHere_29), (41, qX12_kindHere_41), (53, qX12_kindHere_53), (65, qX12_kindHere_65), (77, qX12_kindHere_77), (78, qX12_kindHere_78)]
def qX12_factHere_0 : List mO := [(.aload_n 0, 1, (0, 0), []),
  (.invokevirtual 267, 3, (0, 0), [[0, 7062, 0], [12, 232, 68, 7064]])]
def qX12_factHere_4 : List mO := [(.lstore_n 1, 1, (0, 0), []),
  (.lload_n 1, 1, (0, 0), []),
  (.ldc2_w 283, 3, (0, 4153), [[7104]]),
  (.lcmp, 1, (0, 0), []),
  (.ifCond .ne 7, 3, (0, 0), [[17]]),
  (.iconst (-1), 1, ((-1), 0), []),
  (.goto 69, 3, (0, 0), [[83]])]
def qX12_factHere_17 : List mO := [(.lload_n 1, 1, (0, 0), []),
  (.ldc2_w 285, 3, (0, 763332), [[7105]]),
  (.lcmp, 1, (0, 0), []),
  (.ifCond .ne 8, 3, (0, 0), [[30]]),
  (.bipush (-2), 2, ((-2), 0), []),
  (.goto 56, 3, (0, 0), [[83]])]
def qX12_factHere_30 : List mO := [(.lload_n 1, 1, (0, 0), []),
  (.ldc2_w 287, 3, (0, 1156), [[7106]]),
  (.lcmp, 1, (0, 0), []),
  (.ifCond .ne 8, 3, (0, 0), [[43]]),
  (.bipush (-3), 2, ((-3), 0), []),
  (.goto 43, 3, (0, 0), [[83]])]
def qX12_factHere_43 : List mO := [(.lload_n 1, 1, (0, 0), []),
  (.ldc2_w 289, 3, (0, 4370489), [[7107]]),
  (.lcmp, 1, (0, 0), []),
  (.ifCond .ne 8, 3, (0, 0), [[56]]),
  (.bipush (-4), 2, ((-4), 0), []),
  (.goto 30, 3, (0, 0), [[83]])]
def qX12_factHere_56 : List mO := [(.lload_n 1, 1, (0, 0), []),
  (.ldc2_w 291, 3, (0, 13938867), [[7108]]),
  (.lcmp, 1, (0, 0), []),
  (.ifCond .ne 8, 3, (0, 0), [[69]]),
  (.bipush (-5), 2, ((-5), 0), []),
  (.goto 17, 3, (0, 0), [[83]])]
def qX12_factHere_69 : List mO := [(.lload_n 1, 1, (0, 0), []),
  (.ldc2_w 293, 3, (0, 492210354), [[7109]]),
  (.lcmp, 1, (0, 0), []),
  (.ifCond .ne 8, 3, (0, 0), [[82]]),
  (.bipush (-6), 2, ((-6), 0), []),
  (.goto 4, 3, (0, 0), [[83]])]
def qX12_factHere_82 : List mO := [(.iconst 0, 1, (0, 0), [])]
def qX12_factHere_83 : List mO := [(.ireturn, 1, (0, 0), [])]
def pX12_factHere : List (Nat × List mO) := [(0, qX12_factHere_0), (4, qX12_factHere_4), (17, qX12_factHere_17), (30, qX12_factHere_30), (43, qX12_factHere_43), (56, qX12_factHere_56), (69, qX12_factHere_69), (82, qX12_factHere_82), (83, qX12_factHere_83)]
def qX12_writes_0 : List mO := [(.aload_n 0, 1, (0, 0), []),
  (.getfield 250, 3, (0, 0), [[23, 5135, 0, 0], [12]]),
  (.ifCond .ne 26, 3, (0, 0), [[30]]),
  (.aload_n 0, 1, (0, 0), []),
  (.getfield 7, 3, (0, 0), [[0, 5112, 0, 1], [12]]),
  (.bipush 110, 2, (110, 0), []),
  (.aload_n 0, 1, (0, 0), []),
  (.getfield 295, 3, (0, 0), [[22, 5134, 0, 0], [12]]),
  (.iadd, 1, (0, 0), []),
  (.iload_n 1, 1, (0, 0), []),
  (.iastore, 1, (0, 0), []),
  (.aload_n 0, 1, (0, 0), []),
  (.dup, 1, (0, 0), []),
  (.getfield 295, 3, (0, 0), [[22, 5134, 0, 0], [12]]),
  (.iconst 1, 1, (1, 0), []),
  (.iadd, 1, (0, 0), []),
  (.putfield 295, 3, (0, 0), [[22, 5134, 0, 0], [12]])]
def qX12_writes_30 : List mO := [(.return_, 1, (0, 0), [])]
def pX12_writes : List (Nat × List mO) := [(0, qX12_writes_0), (30, qX12_writes_30)]
def qX12_valueHere_0 : List mO := [(.aload_n 0, 1, (0, 0), []),
  (.invokevirtual 298, 3, (0, 0), [[0, 7100, 0], [12, 235, 75, 7102]])]
def qX12_valueHere_4 : List mO := [(.istore_n 1, 1, (0, 0), []),
  (.iload_n 1, 1, (0, 0), []),
  (.ifCond .ge 16, 3, (0, 0), [[22]]),
  (.aload_n 0, 1, (0, 0), []),
  (.iconst 1, 1, (1, 0), []),
  (.invokevirtual 263, 3, (0, 0), [[1, 7074, 0], [12, 231, 69, 7076]])]
def qX12_valueHere_14 : List mO := [(.aload_n 0, 1, (0, 0), []),
  (.iload_n 1, 1, (0, 0), []),
  (.invokevirtual 301, 3, (0, 0), [[1, 7110, 0], [12, 236, 76, 7112]])]
def qX12_valueHere_19 : List mO := [(.goto 25, 3, (0, 0), [[44]])]
def qX12_valueHere_22 : List mO := [(.aload_n 0, 1, (0, 0), []),
  (.getfield 250, 3, (0, 0), [[23, 5135, 0, 0], [12]]),
  (.ifCond .ne 18, 3, (0, 0), [[44]]),
  (.aload_n 0, 1, (0, 0), []),
  (.sipush 9999, 3, (9999, 0), []),
  (.invokevirtual 304, 3, (0, 0), [[1, 7114, 0], [12, 233, 77, 7116]])]
def qX12_valueHere_36 : List mO := [(.aload_n 0, 1, (0, 0), []),
  (.aload_n 0, 1, (0, 0), []),
  (.getfield 260, 3, (0, 0), [[20, 5132, 0, 0], [12]]),
  (.invokevirtual 301, 3, (0, 0), [[1, 7110, 0], [12, 236, 76, 7112]])]
def qX12_valueHere_44 : List mO := [(.return_, 1, (0, 0), [])]
def pX12_valueHere : List (Nat × List mO) := [(0, qX12_valueHere_0), (4, qX12_valueHere_4), (14, qX12_valueHere_14), (19, qX12_valueHere_19), (22, qX12_valueHere_22), (36, qX12_valueHere_36), (44, qX12_valueHere_44)]
def qX12_comparison_0 : List mO := [(.aload_n 0, 1, (0, 0), []),
  (.invokevirtual 307, 3, (0, 0), [[0, 7096, 0], [12, 237, 74, 7098]])]
def qX12_comparison_4 : List mO := [(.aload_n 0, 1, (0, 0), []),
  (.getfield 250, 3, (0, 0), [[23, 5135, 0, 0], [12]]),
  (.ifCond .eq 7, 3, (0, 0), [[15]]),
  (.iconst (-1), 1, ((-1), 0), []),
  (.goto 11, 3, (0, 0), [[23]])]
def qX12_comparison_15 : List mO := [(.aload_n 0, 1, (0, 0), []),
  (.aload_n 0, 1, (0, 0), []),
  (.getfield 238, 3, (0, 0), [[18, 5130, 0, 0], [12]]),
  (.invokevirtual 241, 3, (0, 0), [[1, 7040, 0], [12, 227, 65, 7042]])]
def qX12_comparison_23 : List mO := [(.istore_n 1, 1, (0, 0), []),
  (.aload_n 0, 1, (0, 0), []),
  (.iload_n 1, 1, (0, 0), []),
  (.bipush 60, 2, (60, 0), []),
  (.if_icmp .eq 15, 3, (0, 0), [[43]]),
  (.iload_n 1, 1, (0, 0), []),
  (.bipush 61, 2, (61, 0), []),
  (.if_icmp .eq 9, 3, (0, 0), [[43]]),
  (.iload_n 1, 1, (0, 0), []),
  (.bipush 62, 2, (62, 0), []),
  (.if_icmp .ne 7, 3, (0, 0), [[47]])]
def qX12_comparison_43 : List mO := [(.iconst 1, 1, (1, 0), []),
  (.goto 4, 3, (0, 0), [[48]])]
def qX12_comparison_47 : List mO := [(.iconst 0, 1, (0, 0), [])]
def qX12_comparison_48 : List mO := [(.invokevirtual 263, 3, (0, 0), [[1, 7074, 0], [12, 231, 69, 7076]])]
def qX12_comparison_51 : List mO := [(.aload_n 0, 1, (0, 0), []),
  (.invokevirtual 307, 3, (0, 0), [[0, 7096, 0], [12, 237, 74, 7098]])]
def qX12_comparison_55 : List mO := [(.aload_n 0, 1, (0, 0), []),
  (.iload_n 1, 1, (0, 0), []),
  (.bipush 60, 2, (60, 0), []),
  (.if_icmp .ne 8, 3, (0, 0), [[67]]),
  (.bipush (-11), 2, ((-11), 0), []),
  (.goto 16, 3, (0, 0), [[80]])]
def qX12_comparison_67 : List mO := [(.iload_n 1, 1, (0, 0), []),
  (.bipush 61, 2, (61, 0), []),
  (.if_icmp .ne 8, 3, (0, 0), [[78]]),
  (.bipush (-12), 2, ((-12), 0), []),
  (.goto 5, 3, (0, 0), [[80]])]
def qX12_comparison_78 : List mO := [(.bipush (-13), 2, ((-13), 0), [])]
def qX12_comparison_80 : List mO := [(.invokevirtual 301, 3, (0, 0), [[1, 7110, 0], [12, 236, 76, 7112]])]
def qX12_comparison_83 : List mO := [(.return_, 1, (0, 0), [])]
def pX12_comparison : List (Nat × List mO) := [(0, qX12_comparison_0), (4, qX12_comparison_4), (15, qX12_comparison_15), (23, qX12_comparison_23), (43, qX12_comparison_43), (47, qX12_comparison_47), (48, qX12_comparison_48), (51, qX12_comparison_51), (55, qX12_comparison_55), (67, qX12_comparison_67), (78, qX12_comparison_78), (80, qX12_comparison_80), (83, qX12_comparison_83)]
def qX12_one_0 : List mO := [(.iconst 0, 1, (0, 0), []),
  (.istore_n 1, 1, (0, 0), [])]
def qX12_one_2 : List mO := [(.aload_n 0, 1, (0, 0), []),
  (.invokevirtual 267, 3, (0, 0), [[0, 7062, 0], [12, 232, 68, 7064]])]
def qX12_one_6 : List mO := [(.ldc2_w 310, 3, (0, 14836), [[7091]]),
  (.lcmp, 1, (0, 0), []),
  (.ifCond .ne 21, 3, (0, 0), [[31]]),
  (.iload_n 1, 1, (0, 0), []),
  (.ifCond .ne 7, 3, (0, 0), [[21]]),
  (.iconst 1, 1, (1, 0), []),
  (.goto 4, 3, (0, 0), [[22]])]
def qX12_one_21 : List mO := [(.iconst 0, 1, (0, 0), [])]
def qX12_one_22 : List mO := [(.istore_n 1, 1, (0, 0), []),
  (.aload_n 0, 1, (0, 0), []),
  (.iconst 1, 1, (1, 0), []),
  (.invokevirtual 263, 3, (0, 0), [[1, 7074, 0], [12, 231, 69, 7076]])]
def qX12_one_28 : List mO := [(.goto (-26), 3, (0, 0), [[2]])]
def qX12_one_31 : List mO := [(.aload_n 0, 1, (0, 0), []),
  (.getfield 250, 3, (0, 0), [[23, 5135, 0, 0], [12]]),
  (.ifCond .ne 89, 3, (0, 0), [[124]]),
  (.aload_n 0, 1, (0, 0), []),
  (.aload_n 0, 1, (0, 0), []),
  (.getfield 238, 3, (0, 0), [[18, 5130, 0, 0], [12]]),
  (.invokevirtual 241, 3, (0, 0), [[1, 7040, 0], [12, 227, 65, 7042]])]
def qX12_one_46 : List mO := [(.bipush 40, 2, (40, 0), []),
  (.if_icmp .ne 76, 3, (0, 0), [[124]]),
  (.aload_n 0, 1, (0, 0), []),
  (.aload_n 0, 1, (0, 0), []),
  (.getfield 312, 3, (0, 0), [[21, 5133, 0, 0], [12]]),
  (.iconst 3, 1, (3, 0), []),
  (.if_icmp .ge 7, 3, (0, 0), [[64]]),
  (.iconst 1, 1, (1, 0), []),
  (.goto 4, 3, (0, 0), [[65]])]
def qX12_one_64 : List mO := [(.iconst 0, 1, (0, 0), [])]
def qX12_one_65 : List mO := [(.invokevirtual 263, 3, (0, 0), [[1, 7074, 0], [12, 231, 69, 7076]])]
def qX12_one_68 : List mO := [(.aload_n 0, 1, (0, 0), []),
  (.dup, 1, (0, 0), []),
  (.getfield 312, 3, (0, 0), [[21, 5133, 0, 0], [12]]),
  (.iconst 1, 1, (1, 0), []),
  (.iadd, 1, (0, 0), []),
  (.putfield 312, 3, (0, 0), [[21, 5133, 0, 0], [12]]),
  (.aload_n 0, 1, (0, 0), []),
  (.invokevirtual 315, 3, (0, 0), [[0, 7079, 0], [12, 241, 70, 7081]])]
def qX12_one_82 : List mO := [(.aload_n 0, 1, (0, 0), []),
  (.dup, 1, (0, 0), []),
  (.getfield 312, 3, (0, 0), [[21, 5133, 0, 0], [12]]),
  (.iconst 1, 1, (1, 0), []),
  (.isub, 1, (0, 0), []),
  (.putfield 312, 3, (0, 0), [[21, 5133, 0, 0], [12]]),
  (.aload_n 0, 1, (0, 0), []),
  (.aload_n 0, 1, (0, 0), []),
  (.getfield 250, 3, (0, 0), [[23, 5135, 0, 0], [12]]),
  (.ifCond .ne 20, 3, (0, 0), [[117]]),
  (.aload_n 0, 1, (0, 0), []),
  (.aload_n 0, 1, (0, 0), []),
  (.getfield 238, 3, (0, 0), [[18, 5130, 0, 0], [12]]),
  (.invokevirtual 241, 3, (0, 0), [[1, 7040, 0], [12, 227, 65, 7042]])]
def qX12_one_108 : List mO := [(.bipush 41, 2, (41, 0), []),
  (.if_icmp .ne 7, 3, (0, 0), [[117]]),
  (.iconst 1, 1, (1, 0), []),
  (.goto 4, 3, (0, 0), [[118]])]
def qX12_one_117 : List mO := [(.iconst 0, 1, (0, 0), [])]
def qX12_one_118 : List mO := [(.invokevirtual 263, 3, (0, 0), [[1, 7074, 0], [12, 231, 69, 7076]])]
def qX12_one_121 : List mO := [(.goto 7, 3, (0, 0), [[128]])]
def qX12_one_124 : List mO := [(.aload_n 0, 1, (0, 0), []),
  (.invokevirtual 318, 3, (0, 0), [[0, 7092, 0], [12, 238, 73, 7094]])]
def qX12_one_128 : List mO := [(.iload_n 1, 1, (0, 0), []),
  (.ifCond .eq 9, 3, (0, 0), [[138]]),
  (.aload_n 0, 1, (0, 0), []),
  (.bipush (-20), 2, ((-20), 0), []),
  (.invokevirtual 301, 3, (0, 0), [[1, 7110, 0], [12, 236, 76, 7112]])]
def qX12_one_138 : List mO := [(.return_, 1, (0, 0), [])]
def pX12_one : List (Nat × List mO) := [(0, qX12_one_0), (2, qX12_one_2), (6, qX12_one_6), (21, qX12_one_21), (22, qX12_one_22), (28, qX12_one_28), (31, qX12_one_31), (46, qX12_one_46), (64, qX12_one_64), (65, qX12_one_65), (68, qX12_one_68), (82, qX12_one_82), (108, qX12_one_108), (117, qX12_one_117), (118, qX12_one_118), (121, qX12_one_121), (124, qX12_one_124), (128, qX12_one_128), (138, qX12_one_138)]
def qX12_all_0 : List mO := [(.aload_n 0, 1, (0, 0), []),
  (.invokevirtual 321, 3, (0, 0), [[0, 7087, 0], [12, 239, 72, 7089]])]
def qX12_all_4 : List mO := [(.aload_n 0, 1, (0, 0), []),
  (.invokevirtual 267, 3, (0, 0), [[0, 7062, 0], [12, 232, 68, 7064]])]
def qX12_all_8 : List mO := [(.ldc2_w 324, 3, (0, 1476), [[7118]]),
  (.lcmp, 1, (0, 0), []),
  (.ifCond .ne 21, 3, (0, 0), [[33]]),
  (.aload_n 0, 1, (0, 0), []),
  (.iconst 1, 1, (1, 0), []),
  (.invokevirtual 263, 3, (0, 0), [[1, 7074, 0], [12, 231, 69, 7076]])]
def qX12_all_20 : List mO := [(.aload_n 0, 1, (0, 0), []),
  (.invokevirtual 321, 3, (0, 0), [[0, 7087, 0], [12, 239, 72, 7089]])]
def qX12_all_24 : List mO := [(.aload_n 0, 1, (0, 0), []),
  (.bipush (-21), 2, ((-21), 0), []),
  (.invokevirtual 301, 3, (0, 0), [[1, 7110, 0], [12, 236, 76, 7112]])]
def qX12_all_30 : List mO := [(.goto (-26), 3, (0, 0), [[4]])]
def qX12_all_33 : List mO := [(.return_, 1, (0, 0), [])]
def pX12_all : List (Nat × List mO) := [(0, qX12_all_0), (4, qX12_all_4), (8, qX12_all_8), (20, qX12_all_20), (24, qX12_all_24), (30, qX12_all_30), (33, qX12_all_33)]
def qX12_condition_0 : List mO := [(.aload_n 0, 1, (0, 0), []),
  (.getfield 250, 3, (0, 0), [[23, 5135, 0, 0], [12]]),
  (.ifCond .eq 4, 3, (0, 0), [[8]]),
  (.return_, 1, (0, 0), [])]
def qX12_condition_8 : List mO := [(.aload_n 0, 1, (0, 0), []),
  (.invokevirtual 326, 3, (0, 0), [[0, 7083, 0], [12, 240, 71, 7085]])]
def qX12_condition_12 : List mO := [(.aload_n 0, 1, (0, 0), []),
  (.invokevirtual 267, 3, (0, 0), [[0, 7062, 0], [12, 232, 68, 7064]])]
def qX12_condition_16 : List mO := [(.ldc2_w 329, 3, (0, 498), [[7119]]),
  (.lcmp, 1, (0, 0), []),
  (.ifCond .ne 21, 3, (0, 0), [[41]]),
  (.aload_n 0, 1, (0, 0), []),
  (.iconst 1, 1, (1, 0), []),
  (.invokevirtual 263, 3, (0, 0), [[1, 7074, 0], [12, 231, 69, 7076]])]
def qX12_condition_28 : List mO := [(.aload_n 0, 1, (0, 0), []),
  (.invokevirtual 326, 3, (0, 0), [[0, 7083, 0], [12, 240, 71, 7085]])]
def qX12_condition_32 : List mO := [(.aload_n 0, 1, (0, 0), []),
  (.bipush (-22), 2, ((-22), 0), []),
  (.invokevirtual 301, 3, (0, 0), [[1, 7110, 0], [12, 236, 76, 7112]])]
def qX12_condition_38 : List mO := [(.goto (-26), 3, (0, 0), [[12]])]
def qX12_condition_41 : List mO := [(.return_, 1, (0, 0), [])]
def pX12_condition : List (Nat × List mO) := [(0, qX12_condition_0), (8, qX12_condition_8), (12, qX12_condition_12), (16, qX12_condition_16), (28, qX12_condition_28), (32, qX12_condition_32), (38, qX12_condition_38), (41, qX12_condition_41)]
def qX12_rule_0 : List mO := [(.aload_n 0, 1, (0, 0), []),
  (.invokevirtual 331, 3, (0, 0), [[0, 7058, 0], [12, 234, 67, 7060]])]
def qX12_rule_4 : List mO := [(.istore_n 1, 1, (0, 0), []),
  (.aload_n 0, 1, (0, 0), []),
  (.iload_n 1, 1, (0, 0), []),
  (.ifCond .lt 18, 3, (0, 0), [[25]]),
  (.aload_n 0, 1, (0, 0), []),
  (.getfield 7, 3, (0, 0), [[0, 5112, 0, 1], [12]]),
  (.iconst 4, 1, (4, 0), []),
  (.iaload, 1, (0, 0), []),
  (.bipush 8, 2, (8, 0), []),
  (.if_icmp .ge 7, 3, (0, 0), [[25]]),
  (.iconst 1, 1, (1, 0), []),
  (.goto 4, 3, (0, 0), [[26]])]
def qX12_rule_25 : List mO := [(.iconst 0, 1, (0, 0), [])]
def qX12_rule_26 : List mO := [(.invokevirtual 263, 3, (0, 0), [[1, 7074, 0], [12, 231, 69, 7076]])]
def qX12_rule_29 : List mO := [(.aload_n 0, 1, (0, 0), []),
  (.invokevirtual 267, 3, (0, 0), [[0, 7062, 0], [12, 232, 68, 7064]])]
def qX12_rule_33 : List mO := [(.ldc2_w 334, 3, (0, 294), [[7078]]),
  (.lcmp, 1, (0, 0), []),
  (.ifCond .ne 12, 3, (0, 0), [[49]]),
  (.aload_n 0, 1, (0, 0), []),
  (.iconst 1, 1, (1, 0), []),
  (.invokevirtual 263, 3, (0, 0), [[1, 7074, 0], [12, 231, 69, 7076]])]
def qX12_rule_45 : List mO := [(.aload_n 0, 1, (0, 0), []),
  (.invokevirtual 315, 3, (0, 0), [[0, 7079, 0], [12, 241, 70, 7081]])]
def qX12_rule_49 : List mO := [(.aload_n 0, 1, (0, 0), []),
  (.invokevirtual 267, 3, (0, 0), [[0, 7062, 0], [12, 232, 68, 7064]])]
def qX12_rule_53 : List mO := [(.lstore_n 2, 1, (0, 0), []),
  (.lload_n 2, 1, (0, 0), []),
  (.ldc2_w 287, 3, (0, 1156), [[7106]]),
  (.lcmp, 1, (0, 0), []),
  (.ifCond .ne 7, 3, (0, 0), [[66]]),
  (.iconst 0, 1, (0, 0), []),
  (.goto 40, 3, (0, 0), [[103]])]
def qX12_rule_66 : List mO := [(.lload_n 2, 1, (0, 0), []),
  (.ldc2_w 336, 3, (0, 441925), [[7120]]),
  (.lcmp, 1, (0, 0), []),
  (.ifCond .ne 7, 3, (0, 0), [[78]]),
  (.iconst 1, 1, (1, 0), []),
  (.goto 28, 3, (0, 0), [[103]])]
def qX12_rule_78 : List mO := [(.lload_n 2, 1, (0, 0), []),
  (.ldc2_w 338, 3, (0, 435589), [[7121]]),
  (.lcmp, 1, (0, 0), []),
  (.ifCond .ne 7, 3, (0, 0), [[90]]),
  (.iconst 2, 1, (2, 0), []),
  (.goto 16, 3, (0, 0), [[103]])]
def qX12_rule_90 : List mO := [(.lload_n 2, 1, (0, 0), []),
  (.ldc2_w 340, 3, (0, 647370196), [[7122]]),
  (.lcmp, 1, (0, 0), []),
  (.ifCond .ne 7, 3, (0, 0), [[102]]),
  (.iconst 3, 1, (3, 0), []),
  (.goto 4, 3, (0, 0), [[103]])]
def qX12_rule_102 : List mO := [(.iconst (-1), 1, ((-1), 0), [])]
def qX12_rule_103 : List mO := [(.istore 4, 2, (0, 0), []),
  (.aload_n 0, 1, (0, 0), []),
  (.iload 4, 2, (0, 0), []),
  (.ifCond .lt 7, 3, (0, 0), [[115]]),
  (.iconst 1, 1, (1, 0), []),
  (.goto 4, 3, (0, 0), [[116]])]
def qX12_rule_115 : List mO := [(.iconst 0, 1, (0, 0), [])]
def qX12_rule_116 : List mO := [(.invokevirtual 263, 3, (0, 0), [[1, 7074, 0], [12, 231, 69, 7076]])]
def qX12_rule_119 : List mO := [(.aload_n 0, 1, (0, 0), []),
  (.iconst 0, 1, (0, 0), []),
  (.putfield 260, 3, (0, 0), [[20, 5132, 0, 0], [12]]),
  (.iload 4, 2, (0, 0), []),
  (.ifCond .lt 33, 3, (0, 0), [[159]]),
  (.iload 4, 2, (0, 0), []),
  (.iconst 3, 1, (3, 0), []),
  (.if_icmp .eq 27, 3, (0, 0), [[159]]),
  (.aload_n 0, 1, (0, 0), []),
  (.getfield 250, 3, (0, 0), [[23, 5135, 0, 0], [12]]),
  (.ifCond .ne 20, 3, (0, 0), [[159]]),
  (.aload_n 0, 1, (0, 0), []),
  (.iload 4, 2, (0, 0), []),
  (.iconst 2, 1, (2, 0), []),
  (.if_icmp .ne 8, 3, (0, 0), [[154]]),
  (.bipush 9, 2, (9, 0), []),
  (.goto 5, 3, (0, 0), [[156]])]
def qX12_rule_154 : List mO := [(.bipush 99, 2, (99, 0), [])]
def qX12_rule_156 : List mO := [(.invokevirtual 304, 3, (0, 0), [[1, 7114, 0], [12, 233, 77, 7116]])]
def qX12_rule_159 : List mO := [(.aload_n 0, 1, (0, 0), []),
  (.getfield 260, 3, (0, 0), [[20, 5132, 0, 0], [12]]),
  (.istore 5, 2, (0, 0), []),
  (.aload_n 0, 1, (0, 0), []),
  (.aload_n 0, 1, (0, 0), []),
  (.getfield 250, 3, (0, 0), [[23, 5135, 0, 0], [12]]),
  (.ifCond .ne 20, 3, (0, 0), [[190]]),
  (.aload_n 0, 1, (0, 0), []),
  (.aload_n 0, 1, (0, 0), []),
  (.getfield 238, 3, (0, 0), [[18, 5130, 0, 0], [12]]),
  (.invokevirtual 241, 3, (0, 0), [[1, 7040, 0], [12, 227, 65, 7042]])]
def qX12_rule_181 : List mO := [(.bipush 59, 2, (59, 0), []),
  (.if_icmp .ne 7, 3, (0, 0), [[190]]),
  (.iconst 1, 1, (1, 0), []),
  (.goto 4, 3, (0, 0), [[191]])]
def qX12_rule_190 : List mO := [(.iconst 0, 1, (0, 0), [])]
def qX12_rule_191 : List mO := [(.invokevirtual 263, 3, (0, 0), [[1, 7074, 0], [12, 231, 69, 7076]])]
def qX12_rule_194 : List mO := [(.aload_n 0, 1, (0, 0), []),
  (.getfield 250, 3, (0, 0), [[23, 5135, 0, 0], [12]]),
  (.ifCond .ne 71, 3, (0, 0), [[269]]),
  (.bipush 78, 2, (78, 0), []),
  (.iconst 4, 1, (4, 0), []),
  (.aload_n 0, 1, (0, 0), []),
  (.getfield 7, 3, (0, 0), [[0, 5112, 0, 1], [12]]),
  (.iconst 4, 1, (4, 0), []),
  (.iaload, 1, (0, 0), []),
  (.imul, 1, (0, 0), []),
  (.iadd, 1, (0, 0), []),
  (.istore 6, 2, (0, 0), []),
  (.aload_n 0, 1, (0, 0), []),
  (.getfield 7, 3, (0, 0), [[0, 5112, 0, 1], [12]]),
  (.iload 6, 2, (0, 0), []),
  (.iconst 0, 1, (0, 0), []),
  (.iadd, 1, (0, 0), []),
  (.iload_n 1, 1, (0, 0), []),
  (.iastore, 1, (0, 0), []),
  (.aload_n 0, 1, (0, 0), []),
  (.getfield 7, 3, (0, 0), [[0, 5112, 0, 1], [12]]),
  (.iload 6, 2, (0, 0), []),
  (.iconst 1, 1, (1, 0), []),
  (.iadd, 1, (0, 0), []),
  (.iload 4, 2, (0, 0), []),
  (.iastore, 1, (0, 0), []),
  (.aload_n 0, 1, (0, 0), []),
  (.getfield 7, 3, (0, 0), [[0, 5112, 0, 1], [12]]),
  (.iload 6, 2, (0, 0), []),
  (.iconst 2, 1, (2, 0), []),
  (.iadd, 1, (0, 0), []),
  (.iload 5, 2, (0, 0), []),
  (.iastore, 1, (0, 0), []),
  (.aload_n 0, 1, (0, 0), []),
  (.getfield 7, 3, (0, 0), [[0, 5112, 0, 1], [12]]),
  (.iload 6, 2, (0, 0), []),
  (.iconst 3, 1, (3, 0), []),
  (.iadd, 1, (0, 0), []),
  (.aload_n 0, 1, (0, 0), []),
  (.getfield 295, 3, (0, 0), [[22, 5134, 0, 0], [12]]),
  (.iastore, 1, (0, 0), []),
  (.aload_n 0, 1, (0, 0), []),
  (.getfield 7, 3, (0, 0), [[0, 5112, 0, 1], [12]]),
  (.iconst 4, 1, (4, 0), []),
  (.dup2, 1, (0, 0), []),
  (.iaload, 1, (0, 0), []),
  (.iconst 1, 1, (1, 0), []),
  (.iadd, 1, (0, 0), []),
  (.iastore, 1, (0, 0), [])]
def qX12_rule_269 : List mO := [(.return_, 1, (0, 0), [])]
def pX12_rule : List (Nat × List mO) := [(0, qX12_rule_0), (4, qX12_rule_4), (25, qX12_rule_25), (26, qX12_rule_26), (29, qX12_rule_29), (33, qX12_rule_33), (45, qX12_rule_45), (49, qX12_rule_49), (53, qX12_rule_53), (66, qX12_rule_66), (78, qX12_rule_78), (90, qX12_rule_90), (102, qX12_rule_102), (103, qX12_rule_103), (115, qX12_rule_115), (116, qX12_rule_116), (119, qX12_rule_119), (154, qX12_rule_154), (156, qX12_rule_156), (159, qX12_rule_159), (181, qX12_rule_181), (190, qX12_rule_190), (191, qX12_rule_191), (194, qX12_rule_194), (269, qX12_rule_269)]
def qX12_rules_0 : List mO := [(.aload_n 0, 1, (0, 0), []),
  (.invokevirtual 342, 3, (0, 0), [[0, 7032, 0], [12, 161, 63, 7034]])]
def qX12_rules_4 : List mO := [(.aload_n 0, 1, (0, 0), []),
  (.getfield 7, 3, (0, 0), [[0, 5112, 0, 1], [12]]),
  (.iconst 4, 1, (4, 0), []),
  (.iconst 0, 1, (0, 0), []),
  (.iastore, 1, (0, 0), []),
  (.aload_n 0, 1, (0, 0), []),
  (.iconst 0, 1, (0, 0), []),
  (.putfield 295, 3, (0, 0), [[22, 5134, 0, 0], [12]]),
  (.aload_n 0, 1, (0, 0), []),
  (.iconst 0, 1, (0, 0), []),
  (.putfield 312, 3, (0, 0), [[21, 5133, 0, 0], [12]]),
  (.aload_n 0, 1, (0, 0), []),
  (.iconst 0, 1, (0, 0), []),
  (.putfield 235, 3, (0, 0), [[19, 5131, 0, 0], [12]]),
  (.aload_n 0, 1, (0, 0), []),
  (.iconst 0, 1, (0, 0), []),
  (.putfield 250, 3, (0, 0), [[23, 5135, 0, 0], [12]]),
  (.aload_n 0, 1, (0, 0), []),
  (.invokevirtual 253, 3, (0, 0), [[0, 7036, 0], [12, 230, 64, 7038]])]
def qX12_rules_35 : List mO := [(.aload_n 0, 1, (0, 0), []),
  (.getfield 250, 3, (0, 0), [[23, 5135, 0, 0], [12]]),
  (.ifCond .ne 21, 3, (0, 0), [[60]]),
  (.aload_n 0, 1, (0, 0), []),
  (.getfield 238, 3, (0, 0), [[18, 5130, 0, 0], [12]]),
  (.aload_n 0, 1, (0, 0), []),
  (.getfield 222, 3, (0, 0), [[17, 5129, 0, 0], [12]]),
  (.if_icmp .ge 10, 3, (0, 0), [[60]]),
  (.aload_n 0, 1, (0, 0), []),
  (.invokevirtual 345, 3, (0, 0), [[0, 7054, 0], [12, 242, 66, 7056]])]
def qX12_rules_57 : List mO := [(.goto (-22), 3, (0, 0), [[35]])]
def qX12_rules_60 : List mO := [(.aload_n 0, 1, (0, 0), []),
  (.iconst 0, 1, (0, 0), []),
  (.putfield 222, 3, (0, 0), [[17, 5129, 0, 0], [12]]),
  (.aload_n 0, 1, (0, 0), []),
  (.getfield 250, 3, (0, 0), [[23, 5135, 0, 0], [12]]),
  (.ifCond .eq 15, 3, (0, 0), [[84]]),
  (.aload_n 0, 1, (0, 0), []),
  (.invokevirtual 348, 3, (0, 0), [[0, 7123, 0], [12, 162, 78, 7125]])]
def qX12_rules_76 : List mO := [(.bipush (-100), 2, ((-100), 0), []),
  (.aload_n 0, 1, (0, 0), []),
  (.getfield 238, 3, (0, 0), [[18, 5130, 0, 0], [12]]),
  (.isub, 1, (0, 0), []),
  (.ireturn, 1, (0, 0), [])]
def qX12_rules_84 : List mO := [(.aload_n 0, 1, (0, 0), []),
  (.getfield 7, 3, (0, 0), [[0, 5112, 0, 1], [12]]),
  (.iconst 4, 1, (4, 0), []),
  (.iaload, 1, (0, 0), []),
  (.ireturn, 1, (0, 0), [])]
def pX12_rules : List (Nat × List mO) := [(0, qX12_rules_0), (4, qX12_rules_4), (35, qX12_rules_35), (57, qX12_rules_57), (60, qX12_rules_60), (76, qX12_rules_76), (84, qX12_rules_84)]
def qX12_isOne_0 : List mO := [(.iload_n 0, 1, (0, 0), []),
  (.i2l, 1, (0, 0), []),
  (.lconst 0, 1, (0, 0), []),
  (.ldc2_w 121, 3, (0, 3), [[6050]]),
  (.invokestatic 58, 3, (0, 0), [[3, 155, 5226, 5227, 0]])]
def qX12_isOne_9 : List mO := [(.ireturn, 1, (0, 0), [[1]])]
def pX12_isOne : List (Nat × List mO) := [(0, qX12_isOne_0), (9, qX12_isOne_9)]
def qX12_sheet_0 : List mO := [(.iload_n 1, 1, (0, 0), []),
  (.invokestatic 351, 3, (0, 0), [[1, 244, 7131, 7132, 0]])]
def qX12_sheet_4 : List mO := [(.ifCond .eq 27, 3, (0, 0), [[31]]),
  (.iload_n 2, 1, (0, 0), []),
  (.i2l, 1, (0, 0), []),
  (.ldc2_w 354, 3, (0, (-1)), [[7134]]),
  (.ldc2_w 356, 3, (0, 4), [[7135]]),
  (.invokestatic 58, 3, (0, 0), [[3, 155, 5226, 5227, 0]])]
def qX12_sheet_18 : List mO := [(.ifCond .eq 13, 3, (0, 0), [[31]]),
  (.iload_n 2, 1, (0, 0), []),
  (.ifCond .lt 11, 3, (0, 0), [[33]]),
  (.iload_n 3, 1, (0, 0), []),
  (.bipush 40, 2, (40, 0), []),
  (.if_icmp .le 5, 3, (0, 0), [[33]])]
def qX12_sheet_31 : List mO := [(.iconst (-1), 1, ((-1), 0), []),
  (.ireturn, 1, (0, 0), [])]
def qX12_sheet_33 : List mO := [(.iload_n 2, 1, (0, 0), []),
  (.ifCond .lt 10, 3, (0, 0), [[44]]),
  (.iload_n 3, 1, (0, 0), []),
  (.ifCond .ge 6, 3, (0, 0), [[44]]),
  (.bipush (-14), 2, ((-14), 0), []),
  (.ireturn, 1, (0, 0), [])]
def qX12_sheet_44 : List mO := [(.aload_n 0, 1, (0, 0), []),
  (.getfield 37, 3, (0, 0), [[24, 5136, 0, 1], [12]]),
  (.iload_n 1, 1, (0, 0), []),
  (.iload_n 2, 1, (0, 0), []),
  (.iastore, 1, (0, 0), []),
  (.aload_n 0, 1, (0, 0), []),
  (.getfield 40, 3, (0, 0), [[25, 5137, 0, 1], [12]]),
  (.iload_n 1, 1, (0, 0), []),
  (.iload_n 2, 1, (0, 0), []),
  (.ifCond .ge 7, 3, (0, 0), [[64]]),
  (.iconst 0, 1, (0, 0), []),
  (.goto 4, 3, (0, 0), [[65]])]
def qX12_sheet_64 : List mO := [(.iload_n 3, 1, (0, 0), [])]
def qX12_sheet_65 : List mO := [(.iastore, 1, (0, 0), []),
  (.iconst 0, 1, (0, 0), []),
  (.istore 4, 2, (0, 0), [])]
def qX12_sheet_69 : List mO := [(.iload 4, 2, (0, 0), []),
  (.bipush 40, 2, (40, 0), []),
  (.if_icmp .ge 22, 3, (0, 0), [[95]]),
  (.aload_n 0, 1, (0, 0), []),
  (.getfield 43, 3, (0, 0), [[26, 5138, 0, 1], [12]]),
  (.bipush 40, 2, (40, 0), []),
  (.iload_n 1, 1, (0, 0), []),
  (.imul, 1, (0, 0), []),
  (.iload 4, 2, (0, 0), []),
  (.iadd, 1, (0, 0), []),
  (.iconst 0, 1, (0, 0), []),
  (.iastore, 1, (0, 0), []),
  (.iinc 4 1, 3, (1, 0), []),
  (.goto (-23), 3, (0, 0), [[69]])]
def qX12_sheet_95 : List mO := [(.iconst 1, 1, (1, 0), []),
  (.ireturn, 1, (0, 0), [])]
def pX12_sheet : List (Nat × List mO) := [(0, qX12_sheet_0), (4, qX12_sheet_4), (18, qX12_sheet_18), (31, qX12_sheet_31), (33, qX12_sheet_33), (44, qX12_sheet_44), (64, qX12_sheet_64), (65, qX12_sheet_65), (69, qX12_sheet_69), (95, qX12_sheet_95)]
def qX12_narrowed_0 : List mO := [(.iload_n 0, 1, (0, 0), []),
  (.ifCond .ne 8, 3, (0, 0), [[9]]),
  (.iload_n 1, 1, (0, 0), []),
  (.i2b, 1, (0, 0), []),
  (.goto 31, 3, (0, 0), [[37]])]
def qX12_narrowed_9 : List mO := [(.iload_n 0, 1, (0, 0), []),
  (.iconst 1, 1, (1, 0), []),
  (.if_icmp .ne 8, 3, (0, 0), [[19]]),
  (.iload_n 1, 1, (0, 0), []),
  (.i2s, 1, (0, 0), []),
  (.goto 21, 3, (0, 0), [[37]])]
def qX12_narrowed_19 : List mO := [(.iload_n 0, 1, (0, 0), []),
  (.iconst 4, 1, (4, 0), []),
  (.if_icmp .ne 15, 3, (0, 0), [[36]]),
  (.iload_n 1, 1, (0, 0), []),
  (.ifCond .ne 7, 3, (0, 0), [[32]]),
  (.iconst 0, 1, (0, 0), []),
  (.goto 8, 3, (0, 0), [[37]])]
def qX12_narrowed_32 : List mO := [(.iconst 1, 1, (1, 0), []),
  (.goto 4, 3, (0, 0), [[37]])]
def qX12_narrowed_36 : List mO := [(.iload_n 1, 1, (0, 0), [])]
def qX12_narrowed_37 : List mO := [(.ireturn, 1, (0, 0), [])]
def pX12_narrowed : List (Nat × List mO) := [(0, qX12_narrowed_0), (9, qX12_narrowed_9), (19, qX12_narrowed_19), (32, qX12_narrowed_32), (36, qX12_narrowed_36), (37, qX12_narrowed_37)]
def qX12_write_0 : List mO := [(.iload_n 1, 1, (0, 0), []),
  (.invokestatic 351, 3, (0, 0), [[1, 244, 7131, 7132, 0]])]
def qX12_write_4 : List mO := [(.ifCond .ne 5, 3, (0, 0), [[9]]),
  (.iconst (-1), 1, ((-1), 0), []),
  (.ireturn, 1, (0, 0), [])]
def qX12_write_9 : List mO := [(.aload_n 0, 1, (0, 0), []),
  (.getfield 37, 3, (0, 0), [[24, 5136, 0, 1], [12]]),
  (.iload_n 1, 1, (0, 0), []),
  (.iaload, 1, (0, 0), []),
  (.ifCond .ge 6, 3, (0, 0), [[21]]),
  (.bipush (-11), 2, ((-11), 0), []),
  (.ireturn, 1, (0, 0), [])]
def qX12_write_21 : List mO := [(.iload_n 2, 1, (0, 0), []),
  (.i2l, 1, (0, 0), []),
  (.lconst 0, 1, (0, 0), []),
  (.aload_n 0, 1, (0, 0), []),
  (.getfield 40, 3, (0, 0), [[25, 5137, 0, 1], [12]]),
  (.iload_n 1, 1, (0, 0), []),
  (.iaload, 1, (0, 0), []),
  (.iconst 1, 1, (1, 0), []),
  (.isub, 1, (0, 0), []),
  (.i2l, 1, (0, 0), []),
  (.invokestatic 58, 3, (0, 0), [[3, 155, 5226, 5227, 0]])]
def qX12_write_36 : List mO := [(.ifCond .ne 6, 3, (0, 0), [[42]]),
  (.bipush (-12), 2, ((-12), 0), []),
  (.ireturn, 1, (0, 0), [])]
def qX12_write_42 : List mO := [(.aload_n 0, 1, (0, 0), []),
  (.getfield 43, 3, (0, 0), [[26, 5138, 0, 1], [12]]),
  (.bipush 40, 2, (40, 0), []),
  (.iload_n 1, 1, (0, 0), []),
  (.imul, 1, (0, 0), []),
  (.iload_n 2, 1, (0, 0), []),
  (.iadd, 1, (0, 0), []),
  (.aload_n 0, 1, (0, 0), []),
  (.getfield 37, 3, (0, 0), [[24, 5136, 0, 1], [12]]),
  (.iload_n 1, 1, (0, 0), []),
  (.iaload, 1, (0, 0), []),
  (.iload_n 3, 1, (0, 0), []),
  (.invokestatic 358, 3, (0, 0), [[2, 246, 7140, 7141, 0]])]
def qX12_write_62 : List mO := [(.iastore, 1, (0, 0), []),
  (.iconst 1, 1, (1, 0), []),
  (.ireturn, 1, (0, 0), [])]
def pX12_write : List (Nat × List mO) := [(0, qX12_write_0), (4, qX12_write_4), (9, qX12_write_9), (21, qX12_write_21), (36, qX12_write_36), (42, qX12_write_42), (62, qX12_write_62)]
def qX12_wrong_0 : List mO := [(.aload_n 0, 1, (0, 0), []),
  (.getfield 37, 3, (0, 0), [[24, 5136, 0, 1], [12]]),
  (.iload_n 1, 1, (0, 0), []),
  (.iaload, 1, (0, 0), []),
  (.ifCond .ge 8, 3, (0, 0), [[14]]),
  (.bipush (-11), 2, ((-11), 0), []),
  (.goto 19, 3, (0, 0), [[30]])]
def qX12_wrong_14 : List mO := [(.aload_n 0, 1, (0, 0), []),
  (.getfield 37, 3, (0, 0), [[24, 5136, 0, 1], [12]]),
  (.iload_n 1, 1, (0, 0), []),
  (.iaload, 1, (0, 0), []),
  (.iload_n 2, 1, (0, 0), []),
  (.if_icmp .eq 8, 3, (0, 0), [[29]]),
  (.bipush (-13), 2, ((-13), 0), []),
  (.goto 4, 3, (0, 0), [[30]])]
def qX12_wrong_29 : List mO := [(.iconst 0, 1, (0, 0), [])]
def qX12_wrong_30 : List mO := [(.ireturn, 1, (0, 0), [])]
def pX12_wrong : List (Nat × List mO) := [(0, qX12_wrong_0), (14, qX12_wrong_14), (29, qX12_wrong_29), (30, qX12_wrong_30)]
def qX12_item_0 : List mO := [(.iload_n 1, 1, (0, 0), []),
  (.invokestatic 351, 3, (0, 0), [[1, 244, 7131, 7132, 0]])]
def qX12_item_4 : List mO := [(.ifCond .eq 15, 3, (0, 0), [[19]]),
  (.iload_n 2, 1, (0, 0), []),
  (.i2l, 1, (0, 0), []),
  (.lconst 0, 1, (0, 0), []),
  (.ldc2_w 356, 3, (0, 4), [[7135]]),
  (.invokestatic 58, 3, (0, 0), [[3, 155, 5226, 5227, 0]])]
def qX12_item_16 : List mO := [(.ifCond .ne 5, 3, (0, 0), [[21]])]
def qX12_item_19 : List mO := [(.iconst (-1), 1, ((-1), 0), []),
  (.ireturn, 1, (0, 0), [])]
def qX12_item_21 : List mO := [(.aload_n 0, 1, (0, 0), []),
  (.iload_n 1, 1, (0, 0), []),
  (.iload_n 2, 1, (0, 0), []),
  (.invokevirtual 361, 3, (0, 0), [[2, 7147, 0], [12, 248, 79, 7149]])]
def qX12_item_27 : List mO := [(.istore 4, 2, (0, 0), []),
  (.iload 4, 2, (0, 0), []),
  (.ifCond .eq 8, 3, (0, 0), [[39]]),
  (.iload 4, 2, (0, 0), []),
  (.goto 37, 3, (0, 0), [[73]])]
def qX12_item_39 : List mO := [(.iload_n 3, 1, (0, 0), []),
  (.i2l, 1, (0, 0), []),
  (.lconst 0, 1, (0, 0), []),
  (.aload_n 0, 1, (0, 0), []),
  (.getfield 40, 3, (0, 0), [[25, 5137, 0, 1], [12]]),
  (.iload_n 1, 1, (0, 0), []),
  (.iaload, 1, (0, 0), []),
  (.iconst 1, 1, (1, 0), []),
  (.isub, 1, (0, 0), []),
  (.i2l, 1, (0, 0), []),
  (.invokestatic 58, 3, (0, 0), [[3, 155, 5226, 5227, 0]])]
def qX12_item_54 : List mO := [(.ifCond .eq 17, 3, (0, 0), [[71]]),
  (.aload_n 0, 1, (0, 0), []),
  (.getfield 43, 3, (0, 0), [[26, 5138, 0, 1], [12]]),
  (.bipush 40, 2, (40, 0), []),
  (.iload_n 1, 1, (0, 0), []),
  (.imul, 1, (0, 0), []),
  (.iload_n 3, 1, (0, 0), []),
  (.iadd, 1, (0, 0), []),
  (.iaload, 1, (0, 0), []),
  (.goto 5, 3, (0, 0), [[73]])]
def qX12_item_71 : List mO := [(.bipush (-12), 2, ((-12), 0), [])]
def qX12_item_73 : List mO := [(.ireturn, 1, (0, 0), [])]
def pX12_item : List (Nat × List mO) := [(0, qX12_item_0), (4, qX12_item_4), (16, qX12_item_16), (19, qX12_item_19), (21, qX12_item_21), (27, qX12_item_27), (39, qX12_item_39), (54, qX12_item_54), (71, qX12_item_71), (73, qX12_item_73)]
def qX12_adds_0 : List mO := [(.iload_n 1, 1, (0, 0), []),
  (.invokestatic 351, 3, (0, 0), [[1, 244, 7131, 7132, 0]])]
def qX12_adds_4 : List mO := [(.ifCond .eq 15, 3, (0, 0), [[19]]),
  (.iload_n 3, 1, (0, 0), []),
  (.i2l, 1, (0, 0), []),
  (.lconst 0, 1, (0, 0), []),
  (.ldc2_w 72, 3, (0, 9), [[5233]]),
  (.invokestatic 58, 3, (0, 0), [[3, 155, 5226, 5227, 0]])]
def qX12_adds_16 : List mO := [(.ifCond .ne 5, 3, (0, 0), [[21]])]
def qX12_adds_19 : List mO := [(.iconst (-1), 1, ((-1), 0), []),
  (.ireturn, 1, (0, 0), [])]
def qX12_adds_21 : List mO := [(.aload_n 0, 1, (0, 0), []),
  (.iload_n 1, 1, (0, 0), []),
  (.iconst 0, 1, (0, 0), []),
  (.invokevirtual 361, 3, (0, 0), [[2, 7147, 0], [12, 248, 79, 7149]])]
def qX12_adds_27 : List mO := [(.istore 4, 2, (0, 0), []),
  (.iload 4, 2, (0, 0), []),
  (.ifCond .eq 6, 3, (0, 0), [[37]]),
  (.iload 4, 2, (0, 0), []),
  (.ireturn, 1, (0, 0), [])]
def qX12_adds_37 : List mO := [(.iconst 0, 1, (0, 0), []),
  (.istore 5, 2, (0, 0), []),
  (.iconst 0, 1, (0, 0), []),
  (.istore 6, 2, (0, 0), [])]
def qX12_adds_43 : List mO := [(.iload 6, 2, (0, 0), []),
  (.iload_n 3, 1, (0, 0), []),
  (.if_icmp .ge 68, 3, (0, 0), [[114]]),
  (.iload_n 2, 1, (0, 0), []),
  (.i2l, 1, (0, 0), []),
  (.iload 6, 2, (0, 0), []),
  (.i2l, 1, (0, 0), []),
  (.ladd, 1, (0, 0), []),
  (.lconst 0, 1, (0, 0), []),
  (.aload_n 0, 1, (0, 0), []),
  (.getfield 40, 3, (0, 0), [[25, 5137, 0, 1], [12]]),
  (.iload_n 1, 1, (0, 0), []),
  (.iaload, 1, (0, 0), []),
  (.iconst 1, 1, (1, 0), []),
  (.isub, 1, (0, 0), []),
  (.i2l, 1, (0, 0), []),
  (.invokestatic 58, 3, (0, 0), [[3, 155, 5226, 5227, 0]])]
def qX12_adds_68 : List mO := [(.ifCond .ne 6, 3, (0, 0), [[74]]),
  (.bipush (-12), 2, ((-12), 0), []),
  (.ireturn, 1, (0, 0), [])]
def qX12_adds_74 : List mO := [(.iload 5, 2, (0, 0), []),
  (.aload_n 0, 1, (0, 0), []),
  (.iload 6, 2, (0, 0), []),
  (.iconst 1, 1, (1, 0), []),
  (.aload_n 0, 1, (0, 0), []),
  (.getfield 43, 3, (0, 0), [[26, 5138, 0, 1], [12]]),
  (.bipush 40, 2, (40, 0), []),
  (.iload_n 1, 1, (0, 0), []),
  (.imul, 1, (0, 0), []),
  (.iload_n 2, 1, (0, 0), []),
  (.iadd, 1, (0, 0), []),
  (.iload 6, 2, (0, 0), []),
  (.iadd, 1, (0, 0), []),
  (.iaload, 1, (0, 0), []),
  (.invokevirtual 364, 3, (0, 0), [[3, 7155, 0], [12, 173, 6031, 6030]])]
def qX12_adds_97 : List mO := [(.ifCond .lt 7, 3, (0, 0), [[104]]),
  (.iconst 1, 1, (1, 0), []),
  (.goto 4, 3, (0, 0), [[105]])]
def qX12_adds_104 : List mO := [(.iconst 0, 1, (0, 0), [])]
def qX12_adds_105 : List mO := [(.iadd, 1, (0, 0), []),
  (.istore 5, 2, (0, 0), []),
  (.iinc 6 1, 3, (1, 0), []),
  (.goto (-68), 3, (0, 0), [[43]])]
def qX12_adds_114 : List mO := [(.iload 5, 2, (0, 0), []),
  (.ireturn, 1, (0, 0), [])]
def pX12_adds : List (Nat × List mO) := [(0, qX12_adds_0), (4, qX12_adds_4), (16, qX12_adds_16), (19, qX12_adds_19), (21, qX12_adds_21), (27, qX12_adds_27), (37, qX12_adds_37), (43, qX12_adds_43), (68, qX12_adds_68), (74, qX12_adds_74), (97, qX12_adds_97), (104, qX12_adds_104), (105, qX12_adds_105), (114, qX12_adds_114)]
def qX12_shelf_0 : List mO := [(.iload_n 1, 1, (0, 0), []),
  (.invokestatic 351, 3, (0, 0), [[1, 244, 7131, 7132, 0]])]
def qX12_shelf_4 : List mO := [(.ifCond .eq 39, 3, (0, 0), [[43]]),
  (.iload_n 2, 1, (0, 0), []),
  (.i2l, 1, (0, 0), []),
  (.lconst 0, 1, (0, 0), []),
  (.ldc2_w 205, 3, (0, 2), [[6225]]),
  (.invokestatic 58, 3, (0, 0), [[3, 155, 5226, 5227, 0]])]
def qX12_shelf_16 : List mO := [(.ifCond .eq 27, 3, (0, 0), [[43]]),
  (.iload_n 2, 1, (0, 0), []),
  (.ifCond .ne 11, 3, (0, 0), [[31]]),
  (.aload_n 0, 1, (0, 0), []),
  (.iload_n 3, 1, (0, 0), []),
  (.invokevirtual 106, 3, (0, 0), [[1, 6002, 0], [12, 156, 41, 6004]])]
def qX12_shelf_28 : List mO := [(.ifCond .eq 15, 3, (0, 0), [[43]])]
def qX12_shelf_31 : List mO := [(.iload_n 2, 1, (0, 0), []),
  (.iconst 1, 1, (1, 0), []),
  (.if_icmp .ne 12, 3, (0, 0), [[45]]),
  (.iload_n 3, 1, (0, 0), []),
  (.invokestatic 351, 3, (0, 0), [[1, 244, 7131, 7132, 0]])]
def qX12_shelf_40 : List mO := [(.ifCond .ne 5, 3, (0, 0), [[45]])]
def qX12_shelf_43 : List mO := [(.iconst (-1), 1, ((-1), 0), []),
  (.ireturn, 1, (0, 0), [])]
def qX12_shelf_45 : List mO := [(.aload_n 0, 1, (0, 0), []),
  (.getfield 46, 3, (0, 0), [[27, 5139, 0, 1], [12]]),
  (.iload_n 1, 1, (0, 0), []),
  (.iload_n 2, 1, (0, 0), []),
  (.ifCond .ne 7, 3, (0, 0), [[58]]),
  (.iconst 1, 1, (1, 0), []),
  (.goto 22, 3, (0, 0), [[77]])]
def qX12_shelf_58 : List mO := [(.iload_n 2, 1, (0, 0), []),
  (.iconst 1, 1, (1, 0), []),
  (.if_icmp .ne 16, 3, (0, 0), [[76]]),
  (.aload_n 0, 1, (0, 0), []),
  (.getfield 37, 3, (0, 0), [[24, 5136, 0, 1], [12]]),
  (.iload_n 3, 1, (0, 0), []),
  (.iaload, 1, (0, 0), []),
  (.ifCond .lt 7, 3, (0, 0), [[76]]),
  (.iconst 2, 1, (2, 0), []),
  (.goto 4, 3, (0, 0), [[77]])]
def qX12_shelf_76 : List mO := [(.iconst 0, 1, (0, 0), [])]
def qX12_shelf_77 : List mO := [(.iastore, 1, (0, 0), []),
  (.aload_n 0, 1, (0, 0), []),
  (.getfield 49, 3, (0, 0), [[28, 5140, 0, 1], [12]]),
  (.iload_n 1, 1, (0, 0), []),
  (.iload_n 2, 1, (0, 0), []),
  (.ifCond .ne 7, 3, (0, 0), [[91]]),
  (.iload_n 3, 1, (0, 0), []),
  (.goto 18, 3, (0, 0), [[106]])]
def qX12_shelf_91 : List mO := [(.iload_n 2, 1, (0, 0), []),
  (.iconst 1, 1, (1, 0), []),
  (.if_icmp .ne 12, 3, (0, 0), [[105]]),
  (.aload_n 0, 1, (0, 0), []),
  (.getfield 40, 3, (0, 0), [[25, 5137, 0, 1], [12]]),
  (.iload_n 3, 1, (0, 0), []),
  (.iaload, 1, (0, 0), []),
  (.goto 4, 3, (0, 0), [[106]])]
def qX12_shelf_105 : List mO := [(.iconst 0, 1, (0, 0), [])]
def qX12_shelf_106 : List mO := [(.iastore, 1, (0, 0), []),
  (.aload_n 0, 1, (0, 0), []),
  (.getfield 52, 3, (0, 0), [[29, 5141, 0, 1], [12]]),
  (.iload_n 1, 1, (0, 0), []),
  (.iload_n 2, 1, (0, 0), []),
  (.iconst 1, 1, (1, 0), []),
  (.if_icmp .ne 12, 3, (0, 0), [[126]]),
  (.aload_n 0, 1, (0, 0), []),
  (.getfield 37, 3, (0, 0), [[24, 5136, 0, 1], [12]]),
  (.iload_n 3, 1, (0, 0), []),
  (.iaload, 1, (0, 0), []),
  (.goto 4, 3, (0, 0), [[127]])]
def qX12_shelf_126 : List mO := [(.iconst 0, 1, (0, 0), [])]
def qX12_shelf_127 : List mO := [(.iastore, 1, (0, 0), []),
  (.iconst 1, 1, (1, 0), []),
  (.ireturn, 1, (0, 0), [])]
def pX12_shelf : List (Nat × List mO) := [(0, qX12_shelf_0), (4, qX12_shelf_4), (16, qX12_shelf_16), (28, qX12_shelf_28), (31, qX12_shelf_31), (40, qX12_shelf_40), (43, qX12_shelf_43), (45, qX12_shelf_45), (58, qX12_shelf_58), (76, qX12_shelf_76), (77, qX12_shelf_77), (91, qX12_shelf_91), (105, qX12_shelf_105), (106, qX12_shelf_106), (126, qX12_shelf_126), (127, qX12_shelf_127)]
def qX12_onShelf_0 : List mO := [(.iload_n 1, 1, (0, 0), []),
  (.invokestatic 351, 3, (0, 0), [[1, 244, 7131, 7132, 0]])]
def qX12_onShelf_4 : List mO := [(.ifCond .eq 35, 3, (0, 0), [[39]]),
  (.aload_n 0, 1, (0, 0), []),
  (.getfield 46, 3, (0, 0), [[27, 5139, 0, 1], [12]]),
  (.iload_n 1, 1, (0, 0), []),
  (.iaload, 1, (0, 0), []),
  (.iconst 1, 1, (1, 0), []),
  (.if_icmp .ne 25, 3, (0, 0), [[39]]),
  (.aload_n 0, 1, (0, 0), []),
  (.aload_n 0, 1, (0, 0), []),
  (.getfield 49, 3, (0, 0), [[28, 5140, 0, 1], [12]]),
  (.iload_n 1, 1, (0, 0), []),
  (.iaload, 1, (0, 0), []),
  (.invokevirtual 106, 3, (0, 0), [[1, 6002, 0], [12, 156, 41, 6004]])]
def qX12_onShelf_27 : List mO := [(.ifCond .eq 12, 3, (0, 0), [[39]]),
  (.aload_n 0, 1, (0, 0), []),
  (.getfield 49, 3, (0, 0), [[28, 5140, 0, 1], [12]]),
  (.iload_n 1, 1, (0, 0), []),
  (.iaload, 1, (0, 0), []),
  (.goto 4, 3, (0, 0), [[40]])]
def qX12_onShelf_39 : List mO := [(.iconst (-1), 1, ((-1), 0), [])]
def qX12_onShelf_40 : List mO := [(.ireturn, 1, (0, 0), [])]
def pX12_onShelf : List (Nat × List mO) := [(0, qX12_onShelf_0), (4, qX12_onShelf_4), (27, qX12_onShelf_27), (39, qX12_onShelf_39), (40, qX12_onShelf_40)]
def qX12_taken_0 : List mO := [(.iload_n 1, 1, (0, 0), []),
  (.invokestatic 351, 3, (0, 0), [[1, 244, 7131, 7132, 0]])]
def qX12_taken_4 : List mO := [(.ifCond .eq 29, 3, (0, 0), [[33]]),
  (.iload_n 2, 1, (0, 0), []),
  (.i2l, 1, (0, 0), []),
  (.lconst 0, 1, (0, 0), []),
  (.ldc2_w 76, 3, (0, 5), [[5225]]),
  (.invokestatic 58, 3, (0, 0), [[3, 155, 5226, 5227, 0]])]
def qX12_taken_16 : List mO := [(.ifCond .ne 19, 3, (0, 0), [[35]]),
  (.iload_n 2, 1, (0, 0), []),
  (.i2l, 1, (0, 0), []),
  (.ldc2_w 367, 3, (0, 10), [[7164]]),
  (.ldc2_w 369, 3, (0, 14), [[7165]]),
  (.invokestatic 58, 3, (0, 0), [[3, 155, 5226, 5227, 0]])]
def qX12_taken_30 : List mO := [(.ifCond .ne 5, 3, (0, 0), [[35]])]
def qX12_taken_33 : List mO := [(.iconst (-1), 1, ((-1), 0), []),
  (.ireturn, 1, (0, 0), [])]
def qX12_taken_35 : List mO := [(.aload_n 0, 1, (0, 0), []),
  (.iload_n 1, 1, (0, 0), []),
  (.invokevirtual 371, 3, (0, 0), [[1, 7166, 0], [12, 252, 80, 7168]])]
def qX12_taken_40 : List mO := [(.istore_n 3, 1, (0, 0), []),
  (.iload_n 3, 1, (0, 0), []),
  (.ifCond .ge 16, 3, (0, 0), [[58]]),
  (.aload_n 0, 1, (0, 0), []),
  (.getfield 46, 3, (0, 0), [[27, 5139, 0, 1], [12]]),
  (.iload_n 1, 1, (0, 0), []),
  (.iaload, 1, (0, 0), []),
  (.iconst 2, 1, (2, 0), []),
  (.if_icmp .ge 6, 3, (0, 0), [[58]]),
  (.bipush (-11), 2, ((-11), 0), []),
  (.ireturn, 1, (0, 0), [])]
def qX12_taken_58 : List mO := [(.iload_n 3, 1, (0, 0), []),
  (.ifCond .lt 30, 3, (0, 0), [[89]]),
  (.iload_n 2, 1, (0, 0), []),
  (.bipush 6, 2, (6, 0), []),
  (.if_icmp .ge 20, 3, (0, 0), [[85]]),
  (.aload_n 0, 1, (0, 0), []),
  (.iload_n 3, 1, (0, 0), []),
  (.iconst 0, 1, (0, 0), []),
  (.invokevirtual 82, 3, (0, 0), [[2, 6011, 0], [12, 164, 43, 6013]])]
def qX12_taken_74 : List mO := [(.iload_n 2, 1, (0, 0), []),
  (.invokestatic 92, 3, (0, 0), [[2, 167, 6015, 6016, 0]])]
def qX12_taken_78 : List mO := [(.ifCond .eq 7, 3, (0, 0), [[85]]),
  (.iconst 1, 1, (1, 0), []),
  (.goto 25, 3, (0, 0), [[107]])]
def qX12_taken_85 : List mO := [(.iconst 0, 1, (0, 0), []),
  (.goto 21, 3, (0, 0), [[107]])]
def qX12_taken_89 : List mO := [(.iload_n 2, 1, (0, 0), []),
  (.bipush 10, 2, (10, 0), []),
  (.isub, 1, (0, 0), []),
  (.aload_n 0, 1, (0, 0), []),
  (.getfield 52, 3, (0, 0), [[29, 5141, 0, 1], [12]]),
  (.iload_n 1, 1, (0, 0), []),
  (.iaload, 1, (0, 0), []),
  (.if_icmp .ne 7, 3, (0, 0), [[106]]),
  (.iconst 1, 1, (1, 0), []),
  (.goto 4, 3, (0, 0), [[107]])]
def qX12_taken_106 : List mO := [(.iconst 0, 1, (0, 0), [])]
def qX12_taken_107 : List mO := [(.istore 4, 2, (0, 0), []),
  (.iload 4, 2, (0, 0), []),
  (.ifCond .eq 12, 3, (0, 0), [[123]]),
  (.aload_n 0, 1, (0, 0), []),
  (.getfield 49, 3, (0, 0), [[28, 5140, 0, 1], [12]]),
  (.iload_n 1, 1, (0, 0), []),
  (.iaload, 1, (0, 0), []),
  (.goto 5, 3, (0, 0), [[125]])]
def qX12_taken_123 : List mO := [(.bipush (-13), 2, ((-13), 0), [])]
def qX12_taken_125 : List mO := [(.ireturn, 1, (0, 0), [])]
def pX12_taken : List (Nat × List mO) := [(0, qX12_taken_0), (4, qX12_taken_4), (16, qX12_taken_16), (30, qX12_taken_30), (33, qX12_taken_33), (35, qX12_taken_35), (40, qX12_taken_40), (58, qX12_taken_58), (74, qX12_taken_74), (78, qX12_taken_78), (85, qX12_taken_85), (89, qX12_taken_89), (106, qX12_taken_106), (107, qX12_taken_107), (123, qX12_taken_123), (125, qX12_taken_125)]
def qX12_runs_0 : List mO := [(.aload_n 0, 1, (0, 0), []),
  (.getfield 374, 3, (0, 0), [[35, 5147, 0, 0], [12]]),
  (.ifCond .ne 32, 3, (0, 0), [[36]]),
  (.aload_n 0, 1, (0, 0), []),
  (.getfield 377, 3, (0, 0), [[31, 5143, 0, 0], [12]]),
  (.bipush 30, 2, (30, 0), []),
  (.if_icmp .ge 13, 3, (0, 0), [[26]]),
  (.aload_n 0, 1, (0, 0), []),
  (.getfield 55, 3, (0, 0), [[30, 5142, 0, 1], [12]]),
  (.aload_n 0, 1, (0, 0), []),
  (.getfield 377, 3, (0, 0), [[31, 5143, 0, 0], [12]]),
  (.iload_n 1, 1, (0, 0), []),
  (.iastore, 1, (0, 0), [])]
def qX12_runs_26 : List mO := [(.aload_n 0, 1, (0, 0), []),
  (.dup, 1, (0, 0), []),
  (.getfield 377, 3, (0, 0), [[31, 5143, 0, 0], [12]]),
  (.iconst 1, 1, (1, 0), []),
  (.iadd, 1, (0, 0), []),
  (.putfield 377, 3, (0, 0), [[31, 5143, 0, 0], [12]])]
def qX12_runs_36 : List mO := [(.return_, 1, (0, 0), [])]
def pX12_runs : List (Nat × List mO) := [(0, qX12_runs_0), (26, qX12_runs_26), (36, qX12_runs_36)]
def qX12_cries_0 : List mO := [(.aload_n 0, 1, (0, 0), []),
  (.getfield 380, 3, (0, 0), [[34, 5146, 0, 0], [12]]),
  (.iconst 1, 1, (1, 0), []),
  (.if_icmp .ne 24, 3, (0, 0), [[29]]),
  (.aload_n 0, 1, (0, 0), []),
  (.bipush 20, 2, (20, 0), []),
  (.invokevirtual 383, 3, (0, 0), [[1, 7178, 0], [12, 254, 82, 7180]])]
def qX12_cries_14 : List mO := [(.aload_n 0, 1, (0, 0), []),
  (.bipush 10, 2, (10, 0), []),
  (.invokevirtual 383, 3, (0, 0), [[1, 7178, 0], [12, 254, 82, 7180]])]
def qX12_cries_20 : List mO := [(.iload_n 1, 1, (0, 0), []),
  (.aload_n 0, 1, (0, 0), []),
  (.getfield 386, 3, (0, 0), [[32, 5144, 0, 0], [12]]),
  (.iadd, 1, (0, 0), []),
  (.iconst 3, 1, (3, 0), []),
  (.imul, 1, (0, 0), []),
  (.ireturn, 1, (0, 0), [])]
def qX12_cries_29 : List mO := [(.aload_n 0, 1, (0, 0), []),
  (.getfield 380, 3, (0, 0), [[34, 5146, 0, 0], [12]]),
  (.iconst 3, 1, (3, 0), []),
  (.if_icmp .ne 27, 3, (0, 0), [[61]]),
  (.aload_n 0, 1, (0, 0), []),
  (.bipush 50, 2, (50, 0), []),
  (.invokevirtual 383, 3, (0, 0), [[1, 7178, 0], [12, 254, 82, 7180]])]
def qX12_cries_43 : List mO := [(.aload_n 0, 1, (0, 0), []),
  (.bipush 10, 2, (10, 0), []),
  (.invokevirtual 383, 3, (0, 0), [[1, 7178, 0], [12, 254, 82, 7180]])]
def qX12_cries_49 : List mO := [(.iload_n 1, 1, (0, 0), []),
  (.aload_n 0, 1, (0, 0), []),
  (.getfield 386, 3, (0, 0), [[32, 5144, 0, 0], [12]]),
  (.iadd, 1, (0, 0), []),
  (.aload_n 0, 1, (0, 0), []),
  (.getfield 386, 3, (0, 0), [[32, 5144, 0, 0], [12]]),
  (.ixor, 1, (0, 0), []),
  (.ireturn, 1, (0, 0), [])]
def qX12_cries_61 : List mO := [(.aload_n 0, 1, (0, 0), []),
  (.bipush 10, 2, (10, 0), []),
  (.invokevirtual 383, 3, (0, 0), [[1, 7178, 0], [12, 254, 82, 7180]])]
def qX12_cries_67 : List mO := [(.iload_n 1, 1, (0, 0), []),
  (.aload_n 0, 1, (0, 0), []),
  (.getfield 386, 3, (0, 0), [[32, 5144, 0, 0], [12]]),
  (.iadd, 1, (0, 0), []),
  (.ireturn, 1, (0, 0), [])]
def pX12_cries : List (Nat × List mO) := [(0, qX12_cries_0), (14, qX12_cries_14), (20, qX12_cries_20), (29, qX12_cries_29), (43, qX12_cries_43), (49, qX12_cries_49), (61, qX12_cries_61), (67, qX12_cries_67)]
def qX12_hears_0 : List mO := [(.aload_n 0, 1, (0, 0), []),
  (.getfield 380, 3, (0, 0), [[34, 5146, 0, 0], [12]]),
  (.iconst 2, 1, (2, 0), []),
  (.if_icmp .eq 11, 3, (0, 0), [[16]]),
  (.aload_n 0, 1, (0, 0), []),
  (.getfield 380, 3, (0, 0), [[34, 5146, 0, 0], [12]]),
  (.iconst 3, 1, (3, 0), []),
  (.if_icmp .ne 7, 3, (0, 0), [[20]])]
def qX12_hears_16 : List mO := [(.iconst 1, 1, (1, 0), []),
  (.goto 4, 3, (0, 0), [[21]])]
def qX12_hears_20 : List mO := [(.iconst 0, 1, (0, 0), [])]
def qX12_hears_21 : List mO := [(.istore_n 2, 1, (0, 0), []),
  (.iload_n 2, 1, (0, 0), []),
  (.ifCond .eq 9, 3, (0, 0), [[32]]),
  (.aload_n 0, 1, (0, 0), []),
  (.bipush 30, 2, (30, 0), []),
  (.invokevirtual 383, 3, (0, 0), [[1, 7178, 0], [12, 254, 82, 7180]])]
def qX12_hears_32 : List mO := [(.aload_n 0, 1, (0, 0), []),
  (.getfield 380, 3, (0, 0), [[34, 5146, 0, 0], [12]]),
  (.iconst 5, 1, (5, 0), []),
  (.if_icmp .ne 9, 3, (0, 0), [[46]]),
  (.aload_n 0, 1, (0, 0), []),
  (.bipush 60, 2, (60, 0), []),
  (.invokevirtual 383, 3, (0, 0), [[1, 7178, 0], [12, 254, 82, 7180]])]
def qX12_hears_46 : List mO := [(.aload_n 0, 1, (0, 0), []),
  (.bipush 11, 2, (11, 0), []),
  (.invokevirtual 383, 3, (0, 0), [[1, 7178, 0], [12, 254, 82, 7180]])]
def qX12_hears_52 : List mO := [(.aload_n 0, 1, (0, 0), []),
  (.iload_n 1, 1, (0, 0), []),
  (.invokevirtual 389, 3, (0, 0), [[1, 7174, 0], [12, 255, 81, 7176]])]
def qX12_hears_57 : List mO := [(.iconst 2, 1, (2, 0), []),
  (.imul, 1, (0, 0), []),
  (.istore_n 3, 1, (0, 0), []),
  (.iload_n 2, 1, (0, 0), []),
  (.ifCond .eq 12, 3, (0, 0), [[73]]),
  (.iload_n 3, 1, (0, 0), []),
  (.aload_n 0, 1, (0, 0), []),
  (.getfield 392, 3, (0, 0), [[33, 5145, 0, 0], [12]]),
  (.isub, 1, (0, 0), []),
  (.goto 18, 3, (0, 0), [[88]])]
def qX12_hears_73 : List mO := [(.aload_n 0, 1, (0, 0), []),
  (.getfield 380, 3, (0, 0), [[34, 5146, 0, 0], [12]]),
  (.iconst 5, 1, (5, 0), []),
  (.if_icmp .ne 9, 3, (0, 0), [[87]]),
  (.iconst 0, 1, (0, 0), []),
  (.iload_n 3, 1, (0, 0), []),
  (.isub, 1, (0, 0), []),
  (.goto 4, 3, (0, 0), [[88]])]
def qX12_hears_87 : List mO := [(.iload_n 3, 1, (0, 0), [])]
def qX12_hears_88 : List mO := [(.ireturn, 1, (0, 0), [])]
def pX12_hears : List (Nat × List mO) := [(0, qX12_hears_0), (16, qX12_hears_16), (20, qX12_hears_20), (21, qX12_hears_21), (32, qX12_hears_32), (46, qX12_hears_46), (52, qX12_hears_52), (57, qX12_hears_57), (73, qX12_hears_73), (87, qX12_hears_87), (88, qX12_hears_88)]
def qX12_parts_0 : List mO := [(.aload_n 0, 1, (0, 0), []),
  (.bipush 12, 2, (12, 0), []),
  (.invokevirtual 383, 3, (0, 0), [[1, 7178, 0], [12, 254, 82, 7180]])]
def qX12_parts_6 : List mO := [(.aload_n 0, 1, (0, 0), []),
  (.getfield 392, 3, (0, 0), [[33, 5145, 0, 0], [12]]),
  (.aload_n 0, 1, (0, 0), []),
  (.getfield 386, 3, (0, 0), [[32, 5144, 0, 0], [12]]),
  (.if_icmp .ne 10, 3, (0, 0), [[24]]),
  (.aload_n 0, 1, (0, 0), []),
  (.iconst 1, 1, (1, 0), []),
  (.putfield 374, 3, (0, 0), [[35, 5147, 0, 0], [12]]),
  (.iconst 0, 1, (0, 0), []),
  (.ireturn, 1, (0, 0), [])]
def qX12_parts_24 : List mO := [(.iload_n 1, 1, (0, 0), []),
  (.aload_n 0, 1, (0, 0), []),
  (.getfield 392, 3, (0, 0), [[33, 5145, 0, 0], [12]]),
  (.aload_n 0, 1, (0, 0), []),
  (.getfield 386, 3, (0, 0), [[32, 5144, 0, 0], [12]]),
  (.isub, 1, (0, 0), []),
  (.idiv, 1, (0, 0), []),
  (.ireturn, 1, (0, 0), [])]
def pX12_parts : List (Nat × List mO) := [(0, qX12_parts_0), (6, qX12_parts_6), (24, qX12_parts_24)]
def qX12_shares_0 : List mO := [(.aload_n 0, 1, (0, 0), []),
  (.getfield 380, 3, (0, 0), [[34, 5146, 0, 0], [12]]),
  (.iconst 4, 1, (4, 0), []),
  (.if_icmp .ne 17, 3, (0, 0), [[22]]),
  (.aload_n 0, 1, (0, 0), []),
  (.bipush 40, 2, (40, 0), []),
  (.invokevirtual 383, 3, (0, 0), [[1, 7178, 0], [12, 254, 82, 7180]])]
def qX12_shares_14 : List mO := [(.aload_n 0, 1, (0, 0), []),
  (.iload_n 1, 1, (0, 0), []),
  (.iconst 1, 1, (1, 0), []),
  (.iadd, 1, (0, 0), []),
  (.invokevirtual 395, 3, (0, 0), [[1, 7190, 0], [12, 257, 85, 7192]])]
def qX12_shares_21 : List mO := [(.ireturn, 1, (0, 0), [])]
def qX12_shares_22 : List mO := [(.aload_n 0, 1, (0, 0), []),
  (.getfield 380, 3, (0, 0), [[34, 5146, 0, 0], [12]]),
  (.iconst 5, 1, (5, 0), []),
  (.if_icmp .ne 45, 3, (0, 0), [[72]]),
  (.aload_n 0, 1, (0, 0), []),
  (.bipush 61, 2, (61, 0), []),
  (.invokevirtual 383, 3, (0, 0), [[1, 7178, 0], [12, 254, 82, 7180]])]
def qX12_shares_36 : List mO := [(.aload_n 0, 1, (0, 0), []),
  (.bipush 40, 2, (40, 0), []),
  (.invokevirtual 383, 3, (0, 0), [[1, 7178, 0], [12, 254, 82, 7180]])]
def qX12_shares_42 : List mO := [(.aload_n 0, 1, (0, 0), []),
  (.iload_n 1, 1, (0, 0), []),
  (.iconst 1, 1, (1, 0), []),
  (.iadd, 1, (0, 0), []),
  (.invokevirtual 395, 3, (0, 0), [[1, 7190, 0], [12, 257, 85, 7192]])]
def qX12_shares_49 : List mO := [(.istore_n 2, 1, (0, 0), []),
  (.aload_n 0, 1, (0, 0), []),
  (.getfield 374, 3, (0, 0), [[35, 5147, 0, 0], [12]]),
  (.ifCond .eq 7, 3, (0, 0), [[61]]),
  (.iconst 0, 1, (0, 0), []),
  (.goto 13, 3, (0, 0), [[71]])]
def qX12_shares_61 : List mO := [(.iload_n 2, 1, (0, 0), []),
  (.aload_n 0, 1, (0, 0), []),
  (.aload_n 0, 1, (0, 0), []),
  (.getfield 392, 3, (0, 0), [[33, 5145, 0, 0], [12]]),
  (.invokevirtual 389, 3, (0, 0), [[1, 7174, 0], [12, 255, 81, 7176]])]
def qX12_shares_70 : List mO := [(.iadd, 1, (0, 0), [])]
def qX12_shares_71 : List mO := [(.ireturn, 1, (0, 0), [])]
def qX12_shares_72 : List mO := [(.aload_n 0, 1, (0, 0), []),
  (.iload_n 1, 1, (0, 0), []),
  (.invokevirtual 395, 3, (0, 0), [[1, 7190, 0], [12, 257, 85, 7192]])]
def qX12_shares_77 : List mO := [(.ireturn, 1, (0, 0), [])]
def pX12_shares : List (Nat × List mO) := [(0, qX12_shares_0), (14, qX12_shares_14), (21, qX12_shares_21), (22, qX12_shares_22), (36, qX12_shares_36), (42, qX12_shares_42), (49, qX12_shares_49), (61, qX12_shares_61), (70, qX12_shares_70), (71, qX12_shares_71), (72, qX12_shares_72), (77, qX12_shares_77)]
def qX12_tells_0 : List mO := [(.aload_n 0, 1, (0, 0), []),
  (.getfield 380, 3, (0, 0), [[34, 5146, 0, 0], [12]]),
  (.iconst 3, 1, (3, 0), []),
  (.if_icmp .ne 9, 3, (0, 0), [[14]]),
  (.aload_n 0, 1, (0, 0), []),
  (.bipush 51, 2, (51, 0), []),
  (.invokevirtual 383, 3, (0, 0), [[1, 7178, 0], [12, 254, 82, 7180]])]
def qX12_tells_14 : List mO := [(.aload_n 0, 1, (0, 0), []),
  (.bipush 13, 2, (13, 0), []),
  (.invokevirtual 383, 3, (0, 0), [[1, 7178, 0], [12, 254, 82, 7180]])]
def qX12_tells_20 : List mO := [(.aload_n 0, 1, (0, 0), []),
  (.iload_n 1, 1, (0, 0), []),
  (.invokevirtual 398, 3, (0, 0), [[1, 7182, 0], [12, 256, 83, 7184]])]
def qX12_tells_25 : List mO := [(.aload_n 0, 1, (0, 0), []),
  (.getfield 392, 3, (0, 0), [[33, 5145, 0, 0], [12]]),
  (.ixor, 1, (0, 0), []),
  (.istore_n 2, 1, (0, 0), []),
  (.aload_n 0, 1, (0, 0), []),
  (.getfield 380, 3, (0, 0), [[34, 5146, 0, 0], [12]]),
  (.iconst 3, 1, (3, 0), []),
  (.if_icmp .ne 16, 3, (0, 0), [[52]]),
  (.iload_n 2, 1, (0, 0), []),
  (.aload_n 0, 1, (0, 0), []),
  (.aload_n 0, 1, (0, 0), []),
  (.getfield 386, 3, (0, 0), [[32, 5144, 0, 0], [12]]),
  (.invokevirtual 401, 3, (0, 0), [[1, 7186, 0], [12, 258, 84, 7188]])]
def qX12_tells_48 : List mO := [(.iadd, 1, (0, 0), []),
  (.goto 4, 3, (0, 0), [[53]])]
def qX12_tells_52 : List mO := [(.iload_n 2, 1, (0, 0), [])]
def qX12_tells_53 : List mO := [(.ireturn, 1, (0, 0), [])]
def pX12_tells : List (Nat × List mO) := [(0, qX12_tells_0), (14, qX12_tells_14), (20, qX12_tells_20), (25, qX12_tells_25), (48, qX12_tells_48), (52, qX12_tells_52), (53, qX12_tells_53)]
def qX12_act_0 : List mO := [(.aload_n 0, 1, (0, 0), []),
  (.iconst 0, 1, (0, 0), []),
  (.putfield 377, 3, (0, 0), [[31, 5143, 0, 0], [12]]),
  (.aload_n 0, 1, (0, 0), []),
  (.iconst 0, 1, (0, 0), []),
  (.putfield 374, 3, (0, 0), [[35, 5147, 0, 0], [12]]),
  (.aload_n 0, 1, (0, 0), []),
  (.aload_n 0, 1, (0, 0), []),
  (.iload_n 1, 1, (0, 0), []),
  (.invokevirtual 371, 3, (0, 0), [[1, 7166, 0], [12, 252, 80, 7168]])]
def qX12_act_16 : List mO := [(.putfield 386, 3, (0, 0), [[32, 5144, 0, 0], [12]]),
  (.aload_n 0, 1, (0, 0), []),
  (.getfield 386, 3, (0, 0), [[32, 5144, 0, 0], [12]]),
  (.ifCond .lt 15, 3, (0, 0), [[38]]),
  (.iload_n 2, 1, (0, 0), []),
  (.i2l, 1, (0, 0), []),
  (.lconst 0, 1, (0, 0), []),
  (.ldc2_w 121, 3, (0, 3), [[6050]]),
  (.invokestatic 58, 3, (0, 0), [[3, 155, 5226, 5227, 0]])]
def qX12_act_35 : List mO := [(.ifCond .ne 5, 3, (0, 0), [[40]])]
def qX12_act_38 : List mO := [(.iconst 0, 1, (0, 0), []),
  (.ireturn, 1, (0, 0), [])]
def qX12_act_40 : List mO := [(.aload_n 0, 1, (0, 0), []),
  (.aload_n 0, 1, (0, 0), []),
  (.aload_n 0, 1, (0, 0), []),
  (.getfield 386, 3, (0, 0), [[32, 5144, 0, 0], [12]]),
  (.iconst 2, 1, (2, 0), []),
  (.invokevirtual 82, 3, (0, 0), [[2, 6011, 0], [12, 164, 43, 6013]])]
def qX12_act_50 : List mO := [(.putfield 392, 3, (0, 0), [[33, 5145, 0, 0], [12]]),
  (.aload_n 0, 1, (0, 0), []),
  (.aload_n 0, 1, (0, 0), []),
  (.aload_n 0, 1, (0, 0), []),
  (.getfield 386, 3, (0, 0), [[32, 5144, 0, 0], [12]]),
  (.iconst 0, 1, (0, 0), []),
  (.invokevirtual 82, 3, (0, 0), [[2, 6011, 0], [12, 164, 43, 6013]])]
def qX12_act_63 : List mO := [(.putfield 380, 3, (0, 0), [[34, 5146, 0, 0], [12]]),
  (.iload_n 2, 1, (0, 0), []),
  (.ifCond .ne 11, 3, (0, 0), [[78]]),
  (.aload_n 0, 1, (0, 0), []),
  (.iload_n 3, 1, (0, 0), []),
  (.invokevirtual 389, 3, (0, 0), [[1, 7174, 0], [12, 255, 81, 7176]])]
def qX12_act_75 : List mO := [(.goto 34, 3, (0, 0), [[109]])]
def qX12_act_78 : List mO := [(.iload_n 2, 1, (0, 0), []),
  (.iconst 1, 1, (1, 0), []),
  (.if_icmp .ne 11, 3, (0, 0), [[91]]),
  (.aload_n 0, 1, (0, 0), []),
  (.iload_n 3, 1, (0, 0), []),
  (.invokevirtual 398, 3, (0, 0), [[1, 7182, 0], [12, 256, 83, 7184]])]
def qX12_act_88 : List mO := [(.goto 21, 3, (0, 0), [[109]])]
def qX12_act_91 : List mO := [(.iload_n 2, 1, (0, 0), []),
  (.iconst 2, 1, (2, 0), []),
  (.if_icmp .ne 11, 3, (0, 0), [[104]]),
  (.aload_n 0, 1, (0, 0), []),
  (.iload_n 3, 1, (0, 0), []),
  (.invokevirtual 401, 3, (0, 0), [[1, 7186, 0], [12, 258, 84, 7188]])]
def qX12_act_101 : List mO := [(.goto 8, 3, (0, 0), [[109]])]
def qX12_act_104 : List mO := [(.aload_n 0, 1, (0, 0), []),
  (.iload_n 3, 1, (0, 0), []),
  (.invokevirtual 404, 3, (0, 0), [[1, 7194, 0], [12, 259, 86, 7196]])]
def qX12_act_109 : List mO := [(.istore 4, 2, (0, 0), []),
  (.aload_n 0, 1, (0, 0), []),
  (.getfield 374, 3, (0, 0), [[35, 5147, 0, 0], [12]]),
  (.ifCond .eq 8, 3, (0, 0), [[123]]),
  (.bipush (-15), 2, ((-15), 0), []),
  (.goto 5, 3, (0, 0), [[125]])]
def qX12_act_123 : List mO := [(.iload 4, 2, (0, 0), [])]
def qX12_act_125 : List mO := [(.ireturn, 1, (0, 0), [])]
def pX12_act : List (Nat × List mO) := [(0, qX12_act_0), (16, qX12_act_16), (35, qX12_act_35), (38, qX12_act_38), (40, qX12_act_40), (50, qX12_act_50), (63, qX12_act_63), (75, qX12_act_75), (78, qX12_act_78), (88, qX12_act_88), (91, qX12_act_91), (101, qX12_act_101), (104, qX12_act_104), (109, qX12_act_109), (123, qX12_act_123), (125, qX12_act_125)]
def qX12_traced_0 : List mO := [(.aload_n 0, 1, (0, 0), []),
  (.getfield 377, 3, (0, 0), [[31, 5143, 0, 0], [12]]),
  (.bipush 30, 2, (30, 0), []),
  (.if_icmp .ge 10, 3, (0, 0), [[16]]),
  (.aload_n 0, 1, (0, 0), []),
  (.getfield 377, 3, (0, 0), [[31, 5143, 0, 0], [12]]),
  (.goto 5, 3, (0, 0), [[18]])]
def qX12_traced_16 : List mO := [(.bipush 30, 2, (30, 0), [])]
def qX12_traced_18 : List mO := [(.ireturn, 1, (0, 0), [])]
def pX12_traced : List (Nat × List mO) := [(0, qX12_traced_0), (16, qX12_traced_16), (18, qX12_traced_18)]
def qX12_trace_0 : List mO := [(.iload_n 1, 1, (0, 0), []),
  (.i2l, 1, (0, 0), []),
  (.lconst 0, 1, (0, 0), []),
  (.aload_n 0, 1, (0, 0), []),
  (.invokevirtual 407, 3, (0, 0), [[0, 7202, 0], [12, 261, 87, 7204]])]
def qX12_trace_7 : List mO := [(.iconst 1, 1, (1, 0), []),
  (.isub, 1, (0, 0), []),
  (.i2l, 1, (0, 0), []),
  (.invokestatic 58, 3, (0, 0), [[3, 155, 5226, 5227, 0]])]
def qX12_trace_13 : List mO := [(.ifCond .eq 12, 3, (0, 0), [[25]]),
  (.aload_n 0, 1, (0, 0), []),
  (.getfield 55, 3, (0, 0), [[30, 5142, 0, 1], [12]]),
  (.iload_n 1, 1, (0, 0), []),
  (.iaload, 1, (0, 0), []),
  (.goto 5, 3, (0, 0), [[27]])]
def qX12_trace_25 : List mO := [(.bipush (-3), 2, ((-3), 0), [])]
def qX12_trace_27 : List mO := [(.ireturn, 1, (0, 0), [])]
def pX12_trace : List (Nat × List mO) := [(0, qX12_trace_0), (7, qX12_trace_7), (13, qX12_trace_13), (25, qX12_trace_25), (27, qX12_trace_27)]
def qX12_many_0 : List mO := [(.iload_n 1, 1, (0, 0), []),
  (.tableswitch 84 0 6 #[43, 50, 57, 64, 69, 74, 79], 43, (0, 0), [[85], [0, 44], [1, 51], [2, 58], [3, 65], [4, 70], [5, 75], [6, 80]])]
def qX12_many_44 : List mO := [(.aload_n 0, 1, (0, 0), []),
  (.getfield 7, 3, (0, 0), [[0, 5112, 0, 1], [12]]),
  (.iconst 0, 1, (0, 0), []),
  (.iaload, 1, (0, 0), []),
  (.ireturn, 1, (0, 0), [])]
def qX12_many_51 : List mO := [(.aload_n 0, 1, (0, 0), []),
  (.getfield 7, 3, (0, 0), [[0, 5112, 0, 1], [12]]),
  (.iconst 4, 1, (4, 0), []),
  (.iaload, 1, (0, 0), []),
  (.ireturn, 1, (0, 0), [])]
def qX12_many_58 : List mO := [(.aload_n 0, 1, (0, 0), []),
  (.getfield 7, 3, (0, 0), [[0, 5112, 0, 1], [12]]),
  (.iconst 1, 1, (1, 0), []),
  (.iaload, 1, (0, 0), []),
  (.ireturn, 1, (0, 0), [])]
def qX12_many_65 : List mO := [(.aload_n 0, 1, (0, 0), []),
  (.getfield 210, 3, (0, 0), [[15, 5127, 0, 0], [12]]),
  (.ireturn, 1, (0, 0), [])]
def qX12_many_70 : List mO := [(.aload_n 0, 1, (0, 0), []),
  (.invokevirtual 146, 3, (0, 0), [[0, 6088, 0], [12, 185, 49, 6090]])]
def qX12_many_74 : List mO := [(.ireturn, 1, (0, 0), [])]
def qX12_many_75 : List mO := [(.aload_n 0, 1, (0, 0), []),
  (.getfield 222, 3, (0, 0), [[17, 5129, 0, 0], [12]]),
  (.ireturn, 1, (0, 0), [])]
def qX12_many_80 : List mO := [(.aload_n 0, 1, (0, 0), []),
  (.invokevirtual 407, 3, (0, 0), [[0, 7202, 0], [12, 261, 87, 7204]])]
def qX12_many_84 : List mO := [(.ireturn, 1, (0, 0), [])]
def qX12_many_85 : List mO := [(.iconst (-1), 1, ((-1), 0), []),
  (.ireturn, 1, (0, 0), [])]
def pX12_many : List (Nat × List mO) := [(0, qX12_many_0), (44, qX12_many_44), (51, qX12_many_51), (58, qX12_many_58), (65, qX12_many_65), (70, qX12_many_70), (74, qX12_many_74), (75, qX12_many_75), (80, qX12_many_80), (84, qX12_many_84), (85, qX12_many_85)]
def qX12_keep_0 : List mO := [(.iconst 0, 1, (0, 0), []),
  (.istore_n 1, 1, (0, 0), [])]
def qX12_keep_2 : List mO := [(.iload_n 1, 1, (0, 0), []),
  (.sipush 310, 3, (310, 0), []),
  (.if_icmp .ge 21, 3, (0, 0), [[27]]),
  (.aload_n 0, 1, (0, 0), []),
  (.getfield 13, 3, (0, 0), [[1, 5113, 0, 1], [12]]),
  (.iload_n 1, 1, (0, 0), []),
  (.aload_n 0, 1, (0, 0), []),
  (.getfield 7, 3, (0, 0), [[0, 5112, 0, 1], [12]]),
  (.iload_n 1, 1, (0, 0), []),
  (.iaload, 1, (0, 0), []),
  (.iastore, 1, (0, 0), []),
  (.iinc 1 1, 3, (1, 0), []),
  (.goto (-22), 3, (0, 0), [[2]])]
def qX12_keep_27 : List mO := [(.aload_n 0, 1, (0, 0), []),
  (.iconst 1, 1, (1, 0), []),
  (.putfield 410, 3, (0, 0), [[3, 5115, 0, 0], [12]]),
  (.iconst 1, 1, (1, 0), []),
  (.ireturn, 1, (0, 0), [])]
def pX12_keep : List (Nat × List mO) := [(0, qX12_keep_0), (2, qX12_keep_2), (27, qX12_keep_27)]
def qX12_again_0 : List mO := [(.aload_n 0, 1, (0, 0), []),
  (.getfield 410, 3, (0, 0), [[3, 5115, 0, 0], [12]]),
  (.ifCond .ne 6, 3, (0, 0), [[10]]),
  (.bipush (-3), 2, ((-3), 0), []),
  (.ireturn, 1, (0, 0), [])]
def qX12_again_10 : List mO := [(.iconst 0, 1, (0, 0), []),
  (.istore_n 1, 1, (0, 0), [])]
def qX12_again_12 : List mO := [(.iload_n 1, 1, (0, 0), []),
  (.sipush 310, 3, (310, 0), []),
  (.if_icmp .ge 21, 3, (0, 0), [[37]]),
  (.aload_n 0, 1, (0, 0), []),
  (.getfield 7, 3, (0, 0), [[0, 5112, 0, 1], [12]]),
  (.iload_n 1, 1, (0, 0), []),
  (.aload_n 0, 1, (0, 0), []),
  (.getfield 13, 3, (0, 0), [[1, 5113, 0, 1], [12]]),
  (.iload_n 1, 1, (0, 0), []),
  (.iaload, 1, (0, 0), []),
  (.iastore, 1, (0, 0), []),
  (.iinc 1 1, 3, (1, 0), []),
  (.goto (-22), 3, (0, 0), [[12]])]
def qX12_again_37 : List mO := [(.aload_n 0, 1, (0, 0), []),
  (.getfield 7, 3, (0, 0), [[0, 5112, 0, 1], [12]]),
  (.iconst 0, 1, (0, 0), []),
  (.iaload, 1, (0, 0), []),
  (.ireturn, 1, (0, 0), [])]
def pX12_again : List (Nat × List mO) := [(0, qX12_again_0), (10, qX12_again_10), (12, qX12_again_12), (37, qX12_again_37)]
def qJ6_bitCount_0f7a4_0 : List mO := [(.iload_n 0, 1, (0, 0), []),
  (.iload_n 0, 1, (0, 0), []),
  (.iconst 1, 1, (1, 0), []),
  (.iushr, 1, (0, 0), []),
  (.ldc_w 265, 3, (1431655765, 0), [[0, 4076]]),
  (.iand, 1, (0, 0), []),
  (.isub, 1, (0, 0), []),
  (.istore_n 0, 1, (0, 0), []),
  (.iload_n 0, 1, (0, 0), []),
  (.ldc_w 266, 3, (858993459, 0), [[0, 4077]]),
  (.iand, 1, (0, 0), []),
  (.iload_n 0, 1, (0, 0), []),
  (.iconst 2, 1, (2, 0), []),
  (.iushr, 1, (0, 0), []),
  (.ldc_w 266, 3, (858993459, 0), [[0, 4077]]),
  (.iand, 1, (0, 0), []),
  (.iadd, 1, (0, 0), []),
  (.istore_n 0, 1, (0, 0), []),
  (.iload_n 0, 1, (0, 0), []),
  (.iload_n 0, 1, (0, 0), []),
  (.iconst 4, 1, (4, 0), []),
  (.iushr, 1, (0, 0), []),
  (.iadd, 1, (0, 0), []),
  (.ldc_w 267, 3, (252645135, 0), [[0, 4078]]),
  (.iand, 1, (0, 0), []),
  (.istore_n 0, 1, (0, 0), []),
  (.iload_n 0, 1, (0, 0), []),
  (.iload_n 0, 1, (0, 0), []),
  (.bipush 8, 2, (8, 0), []),
  (.iushr, 1, (0, 0), []),
  (.iadd, 1, (0, 0), []),
  (.istore_n 0, 1, (0, 0), []),
  (.iload_n 0, 1, (0, 0), []),
  (.iload_n 0, 1, (0, 0), []),
  (.bipush 16, 2, (16, 0), []),
  (.iushr, 1, (0, 0), []),
  (.iadd, 1, (0, 0), []),
  (.istore_n 0, 1, (0, 0), []),
  (.iload_n 0, 1, (0, 0), []),
  (.bipush 63, 2, (63, 0), []),
  (.iand, 1, (0, 0), []),
  (.ireturn, 1, (0, 0), [])]
def pJ6_bitCount_0f7a4 : List (Nat × List mO) := [(0, qJ6_bitCount_0f7a4_0)]
def qJ7_fill_53178_0 : List mO := [(.iconst 0, 1, (0, 0), []),
  (.istore_n 2, 1, (0, 0), []),
  (.aload_n 0, 1, (0, 0), []),
  (.arraylength, 1, (0, 0), []),
  (.istore_n 3, 1, (0, 0), [])]
def qJ7_fill_53178_5 : List mO := [(.iload_n 2, 1, (0, 0), []),
  (.iload_n 3, 1, (0, 0), []),
  (.if_icmp .ge 13, 3, (0, 0), [[20]]),
  (.aload_n 0, 1, (0, 0), []),
  (.iload_n 2, 1, (0, 0), []),
  (.iload_n 1, 1, (0, 0), []),
  (.iastore, 1, (0, 0), []),
  (.iinc 2 1, 3, (1, 0), []),
  (.goto (-12), 3, (0, 0), [[5]])]
def qJ7_fill_53178_20 : List mO := [(.return_, 1, (0, 0), [])]
def pJ7_fill_53178 : List (Nat × List mO) := [(0, qJ7_fill_53178_0), (5, qJ7_fill_53178_5), (20, qJ7_fill_53178_20)]
def qL_law_0 : List mO := [(.new 7, 3, (0, 0), [[11, 18, 1022, 1023, 1001]]),
  (.dup, 1, (0, 0), []),
  (.invokespecial 9, 3, (0, 0), [[0, 79, 1024, 1025, 0]])]
def qL_law_7 : List mO := [(.astore_n 1, 1, (0, 0), []),
  (.new 10, 3, (0, 0), [[12, 36, 5106, 5107, 1013]]),
  (.dup, 1, (0, 0), []),
  (.invokespecial 12, 3, (0, 0), [[0, 154, 5108, 5109, 0]])]
def qL_law_15 : List mO := [(.astore_n 2, 1, (0, 0), []),
  (.iconst 0, 1, (0, 0), []),
  (.istore_n 3, 1, (0, 0), [])]
def qL_law_18 : List mO := [(.iload_n 3, 1, (0, 0), []),
  (.aload_n 0, 1, (0, 0), []),
  (.arraylength, 1, (0, 0), []),
  (.iconst 5, 1, (5, 0), []),
  (.isub, 1, (0, 0), []),
  (.if_icmp .gt 2005, 3, (0, 0), [[2028]]),
  (.aload_n 0, 1, (0, 0), []),
  (.iload_n 3, 1, (0, 0), []),
  (.iaload, 1, (0, 0), []),
  (.bipush 63, 2, (63, 0), []),
  (.iand, 1, (0, 0), []),
  (.tableswitch 1990 0 49 #[216, 269, 302, 345, 378, 401, 434, 473, 536, 549, 608, 641, 654, 697, 740, 783, 816, 859, 902, 935, 968, 1001, 1034, 1057, 1100, 1133, 1176, 1219, 1242, 1265, 1318, 1351, 1384, 1397, 1430, 1453, 1512, 1545, 1588, 1627, 1670, 1713, 1756, 1799, 1842, 1875, 1918, 1941, 1964, 1977], 216, (0, 0), [[2022], [0, 248], [1, 301], [2, 334], [3, 377], [4, 410], [5, 433], [6, 466], [7, 505], [8, 568], [9, 581], [10, 640], [11, 673], [12, 686], [13, 729], [14, 772], [15, 815], [16, 848], [17, 891], [18, 934], [19, 967], [20, 1000], [21, 1033], [22, 1066], [23, 1089], [24, 1132], [25, 1165], [26, 1208], [27, 1251], [28, 1274], [29, 1297], [30, 1350], [31, 1383], [32, 1416], [33, 1429], [34, 1462], [35, 1485], [36, 1544], [37, 1577], [38, 1620], [39, 1659], [40, 1702], [41, 1745], [42, 1788], [43, 1831], [44, 1874], [45, 1907], [46, 1950], [47, 1973], [48, 1996], [49, 2009]])]
def qL_law_248 : List mO := [(.aload_n 1, 1, (0, 0), []),
  (.aload_n 0, 1, (0, 0), []),
  (.iload_n 3, 1, (0, 0), []),
  (.iconst 1, 1, (1, 0), []),
  (.iadd, 1, (0, 0), []),
  (.iaload, 1, (0, 0), []),
  (.aload_n 0, 1, (0, 0), []),
  (.iload_n 3, 1, (0, 0), []),
  (.iconst 2, 1, (2, 0), []),
  (.iadd, 1, (0, 0), []),
  (.iaload, 1, (0, 0), []),
  (.aload_n 0, 1, (0, 0), []),
  (.iload_n 3, 1, (0, 0), []),
  (.iconst 3, 1, (3, 0), []),
  (.iadd, 1, (0, 0), []),
  (.iaload, 1, (0, 0), []),
  (.aload_n 0, 1, (0, 0), []),
  (.iload_n 3, 1, (0, 0), []),
  (.iconst 4, 1, (4, 0), []),
  (.iadd, 1, (0, 0), []),
  (.iaload, 1, (0, 0), []),
  (.invokevirtual 13, 3, (0, 0), [[4, 2146, 0], [11, 80, 2148, 2147]])]
def qL_law_272 : List mO := [(.aload_n 2, 1, (0, 0), []),
  (.aload_n 0, 1, (0, 0), []),
  (.iload_n 3, 1, (0, 0), []),
  (.iconst 1, 1, (1, 0), []),
  (.iadd, 1, (0, 0), []),
  (.iaload, 1, (0, 0), []),
  (.aload_n 0, 1, (0, 0), []),
  (.iload_n 3, 1, (0, 0), []),
  (.iconst 2, 1, (2, 0), []),
  (.iadd, 1, (0, 0), []),
  (.iaload, 1, (0, 0), []),
  (.aload_n 0, 1, (0, 0), []),
  (.iload_n 3, 1, (0, 0), []),
  (.iconst 3, 1, (3, 0), []),
  (.iadd, 1, (0, 0), []),
  (.iaload, 1, (0, 0), []),
  (.aload_n 0, 1, (0, 0), []),
  (.iload_n 3, 1, (0, 0), []),
  (.iconst 4, 1, (4, 0), []),
  (.iadd, 1, (0, 0), []),
  (.iaload, 1, (0, 0), []),
  (.invokevirtual 17, 3, (0, 0), [[4, 5221, 0], [12, 166, 5223, 5222]])]
def qL_law_296 : List mO := [(.if_icmp .eq 1726, 3, (0, 0), [[2022]]),
  (.iconst 0, 1, (0, 0), []),
  (.ireturn, 1, (0, 0), [[1]])]
def qL_law_301 : List mO := [(.aload_n 1, 1, (0, 0), []),
  (.aload_n 0, 1, (0, 0), []),
  (.iload_n 3, 1, (0, 0), []),
  (.iconst 1, 1, (1, 0), []),
  (.iadd, 1, (0, 0), []),
  (.iaload, 1, (0, 0), []),
  (.aload_n 0, 1, (0, 0), []),
  (.iload_n 3, 1, (0, 0), []),
  (.iconst 2, 1, (2, 0), []),
  (.iadd, 1, (0, 0), []),
  (.iaload, 1, (0, 0), []),
  (.invokevirtual 18, 3, (0, 0), [[2, 2156, 0], [11, 81, 2158, 2157]])]
def qL_law_315 : List mO := [(.aload_n 2, 1, (0, 0), []),
  (.aload_n 0, 1, (0, 0), []),
  (.iload_n 3, 1, (0, 0), []),
  (.iconst 1, 1, (1, 0), []),
  (.iadd, 1, (0, 0), []),
  (.iaload, 1, (0, 0), []),
  (.aload_n 0, 1, (0, 0), []),
  (.iload_n 3, 1, (0, 0), []),
  (.iconst 2, 1, (2, 0), []),
  (.iadd, 1, (0, 0), []),
  (.iaload, 1, (0, 0), []),
  (.invokevirtual 22, 3, (0, 0), [[2, 5238, 0], [12, 172, 6000, 5239]])]
def qL_law_329 : List mO := [(.if_icmp .eq 1693, 3, (0, 0), [[2022]]),
  (.iconst 0, 1, (0, 0), []),
  (.ireturn, 1, (0, 0), [[1]])]
def qL_law_334 : List mO := [(.aload_n 1, 1, (0, 0), []),
  (.aload_n 0, 1, (0, 0), []),
  (.iload_n 3, 1, (0, 0), []),
  (.iconst 1, 1, (1, 0), []),
  (.iadd, 1, (0, 0), []),
  (.iaload, 1, (0, 0), []),
  (.aload_n 0, 1, (0, 0), []),
  (.iload_n 3, 1, (0, 0), []),
  (.iconst 2, 1, (2, 0), []),
  (.iadd, 1, (0, 0), []),
  (.iaload, 1, (0, 0), []),
  (.aload_n 0, 1, (0, 0), []),
  (.iload_n 3, 1, (0, 0), []),
  (.iconst 3, 1, (3, 0), []),
  (.iadd, 1, (0, 0), []),
  (.iaload, 1, (0, 0), []),
  (.invokevirtual 23, 3, (0, 0), [[3, 2194, 0], [11, 82, 2196, 2195]])]
def qL_law_353 : List mO := [(.aload_n 2, 1, (0, 0), []),
  (.aload_n 0, 1, (0, 0), []),
  (.iload_n 3, 1, (0, 0), []),
  (.iconst 1, 1, (1, 0), []),
  (.iadd, 1, (0, 0), []),
  (.iaload, 1, (0, 0), []),
  (.aload_n 0, 1, (0, 0), []),
  (.iload_n 3, 1, (0, 0), []),
  (.iconst 2, 1, (2, 0), []),
  (.iadd, 1, (0, 0), []),
  (.iaload, 1, (0, 0), []),
  (.aload_n 0, 1, (0, 0), []),
  (.iload_n 3, 1, (0, 0), []),
  (.iconst 3, 1, (3, 0), []),
  (.iadd, 1, (0, 0), []),
  (.iaload, 1, (0, 0), []),
  (.invokevirtual 27, 3, (0, 0), [[3, 6029, 0], [12, 173, 6031, 6030]])]
def qL_law_372 : List mO := [(.if_icmp .eq 1650, 3, (0, 0), [[2022]]),
  (.iconst 0, 1, (0, 0), []),
  (.ireturn, 1, (0, 0), [[1]])]
def qL_law_377 : List mO := [(.aload_n 1, 1, (0, 0), []),
  (.aload_n 0, 1, (0, 0), []),
  (.iload_n 3, 1, (0, 0), []),
  (.iconst 1, 1, (1, 0), []),
  (.iadd, 1, (0, 0), []),
  (.iaload, 1, (0, 0), []),
  (.aload_n 0, 1, (0, 0), []),
  (.iload_n 3, 1, (0, 0), []),
  (.iconst 2, 1, (2, 0), []),
  (.iadd, 1, (0, 0), []),
  (.iaload, 1, (0, 0), []),
  (.invokevirtual 28, 3, (0, 0), [[2, 2198, 0], [11, 83, 2200, 2199]])]
def qL_law_391 : List mO := [(.aload_n 2, 1, (0, 0), []),
  (.aload_n 0, 1, (0, 0), []),
  (.iload_n 3, 1, (0, 0), []),
  (.iconst 1, 1, (1, 0), []),
  (.iadd, 1, (0, 0), []),
  (.iaload, 1, (0, 0), []),
  (.aload_n 0, 1, (0, 0), []),
  (.iload_n 3, 1, (0, 0), []),
  (.iconst 2, 1, (2, 0), []),
  (.iadd, 1, (0, 0), []),
  (.iaload, 1, (0, 0), []),
  (.invokevirtual 31, 3, (0, 0), [[2, 6033, 0], [12, 174, 6035, 6034]])]
def qL_law_405 : List mO := [(.if_icmp .eq 1617, 3, (0, 0), [[2022]]),
  (.iconst 0, 1, (0, 0), []),
  (.ireturn, 1, (0, 0), [[1]])]
def qL_law_410 : List mO := [(.aload_n 1, 1, (0, 0), []),
  (.aload_n 0, 1, (0, 0), []),
  (.iload_n 3, 1, (0, 0), []),
  (.iconst 1, 1, (1, 0), []),
  (.iadd, 1, (0, 0), []),
  (.iaload, 1, (0, 0), []),
  (.invokevirtual 32, 3, (0, 0), [[1, 2202, 0], [11, 84, 2204, 2203]])]
def qL_law_419 : List mO := [(.aload_n 2, 1, (0, 0), []),
  (.aload_n 0, 1, (0, 0), []),
  (.iload_n 3, 1, (0, 0), []),
  (.iconst 1, 1, (1, 0), []),
  (.iadd, 1, (0, 0), []),
  (.iaload, 1, (0, 0), []),
  (.invokevirtual 36, 3, (0, 0), [[1, 6037, 0], [12, 175, 6039, 6038]])]
def qL_law_428 : List mO := [(.if_icmp .eq 1594, 3, (0, 0), [[2022]]),
  (.iconst 0, 1, (0, 0), []),
  (.ireturn, 1, (0, 0), [[1]])]
def qL_law_433 : List mO := [(.aload_n 1, 1, (0, 0), []),
  (.aload_n 0, 1, (0, 0), []),
  (.iload_n 3, 1, (0, 0), []),
  (.iconst 1, 1, (1, 0), []),
  (.iadd, 1, (0, 0), []),
  (.iaload, 1, (0, 0), []),
  (.aload_n 0, 1, (0, 0), []),
  (.iload_n 3, 1, (0, 0), []),
  (.iconst 2, 1, (2, 0), []),
  (.iadd, 1, (0, 0), []),
  (.iaload, 1, (0, 0), []),
  (.invokevirtual 37, 3, (0, 0), [[2, 2209, 0], [11, 85, 2211, 2210]])]
def qL_law_447 : List mO := [(.aload_n 2, 1, (0, 0), []),
  (.aload_n 0, 1, (0, 0), []),
  (.iload_n 3, 1, (0, 0), []),
  (.iconst 1, 1, (1, 0), []),
  (.iadd, 1, (0, 0), []),
  (.iaload, 1, (0, 0), []),
  (.aload_n 0, 1, (0, 0), []),
  (.iload_n 3, 1, (0, 0), []),
  (.iconst 2, 1, (2, 0), []),
  (.iadd, 1, (0, 0), []),
  (.iaload, 1, (0, 0), []),
  (.invokevirtual 40, 3, (0, 0), [[2, 6045, 0], [12, 176, 6047, 6046]])]
def qL_law_461 : List mO := [(.if_icmp .eq 1561, 3, (0, 0), [[2022]]),
  (.iconst 0, 1, (0, 0), []),
  (.ireturn, 1, (0, 0), [[1]])]
def qL_law_466 : List mO := [(.aload_n 1, 1, (0, 0), []),
  (.aload_n 0, 1, (0, 0), []),
  (.iload_n 3, 1, (0, 0), []),
  (.iconst 1, 1, (1, 0), []),
  (.iadd, 1, (0, 0), []),
  (.iaload, 1, (0, 0), []),
  (.ifCond .eq 7, 3, (0, 0), [[479]]),
  (.iconst 1, 1, (1, 0), []),
  (.goto 4, 3, (0, 0), [[480]])]
def qL_law_479 : List mO := [(.iconst 0, 1, (0, 0), [])]
def qL_law_480 : List mO := [(.invokevirtual 41, 3, (0, 0), [[1, 2213, 0], [11, 86, 2215, 2214]])]
def qL_law_483 : List mO := [(.aload_n 2, 1, (0, 0), []),
  (.aload_n 0, 1, (0, 0), []),
  (.iload_n 3, 1, (0, 0), []),
  (.iconst 1, 1, (1, 0), []),
  (.iadd, 1, (0, 0), []),
  (.iaload, 1, (0, 0), []),
  (.ifCond .eq 7, 3, (0, 0), [[496]]),
  (.iconst 1, 1, (1, 0), []),
  (.goto 4, 3, (0, 0), [[497]])]
def qL_law_496 : List mO := [(.iconst 0, 1, (0, 0), [])]
def qL_law_497 : List mO := [(.invokevirtual 45, 3, (0, 0), [[1, 6051, 0], [12, 177, 6053, 6052]])]
def qL_law_500 : List mO := [(.if_icmp .eq 1522, 3, (0, 0), [[2022]]),
  (.iconst 0, 1, (0, 0), []),
  (.ireturn, 1, (0, 0), [[1]])]
def qL_law_505 : List mO := [(.aload_n 1, 1, (0, 0), []),
  (.aload_n 0, 1, (0, 0), []),
  (.iload_n 3, 1, (0, 0), []),
  (.iconst 1, 1, (1, 0), []),
  (.iadd, 1, (0, 0), []),
  (.iaload, 1, (0, 0), []),
  (.i2l, 1, (0, 0), []),
  (.bipush 32, 2, (32, 0), []),
  (.lshl, 1, (0, 0), []),
  (.aload_n 0, 1, (0, 0), []),
  (.iload_n 3, 1, (0, 0), []),
  (.iconst 2, 1, (2, 0), []),
  (.iadd, 1, (0, 0), []),
  (.iaload, 1, (0, 0), []),
  (.i2l, 1, (0, 0), []),
  (.ldc2_w 46, 3, (0, 4294967295), [[7218]]),
  (.land, 1, (0, 0), []),
  (.lor, 1, (0, 0), []),
  (.aload_n 0, 1, (0, 0), []),
  (.iload_n 3, 1, (0, 0), []),
  (.iconst 3, 1, (3, 0), []),
  (.iadd, 1, (0, 0), []),
  (.iaload, 1, (0, 0), []),
  (.invokevirtual 48, 3, (0, 0), [[2, 2221, 0], [11, 91, 2223, 2222]])]
def qL_law_534 : List mO := [(.aload_n 2, 1, (0, 0), []),
  (.aload_n 0, 1, (0, 0), []),
  (.iload_n 3, 1, (0, 0), []),
  (.iconst 1, 1, (1, 0), []),
  (.iadd, 1, (0, 0), []),
  (.iaload, 1, (0, 0), []),
  (.i2l, 1, (0, 0), []),
  (.bipush 32, 2, (32, 0), []),
  (.lshl, 1, (0, 0), []),
  (.aload_n 0, 1, (0, 0), []),
  (.iload_n 3, 1, (0, 0), []),
  (.iconst 2, 1, (2, 0), []),
  (.iadd, 1, (0, 0), []),
  (.iaload, 1, (0, 0), []),
  (.i2l, 1, (0, 0), []),
  (.ldc2_w 46, 3, (0, 4294967295), [[7218]]),
  (.land, 1, (0, 0), []),
  (.lor, 1, (0, 0), []),
  (.aload_n 0, 1, (0, 0), []),
  (.iload_n 3, 1, (0, 0), []),
  (.iconst 3, 1, (3, 0), []),
  (.iadd, 1, (0, 0), []),
  (.iaload, 1, (0, 0), []),
  (.invokevirtual 52, 3, (0, 0), [[2, 7022, 0], [12, 226, 7024, 7023]])]
def qL_law_563 : List mO := [(.if_icmp .eq 1459, 3, (0, 0), [[2022]]),
  (.iconst 0, 1, (0, 0), []),
  (.ireturn, 1, (0, 0), [[1]])]
def qL_law_568 : List mO := [(.aload_n 1, 1, (0, 0), []),
  (.invokevirtual 53, 3, (0, 0), [[0, 2225, 0], [11, 92, 2227, 2226]])]
def qL_law_572 : List mO := [(.aload_n 2, 1, (0, 0), []),
  (.invokevirtual 57, 3, (0, 0), [[0, 7028, 0], [12, 243, 7030, 7029]])]
def qL_law_576 : List mO := [(.if_icmp .eq 1446, 3, (0, 0), [[2022]]),
  (.iconst 0, 1, (0, 0), []),
  (.ireturn, 1, (0, 0), [[1]])]
def qL_law_581 : List mO := [(.aload_n 1, 1, (0, 0), []),
  (.aload_n 0, 1, (0, 0), []),
  (.iload_n 3, 1, (0, 0), []),
  (.iconst 1, 1, (1, 0), []),
  (.iadd, 1, (0, 0), []),
  (.iaload, 1, (0, 0), []),
  (.aload_n 0, 1, (0, 0), []),
  (.iload_n 3, 1, (0, 0), []),
  (.iconst 2, 1, (2, 0), []),
  (.iadd, 1, (0, 0), []),
  (.iaload, 1, (0, 0), []),
  (.aload_n 0, 1, (0, 0), []),
  (.iload_n 3, 1, (0, 0), []),
  (.iconst 3, 1, (3, 0), []),
  (.iadd, 1, (0, 0), []),
  (.iaload, 1, (0, 0), []),
  (.ifCond .eq 7, 3, (0, 0), [[604]]),
  (.iconst 1, 1, (1, 0), []),
  (.goto 4, 3, (0, 0), [[605]])]
def qL_law_604 : List mO := [(.iconst 0, 1, (0, 0), [])]
def qL_law_605 : List mO := [(.invokevirtual 58, 3, (0, 0), [[3, 3161, 0], [11, 93, 3163, 3162]])]
def qL_law_608 : List mO := [(.aload_n 2, 1, (0, 0), []),
  (.aload_n 0, 1, (0, 0), []),
  (.iload_n 3, 1, (0, 0), []),
  (.iconst 1, 1, (1, 0), []),
  (.iadd, 1, (0, 0), []),
  (.iaload, 1, (0, 0), []),
  (.aload_n 0, 1, (0, 0), []),
  (.iload_n 3, 1, (0, 0), []),
  (.iconst 2, 1, (2, 0), []),
  (.iadd, 1, (0, 0), []),
  (.iaload, 1, (0, 0), []),
  (.aload_n 0, 1, (0, 0), []),
  (.iload_n 3, 1, (0, 0), []),
  (.iconst 3, 1, (3, 0), []),
  (.iadd, 1, (0, 0), []),
  (.iaload, 1, (0, 0), []),
  (.ifCond .eq 7, 3, (0, 0), [[631]]),
  (.iconst 1, 1, (1, 0), []),
  (.goto 4, 3, (0, 0), [[632]])]
def qL_law_631 : List mO := [(.iconst 0, 1, (0, 0), [])]
def qL_law_632 : List mO := [(.invokevirtual 62, 3, (0, 0), [[3, 6055, 0], [12, 183, 6057, 6056]])]
def qL_law_635 : List mO := [(.if_icmp .eq 1387, 3, (0, 0), [[2022]]),
  (.iconst 0, 1, (0, 0), []),
  (.ireturn, 1, (0, 0), [[1]])]
def qL_law_640 : List mO := [(.aload_n 1, 1, (0, 0), []),
  (.aload_n 0, 1, (0, 0), []),
  (.iload_n 3, 1, (0, 0), []),
  (.iconst 1, 1, (1, 0), []),
  (.iadd, 1, (0, 0), []),
  (.iaload, 1, (0, 0), []),
  (.aload_n 0, 1, (0, 0), []),
  (.iload_n 3, 1, (0, 0), []),
  (.iconst 2, 1, (2, 0), []),
  (.iadd, 1, (0, 0), []),
  (.iaload, 1, (0, 0), []),
  (.invokevirtual 63, 3, (0, 0), [[2, 3217, 0], [11, 94, 3219, 3218]])]
def qL_law_654 : List mO := [(.aload_n 2, 1, (0, 0), []),
  (.aload_n 0, 1, (0, 0), []),
  (.iload_n 3, 1, (0, 0), []),
  (.iconst 1, 1, (1, 0), []),
  (.iadd, 1, (0, 0), []),
  (.iaload, 1, (0, 0), []),
  (.aload_n 0, 1, (0, 0), []),
  (.iload_n 3, 1, (0, 0), []),
  (.iconst 2, 1, (2, 0), []),
  (.iadd, 1, (0, 0), []),
  (.iaload, 1, (0, 0), []),
  (.invokevirtual 66, 3, (0, 0), [[2, 6079, 0], [12, 184, 6081, 6080]])]
def qL_law_668 : List mO := [(.if_icmp .eq 1354, 3, (0, 0), [[2022]]),
  (.iconst 0, 1, (0, 0), []),
  (.ireturn, 1, (0, 0), [[1]])]
def qL_law_673 : List mO := [(.aload_n 1, 1, (0, 0), []),
  (.invokevirtual 67, 3, (0, 0), [[0, 3224, 0], [11, 95, 3226, 3225]])]
def qL_law_677 : List mO := [(.aload_n 2, 1, (0, 0), []),
  (.invokevirtual 70, 3, (0, 0), [[0, 6084, 0], [12, 186, 6086, 6085]])]
def qL_law_681 : List mO := [(.if_icmp .eq 1341, 3, (0, 0), [[2022]]),
  (.iconst 0, 1, (0, 0), []),
  (.ireturn, 1, (0, 0), [[1]])]
def qL_law_686 : List mO := [(.aload_n 1, 1, (0, 0), []),
  (.aload_n 0, 1, (0, 0), []),
  (.iload_n 3, 1, (0, 0), []),
  (.iconst 1, 1, (1, 0), []),
  (.iadd, 1, (0, 0), []),
  (.iaload, 1, (0, 0), []),
  (.aload_n 0, 1, (0, 0), []),
  (.iload_n 3, 1, (0, 0), []),
  (.iconst 2, 1, (2, 0), []),
  (.iadd, 1, (0, 0), []),
  (.iaload, 1, (0, 0), []),
  (.aload_n 0, 1, (0, 0), []),
  (.iload_n 3, 1, (0, 0), []),
  (.iconst 3, 1, (3, 0), []),
  (.iadd, 1, (0, 0), []),
  (.iaload, 1, (0, 0), []),
  (.invokevirtual 71, 3, (0, 0), [[3, 3235, 0], [11, 96, 3237, 3236]])]
def qL_law_705 : List mO := [(.aload_n 2, 1, (0, 0), []),
  (.aload_n 0, 1, (0, 0), []),
  (.iload_n 3, 1, (0, 0), []),
  (.iconst 1, 1, (1, 0), []),
  (.iadd, 1, (0, 0), []),
  (.iaload, 1, (0, 0), []),
  (.aload_n 0, 1, (0, 0), []),
  (.iload_n 3, 1, (0, 0), []),
  (.iconst 2, 1, (2, 0), []),
  (.iadd, 1, (0, 0), []),
  (.iaload, 1, (0, 0), []),
  (.aload_n 0, 1, (0, 0), []),
  (.iload_n 3, 1, (0, 0), []),
  (.iconst 3, 1, (3, 0), []),
  (.iadd, 1, (0, 0), []),
  (.iaload, 1, (0, 0), []),
  (.invokevirtual 74, 3, (0, 0), [[3, 6092, 0], [12, 188, 6094, 6093]])]
def qL_law_724 : List mO := [(.if_icmp .eq 1298, 3, (0, 0), [[2022]]),
  (.iconst 0, 1, (0, 0), []),
  (.ireturn, 1, (0, 0), [[1]])]
def qL_law_729 : List mO := [(.aload_n 1, 1, (0, 0), []),
  (.aload_n 0, 1, (0, 0), []),
  (.iload_n 3, 1, (0, 0), []),
  (.iconst 1, 1, (1, 0), []),
  (.iadd, 1, (0, 0), []),
  (.iaload, 1, (0, 0), []),
  (.aload_n 0, 1, (0, 0), []),
  (.iload_n 3, 1, (0, 0), []),
  (.iconst 2, 1, (2, 0), []),
  (.iadd, 1, (0, 0), []),
  (.iaload, 1, (0, 0), []),
  (.aload_n 0, 1, (0, 0), []),
  (.iload_n 3, 1, (0, 0), []),
  (.iconst 3, 1, (3, 0), []),
  (.iadd, 1, (0, 0), []),
  (.iaload, 1, (0, 0), []),
  (.invokevirtual 75, 3, (0, 0), [[3, 4007, 0], [11, 97, 4009, 4008]])]
def qL_law_748 : List mO := [(.aload_n 2, 1, (0, 0), []),
  (.aload_n 0, 1, (0, 0), []),
  (.iload_n 3, 1, (0, 0), []),
  (.iconst 1, 1, (1, 0), []),
  (.iadd, 1, (0, 0), []),
  (.iaload, 1, (0, 0), []),
  (.aload_n 0, 1, (0, 0), []),
  (.iload_n 3, 1, (0, 0), []),
  (.iconst 2, 1, (2, 0), []),
  (.iadd, 1, (0, 0), []),
  (.iaload, 1, (0, 0), []),
  (.aload_n 0, 1, (0, 0), []),
  (.iload_n 3, 1, (0, 0), []),
  (.iconst 3, 1, (3, 0), []),
  (.iadd, 1, (0, 0), []),
  (.iaload, 1, (0, 0), []),
  (.invokevirtual 78, 3, (0, 0), [[3, 6104, 0], [12, 189, 6106, 6105]])]
def qL_law_767 : List mO := [(.if_icmp .eq 1255, 3, (0, 0), [[2022]]),
  (.iconst 0, 1, (0, 0), []),
  (.ireturn, 1, (0, 0), [[1]])]
def qL_law_772 : List mO := [(.aload_n 1, 1, (0, 0), []),
  (.aload_n 0, 1, (0, 0), []),
  (.iload_n 3, 1, (0, 0), []),
  (.iconst 1, 1, (1, 0), []),
  (.iadd, 1, (0, 0), []),
  (.iaload, 1, (0, 0), []),
  (.aload_n 0, 1, (0, 0), []),
  (.iload_n 3, 1, (0, 0), []),
  (.iconst 2, 1, (2, 0), []),
  (.iadd, 1, (0, 0), []),
  (.iaload, 1, (0, 0), []),
  (.aload_n 0, 1, (0, 0), []),
  (.iload_n 3, 1, (0, 0), []),
  (.iconst 3, 1, (3, 0), []),
  (.iadd, 1, (0, 0), []),
  (.iaload, 1, (0, 0), []),
  (.invokevirtual 79, 3, (0, 0), [[3, 4011, 0], [11, 98, 4013, 4012]])]
def qL_law_791 : List mO := [(.aload_n 2, 1, (0, 0), []),
  (.aload_n 0, 1, (0, 0), []),
  (.iload_n 3, 1, (0, 0), []),
  (.iconst 1, 1, (1, 0), []),
  (.iadd, 1, (0, 0), []),
  (.iaload, 1, (0, 0), []),
  (.aload_n 0, 1, (0, 0), []),
  (.iload_n 3, 1, (0, 0), []),
  (.iconst 2, 1, (2, 0), []),
  (.iadd, 1, (0, 0), []),
  (.iaload, 1, (0, 0), []),
  (.aload_n 0, 1, (0, 0), []),
  (.iload_n 3, 1, (0, 0), []),
  (.iconst 3, 1, (3, 0), []),
  (.iadd, 1, (0, 0), []),
  (.iaload, 1, (0, 0), []),
  (.invokevirtual 82, 3, (0, 0), [[3, 6108, 0], [12, 190, 6110, 6109]])]
def qL_law_810 : List mO := [(.if_icmp .eq 1212, 3, (0, 0), [[2022]]),
  (.iconst 0, 1, (0, 0), []),
  (.ireturn, 1, (0, 0), [[1]])]
def qL_law_815 : List mO := [(.aload_n 1, 1, (0, 0), []),
  (.aload_n 0, 1, (0, 0), []),
  (.iload_n 3, 1, (0, 0), []),
  (.iconst 1, 1, (1, 0), []),
  (.iadd, 1, (0, 0), []),
  (.iaload, 1, (0, 0), []),
  (.aload_n 0, 1, (0, 0), []),
  (.iload_n 3, 1, (0, 0), []),
  (.iconst 2, 1, (2, 0), []),
  (.iadd, 1, (0, 0), []),
  (.iaload, 1, (0, 0), []),
  (.invokevirtual 83, 3, (0, 0), [[2, 4019, 0], [11, 99, 4021, 4020]])]
def qL_law_829 : List mO := [(.aload_n 2, 1, (0, 0), []),
  (.aload_n 0, 1, (0, 0), []),
  (.iload_n 3, 1, (0, 0), []),
  (.iconst 1, 1, (1, 0), []),
  (.iadd, 1, (0, 0), []),
  (.iaload, 1, (0, 0), []),
  (.aload_n 0, 1, (0, 0), []),
  (.iload_n 3, 1, (0, 0), []),
  (.iconst 2, 1, (2, 0), []),
  (.iadd, 1, (0, 0), []),
  (.iaload, 1, (0, 0), []),
  (.invokevirtual 86, 3, (0, 0), [[2, 6116, 0], [12, 191, 6118, 6117]])]
def qL_law_843 : List mO := [(.if_icmp .eq 1179, 3, (0, 0), [[2022]]),
  (.iconst 0, 1, (0, 0), []),
  (.ireturn, 1, (0, 0), [[1]])]
def qL_law_848 : List mO := [(.aload_n 1, 1, (0, 0), []),
  (.aload_n 0, 1, (0, 0), []),
  (.iload_n 3, 1, (0, 0), []),
  (.iconst 1, 1, (1, 0), []),
  (.iadd, 1, (0, 0), []),
  (.iaload, 1, (0, 0), []),
  (.aload_n 0, 1, (0, 0), []),
  (.iload_n 3, 1, (0, 0), []),
  (.iconst 2, 1, (2, 0), []),
  (.iadd, 1, (0, 0), []),
  (.iaload, 1, (0, 0), []),
  (.aload_n 0, 1, (0, 0), []),
  (.iload_n 3, 1, (0, 0), []),
  (.iconst 3, 1, (3, 0), []),
  (.iadd, 1, (0, 0), []),
  (.iaload, 1, (0, 0), []),
  (.invokevirtual 87, 3, (0, 0), [[3, 4031, 0], [11, 100, 4033, 4032]])]
def qL_law_867 : List mO := [(.aload_n 2, 1, (0, 0), []),
  (.aload_n 0, 1, (0, 0), []),
  (.iload_n 3, 1, (0, 0), []),
  (.iconst 1, 1, (1, 0), []),
  (.iadd, 1, (0, 0), []),
  (.iaload, 1, (0, 0), []),
  (.aload_n 0, 1, (0, 0), []),
  (.iload_n 3, 1, (0, 0), []),
  (.iconst 2, 1, (2, 0), []),
  (.iadd, 1, (0, 0), []),
  (.iaload, 1, (0, 0), []),
  (.aload_n 0, 1, (0, 0), []),
  (.iload_n 3, 1, (0, 0), []),
  (.iconst 3, 1, (3, 0), []),
  (.iadd, 1, (0, 0), []),
  (.iaload, 1, (0, 0), []),
  (.invokevirtual 90, 3, (0, 0), [[3, 6123, 0], [12, 192, 6125, 6124]])]
def qL_law_886 : List mO := [(.if_icmp .eq 1136, 3, (0, 0), [[2022]]),
  (.iconst 0, 1, (0, 0), []),
  (.ireturn, 1, (0, 0), [[1]])]
def qL_law_891 : List mO := [(.aload_n 1, 1, (0, 0), []),
  (.aload_n 0, 1, (0, 0), []),
  (.iload_n 3, 1, (0, 0), []),
  (.iconst 1, 1, (1, 0), []),
  (.iadd, 1, (0, 0), []),
  (.iaload, 1, (0, 0), []),
  (.aload_n 0, 1, (0, 0), []),
  (.iload_n 3, 1, (0, 0), []),
  (.iconst 2, 1, (2, 0), []),
  (.iadd, 1, (0, 0), []),
  (.iaload, 1, (0, 0), []),
  (.aload_n 0, 1, (0, 0), []),
  (.iload_n 3, 1, (0, 0), []),
  (.iconst 3, 1, (3, 0), []),
  (.iadd, 1, (0, 0), []),
  (.iaload, 1, (0, 0), []),
  (.invokevirtual 91, 3, (0, 0), [[3, 4038, 0], [11, 101, 4040, 4039]])]
def qL_law_910 : List mO := [(.aload_n 2, 1, (0, 0), []),
  (.aload_n 0, 1, (0, 0), []),
  (.iload_n 3, 1, (0, 0), []),
  (.iconst 1, 1, (1, 0), []),
  (.iadd, 1, (0, 0), []),
  (.iaload, 1, (0, 0), []),
  (.aload_n 0, 1, (0, 0), []),
  (.iload_n 3, 1, (0, 0), []),
  (.iconst 2, 1, (2, 0), []),
  (.iadd, 1, (0, 0), []),
  (.iaload, 1, (0, 0), []),
  (.aload_n 0, 1, (0, 0), []),
  (.iload_n 3, 1, (0, 0), []),
  (.iconst 3, 1, (3, 0), []),
  (.iadd, 1, (0, 0), []),
  (.iaload, 1, (0, 0), []),
  (.invokevirtual 94, 3, (0, 0), [[3, 6128, 0], [12, 194, 6130, 6129]])]
def qL_law_929 : List mO := [(.if_icmp .eq 1093, 3, (0, 0), [[2022]]),
  (.iconst 0, 1, (0, 0), []),
  (.ireturn, 1, (0, 0), [[1]])]
def qL_law_934 : List mO := [(.aload_n 1, 1, (0, 0), []),
  (.aload_n 0, 1, (0, 0), []),
  (.iload_n 3, 1, (0, 0), []),
  (.iconst 1, 1, (1, 0), []),
  (.iadd, 1, (0, 0), []),
  (.iaload, 1, (0, 0), []),
  (.aload_n 0, 1, (0, 0), []),
  (.iload_n 3, 1, (0, 0), []),
  (.iconst 2, 1, (2, 0), []),
  (.iadd, 1, (0, 0), []),
  (.iaload, 1, (0, 0), []),
  (.invokevirtual 95, 3, (0, 0), [[2, 4055, 0], [11, 102, 4057, 4056]])]
def qL_law_948 : List mO := [(.aload_n 2, 1, (0, 0), []),
  (.aload_n 0, 1, (0, 0), []),
  (.iload_n 3, 1, (0, 0), []),
  (.iconst 1, 1, (1, 0), []),
  (.iadd, 1, (0, 0), []),
  (.iaload, 1, (0, 0), []),
  (.aload_n 0, 1, (0, 0), []),
  (.iload_n 3, 1, (0, 0), []),
  (.iconst 2, 1, (2, 0), []),
  (.iadd, 1, (0, 0), []),
  (.iaload, 1, (0, 0), []),
  (.invokevirtual 98, 3, (0, 0), [[2, 6136, 0], [12, 196, 6138, 6137]])]
def qL_law_962 : List mO := [(.if_icmp .eq 1060, 3, (0, 0), [[2022]]),
  (.iconst 0, 1, (0, 0), []),
  (.ireturn, 1, (0, 0), [[1]])]
def qL_law_967 : List mO := [(.aload_n 1, 1, (0, 0), []),
  (.aload_n 0, 1, (0, 0), []),
  (.iload_n 3, 1, (0, 0), []),
  (.iconst 1, 1, (1, 0), []),
  (.iadd, 1, (0, 0), []),
  (.iaload, 1, (0, 0), []),
  (.aload_n 0, 1, (0, 0), []),
  (.iload_n 3, 1, (0, 0), []),
  (.iconst 2, 1, (2, 0), []),
  (.iadd, 1, (0, 0), []),
  (.iaload, 1, (0, 0), []),
  (.invokevirtual 99, 3, (0, 0), [[2, 4069, 0], [11, 103, 4071, 4070]])]
def qL_law_981 : List mO := [(.aload_n 2, 1, (0, 0), []),
  (.aload_n 0, 1, (0, 0), []),
  (.iload_n 3, 1, (0, 0), []),
  (.iconst 1, 1, (1, 0), []),
  (.iadd, 1, (0, 0), []),
  (.iaload, 1, (0, 0), []),
  (.aload_n 0, 1, (0, 0), []),
  (.iload_n 3, 1, (0, 0), []),
  (.iconst 2, 1, (2, 0), []),
  (.iadd, 1, (0, 0), []),
  (.iaload, 1, (0, 0), []),
  (.invokevirtual 102, 3, (0, 0), [[2, 6144, 0], [12, 198, 6146, 6145]])]
def qL_law_995 : List mO := [(.if_icmp .eq 1027, 3, (0, 0), [[2022]]),
  (.iconst 0, 1, (0, 0), []),
  (.ireturn, 1, (0, 0), [[1]])]
def qL_law_1000 : List mO := [(.aload_n 1, 1, (0, 0), []),
  (.aload_n 0, 1, (0, 0), []),
  (.iload_n 3, 1, (0, 0), []),
  (.iconst 1, 1, (1, 0), []),
  (.iadd, 1, (0, 0), []),
  (.iaload, 1, (0, 0), []),
  (.aload_n 0, 1, (0, 0), []),
  (.iload_n 3, 1, (0, 0), []),
  (.iconst 2, 1, (2, 0), []),
  (.iadd, 1, (0, 0), []),
  (.iaload, 1, (0, 0), []),
  (.invokevirtual 103, 3, (0, 0), [[2, 4079, 0], [11, 104, 4081, 4080]])]
def qL_law_1014 : List mO := [(.aload_n 2, 1, (0, 0), []),
  (.aload_n 0, 1, (0, 0), []),
  (.iload_n 3, 1, (0, 0), []),
  (.iconst 1, 1, (1, 0), []),
  (.iadd, 1, (0, 0), []),
  (.iaload, 1, (0, 0), []),
  (.aload_n 0, 1, (0, 0), []),
  (.iload_n 3, 1, (0, 0), []),
  (.iconst 2, 1, (2, 0), []),
  (.iadd, 1, (0, 0), []),
  (.iaload, 1, (0, 0), []),
  (.invokevirtual 106, 3, (0, 0), [[2, 6151, 0], [12, 199, 6153, 6152]])]
def qL_law_1028 : List mO := [(.if_icmp .eq 994, 3, (0, 0), [[2022]]),
  (.iconst 0, 1, (0, 0), []),
  (.ireturn, 1, (0, 0), [[1]])]
def qL_law_1033 : List mO := [(.aload_n 1, 1, (0, 0), []),
  (.aload_n 0, 1, (0, 0), []),
  (.iload_n 3, 1, (0, 0), []),
  (.iconst 1, 1, (1, 0), []),
  (.iadd, 1, (0, 0), []),
  (.iaload, 1, (0, 0), []),
  (.aload_n 0, 1, (0, 0), []),
  (.iload_n 3, 1, (0, 0), []),
  (.iconst 2, 1, (2, 0), []),
  (.iadd, 1, (0, 0), []),
  (.iaload, 1, (0, 0), []),
  (.invokevirtual 107, 3, (0, 0), [[2, 4083, 0], [11, 105, 4085, 4084]])]
def qL_law_1047 : List mO := [(.aload_n 2, 1, (0, 0), []),
  (.aload_n 0, 1, (0, 0), []),
  (.iload_n 3, 1, (0, 0), []),
  (.iconst 1, 1, (1, 0), []),
  (.iadd, 1, (0, 0), []),
  (.iaload, 1, (0, 0), []),
  (.aload_n 0, 1, (0, 0), []),
  (.iload_n 3, 1, (0, 0), []),
  (.iconst 2, 1, (2, 0), []),
  (.iadd, 1, (0, 0), []),
  (.iaload, 1, (0, 0), []),
  (.invokevirtual 110, 3, (0, 0), [[2, 6155, 0], [12, 202, 6157, 6156]])]
def qL_law_1061 : List mO := [(.if_icmp .eq 961, 3, (0, 0), [[2022]]),
  (.iconst 0, 1, (0, 0), []),
  (.ireturn, 1, (0, 0), [[1]])]
def qL_law_1066 : List mO := [(.aload_n 1, 1, (0, 0), []),
  (.aload_n 0, 1, (0, 0), []),
  (.iload_n 3, 1, (0, 0), []),
  (.iconst 1, 1, (1, 0), []),
  (.iadd, 1, (0, 0), []),
  (.iaload, 1, (0, 0), []),
  (.invokevirtual 111, 3, (0, 0), [[1, 4091, 0], [11, 106, 4093, 4092]])]
def qL_law_1075 : List mO := [(.aload_n 2, 1, (0, 0), []),
  (.aload_n 0, 1, (0, 0), []),
  (.iload_n 3, 1, (0, 0), []),
  (.iconst 1, 1, (1, 0), []),
  (.iadd, 1, (0, 0), []),
  (.iaload, 1, (0, 0), []),
  (.invokevirtual 114, 3, (0, 0), [[1, 6167, 0], [12, 203, 6169, 6168]])]
def qL_law_1084 : List mO := [(.if_icmp .eq 938, 3, (0, 0), [[2022]]),
  (.iconst 0, 1, (0, 0), []),
  (.ireturn, 1, (0, 0), [[1]])]
def qL_law_1089 : List mO := [(.aload_n 1, 1, (0, 0), []),
  (.aload_n 0, 1, (0, 0), []),
  (.iload_n 3, 1, (0, 0), []),
  (.iconst 1, 1, (1, 0), []),
  (.iadd, 1, (0, 0), []),
  (.iaload, 1, (0, 0), []),
  (.aload_n 0, 1, (0, 0), []),
  (.iload_n 3, 1, (0, 0), []),
  (.iconst 2, 1, (2, 0), []),
  (.iadd, 1, (0, 0), []),
  (.iaload, 1, (0, 0), []),
  (.aload_n 0, 1, (0, 0), []),
  (.iload_n 3, 1, (0, 0), []),
  (.iconst 3, 1, (3, 0), []),
  (.iadd, 1, (0, 0), []),
  (.iaload, 1, (0, 0), []),
  (.invokevirtual 115, 3, (0, 0), [[3, 4095, 0], [11, 107, 4097, 4096]])]
def qL_law_1108 : List mO := [(.aload_n 2, 1, (0, 0), []),
  (.aload_n 0, 1, (0, 0), []),
  (.iload_n 3, 1, (0, 0), []),
  (.iconst 1, 1, (1, 0), []),
  (.iadd, 1, (0, 0), []),
  (.iaload, 1, (0, 0), []),
  (.aload_n 0, 1, (0, 0), []),
  (.iload_n 3, 1, (0, 0), []),
  (.iconst 2, 1, (2, 0), []),
  (.iadd, 1, (0, 0), []),
  (.iaload, 1, (0, 0), []),
  (.aload_n 0, 1, (0, 0), []),
  (.iload_n 3, 1, (0, 0), []),
  (.iconst 3, 1, (3, 0), []),
  (.iadd, 1, (0, 0), []),
  (.iaload, 1, (0, 0), []),
  (.invokevirtual 118, 3, (0, 0), [[3, 6171, 0], [12, 204, 6173, 6172]])]
def qL_law_1127 : List mO := [(.if_icmp .eq 895, 3, (0, 0), [[2022]]),
  (.iconst 0, 1, (0, 0), []),
  (.ireturn, 1, (0, 0), [[1]])]
def qL_law_1132 : List mO := [(.aload_n 1, 1, (0, 0), []),
  (.aload_n 0, 1, (0, 0), []),
  (.iload_n 3, 1, (0, 0), []),
  (.iconst 1, 1, (1, 0), []),
  (.iadd, 1, (0, 0), []),
  (.iaload, 1, (0, 0), []),
  (.aload_n 0, 1, (0, 0), []),
  (.iload_n 3, 1, (0, 0), []),
  (.iconst 2, 1, (2, 0), []),
  (.iadd, 1, (0, 0), []),
  (.iaload, 1, (0, 0), []),
  (.invokevirtual 119, 3, (0, 0), [[2, 4102, 0], [11, 108, 4104, 4103]])]
def qL_law_1146 : List mO := [(.aload_n 2, 1, (0, 0), []),
  (.aload_n 0, 1, (0, 0), []),
  (.iload_n 3, 1, (0, 0), []),
  (.iconst 1, 1, (1, 0), []),
  (.iadd, 1, (0, 0), []),
  (.iaload, 1, (0, 0), []),
  (.aload_n 0, 1, (0, 0), []),
  (.iload_n 3, 1, (0, 0), []),
  (.iconst 2, 1, (2, 0), []),
  (.iadd, 1, (0, 0), []),
  (.iaload, 1, (0, 0), []),
  (.invokevirtual 122, 3, (0, 0), [[2, 6175, 0], [12, 206, 6177, 6176]])]
def qL_law_1160 : List mO := [(.if_icmp .eq 862, 3, (0, 0), [[2022]]),
  (.iconst 0, 1, (0, 0), []),
  (.ireturn, 1, (0, 0), [[1]])]
def qL_law_1165 : List mO := [(.aload_n 1, 1, (0, 0), []),
  (.aload_n 0, 1, (0, 0), []),
  (.iload_n 3, 1, (0, 0), []),
  (.iconst 1, 1, (1, 0), []),
  (.iadd, 1, (0, 0), []),
  (.iaload, 1, (0, 0), []),
  (.aload_n 0, 1, (0, 0), []),
  (.iload_n 3, 1, (0, 0), []),
  (.iconst 2, 1, (2, 0), []),
  (.iadd, 1, (0, 0), []),
  (.iaload, 1, (0, 0), []),
  (.aload_n 0, 1, (0, 0), []),
  (.iload_n 3, 1, (0, 0), []),
  (.iconst 3, 1, (3, 0), []),
  (.iadd, 1, (0, 0), []),
  (.iaload, 1, (0, 0), []),
  (.invokevirtual 123, 3, (0, 0), [[3, 4110, 0], [11, 109, 4112, 4111]])]
def qL_law_1184 : List mO := [(.aload_n 2, 1, (0, 0), []),
  (.aload_n 0, 1, (0, 0), []),
  (.iload_n 3, 1, (0, 0), []),
  (.iconst 1, 1, (1, 0), []),
  (.iadd, 1, (0, 0), []),
  (.iaload, 1, (0, 0), []),
  (.aload_n 0, 1, (0, 0), []),
  (.iload_n 3, 1, (0, 0), []),
  (.iconst 2, 1, (2, 0), []),
  (.iadd, 1, (0, 0), []),
  (.iaload, 1, (0, 0), []),
  (.aload_n 0, 1, (0, 0), []),
  (.iload_n 3, 1, (0, 0), []),
  (.iconst 3, 1, (3, 0), []),
  (.iadd, 1, (0, 0), []),
  (.iaload, 1, (0, 0), []),
  (.invokevirtual 126, 3, (0, 0), [[3, 6183, 0], [12, 207, 6185, 6184]])]
def qL_law_1203 : List mO := [(.if_icmp .eq 819, 3, (0, 0), [[2022]]),
  (.iconst 0, 1, (0, 0), []),
  (.ireturn, 1, (0, 0), [[1]])]
def qL_law_1208 : List mO := [(.aload_n 1, 1, (0, 0), []),
  (.aload_n 0, 1, (0, 0), []),
  (.iload_n 3, 1, (0, 0), []),
  (.iconst 1, 1, (1, 0), []),
  (.iadd, 1, (0, 0), []),
  (.iaload, 1, (0, 0), []),
  (.aload_n 0, 1, (0, 0), []),
  (.iload_n 3, 1, (0, 0), []),
  (.iconst 2, 1, (2, 0), []),
  (.iadd, 1, (0, 0), []),
  (.iaload, 1, (0, 0), []),
  (.aload_n 0, 1, (0, 0), []),
  (.iload_n 3, 1, (0, 0), []),
  (.iconst 3, 1, (3, 0), []),
  (.iadd, 1, (0, 0), []),
  (.iaload, 1, (0, 0), []),
  (.invokevirtual 127, 3, (0, 0), [[3, 4114, 0], [11, 110, 4116, 4115]])]
def qL_law_1227 : List mO := [(.aload_n 2, 1, (0, 0), []),
  (.aload_n 0, 1, (0, 0), []),
  (.iload_n 3, 1, (0, 0), []),
  (.iconst 1, 1, (1, 0), []),
  (.iadd, 1, (0, 0), []),
  (.iaload, 1, (0, 0), []),
  (.aload_n 0, 1, (0, 0), []),
  (.iload_n 3, 1, (0, 0), []),
  (.iconst 2, 1, (2, 0), []),
  (.iadd, 1, (0, 0), []),
  (.iaload, 1, (0, 0), []),
  (.aload_n 0, 1, (0, 0), []),
  (.iload_n 3, 1, (0, 0), []),
  (.iconst 3, 1, (3, 0), []),
  (.iadd, 1, (0, 0), []),
  (.iaload, 1, (0, 0), []),
  (.invokevirtual 130, 3, (0, 0), [[3, 6187, 0], [12, 208, 6189, 6188]])]
def qL_law_1246 : List mO := [(.if_icmp .eq 776, 3, (0, 0), [[2022]]),
  (.iconst 0, 1, (0, 0), []),
  (.ireturn, 1, (0, 0), [[1]])]
def qL_law_1251 : List mO := [(.aload_n 1, 1, (0, 0), []),
  (.aload_n 0, 1, (0, 0), []),
  (.iload_n 3, 1, (0, 0), []),
  (.iconst 1, 1, (1, 0), []),
  (.iadd, 1, (0, 0), []),
  (.iaload, 1, (0, 0), []),
  (.invokevirtual 131, 3, (0, 0), [[1, 4118, 0], [11, 111, 4120, 4119]])]
def qL_law_1260 : List mO := [(.aload_n 2, 1, (0, 0), []),
  (.aload_n 0, 1, (0, 0), []),
  (.iload_n 3, 1, (0, 0), []),
  (.iconst 1, 1, (1, 0), []),
  (.iadd, 1, (0, 0), []),
  (.iaload, 1, (0, 0), []),
  (.invokevirtual 134, 3, (0, 0), [[1, 6191, 0], [12, 209, 6193, 6192]])]
def qL_law_1269 : List mO := [(.if_icmp .eq 753, 3, (0, 0), [[2022]]),
  (.iconst 0, 1, (0, 0), []),
  (.ireturn, 1, (0, 0), [[1]])]
def qL_law_1274 : List mO := [(.aload_n 1, 1, (0, 0), []),
  (.aload_n 0, 1, (0, 0), []),
  (.iload_n 3, 1, (0, 0), []),
  (.iconst 1, 1, (1, 0), []),
  (.iadd, 1, (0, 0), []),
  (.iaload, 1, (0, 0), []),
  (.invokevirtual 135, 3, (0, 0), [[1, 4122, 0], [11, 112, 4124, 4123]])]
def qL_law_1283 : List mO := [(.aload_n 2, 1, (0, 0), []),
  (.aload_n 0, 1, (0, 0), []),
  (.iload_n 3, 1, (0, 0), []),
  (.iconst 1, 1, (1, 0), []),
  (.iadd, 1, (0, 0), []),
  (.iaload, 1, (0, 0), []),
  (.invokevirtual 138, 3, (0, 0), [[1, 6195, 0], [12, 211, 6197, 6196]])]
def qL_law_1292 : List mO := [(.if_icmp .eq 730, 3, (0, 0), [[2022]]),
  (.iconst 0, 1, (0, 0), []),
  (.ireturn, 1, (0, 0), [[1]])]
def qL_law_1297 : List mO := [(.aload_n 1, 1, (0, 0), []),
  (.aload_n 0, 1, (0, 0), []),
  (.iload_n 3, 1, (0, 0), []),
  (.iconst 1, 1, (1, 0), []),
  (.iadd, 1, (0, 0), []),
  (.iaload, 1, (0, 0), []),
  (.aload_n 0, 1, (0, 0), []),
  (.iload_n 3, 1, (0, 0), []),
  (.iconst 2, 1, (2, 0), []),
  (.iadd, 1, (0, 0), []),
  (.iaload, 1, (0, 0), []),
  (.aload_n 0, 1, (0, 0), []),
  (.iload_n 3, 1, (0, 0), []),
  (.iconst 3, 1, (3, 0), []),
  (.iadd, 1, (0, 0), []),
  (.iaload, 1, (0, 0), []),
  (.aload_n 0, 1, (0, 0), []),
  (.iload_n 3, 1, (0, 0), []),
  (.iconst 4, 1, (4, 0), []),
  (.iadd, 1, (0, 0), []),
  (.iaload, 1, (0, 0), []),
  (.invokevirtual 139, 3, (0, 0), [[4, 4133, 0], [11, 113, 4135, 4134]])]
def qL_law_1321 : List mO := [(.aload_n 2, 1, (0, 0), []),
  (.aload_n 0, 1, (0, 0), []),
  (.iload_n 3, 1, (0, 0), []),
  (.iconst 1, 1, (1, 0), []),
  (.iadd, 1, (0, 0), []),
  (.iaload, 1, (0, 0), []),
  (.aload_n 0, 1, (0, 0), []),
  (.iload_n 3, 1, (0, 0), []),
  (.iconst 2, 1, (2, 0), []),
  (.iadd, 1, (0, 0), []),
  (.iaload, 1, (0, 0), []),
  (.aload_n 0, 1, (0, 0), []),
  (.iload_n 3, 1, (0, 0), []),
  (.iconst 3, 1, (3, 0), []),
  (.iadd, 1, (0, 0), []),
  (.iaload, 1, (0, 0), []),
  (.aload_n 0, 1, (0, 0), []),
  (.iload_n 3, 1, (0, 0), []),
  (.iconst 4, 1, (4, 0), []),
  (.iadd, 1, (0, 0), []),
  (.iaload, 1, (0, 0), []),
  (.invokevirtual 142, 3, (0, 0), [[4, 6204, 0], [12, 212, 6206, 6205]])]
def qL_law_1345 : List mO := [(.if_icmp .eq 677, 3, (0, 0), [[2022]]),
  (.iconst 0, 1, (0, 0), []),
  (.ireturn, 1, (0, 0), [[1]])]
def qL_law_1350 : List mO := [(.aload_n 1, 1, (0, 0), []),
  (.aload_n 0, 1, (0, 0), []),
  (.iload_n 3, 1, (0, 0), []),
  (.iconst 1, 1, (1, 0), []),
  (.iadd, 1, (0, 0), []),
  (.iaload, 1, (0, 0), []),
  (.aload_n 0, 1, (0, 0), []),
  (.iload_n 3, 1, (0, 0), []),
  (.iconst 2, 1, (2, 0), []),
  (.iadd, 1, (0, 0), []),
  (.iaload, 1, (0, 0), []),
  (.invokevirtual 143, 3, (0, 0), [[2, 4137, 0], [11, 114, 4139, 4138]])]
def qL_law_1364 : List mO := [(.aload_n 2, 1, (0, 0), []),
  (.aload_n 0, 1, (0, 0), []),
  (.iload_n 3, 1, (0, 0), []),
  (.iconst 1, 1, (1, 0), []),
  (.iadd, 1, (0, 0), []),
  (.iaload, 1, (0, 0), []),
  (.aload_n 0, 1, (0, 0), []),
  (.iload_n 3, 1, (0, 0), []),
  (.iconst 2, 1, (2, 0), []),
  (.iadd, 1, (0, 0), []),
  (.iaload, 1, (0, 0), []),
  (.invokevirtual 146, 3, (0, 0), [[2, 6209, 0], [12, 213, 6211, 6210]])]
def qL_law_1378 : List mO := [(.if_icmp .eq 644, 3, (0, 0), [[2022]]),
  (.iconst 0, 1, (0, 0), []),
  (.ireturn, 1, (0, 0), [[1]])]
def qL_law_1383 : List mO := [(.aload_n 1, 1, (0, 0), []),
  (.aload_n 0, 1, (0, 0), []),
  (.iload_n 3, 1, (0, 0), []),
  (.iconst 1, 1, (1, 0), []),
  (.iadd, 1, (0, 0), []),
  (.iaload, 1, (0, 0), []),
  (.aload_n 0, 1, (0, 0), []),
  (.iload_n 3, 1, (0, 0), []),
  (.iconst 2, 1, (2, 0), []),
  (.iadd, 1, (0, 0), []),
  (.iaload, 1, (0, 0), []),
  (.invokevirtual 147, 3, (0, 0), [[2, 4141, 0], [11, 126, 4143, 4142]])]
def qL_law_1397 : List mO := [(.aload_n 2, 1, (0, 0), []),
  (.aload_n 0, 1, (0, 0), []),
  (.iload_n 3, 1, (0, 0), []),
  (.iconst 1, 1, (1, 0), []),
  (.iadd, 1, (0, 0), []),
  (.iaload, 1, (0, 0), []),
  (.aload_n 0, 1, (0, 0), []),
  (.iload_n 3, 1, (0, 0), []),
  (.iconst 2, 1, (2, 0), []),
  (.iadd, 1, (0, 0), []),
  (.iaload, 1, (0, 0), []),
  (.invokevirtual 150, 3, (0, 0), [[2, 6213, 0], [12, 214, 6215, 6214]])]
def qL_law_1411 : List mO := [(.if_icmp .eq 611, 3, (0, 0), [[2022]]),
  (.iconst 0, 1, (0, 0), []),
  (.ireturn, 1, (0, 0), [[1]])]
def qL_law_1416 : List mO := [(.aload_n 1, 1, (0, 0), []),
  (.invokevirtual 151, 3, (0, 0), [[0, 4145, 0], [11, 127, 4147, 4146]])]
def qL_law_1420 : List mO := [(.aload_n 2, 1, (0, 0), []),
  (.invokevirtual 154, 3, (0, 0), [[0, 6217, 0], [12, 215, 6219, 6218]])]
def qL_law_1424 : List mO := [(.if_icmp .eq 598, 3, (0, 0), [[2022]]),
  (.iconst 0, 1, (0, 0), []),
  (.ireturn, 1, (0, 0), [[1]])]
def qL_law_1429 : List mO := [(.aload_n 1, 1, (0, 0), []),
  (.aload_n 0, 1, (0, 0), []),
  (.iload_n 3, 1, (0, 0), []),
  (.iconst 1, 1, (1, 0), []),
  (.iadd, 1, (0, 0), []),
  (.iaload, 1, (0, 0), []),
  (.aload_n 0, 1, (0, 0), []),
  (.iload_n 3, 1, (0, 0), []),
  (.iconst 2, 1, (2, 0), []),
  (.iadd, 1, (0, 0), []),
  (.iaload, 1, (0, 0), []),
  (.invokevirtual 155, 3, (0, 0), [[2, 4149, 0], [11, 128, 4151, 4150]])]
def qL_law_1443 : List mO := [(.aload_n 2, 1, (0, 0), []),
  (.aload_n 0, 1, (0, 0), []),
  (.iload_n 3, 1, (0, 0), []),
  (.iconst 1, 1, (1, 0), []),
  (.iadd, 1, (0, 0), []),
  (.iaload, 1, (0, 0), []),
  (.aload_n 0, 1, (0, 0), []),
  (.iload_n 3, 1, (0, 0), []),
  (.iconst 2, 1, (2, 0), []),
  (.iadd, 1, (0, 0), []),
  (.iaload, 1, (0, 0), []),
  (.invokevirtual 158, 3, (0, 0), [[2, 6221, 0], [12, 218, 6223, 6222]])]
def qL_law_1457 : List mO := [(.if_icmp .eq 565, 3, (0, 0), [[2022]]),
  (.iconst 0, 1, (0, 0), []),
  (.ireturn, 1, (0, 0), [[1]])]
def qL_law_1462 : List mO := [(.aload_n 1, 1, (0, 0), []),
  (.aload_n 0, 1, (0, 0), []),
  (.iload_n 3, 1, (0, 0), []),
  (.iconst 1, 1, (1, 0), []),
  (.iadd, 1, (0, 0), []),
  (.iaload, 1, (0, 0), []),
  (.invokevirtual 159, 3, (0, 0), [[1, 4157, 0], [11, 129, 4159, 4158]])]
def qL_law_1471 : List mO := [(.aload_n 2, 1, (0, 0), []),
  (.aload_n 0, 1, (0, 0), []),
  (.iload_n 3, 1, (0, 0), []),
  (.iconst 1, 1, (1, 0), []),
  (.iadd, 1, (0, 0), []),
  (.iaload, 1, (0, 0), []),
  (.invokevirtual 162, 3, (0, 0), [[1, 6234, 0], [12, 219, 6236, 6235]])]
def qL_law_1480 : List mO := [(.if_icmp .eq 542, 3, (0, 0), [[2022]]),
  (.iconst 0, 1, (0, 0), []),
  (.ireturn, 1, (0, 0), [[1]])]
def qL_law_1485 : List mO := [(.aload_n 1, 1, (0, 0), []),
  (.aload_n 0, 1, (0, 0), []),
  (.iload_n 3, 1, (0, 0), []),
  (.iconst 1, 1, (1, 0), []),
  (.iadd, 1, (0, 0), []),
  (.iaload, 1, (0, 0), []),
  (.aload_n 0, 1, (0, 0), []),
  (.iload_n 3, 1, (0, 0), []),
  (.iconst 2, 1, (2, 0), []),
  (.iadd, 1, (0, 0), []),
  (.iaload, 1, (0, 0), []),
  (.aload_n 0, 1, (0, 0), []),
  (.iload_n 3, 1, (0, 0), []),
  (.iconst 3, 1, (3, 0), []),
  (.iadd, 1, (0, 0), []),
  (.iaload, 1, (0, 0), []),
  (.ifCond .eq 7, 3, (0, 0), [[1508]]),
  (.iconst 1, 1, (1, 0), []),
  (.goto 4, 3, (0, 0), [[1509]])]
def qL_law_1508 : List mO := [(.iconst 0, 1, (0, 0), [])]
def qL_law_1509 : List mO := [(.invokevirtual 163, 3, (0, 0), [[3, 4161, 0], [11, 131, 4163, 4162]])]
def qL_law_1512 : List mO := [(.aload_n 2, 1, (0, 0), []),
  (.aload_n 0, 1, (0, 0), []),
  (.iload_n 3, 1, (0, 0), []),
  (.iconst 1, 1, (1, 0), []),
  (.iadd, 1, (0, 0), []),
  (.iaload, 1, (0, 0), []),
  (.aload_n 0, 1, (0, 0), []),
  (.iload_n 3, 1, (0, 0), []),
  (.iconst 2, 1, (2, 0), []),
  (.iadd, 1, (0, 0), []),
  (.iaload, 1, (0, 0), []),
  (.aload_n 0, 1, (0, 0), []),
  (.iload_n 3, 1, (0, 0), []),
  (.iconst 3, 1, (3, 0), []),
  (.iadd, 1, (0, 0), []),
  (.iaload, 1, (0, 0), []),
  (.ifCond .eq 7, 3, (0, 0), [[1535]]),
  (.iconst 1, 1, (1, 0), []),
  (.goto 4, 3, (0, 0), [[1536]])]
def qL_law_1535 : List mO := [(.iconst 0, 1, (0, 0), [])]
def qL_law_1536 : List mO := [(.invokevirtual 166, 3, (0, 0), [[3, 6238, 0], [12, 220, 7000, 6239]])]
def qL_law_1539 : List mO := [(.if_icmp .eq 483, 3, (0, 0), [[2022]]),
  (.iconst 0, 1, (0, 0), []),
  (.ireturn, 1, (0, 0), [[1]])]
def qL_law_1544 : List mO := [(.aload_n 1, 1, (0, 0), []),
  (.aload_n 0, 1, (0, 0), []),
  (.iload_n 3, 1, (0, 0), []),
  (.iconst 1, 1, (1, 0), []),
  (.iadd, 1, (0, 0), []),
  (.iaload, 1, (0, 0), []),
  (.aload_n 0, 1, (0, 0), []),
  (.iload_n 3, 1, (0, 0), []),
  (.iconst 2, 1, (2, 0), []),
  (.iadd, 1, (0, 0), []),
  (.iaload, 1, (0, 0), []),
  (.invokevirtual 167, 3, (0, 0), [[2, 4165, 0], [11, 132, 4167, 4166]])]
def qL_law_1558 : List mO := [(.aload_n 2, 1, (0, 0), []),
  (.aload_n 0, 1, (0, 0), []),
  (.iload_n 3, 1, (0, 0), []),
  (.iconst 1, 1, (1, 0), []),
  (.iadd, 1, (0, 0), []),
  (.iaload, 1, (0, 0), []),
  (.aload_n 0, 1, (0, 0), []),
  (.iload_n 3, 1, (0, 0), []),
  (.iconst 2, 1, (2, 0), []),
  (.iadd, 1, (0, 0), []),
  (.iaload, 1, (0, 0), []),
  (.invokevirtual 170, 3, (0, 0), [[2, 7002, 0], [12, 222, 7004, 7003]])]
def qL_law_1572 : List mO := [(.if_icmp .eq 450, 3, (0, 0), [[2022]]),
  (.iconst 0, 1, (0, 0), []),
  (.ireturn, 1, (0, 0), [[1]])]
def qL_law_1577 : List mO := [(.aload_n 1, 1, (0, 0), []),
  (.aload_n 0, 1, (0, 0), []),
  (.iload_n 3, 1, (0, 0), []),
  (.iconst 1, 1, (1, 0), []),
  (.iadd, 1, (0, 0), []),
  (.iaload, 1, (0, 0), []),
  (.aload_n 0, 1, (0, 0), []),
  (.iload_n 3, 1, (0, 0), []),
  (.iconst 2, 1, (2, 0), []),
  (.iadd, 1, (0, 0), []),
  (.iaload, 1, (0, 0), []),
  (.aload_n 0, 1, (0, 0), []),
  (.iload_n 3, 1, (0, 0), []),
  (.iconst 3, 1, (3, 0), []),
  (.iadd, 1, (0, 0), []),
  (.iaload, 1, (0, 0), []),
  (.invokevirtual 171, 3, (0, 0), [[3, 4173, 0], [11, 133, 4175, 4174]])]
def qL_law_1596 : List mO := [(.aload_n 2, 1, (0, 0), []),
  (.aload_n 0, 1, (0, 0), []),
  (.iload_n 3, 1, (0, 0), []),
  (.iconst 1, 1, (1, 0), []),
  (.iadd, 1, (0, 0), []),
  (.iaload, 1, (0, 0), []),
  (.aload_n 0, 1, (0, 0), []),
  (.iload_n 3, 1, (0, 0), []),
  (.iconst 2, 1, (2, 0), []),
  (.iadd, 1, (0, 0), []),
  (.iaload, 1, (0, 0), []),
  (.aload_n 0, 1, (0, 0), []),
  (.iload_n 3, 1, (0, 0), []),
  (.iconst 3, 1, (3, 0), []),
  (.iadd, 1, (0, 0), []),
  (.iaload, 1, (0, 0), []),
  (.invokevirtual 174, 3, (0, 0), [[3, 7010, 0], [12, 223, 7012, 7011]])]
def qL_law_1615 : List mO := [(.if_icmp .eq 407, 3, (0, 0), [[2022]]),
  (.iconst 0, 1, (0, 0), []),
  (.ireturn, 1, (0, 0), [[1]])]
def qL_law_1620 : List mO := [(.aload_n 1, 1, (0, 0), []),
  (.aload_n 0, 1, (0, 0), []),
  (.iload_n 3, 1, (0, 0), []),
  (.iconst 1, 1, (1, 0), []),
  (.iadd, 1, (0, 0), []),
  (.iaload, 1, (0, 0), []),
  (.ifCond .eq 7, 3, (0, 0), [[1633]]),
  (.iconst 1, 1, (1, 0), []),
  (.goto 4, 3, (0, 0), [[1634]])]
def qL_law_1633 : List mO := [(.iconst 0, 1, (0, 0), [])]
def qL_law_1634 : List mO := [(.invokevirtual 175, 3, (0, 0), [[1, 4177, 0], [11, 134, 4179, 4178]])]
def qL_law_1637 : List mO := [(.aload_n 2, 1, (0, 0), []),
  (.aload_n 0, 1, (0, 0), []),
  (.iload_n 3, 1, (0, 0), []),
  (.iconst 1, 1, (1, 0), []),
  (.iadd, 1, (0, 0), []),
  (.iaload, 1, (0, 0), []),
  (.ifCond .eq 7, 3, (0, 0), [[1650]]),
  (.iconst 1, 1, (1, 0), []),
  (.goto 4, 3, (0, 0), [[1651]])]
def qL_law_1650 : List mO := [(.iconst 0, 1, (0, 0), [])]
def qL_law_1651 : List mO := [(.invokevirtual 178, 3, (0, 0), [[1, 7014, 0], [12, 225, 7016, 7015]])]
def qL_law_1654 : List mO := [(.if_icmp .eq 368, 3, (0, 0), [[2022]]),
  (.iconst 0, 1, (0, 0), []),
  (.ireturn, 1, (0, 0), [[1]])]
def qL_law_1659 : List mO := [(.aload_n 1, 1, (0, 0), []),
  (.aload_n 0, 1, (0, 0), []),
  (.iload_n 3, 1, (0, 0), []),
  (.iconst 1, 1, (1, 0), []),
  (.iadd, 1, (0, 0), []),
  (.iaload, 1, (0, 0), []),
  (.aload_n 0, 1, (0, 0), []),
  (.iload_n 3, 1, (0, 0), []),
  (.iconst 2, 1, (2, 0), []),
  (.iadd, 1, (0, 0), []),
  (.iaload, 1, (0, 0), []),
  (.aload_n 0, 1, (0, 0), []),
  (.iload_n 3, 1, (0, 0), []),
  (.iconst 3, 1, (3, 0), []),
  (.iadd, 1, (0, 0), []),
  (.iaload, 1, (0, 0), []),
  (.invokevirtual 179, 3, (0, 0), [[3, 4185, 0], [11, 137, 4187, 4186]])]
def qL_law_1678 : List mO := [(.aload_n 2, 1, (0, 0), []),
  (.aload_n 0, 1, (0, 0), []),
  (.iload_n 3, 1, (0, 0), []),
  (.iconst 1, 1, (1, 0), []),
  (.iadd, 1, (0, 0), []),
  (.iaload, 1, (0, 0), []),
  (.aload_n 0, 1, (0, 0), []),
  (.iload_n 3, 1, (0, 0), []),
  (.iconst 2, 1, (2, 0), []),
  (.iadd, 1, (0, 0), []),
  (.iaload, 1, (0, 0), []),
  (.aload_n 0, 1, (0, 0), []),
  (.iload_n 3, 1, (0, 0), []),
  (.iconst 3, 1, (3, 0), []),
  (.iadd, 1, (0, 0), []),
  (.iaload, 1, (0, 0), []),
  (.invokevirtual 182, 3, (0, 0), [[3, 7127, 0], [12, 245, 7129, 7128]])]
def qL_law_1697 : List mO := [(.if_icmp .eq 325, 3, (0, 0), [[2022]]),
  (.iconst 0, 1, (0, 0), []),
  (.ireturn, 1, (0, 0), [[1]])]
def qL_law_1702 : List mO := [(.aload_n 1, 1, (0, 0), []),
  (.aload_n 0, 1, (0, 0), []),
  (.iload_n 3, 1, (0, 0), []),
  (.iconst 1, 1, (1, 0), []),
  (.iadd, 1, (0, 0), []),
  (.iaload, 1, (0, 0), []),
  (.aload_n 0, 1, (0, 0), []),
  (.iload_n 3, 1, (0, 0), []),
  (.iconst 2, 1, (2, 0), []),
  (.iadd, 1, (0, 0), []),
  (.iaload, 1, (0, 0), []),
  (.aload_n 0, 1, (0, 0), []),
  (.iload_n 3, 1, (0, 0), []),
  (.iconst 3, 1, (3, 0), []),
  (.iadd, 1, (0, 0), []),
  (.iaload, 1, (0, 0), []),
  (.invokevirtual 183, 3, (0, 0), [[3, 4195, 0], [11, 138, 4197, 4196]])]
def qL_law_1721 : List mO := [(.aload_n 2, 1, (0, 0), []),
  (.aload_n 0, 1, (0, 0), []),
  (.iload_n 3, 1, (0, 0), []),
  (.iconst 1, 1, (1, 0), []),
  (.iadd, 1, (0, 0), []),
  (.iaload, 1, (0, 0), []),
  (.aload_n 0, 1, (0, 0), []),
  (.iload_n 3, 1, (0, 0), []),
  (.iconst 2, 1, (2, 0), []),
  (.iadd, 1, (0, 0), []),
  (.iaload, 1, (0, 0), []),
  (.aload_n 0, 1, (0, 0), []),
  (.iload_n 3, 1, (0, 0), []),
  (.iconst 3, 1, (3, 0), []),
  (.iadd, 1, (0, 0), []),
  (.iaload, 1, (0, 0), []),
  (.invokevirtual 186, 3, (0, 0), [[3, 7136, 0], [12, 247, 7138, 7137]])]
def qL_law_1740 : List mO := [(.if_icmp .eq 282, 3, (0, 0), [[2022]]),
  (.iconst 0, 1, (0, 0), []),
  (.ireturn, 1, (0, 0), [[1]])]
def qL_law_1745 : List mO := [(.aload_n 1, 1, (0, 0), []),
  (.aload_n 0, 1, (0, 0), []),
  (.iload_n 3, 1, (0, 0), []),
  (.iconst 1, 1, (1, 0), []),
  (.iadd, 1, (0, 0), []),
  (.iaload, 1, (0, 0), []),
  (.aload_n 0, 1, (0, 0), []),
  (.iload_n 3, 1, (0, 0), []),
  (.iconst 2, 1, (2, 0), []),
  (.iadd, 1, (0, 0), []),
  (.iaload, 1, (0, 0), []),
  (.aload_n 0, 1, (0, 0), []),
  (.iload_n 3, 1, (0, 0), []),
  (.iconst 3, 1, (3, 0), []),
  (.iadd, 1, (0, 0), []),
  (.iaload, 1, (0, 0), []),
  (.invokevirtual 187, 3, (0, 0), [[3, 4206, 0], [11, 139, 4208, 4207]])]
def qL_law_1764 : List mO := [(.aload_n 2, 1, (0, 0), []),
  (.aload_n 0, 1, (0, 0), []),
  (.iload_n 3, 1, (0, 0), []),
  (.iconst 1, 1, (1, 0), []),
  (.iadd, 1, (0, 0), []),
  (.iaload, 1, (0, 0), []),
  (.aload_n 0, 1, (0, 0), []),
  (.iload_n 3, 1, (0, 0), []),
  (.iconst 2, 1, (2, 0), []),
  (.iadd, 1, (0, 0), []),
  (.iaload, 1, (0, 0), []),
  (.aload_n 0, 1, (0, 0), []),
  (.iload_n 3, 1, (0, 0), []),
  (.iconst 3, 1, (3, 0), []),
  (.iadd, 1, (0, 0), []),
  (.iaload, 1, (0, 0), []),
  (.invokevirtual 190, 3, (0, 0), [[3, 7143, 0], [12, 249, 7145, 7144]])]
def qL_law_1783 : List mO := [(.if_icmp .eq 239, 3, (0, 0), [[2022]]),
  (.iconst 0, 1, (0, 0), []),
  (.ireturn, 1, (0, 0), [[1]])]
def qL_law_1788 : List mO := [(.aload_n 1, 1, (0, 0), []),
  (.aload_n 0, 1, (0, 0), []),
  (.iload_n 3, 1, (0, 0), []),
  (.iconst 1, 1, (1, 0), []),
  (.iadd, 1, (0, 0), []),
  (.iaload, 1, (0, 0), []),
  (.aload_n 0, 1, (0, 0), []),
  (.iload_n 3, 1, (0, 0), []),
  (.iconst 2, 1, (2, 0), []),
  (.iadd, 1, (0, 0), []),
  (.iaload, 1, (0, 0), []),
  (.aload_n 0, 1, (0, 0), []),
  (.iload_n 3, 1, (0, 0), []),
  (.iconst 3, 1, (3, 0), []),
  (.iadd, 1, (0, 0), []),
  (.iaload, 1, (0, 0), []),
  (.invokevirtual 191, 3, (0, 0), [[3, 4210, 0], [11, 140, 4212, 4211]])]
def qL_law_1807 : List mO := [(.aload_n 2, 1, (0, 0), []),
  (.aload_n 0, 1, (0, 0), []),
  (.iload_n 3, 1, (0, 0), []),
  (.iconst 1, 1, (1, 0), []),
  (.iadd, 1, (0, 0), []),
  (.iaload, 1, (0, 0), []),
  (.aload_n 0, 1, (0, 0), []),
  (.iload_n 3, 1, (0, 0), []),
  (.iconst 2, 1, (2, 0), []),
  (.iadd, 1, (0, 0), []),
  (.iaload, 1, (0, 0), []),
  (.aload_n 0, 1, (0, 0), []),
  (.iload_n 3, 1, (0, 0), []),
  (.iconst 3, 1, (3, 0), []),
  (.iadd, 1, (0, 0), []),
  (.iaload, 1, (0, 0), []),
  (.invokevirtual 194, 3, (0, 0), [[3, 7151, 0], [12, 250, 7153, 7152]])]
def qL_law_1826 : List mO := [(.if_icmp .eq 196, 3, (0, 0), [[2022]]),
  (.iconst 0, 1, (0, 0), []),
  (.ireturn, 1, (0, 0), [[1]])]
def qL_law_1831 : List mO := [(.aload_n 1, 1, (0, 0), []),
  (.aload_n 0, 1, (0, 0), []),
  (.iload_n 3, 1, (0, 0), []),
  (.iconst 1, 1, (1, 0), []),
  (.iadd, 1, (0, 0), []),
  (.iaload, 1, (0, 0), []),
  (.aload_n 0, 1, (0, 0), []),
  (.iload_n 3, 1, (0, 0), []),
  (.iconst 2, 1, (2, 0), []),
  (.iadd, 1, (0, 0), []),
  (.iaload, 1, (0, 0), []),
  (.aload_n 0, 1, (0, 0), []),
  (.iload_n 3, 1, (0, 0), []),
  (.iconst 3, 1, (3, 0), []),
  (.iadd, 1, (0, 0), []),
  (.iaload, 1, (0, 0), []),
  (.invokevirtual 195, 3, (0, 0), [[3, 4215, 0], [11, 141, 4217, 4216]])]
def qL_law_1850 : List mO := [(.aload_n 2, 1, (0, 0), []),
  (.aload_n 0, 1, (0, 0), []),
  (.iload_n 3, 1, (0, 0), []),
  (.iconst 1, 1, (1, 0), []),
  (.iadd, 1, (0, 0), []),
  (.iaload, 1, (0, 0), []),
  (.aload_n 0, 1, (0, 0), []),
  (.iload_n 3, 1, (0, 0), []),
  (.iconst 2, 1, (2, 0), []),
  (.iadd, 1, (0, 0), []),
  (.iaload, 1, (0, 0), []),
  (.aload_n 0, 1, (0, 0), []),
  (.iload_n 3, 1, (0, 0), []),
  (.iconst 3, 1, (3, 0), []),
  (.iadd, 1, (0, 0), []),
  (.iaload, 1, (0, 0), []),
  (.invokevirtual 198, 3, (0, 0), [[3, 7156, 0], [12, 251, 7158, 7157]])]
def qL_law_1869 : List mO := [(.if_icmp .eq 153, 3, (0, 0), [[2022]]),
  (.iconst 0, 1, (0, 0), []),
  (.ireturn, 1, (0, 0), [[1]])]
def qL_law_1874 : List mO := [(.aload_n 1, 1, (0, 0), []),
  (.aload_n 0, 1, (0, 0), []),
  (.iload_n 3, 1, (0, 0), []),
  (.iconst 1, 1, (1, 0), []),
  (.iadd, 1, (0, 0), []),
  (.iaload, 1, (0, 0), []),
  (.aload_n 0, 1, (0, 0), []),
  (.iload_n 3, 1, (0, 0), []),
  (.iconst 2, 1, (2, 0), []),
  (.iadd, 1, (0, 0), []),
  (.iaload, 1, (0, 0), []),
  (.invokevirtual 199, 3, (0, 0), [[2, 4222, 0], [11, 142, 4224, 4223]])]
def qL_law_1888 : List mO := [(.aload_n 2, 1, (0, 0), []),
  (.aload_n 0, 1, (0, 0), []),
  (.iload_n 3, 1, (0, 0), []),
  (.iconst 1, 1, (1, 0), []),
  (.iadd, 1, (0, 0), []),
  (.iaload, 1, (0, 0), []),
  (.aload_n 0, 1, (0, 0), []),
  (.iload_n 3, 1, (0, 0), []),
  (.iconst 2, 1, (2, 0), []),
  (.iadd, 1, (0, 0), []),
  (.iaload, 1, (0, 0), []),
  (.invokevirtual 202, 3, (0, 0), [[2, 7160, 0], [12, 253, 7162, 7161]])]
def qL_law_1902 : List mO := [(.if_icmp .eq 120, 3, (0, 0), [[2022]]),
  (.iconst 0, 1, (0, 0), []),
  (.ireturn, 1, (0, 0), [[1]])]
def qL_law_1907 : List mO := [(.aload_n 1, 1, (0, 0), []),
  (.aload_n 0, 1, (0, 0), []),
  (.iload_n 3, 1, (0, 0), []),
  (.iconst 1, 1, (1, 0), []),
  (.iadd, 1, (0, 0), []),
  (.iaload, 1, (0, 0), []),
  (.aload_n 0, 1, (0, 0), []),
  (.iload_n 3, 1, (0, 0), []),
  (.iconst 2, 1, (2, 0), []),
  (.iadd, 1, (0, 0), []),
  (.iaload, 1, (0, 0), []),
  (.aload_n 0, 1, (0, 0), []),
  (.iload_n 3, 1, (0, 0), []),
  (.iconst 3, 1, (3, 0), []),
  (.iadd, 1, (0, 0), []),
  (.iaload, 1, (0, 0), []),
  (.invokevirtual 203, 3, (0, 0), [[3, 4231, 0], [11, 143, 4233, 4232]])]
def qL_law_1926 : List mO := [(.aload_n 2, 1, (0, 0), []),
  (.aload_n 0, 1, (0, 0), []),
  (.iload_n 3, 1, (0, 0), []),
  (.iconst 1, 1, (1, 0), []),
  (.iadd, 1, (0, 0), []),
  (.iaload, 1, (0, 0), []),
  (.aload_n 0, 1, (0, 0), []),
  (.iload_n 3, 1, (0, 0), []),
  (.iconst 2, 1, (2, 0), []),
  (.iadd, 1, (0, 0), []),
  (.iaload, 1, (0, 0), []),
  (.aload_n 0, 1, (0, 0), []),
  (.iload_n 3, 1, (0, 0), []),
  (.iconst 3, 1, (3, 0), []),
  (.iadd, 1, (0, 0), []),
  (.iaload, 1, (0, 0), []),
  (.invokevirtual 206, 3, (0, 0), [[3, 7170, 0], [12, 260, 7172, 7171]])]
def qL_law_1945 : List mO := [(.if_icmp .eq 77, 3, (0, 0), [[2022]]),
  (.iconst 0, 1, (0, 0), []),
  (.ireturn, 1, (0, 0), [[1]])]
def qL_law_1950 : List mO := [(.aload_n 1, 1, (0, 0), []),
  (.aload_n 0, 1, (0, 0), []),
  (.iload_n 3, 1, (0, 0), []),
  (.iconst 1, 1, (1, 0), []),
  (.iadd, 1, (0, 0), []),
  (.iaload, 1, (0, 0), []),
  (.invokevirtual 207, 3, (0, 0), [[1, 5084, 0], [11, 144, 5086, 5085]])]
def qL_law_1959 : List mO := [(.aload_n 2, 1, (0, 0), []),
  (.aload_n 0, 1, (0, 0), []),
  (.iload_n 3, 1, (0, 0), []),
  (.iconst 1, 1, (1, 0), []),
  (.iadd, 1, (0, 0), []),
  (.iaload, 1, (0, 0), []),
  (.invokevirtual 210, 3, (0, 0), [[1, 7198, 0], [12, 262, 7200, 7199]])]
def qL_law_1968 : List mO := [(.if_icmp .eq 54, 3, (0, 0), [[2022]]),
  (.iconst 0, 1, (0, 0), []),
  (.ireturn, 1, (0, 0), [[1]])]
def qL_law_1973 : List mO := [(.aload_n 1, 1, (0, 0), []),
  (.aload_n 0, 1, (0, 0), []),
  (.iload_n 3, 1, (0, 0), []),
  (.iconst 1, 1, (1, 0), []),
  (.iadd, 1, (0, 0), []),
  (.iaload, 1, (0, 0), []),
  (.invokevirtual 211, 3, (0, 0), [[1, 5088, 0], [11, 145, 5090, 5089]])]
def qL_law_1982 : List mO := [(.aload_n 2, 1, (0, 0), []),
  (.aload_n 0, 1, (0, 0), []),
  (.iload_n 3, 1, (0, 0), []),
  (.iconst 1, 1, (1, 0), []),
  (.iadd, 1, (0, 0), []),
  (.iaload, 1, (0, 0), []),
  (.invokevirtual 214, 3, (0, 0), [[1, 7206, 0], [12, 263, 7208, 7207]])]
def qL_law_1991 : List mO := [(.if_icmp .eq 31, 3, (0, 0), [[2022]]),
  (.iconst 0, 1, (0, 0), []),
  (.ireturn, 1, (0, 0), [[1]])]
def qL_law_1996 : List mO := [(.aload_n 1, 1, (0, 0), []),
  (.invokevirtual 215, 3, (0, 0), [[0, 5092, 0], [11, 152, 5094, 5093]])]
def qL_law_2000 : List mO := [(.aload_n 2, 1, (0, 0), []),
  (.invokevirtual 218, 3, (0, 0), [[0, 7210, 0], [12, 264, 7212, 7211]])]
def qL_law_2004 : List mO := [(.if_icmp .eq 18, 3, (0, 0), [[2022]]),
  (.iconst 0, 1, (0, 0), []),
  (.ireturn, 1, (0, 0), [[1]])]
def qL_law_2009 : List mO := [(.aload_n 1, 1, (0, 0), []),
  (.invokevirtual 219, 3, (0, 0), [[0, 5102, 0], [11, 153, 5104, 5103]])]
def qL_law_2013 : List mO := [(.aload_n 2, 1, (0, 0), []),
  (.invokevirtual 222, 3, (0, 0), [[0, 7214, 0], [12, 265, 7216, 7215]])]
def qL_law_2017 : List mO := [(.if_icmp .eq 5, 3, (0, 0), [[2022]]),
  (.iconst 0, 1, (0, 0), []),
  (.ireturn, 1, (0, 0), [[1]])]
def qL_law_2022 : List mO := [(.iinc 3 5, 3, (5, 0), []),
  (.goto (-2007), 3, (0, 0), [[18]])]
def qL_law_2028 : List mO := [(.iconst 1, 1, (1, 0), []),
  (.ireturn, 1, (0, 0), [[1]])]
def pL_law : List (Nat × List mO) := [(0, qL_law_0), (7, qL_law_7), (15, qL_law_15), (18, qL_law_18), (248, qL_law_248), (272, qL_law_272), (296, qL_law_296), (301, qL_law_301), (315, qL_law_315), (329, qL_law_329), (334, qL_law_334), (353, qL_law_353), (372, qL_law_372), (377, qL_law_377), (391, qL_law_391), (405, qL_law_405), (410, qL_law_410), (419, qL_law_419), (428, qL_law_428), (433, qL_law_433), (447, qL_law_447), (461, qL_law_461), (466, qL_law_466), (479, qL_law_479), (480, qL_law_480), (483, qL_law_483), (496, qL_law_496), (497, qL_law_497), (500, qL_law_500), (505, qL_law_505), (534, qL_law_534), (563, qL_law_563), (568, qL_law_568), (572, qL_law_572), (576, qL_law_576), (581, qL_law_581), (604, qL_law_604), (605, qL_law_605), (608, qL_law_608), (631, qL_law_631), (632, qL_law_632), (635, qL_law_635), (640, qL_law_640), (654, qL_law_654), (668, qL_law_668), (673, qL_law_673), (677, qL_law_677), (681, qL_law_681), (686, qL_law_686), (705, qL_law_705), (724, qL_law_724), (729, qL_law_729), (748, qL_law_748), (767, qL_law_767), (772, qL_law_772), (791, qL_law_791), (810, qL_law_810), (815, qL_law_815), (829, qL_law_829), (843, qL_law_843), (848, qL_law_848), (867, qL_law_867), (886, qL_law_886), (891, qL_law_891), (910, qL_law_910), (929, qL_law_929), (934, qL_law_934), (948, qL_law_948), (962, qL_law_962), (967, qL_law_967), (981, qL_law_981), (995, qL_law_995), (1000, qL_law_1000), (1014, qL_law_1014), (1028, qL_law_1028), (1033, qL_law_1033), (1047, qL_law_1047), (1061, qL_law_1061), (1066, qL_law_1066), (1075, qL_law_1075), (1084, qL_law_1084), (1089, qL_law_1089), (1108, qL_law_1108), (1127, qL_law_1127), (1132, qL_law_1132), (1146, qL_law_1146), (1160, qL_law_1160), (1165, qL_law_1165), (1184, qL_law_1184), (1203, qL_law_1203), (1208, qL_law_1208), (1227, qL_law_1227), (1246, qL_law_1246), (1251, qL_law_1251), (1260, qL_law_1260), (1269, qL_law_1269), (1274, qL_law_1274), (1283, qL_law_1283), (1292, qL_law_1292), (1297, qL_law_1297), (1321, qL_law_1321), (1345, qL_law_1345), (1350, qL_law_1350), (1364, qL_law_1364), (1378, qL_law_1378), (1383, qL_law_1383), (1397, qL_law_1397), (1411, qL_law_1411), (1416, qL_law_1416), (1420, qL_law_1420), (1424, qL_law_1424), (1429, qL_law_1429), (1443, qL_law_1443), (1457, qL_law_1457), (1462, qL_law_1462), (1471, qL_law_1471), (1480, qL_law_1480), (1485, qL_law_1485), (1508, qL_law_1508), (1509, qL_law_1509), (1512, qL_law_1512), (1535, qL_law_1535), (1536, qL_law_1536), (1539, qL_law_1539), (1544, qL_law_1544), (1558, qL_law_1558), (1572, qL_law_1572), (1577, qL_law_1577), (1596, qL_law_1596), (1615, qL_law_1615), (1620, qL_law_1620), (1633, qL_law_1633), (1634, qL_law_1634), (1637, qL_law_1637), (1650, qL_law_1650), (1651, qL_law_1651), (1654, qL_law_1654), (1659, qL_law_1659), (1678, qL_law_1678), (1697, qL_law_1697), (1702, qL_law_1702), (1721, qL_law_1721), (1740, qL_law_1740), (1745, qL_law_1745), (1764, qL_law_1764), (1783, qL_law_1783), (1788, qL_law_1788), (1807, qL_law_1807), (1826, qL_law_1826), (1831, qL_law_1831), (1850, qL_law_1850), (1869, qL_law_1869), (1874, qL_law_1874), (1888, qL_law_1888), (1902, qL_law_1902), (1907, qL_law_1907), (1926, qL_law_1926), (1945, qL_law_1945), (1950, qL_law_1950), (1959, qL_law_1959), (1968, qL_law_1968), (1973, qL_law_1973), (1982, qL_law_1982), (1991, qL_law_1991), (1996, qL_law_1996), (2000, qL_law_2000), (2004, qL_law_2004), (2009, qL_law_2009), (2013, qL_law_2013), (2017, qL_law_2017), (2022, qL_law_2022), (2028, qL_law_2028)]
/-- the methods, by number -/
abbrev kX0_init : Nat := 0
abbrev kX0_takeDay : Nat := 1
abbrev kX0_goBothWays : Nat := 2
abbrev kX0_goOneWay : Nat := 3
abbrev kX0_farthestByClocks : Nat := 4
abbrev kX0_beginAt : Nat := 5
abbrev kX0_goWest : Nat := 6
abbrev kX0_goEast : Nat := 7
abbrev kX0_isBeginning : Nat := 8
abbrev kX0_bring : Nat := 9
abbrev kX0_reaches : Nat := 10
abbrev kX0_reached : Nat := 11
abbrev kX0_offOf : Nat := 12
abbrev kX0_distanceOf : Nat := 13
abbrev kX0_sumOfDistances : Nat := 14
abbrev kX0_noonOf : Nat := 15
abbrev kX1_init : Nat := 16
abbrev kX1_cries : Nat := 17
abbrev kX1_tells : Nat := 18
abbrev kX2_init : Nat := 19
abbrev kX2_shares : Nat := 20
abbrev kX3_init : Nat := 21
abbrev kX3_cries : Nat := 22
abbrev kX4_init : Nat := 23
abbrev kX4_hears : Nat := 24
abbrev kX5_init : Nat := 25
abbrev kX5_clear : Nat := 26
abbrev kX5_addStep : Nat := 27
abbrev kX5_comparing : Nat := 28
abbrev kX5_firstFor : Nat := 29
abbrev kX5_isMet : Nat := 30
abbrev kX5_isTrue : Nat := 31
abbrev kX5_isSilent : Nat := 32
abbrev kX5_changed : Nat := 33
abbrev kX5_copyFrom : Nat := 34
abbrev kX6_init : Nat := 35
abbrev kX6_readTape : Nat := 36
abbrev kX6_readToken : Nat := 37
abbrev kX6_readNumber : Nat := 38
abbrev kX6_isLetter : Nat := 39
abbrev kX6_isDigit : Nat := 40
abbrev kX6_takesToken : Nat := 41
abbrev kX6_takesKind : Nat := 42
abbrev kX6_takesIf : Nat := 43
abbrev kX6_takesDeed : Nat := 44
abbrev kX6_takesNot : Nat := 45
abbrev kX6_takesOpening : Nat := 46
abbrev kX6_takesLeft : Nat := 47
abbrev kX6_takesSign : Nat := 48
abbrev kX6_takesRight : Nat := 49
abbrev kX6_takesJoint : Nat := 50
abbrev kX6_takesClosing : Nat := 51
abbrev kX6_takesN : Nat := 52
abbrev kX6_takesSemicolon : Nat := 53
abbrev kX6_goesTo : Nat := 54
abbrev kX6_isSingle : Nat := 55
abbrev kX6_operand : Nat := 56
abbrev kX6_await : Nat := 57
abbrev kX6_addWaiting : Nat := 58
abbrev kX6_placeIn : Nat := 59
abbrev kX6_isSpelt : Nat := 60
abbrev kX7_init : Nat := 61
abbrev kX7_hears : Nat := 62
abbrev kX7_shares : Nat := 63
abbrev kX8_init : Nat := 64
abbrev kX8_clear : Nat := 65
abbrev kX8_begin : Nat := 66
abbrev kX9_init : Nat := 67
abbrev kX9_isTower : Nat := 68
abbrev kX9_holding : Nat := 69
abbrev kX9_minutesAMile : Nat := 70
abbrev kX9_ruleFor : Nat := 71
abbrev kX9_addedBy : Nat := 72
abbrev kX9_copyFrom : Nat := 73
abbrev kX10_init : Nat := 74
abbrev kX10_cries : Nat := 75
abbrev kX10_hears : Nat := 76
abbrev kX10_shares : Nat := 77
abbrev kX10_tells : Nat := 78
abbrev kX11_init : Nat := 79
abbrev kX11_tower : Nat := 80
abbrev kX11_towerOf : Nat := 81
abbrev kX11_change : Nat := 82
abbrev kX11_turn : Nat := 83
abbrev kX11_day : Nat := 84
abbrev kX11_wind : Nat := 85
abbrev kX11_pace : Nat := 86
abbrev kX11_isTowerKind : Nat := 87
abbrev kX11_isMeasure : Nat := 88
abbrev kX11_isDay : Nat := 89
abbrev kX11_isUnder : Nat := 90
abbrev kX11_feed : Nat := 91
abbrev kX11_rules : Nat := 92
abbrev kX11_cry : Nat := 93
abbrev kX11_shows : Nat := 94
abbrev kX11_hush : Nat := 95
abbrev kX11_comes : Nat := 96
abbrev kX11_holds : Nat := 97
abbrev kX11_off : Nat := 98
abbrev kX11_worst : Nat := 99
abbrev kX11_within : Nat := 100
abbrev kX11_bestAdd : Nat := 101
abbrev kX11_clocks : Nat := 102
abbrev kX11_fewest : Nat := 103
abbrev kX11_crossed : Nat := 104
abbrev kX11_noon : Nat := 105
abbrev kX11_firstNoon : Nat := 106
abbrev kX11_waits : Nat := 107
abbrev kX11_mender : Nat := 108
abbrev kX11_bestDay : Nat := 109
abbrev kX11_latest : Nat := 110
abbrev kX11_seed : Nat := 111
abbrev kX11_draw : Nat := 112
abbrev kX11_often : Nat := 113
abbrev kX11_lost : Nat := 114
abbrev kX11_isT : Nat := 115
abbrev kX11_isMinute : Nat := 116
abbrev kX11_isBound : Nat := 117
abbrev kX11_isCry : Nat := 118
abbrev kX11_isSet : Nat := 119
abbrev kX11_cryBothWays : Nat := 120
abbrev kX11_cryOneWay : Nat := 121
abbrev kX11_drawnAfter : Nat := 122
abbrev kX11_windDrawn : Nat := 123
abbrev kX11_takeUnaddedOffs : Nat := 124
abbrev kX11_farthestOverDays : Nat := 125
abbrev kX11_report : Nat := 126
abbrev kX11_forget : Nat := 127
abbrev kX11_fits : Nat := 128
abbrev kX11_liar : Nat := 129
abbrev kX11_wrongReports : Nat := 130
abbrev kX11_prove : Nat := 131
abbrev kX11_row : Nat := 132
abbrev kX11_alterRow : Nat := 133
abbrev kX11_judge : Nat := 134
abbrev kX11_isInRows : Nat := 135
abbrev kX11_isRowOfAsked : Nat := 136
abbrev kX11_sheet : Nat := 137
abbrev kX11_write : Nat := 138
abbrev kX11_item : Nat := 139
abbrev kX11_adds : Nat := 140
abbrev kX11_shelf : Nat := 141
abbrev kX11_taken : Nat := 142
abbrev kX11_act : Nat := 143
abbrev kX11_trace : Nat := 144
abbrev kX11_many : Nat := 145
abbrev kX11_isSheet : Nat := 146
abbrev kX11_isSort : Nat := 147
abbrev kX11_isItem : Nat := 148
abbrev kX11_narrowed : Nat := 149
abbrev kX11_isShelf : Nat := 150
abbrev kX11_isTowerOnShelf : Nat := 151
abbrev kX11_keep : Nat := 152
abbrev kX11_again : Nat := 153
abbrev kX12_init : Nat := 154
abbrev kX12_in : Nat := 155
abbrev kX12_isTower : Nat := 156
abbrev kX12_isDay : Nat := 157
abbrev kX12_isTime : Nat := 158
abbrev kX12_has : Nat := 159
abbrev kX12_size : Nat := 160
abbrev kX12_puts : Nat := 161
abbrev kX12_putsBack : Nat := 162
abbrev kX12_at : Nat := 163
abbrev kX12_its : Nat := 164
abbrev kX12_isPart : Nat := 165
abbrev kX12_tower : Nat := 166
abbrev kX12_isUnder : Nat := 167
abbrev kX12_fact : Nat := 168
abbrev kX12_isHolding : Nat := 169
abbrev kX12_isSo : Nat := 170
abbrev kX12_asks : Nat := 171
abbrev kX12_towerOf : Nat := 172
abbrev kX12_change : Nat := 173
abbrev kX12_turn : Nat := 174
abbrev kX12_day : Nat := 175
abbrev kX12_wind : Nat := 176
abbrev kX12_pace : Nat := 177
abbrev kX12_quiets : Nat := 178
abbrev kX12_goes : Nat := 179
abbrev kX12_goesBoth : Nat := 180
abbrev kX12_comers : Nat := 181
abbrev kX12_offOf : Nat := 182
abbrev kX12_cry : Nat := 183
abbrev kX12_shows : Nat := 184
abbrev kX12_holders : Nat := 185
abbrev kX12_hush : Nat := 186
abbrev kX12_isAsk : Nat := 187
abbrev kX12_comes : Nat := 188
abbrev kX12_holds : Nat := 189
abbrev kX12_off : Nat := 190
abbrev kX12_worst : Nat := 191
abbrev kX12_within : Nat := 192
abbrev kX12_farthest : Nat := 193
abbrev kX12_bestAdd : Nat := 194
abbrev kX12_clocked : Nat := 195
abbrev kX12_clocks : Nat := 196
abbrev kX12_ones : Nat := 197
abbrev kX12_fewest : Nat := 198
abbrev kX12_crossed : Nat := 199
abbrev kX12_fromFirst : Nat := 200
abbrev kX12_noonOf : Nat := 201
abbrev kX12_noon : Nat := 202
abbrev kX12_firstNoon : Nat := 203
abbrev kX12_waits : Nat := 204
abbrev kX12_offs : Nat := 205
abbrev kX12_mender : Nat := 206
abbrev kX12_bestDay : Nat := 207
abbrev kX12_latest : Nat := 208
abbrev kX12_seed : Nat := 209
abbrev kX12_draws : Nat := 210
abbrev kX12_draw : Nat := 211
abbrev kX12_often : Nat := 212
abbrev kX12_lost : Nat := 213
abbrev kX12_report : Nat := 214
abbrev kX12_forget : Nat := 215
abbrev kX12_isFit : Nat := 216
abbrev kX12_findFits : Nat := 217
abbrev kX12_fits : Nat := 218
abbrev kX12_liar : Nat := 219
abbrev kX12_prove : Nat := 220
abbrev kX12_isRow : Nat := 221
abbrev kX12_row : Nat := 222
abbrev kX12_alterRow : Nat := 223
abbrev kX12_isBrought : Nat := 224
abbrev kX12_judge : Nat := 225
abbrev kX12_feed : Nat := 226
abbrev kX12_byteAt : Nat := 227
abbrev kX12_isLetter : Nat := 228
abbrev kX12_isDigit : Nat := 229
abbrev kX12_token : Nat := 230
abbrev kX12_needs : Nat := 231
abbrev kX12_word : Nat := 232
abbrev kX12_number : Nat := 233
abbrev kX12_kindHere : Nat := 234
abbrev kX12_factHere : Nat := 235
abbrev kX12_writes : Nat := 236
abbrev kX12_valueHere : Nat := 237
abbrev kX12_comparison : Nat := 238
abbrev kX12_one : Nat := 239
abbrev kX12_all : Nat := 240
abbrev kX12_condition : Nat := 241
abbrev kX12_rule : Nat := 242
abbrev kX12_rules : Nat := 243
abbrev kX12_isOne : Nat := 244
abbrev kX12_sheet : Nat := 245
abbrev kX12_narrowed : Nat := 246
abbrev kX12_write : Nat := 247
abbrev kX12_wrong : Nat := 248
abbrev kX12_item : Nat := 249
abbrev kX12_adds : Nat := 250
abbrev kX12_shelf : Nat := 251
abbrev kX12_onShelf : Nat := 252
abbrev kX12_taken : Nat := 253
abbrev kX12_runs : Nat := 254
abbrev kX12_cries : Nat := 255
abbrev kX12_hears : Nat := 256
abbrev kX12_parts : Nat := 257
abbrev kX12_shares : Nat := 258
abbrev kX12_tells : Nat := 259
abbrev kX12_act : Nat := 260
abbrev kX12_traced : Nat := 261
abbrev kX12_trace : Nat := 262
abbrev kX12_many : Nat := 263
abbrev kX12_keep : Nat := 264
abbrev kX12_again : Nat := 265
abbrev kJ6_bitCount_0f7a4 : Nat := 266
abbrev kJ7_fill_53178 : Nat := 267
abbrev kL_law : Nat := 268
def mBl : Nat → List (Nat × List mO) := fun k => bif Nat.blt k 134 then (bif Nat.blt k 67 then (bif Nat.blt k 33 then (bif Nat.blt k 16 then (bif Nat.blt k 8 then (bif Nat.blt k 4 then (bif Nat.blt k 2 then (bif Nat.beq k 0 then pX0_init else pX0_takeDay) else (bif Nat.beq k 2 then pX0_goBothWays else pX0_goOneWay)) else (bif Nat.blt k 6 then (bif Nat.beq k 4 then pX0_farthestByClocks else pX0_beginAt) else (bif Nat.beq k 6 then pX0_goWest else pX0_goEast))) else (bif Nat.blt k 12 then (bif Nat.blt k 10 then (bif Nat.beq k 8 then pX0_isBeginning else pX0_bring) else (bif Nat.beq k 10 then pX0_reaches else pX0_reached)) else (bif Nat.blt k 14 then (bif Nat.beq k 12 then pX0_offOf else pX0_distanceOf) else (bif Nat.beq k 14 then pX0_sumOfDistances else pX0_noonOf)))) else (bif Nat.blt k 24 then (bif Nat.blt k 20 then (bif Nat.blt k 18 then (bif Nat.beq k 16 then pX1_init else pX1_cries) else (bif Nat.beq k 18 then pX1_tells else pX2_init)) else (bif Nat.blt k 22 then (bif Nat.beq k 20 then pX2_shares else pX3_init) else (bif Nat.beq k 22 then pX3_cries else pX4_init))) else (bif Nat.blt k 28 then (bif Nat.blt k 26 then (bif Nat.beq k 24 then pX4_hears else pX5_init) else (bif Nat.beq k 26 then pX5_clear else pX5_addStep)) else (bif Nat.blt k 30 then (bif Nat.beq k 28 then pX5_comparing else pX5_firstFor) else (bif Nat.beq k 30 then pX5_isMet else bif Nat.beq k 31 then pX5_isTrue else pX5_isSilent))))) else (bif Nat.blt k 50 then (bif Nat.blt k 41 then (bif Nat.blt k 37 then (bif Nat.blt k 35 then (bif Nat.beq k 33 then pX5_changed else pX5_copyFrom) else (bif Nat.beq k 35 then pX6_init else pX6_readTape)) else (bif Nat.blt k 39 then (bif Nat.beq k 37 then pX6_readToken else pX6_readNumber) else (bif Nat.beq k 39 then pX6_isLetter else pX6_isDigit))) else (bif Nat.blt k 45 then (bif Nat.blt k 43 then (bif Nat.beq k 41 then pX6_takesToken else pX6_takesKind) else (bif Nat.beq k 43 then pX6_takesIf else pX6_takesDeed)) else (bif Nat.blt k 47 then (bif Nat.beq k 45 then pX6_takesNot else pX6_takesOpening) else (bif Nat.beq k 47 then pX6_takesLeft else bif Nat.beq k 48 then pX6_takesSign else pX6_takesRight)))) else (bif Nat.blt k 58 then (bif Nat.blt k 54 then (bif Nat.blt k 52 then (bif Nat.beq k 50 then pX6_takesJoint else pX6_takesClosing) else (bif Nat.beq k 52 then pX6_takesN else pX6_takesSemicolon)) else (bif Nat.blt k 56 then (bif Nat.beq k 54 then pX6_goesTo else pX6_isSingle) else (bif Nat.beq k 56 then pX6_operand else pX6_await))) else (bif Nat.blt k 62 then (bif Nat.blt k 60 then (bif Nat.beq k 58 then pX6_addWaiting else pX6_placeIn) else (bif Nat.beq k 60 then pX6_isSpelt else pX7_init)) else (bif Nat.blt k 64 then (bif Nat.beq k 62 then pX7_hears else pX7_shares) else (bif Nat.beq k 64 then pX8_init else bif Nat.beq k 65 then pX8_clear else pX8_begin)))))) else (bif Nat.blt k 100 then (bif Nat.blt k 83 then (bif Nat.blt k 75 then (bif Nat.blt k 71 then (bif Nat.blt k 69 then (bif Nat.beq k 67 then pX9_init else pX9_isTower) else (bif Nat.beq k 69 then pX9_holding else pX9_minutesAMile)) else (bif Nat.blt k 73 then (bif Nat.beq k 71 then pX9_ruleFor else pX9_addedBy) else (bif Nat.beq k 73 then pX9_copyFrom else pX10_init))) else (bif Nat.blt k 79 then (bif Nat.blt k 77 then (bif Nat.beq k 75 then pX10_cries else pX10_hears) else (bif Nat.beq k 77 then pX10_shares else pX10_tells)) else (bif Nat.blt k 81 then (bif Nat.beq k 79 then pX11_init else pX11_tower) else (bif Nat.beq k 81 then pX11_towerOf else pX11_change)))) else (bif Nat.blt k 91 then (bif Nat.blt k 87 then (bif Nat.blt k 85 then (bif Nat.beq k 83 then pX11_turn else pX11_day) else (bif Nat.beq k 85 then pX11_wind else pX11_pace)) else (bif Nat.blt k 89 then (bif Nat.beq k 87 then pX11_isTowerKind else pX11_isMeasure) else (bif Nat.beq k 89 then pX11_isDay else pX11_isUnder))) else (bif Nat.blt k 95 then (bif Nat.blt k 93 then (bif Nat.beq k 91 then pX11_feed else pX11_rules) else (bif Nat.beq k 93 then pX11_cry else pX11_shows)) else (bif Nat.blt k 97 then (bif Nat.beq k 95 then pX11_hush else pX11_comes) else (bif Nat.beq k 97 then pX11_holds else bif Nat.beq k 98 then pX11_off else pX11_worst))))) else (bif Nat.blt k 117 then (bif Nat.blt k 108 then (bif Nat.blt k 104 then (bif Nat.blt k 102 then (bif Nat.beq k 100 then pX11_within else pX11_bestAdd) else (bif Nat.beq k 102 then pX11_clocks else pX11_fewest)) else (bif Nat.blt k 106 then (bif Nat.beq k 104 then pX11_crossed else pX11_noon) else (bif Nat.beq k 106 then pX11_firstNoon else pX11_waits))) else (bif Nat.blt k 112 then (bif Nat.blt k 110 then (bif Nat.beq k 108 then pX11_mender else pX11_bestDay) else (bif Nat.beq k 110 then pX11_latest else pX11_seed)) else (bif Nat.blt k 114 then (bif Nat.beq k 112 then pX11_draw else pX11_often) else (bif Nat.beq k 114 then pX11_lost else bif Nat.beq k 115 then pX11_isT else pX11_isMinute)))) else (bif Nat.blt k 125 then (bif Nat.blt k 121 then (bif Nat.blt k 119 then (bif Nat.beq k 117 then pX11_isBound else pX11_isCry) else (bif Nat.beq k 119 then pX11_isSet else pX11_cryBothWays)) else (bif Nat.blt k 123 then (bif Nat.beq k 121 then pX11_cryOneWay else pX11_drawnAfter) else (bif Nat.beq k 123 then pX11_windDrawn else pX11_takeUnaddedOffs))) else (bif Nat.blt k 129 then (bif Nat.blt k 127 then (bif Nat.beq k 125 then pX11_farthestOverDays else pX11_report) else (bif Nat.beq k 127 then pX11_forget else pX11_fits)) else (bif Nat.blt k 131 then (bif Nat.beq k 129 then pX11_liar else pX11_wrongReports) else (bif Nat.beq k 131 then pX11_prove else bif Nat.beq k 132 then pX11_row else pX11_alterRow))))))) else (bif Nat.blt k 201 then (bif Nat.blt k 167 then (bif Nat.blt k 150 then (bif Nat.blt k 142 then (bif Nat.blt k 138 then (bif Nat.blt k 136 then (bif Nat.beq k 134 then pX11_judge else pX11_isInRows) else (bif Nat.beq k 136 then pX11_isRowOfAsked else pX11_sheet)) else (bif Nat.blt k 140 then (bif Nat.beq k 138 then pX11_write else pX11_item) else (bif Nat.beq k 140 then pX11_adds else pX11_shelf))) else (bif Nat.blt k 146 then (bif Nat.blt k 144 then (bif Nat.beq k 142 then pX11_taken else pX11_act) else (bif Nat.beq k 144 then pX11_trace else pX11_many)) else (bif Nat.blt k 148 then (bif Nat.beq k 146 then pX11_isSheet else pX11_isSort) else (bif Nat.beq k 148 then pX11_isItem else pX11_narrowed)))) else (bif Nat.blt k 158 then (bif Nat.blt k 154 then (bif Nat.blt k 152 then (bif Nat.beq k 150 then pX11_isShelf else pX11_isTowerOnShelf) else (bif Nat.beq k 152 then pX11_keep else pX11_again)) else (bif Nat.blt k 156 then (bif Nat.beq k 154 then pX12_init else pX12_in) else (bif Nat.beq k 156 then pX12_isTower else pX12_isDay))) else (bif Nat.blt k 162 then (bif Nat.blt k 160 then (bif Nat.beq k 158 then pX12_isTime else pX12_has) else (bif Nat.beq k 160 then pX12_size else pX12_puts)) else (bif Nat.blt k 164 then (bif Nat.beq k 162 then pX12_putsBack else pX12_at) else (bif Nat.beq k 164 then pX12_its else bif Nat.beq k 165 then pX12_isPart else pX12_tower))))) else (bif Nat.blt k 184 then (bif Nat.blt k 175 then (bif Nat.blt k 171 then (bif Nat.blt k 169 then (bif Nat.beq k 167 then pX12_isUnder else pX12_fact) else (bif Nat.beq k 169 then pX12_isHolding else pX12_isSo)) else (bif Nat.blt k 173 then (bif Nat.beq k 171 then pX12_asks else pX12_towerOf) else (bif Nat.beq k 173 then pX12_change else pX12_turn))) else (bif Nat.blt k 179 then (bif Nat.blt k 177 then (bif Nat.beq k 175 then pX12_day else pX12_wind) else (bif Nat.beq k 177 then pX12_pace else pX12_quiets)) else (bif Nat.blt k 181 then (bif Nat.beq k 179 then pX12_goes else pX12_goesBoth) else (bif Nat.beq k 181 then pX12_comers else bif Nat.beq k 182 then pX12_offOf else pX12_cry)))) else (bif Nat.blt k 192 then (bif Nat.blt k 188 then (bif Nat.blt k 186 then (bif Nat.beq k 184 then pX12_shows else pX12_holders) else (bif Nat.beq k 186 then pX12_hush else pX12_isAsk)) else (bif Nat.blt k 190 then (bif Nat.beq k 188 then pX12_comes else pX12_holds) else (bif Nat.beq k 190 then pX12_off else pX12_worst))) else (bif Nat.blt k 196 then (bif Nat.blt k 194 then (bif Nat.beq k 192 then pX12_within else pX12_farthest) else (bif Nat.beq k 194 then pX12_bestAdd else pX12_clocked)) else (bif Nat.blt k 198 then (bif Nat.beq k 196 then pX12_clocks else pX12_ones) else (bif Nat.beq k 198 then pX12_fewest else bif Nat.beq k 199 then pX12_crossed else pX12_fromFirst)))))) else (bif Nat.blt k 235 then (bif Nat.blt k 218 then (bif Nat.blt k 209 then (bif Nat.blt k 205 then (bif Nat.blt k 203 then (bif Nat.beq k 201 then pX12_noonOf else pX12_noon) else (bif Nat.beq k 203 then pX12_firstNoon else pX12_waits)) else (bif Nat.blt k 207 then (bif Nat.beq k 205 then pX12_offs else pX12_mender) else (bif Nat.beq k 207 then pX12_bestDay else pX12_latest))) else (bif Nat.blt k 213 then (bif Nat.blt k 211 then (bif Nat.beq k 209 then pX12_seed else pX12_draws) else (bif Nat.beq k 211 then pX12_draw else pX12_often)) else (bif Nat.blt k 215 then (bif Nat.beq k 213 then pX12_lost else pX12_report) else (bif Nat.beq k 215 then pX12_forget else bif Nat.beq k 216 then pX12_isFit else pX12_findFits)))) else (bif Nat.blt k 226 then (bif Nat.blt k 222 then (bif Nat.blt k 220 then (bif Nat.beq k 218 then pX12_fits else pX12_liar) else (bif Nat.beq k 220 then pX12_prove else pX12_isRow)) else (bif Nat.blt k 224 then (bif Nat.beq k 222 then pX12_row else pX12_alterRow) else (bif Nat.beq k 224 then pX12_isBrought else pX12_judge))) else (bif Nat.blt k 230 then (bif Nat.blt k 228 then (bif Nat.beq k 226 then pX12_feed else pX12_byteAt) else (bif Nat.beq k 228 then pX12_isLetter else pX12_isDigit)) else (bif Nat.blt k 232 then (bif Nat.beq k 230 then pX12_token else pX12_needs) else (bif Nat.beq k 232 then pX12_word else bif Nat.beq k 233 then pX12_number else pX12_kindHere))))) else (bif Nat.blt k 252 then (bif Nat.blt k 243 then (bif Nat.blt k 239 then (bif Nat.blt k 237 then (bif Nat.beq k 235 then pX12_factHere else pX12_writes) else (bif Nat.beq k 237 then pX12_valueHere else pX12_comparison)) else (bif Nat.blt k 241 then (bif Nat.beq k 239 then pX12_one else pX12_all) else (bif Nat.beq k 241 then pX12_condition else pX12_rule))) else (bif Nat.blt k 247 then (bif Nat.blt k 245 then (bif Nat.beq k 243 then pX12_rules else pX12_isOne) else (bif Nat.beq k 245 then pX12_sheet else pX12_narrowed)) else (bif Nat.blt k 249 then (bif Nat.beq k 247 then pX12_write else pX12_wrong) else (bif Nat.beq k 249 then pX12_item else bif Nat.beq k 250 then pX12_adds else pX12_shelf)))) else (bif Nat.blt k 260 then (bif Nat.blt k 256 then (bif Nat.blt k 254 then (bif Nat.beq k 252 then pX12_onShelf else pX12_taken) else (bif Nat.beq k 254 then pX12_runs else pX12_cries)) else (bif Nat.blt k 258 then (bif Nat.beq k 256 then pX12_hears else pX12_parts) else (bif Nat.beq k 258 then pX12_shares else pX12_tells))) else (bif Nat.blt k 264 then (bif Nat.blt k 262 then (bif Nat.beq k 260 then pX12_act else pX12_traced) else (bif Nat.beq k 262 then pX12_trace else pX12_many)) else (bif Nat.blt k 266 then (bif Nat.beq k 264 then pX12_keep else pX12_again) else (bif Nat.beq k 266 then pJ6_bitCount_0f7a4 else bif Nat.beq k 267 then pJ7_fill_53178 else pL_law)))))))
def m_look (pc : Nat) : List (Nat × List mO) → List mO
  | [] => []
  | (h, b) :: r => bif Nat.beq h pc then b else m_look pc r
def mP : Nat → Nat → List mO := fun k pc => m_look pc (mBl k)
/-- name, bytes, number of locals, type of the answer, places of its word and of its class' word -/
def mMt : List (MethodName × ByteArray × Nat × Option FieldType × Nat × Nat) := [(yX0_init, cX0_init, 2, none, 1193, 1005),
  (yX0_takeDay, cX0_takeDay, 4, none, 3179, 1005),
  (yX0_goBothWays, cX0_goBothWays, 3, none, 4006, 1005),
  (yX0_goOneWay, cX0_goOneWay, 4, none, 3187, 1005),
  (yX0_farthestByClocks, cX0_farthestByClocks, 5, (some .int), 4066, 1005),
  (yX0_beginAt, cX0_beginAt, 4, none, 3191, 1005),
  (yX0_goWest, cX0_goWest, 3, none, 3199, 1005),
  (yX0_goEast, cX0_goEast, 3, none, 3211, 1005),
  (yX0_isBeginning, cX0_isBeginning, 2, (some .boolean), 3195, 1005),
  (yX0_bring, cX0_bring, 5, none, 3203, 1005),
  (yX0_reaches, cX0_reaches, 2, (some .boolean), 3207, 1005),
  (yX0_reached, cX0_reached, 3, (some .int), 3216, 1005),
  (yX0_offOf, cX0_offOf, 2, (some .int), 4018, 1005),
  (yX0_distanceOf, cX0_distanceOf, 2, (some .int), 4026, 1005),
  (yX0_sumOfDistances, cX0_sumOfDistances, 3, (some .int), 4109, 1005),
  (yX0_noonOf, cX0_noonOf, 2, (some .int), 4090, 1005),
  (yX1_init, cX1_init, 2, none, 2065, 1010),
  (yX1_cries, cX1_cries, 2, (some .int), 5005, 1010),
  (yX1_tells, cX1_tells, 2, (some .int), 5070, 1010),
  (yX2_init, cX2_init, 2, none, 2075, 1011),
  (yX2_shares, cX2_shares, 2, (some .int), 5051, 1011),
  (yX3_init, cX3_init, 2, none, 2045, 1008),
  (yX3_cries, cX3_cries, 2, (some .int), 5016, 1008),
  (yX4_init, cX4_init, 2, none, 2055, 1009),
  (yX4_hears, cX4_hears, 2, (some .int), 5029, 1009),
  (yX5_init, cX5_init, 1, none, 1040, 1003),
  (yX5_clear, cX5_clear, 1, none, 2236, 1003),
  (yX5_addStep, cX5_addStep, 2, none, 3099, 1003),
  (yX5_comparing, cX5_comparing, 3, (some .int), 3136, 1003),
  (yX5_firstFor, cX5_firstFor, 4, (some .int), 2171, 1003),
  (yX5_isMet, cX5_isMet, 6, (some .boolean), 2178, 1003),
  (yX5_isTrue, cX5_isTrue, 4, (some .boolean), 2181, 1003),
  (yX5_isSilent, cX5_isSilent, 2, (some .boolean), 2193, 1003),
  (yX5_changed, cX5_changed, 4, (some .int), 2189, 1003),
  (yX5_copyFrom, cX5_copyFrom, 2, none, 3157, 1003),
  (yX6_init, cX6_init, 1, none, 1141, 1004),
  (yX6_readTape, cX6_readTape, 2, (some .int), 2232, 1004),
  (yX6_readToken, cX6_readToken, 1, none, 3000, 1004),
  (yX6_readNumber, cX6_readNumber, 1, none, 3012, 1004),
  (yX6_isLetter, cX6_isLetter, 2, (some .boolean), 3004, 1004),
  (yX6_isDigit, cX6_isDigit, 2, (some .boolean), 3008, 1004),
  (yX6_takesToken, cX6_takesToken, 1, (some .boolean), 3016, 1004),
  (yX6_takesKind, cX6_takesKind, 2, (some .boolean), 3020, 1004),
  (yX6_takesIf, cX6_takesIf, 1, (some .boolean), 3081, 1004),
  (yX6_takesDeed, cX6_takesDeed, 2, (some .boolean), 3090, 1004),
  (yX6_takesNot, cX6_takesNot, 1, (some .boolean), 3103, 1004),
  (yX6_takesOpening, cX6_takesOpening, 1, (some .boolean), 3112, 1004),
  (yX6_takesLeft, cX6_takesLeft, 1, (some .boolean), 3120, 1004),
  (yX6_takesSign, cX6_takesSign, 1, (some .boolean), 3129, 1004),
  (yX6_takesRight, cX6_takesRight, 2, (some .boolean), 3133, 1004),
  (yX6_takesJoint, cX6_takesJoint, 2, (some .boolean), 3140, 1004),
  (yX6_takesClosing, cX6_takesClosing, 1, (some .boolean), 3145, 1004),
  (yX6_takesN, cX6_takesN, 1, (some .boolean), 3149, 1004),
  (yX6_takesSemicolon, cX6_takesSemicolon, 1, (some .boolean), 3153, 1004),
  (yX6_goesTo, cX6_goesTo, 3, (some .boolean), 3086, 1004),
  (yX6_isSingle, cX6_isSingle, 2, (some .boolean), 3116, 1004),
  (yX6_operand, cX6_operand, 2, (some .int), 3124, 1004),
  (yX6_await, cX6_await, 2, none, 3108, 1004),
  (yX6_addWaiting, cX6_addWaiting, 2, none, 3095, 1004),
  (yX6_placeIn, cX6_placeIn, 5, (some .int), 3025, 1004),
  (yX6_isSpelt, cX6_isSpelt, 5, (some .boolean), 3077, 1004),
  (yX7_init, cX7_init, 2, none, 2085, 1012),
  (yX7_hears, cX7_hears, 2, (some .int), 5037, 1012),
  (yX7_shares, cX7_shares, 2, (some .int), 5058, 1012),
  (yX8_init, cX8_init, 1, none, 1230, 1006),
  (yX8_clear, cX8_clear, 1, none, 4238, 1006),
  (yX8_begin, cX8_begin, 2, none, 5009, 1006),
  (yX9_init, cX9_init, 1, none, 1034, 1002),
  (yX9_isTower, cX9_isTower, 2, (some .boolean), 2163, 1002),
  (yX9_holding, cX9_holding, 3, (some .int), 3231, 1002),
  (yX9_minutesAMile, cX9_minutesAMile, 3, (some .int), 2220, 1002),
  (yX9_ruleFor, cX9_ruleFor, 3, (some .int), 2167, 1002),
  (yX9_addedBy, cX9_addedBy, 5, (some .int), 2185, 1002),
  (yX9_copyFrom, cX9_copyFrom, 2, none, 5099, 1002),
  (yX10_init, cX10_init, 2, none, 2011, 1007),
  (yX10_cries, cX10_cries, 2, (some .int), 5021, 1007),
  (yX10_hears, cX10_hears, 2, (some .int), 5042, 1007),
  (yX10_shares, cX10_shares, 3, (some .int), 5063, 1007),
  (yX10_tells, cX10_tells, 2, (some .int), 5082, 1007),
  (yX11_init, cX11_init, 1, none, 1026, 1001),
  (yX11_tower, cX11_tower, 6, (some .int), 2149, 1001),
  (yX11_towerOf, cX11_towerOf, 3, (some .int), 2159, 1001),
  (yX11_change, cX11_change, 6, (some .int), 2197, 1001),
  (yX11_turn, cX11_turn, 4, (some .int), 2201, 1001),
  (yX11_day, cX11_day, 3, (some .int), 2205, 1001),
  (yX11_wind, cX11_wind, 4, (some .int), 2212, 1001),
  (yX11_pace, cX11_pace, 2, (some .int), 2216, 1001),
  (yX11_isTowerKind, cX11_isTowerKind, 1, (some .boolean), 2152, 1001),
  (yX11_isMeasure, cX11_isMeasure, 2, (some .boolean), 2155, 1001),
  (yX11_isDay, cX11_isDay, 1, (some .boolean), 2208, 1001),
  (yX11_isUnder, cX11_isUnder, 2, (some .boolean), 2174, 1001),
  (yX11_feed, cX11_feed, 5, (some .int), 2224, 1001),
  (yX11_rules, cX11_rules, 2, (some .int), 2228, 1001),
  (yX11_cry, cX11_cry, 5, (some .int), 3164, 1001),
  (yX11_shows, cX11_shows, 3, (some .int), 3220, 1001),
  (yX11_hush, cX11_hush, 2, (some .int), 3227, 1001),
  (yX11_comes, cX11_comes, 4, (some .int), 3238, 1001),
  (yX11_holds, cX11_holds, 4, (some .int), 4010, 1001),
  (yX11_off, cX11_off, 4, (some .int), 4014, 1001),
  (yX11_worst, cX11_worst, 6, (some .int), 4022, 1001),
  (yX11_within, cX11_within, 6, (some .int), 4034, 1001),
  (yX11_bestAdd, cX11_bestAdd, 9, (some .int), 4041, 1001),
  (yX11_clocks, cX11_clocks, 4, (some .int), 4058, 1001),
  (yX11_fewest, cX11_fewest, 7, (some .int), 4072, 1001),
  (yX11_crossed, cX11_crossed, 4, (some .int), 4082, 1001),
  (yX11_noon, cX11_noon, 3, (some .int), 4086, 1001),
  (yX11_firstNoon, cX11_firstNoon, 4, (some .int), 4094, 1001),
  (yX11_waits, cX11_waits, 6, (some .int), 4098, 1001),
  (yX11_mender, cX11_mender, 8, (some .int), 4105, 1001),
  (yX11_bestDay, cX11_bestDay, 7, (some .int), 4113, 1001),
  (yX11_latest, cX11_latest, 5, (some .int), 4117, 1001),
  (yX11_seed, cX11_seed, 3, (some .int), 4121, 1001),
  (yX11_draw, cX11_draw, 2, (some .int), 4125, 1001),
  (yX11_often, cX11_often, 9, (some .int), 4136, 1001),
  (yX11_lost, cX11_lost, 5, (some .int), 4140, 1001),
  (yX11_isT, cX11_isT, 1, (some .boolean), 3171, 1001),
  (yX11_isMinute, cX11_isMinute, 1, (some .boolean), 3223, 1001),
  (yX11_isBound, cX11_isBound, 1, (some .boolean), 4037, 1001),
  (yX11_isCry, cX11_isCry, 3, (some .boolean), 3168, 1001),
  (yX11_isSet, cX11_isSet, 2, (some .boolean), 4062, 1001),
  (yX11_cryBothWays, cX11_cryBothWays, 3, none, 4002, 1001),
  (yX11_cryOneWay, cX11_cryOneWay, 4, none, 3175, 1001),
  (yX11_drawnAfter, cX11_drawnAfter, 1, (some .int), 4128, 1001),
  (yX11_windDrawn, cX11_windDrawn, 1, (some .int), 4132, 1001),
  (yX11_takeUnaddedOffs, cX11_takeUnaddedOffs, 6, (some .boolean), 4046, 1001),
  (yX11_farthestOverDays, cX11_farthestOverDays, 5, (some .int), 4050, 1001),
  (yX11_report, cX11_report, 4, (some .int), 4144, 1001),
  (yX11_forget, cX11_forget, 2, (some .int), 4148, 1001),
  (yX11_fits, cX11_fits, 7, (some .int), 4152, 1001),
  (yX11_liar, cX11_liar, 5, (some .int), 4160, 1001),
  (yX11_wrongReports, cX11_wrongReports, 4, (some .int), 4156, 1001),
  (yX11_prove, cX11_prove, 6, (some .int), 4164, 1001),
  (yX11_row, cX11_row, 3, (some .int), 4168, 1001),
  (yX11_alterRow, cX11_alterRow, 5, (some .int), 4176, 1001),
  (yX11_judge, cX11_judge, 6, (some .int), 4180, 1001),
  (yX11_isInRows, cX11_isInRows, 3, (some .boolean), 4172, 1001),
  (yX11_isRowOfAsked, cX11_isRowOfAsked, 3, (some .boolean), 4184, 1001),
  (yX11_sheet, cX11_sheet, 4, (some .int), 4188, 1001),
  (yX11_write, cX11_write, 4, (some .int), 4198, 1001),
  (yX11_item, cX11_item, 4, (some .int), 4209, 1001),
  (yX11_adds, cX11_adds, 6, (some .int), 4213, 1001),
  (yX11_shelf, cX11_shelf, 4, (some .int), 4218, 1001),
  (yX11_taken, cX11_taken, 5, (some .int), 4225, 1001),
  (yX11_act, cX11_act, 7, (some .int), 4234, 1001),
  (yX11_trace, cX11_trace, 2, (some .int), 5087, 1001),
  (yX11_many, cX11_many, 2, (some .int), 5091, 1001),
  (yX11_isSheet, cX11_isSheet, 1, (some .boolean), 4191, 1001),
  (yX11_isSort, cX11_isSort, 1, (some .boolean), 4194, 1001),
  (yX11_isItem, cX11_isItem, 3, (some .boolean), 4202, 1001),
  (yX11_narrowed, cX11_narrowed, 2, (some .int), 4205, 1001),
  (yX11_isShelf, cX11_isShelf, 1, (some .boolean), 4221, 1001),
  (yX11_isTowerOnShelf, cX11_isTowerOnShelf, 2, (some .boolean), 4229, 1001),
  (yX11_keep, cX11_keep, 1, (some .int), 5095, 1001),
  (yX11_again, cX11_again, 1, (some .int), 5105, 1001),
  (yX12_init, cX12_init, 2, none, 5110, 1013),
  (yX12_in, cX12_in, 6, (some .boolean), 5228, 1013),
  (yX12_isTower, cX12_isTower, 2, (some .boolean), 6005, 1013),
  (yX12_isDay, cX12_isDay, 1, (some .boolean), 6043, 1013),
  (yX12_isTime, cX12_isTime, 1, (some .boolean), 6061, 1013),
  (yX12_has, cX12_has, 2, (some .boolean), 6073, 1013),
  (yX12_size, cX12_size, 1, (some .int), 6122, 1013),
  (yX12_puts, cX12_puts, 2, none, 7035, 1013),
  (yX12_putsBack, cX12_putsBack, 2, none, 7126, 1013),
  (yX12_at, cX12_at, 2, (some .int), 5237, 1013),
  (yX12_its, cX12_its, 3, (some .int), 6014, 1013),
  (yX12_isPart, cX12_isPart, 2, (some .boolean), 5231, 1013),
  (yX12_tower, cX12_tower, 6, (some .int), 5224, 1013),
  (yX12_isUnder, cX12_isUnder, 2, (some .boolean), 6017, 1013),
  (yX12_fact, cX12_fact, 3, (some .int), 6025, 1013),
  (yX12_isHolding, cX12_isHolding, 3, (some .boolean), 6028, 1013),
  (yX12_isSo, cX12_isSo, 7, (some .boolean), 6021, 1013),
  (yX12_asks, cX12_asks, 8, none, 6010, 1013),
  (yX12_towerOf, cX12_towerOf, 4, (some .int), 6001, 1013),
  (yX12_change, cX12_change, 5, (some .int), 6032, 1013),
  (yX12_turn, cX12_turn, 4, (some .int), 6036, 1013),
  (yX12_day, cX12_day, 3, (some .int), 6040, 1013),
  (yX12_wind, cX12_wind, 4, (some .int), 6048, 1013),
  (yX12_pace, cX12_pace, 2, (some .int), 6054, 1013),
  (yX12_quiets, cX12_quiets, 2, none, 6066, 1013),
  (yX12_goes, cX12_goes, 11, none, 6070, 1013),
  (yX12_goesBoth, cX12_goesBoth, 3, none, 6103, 1013),
  (yX12_comers, cX12_comers, 3, (some .int), 6078, 1013),
  (yX12_offOf, cX12_offOf, 2, (some .int), 6115, 1013),
  (yX12_cry, cX12_cry, 5, (some .int), 6058, 1013),
  (yX12_shows, cX12_shows, 3, (some .int), 6082, 1013),
  (yX12_holders, cX12_holders, 3, (some .int), 6091, 1013),
  (yX12_hush, cX12_hush, 3, (some .int), 6087, 1013),
  (yX12_isAsk, cX12_isAsk, 4, (some .boolean), 6099, 1013),
  (yX12_comes, cX12_comes, 4, (some .int), 6095, 1013),
  (yX12_holds, cX12_holds, 4, (some .int), 6107, 1013),
  (yX12_off, cX12_off, 4, (some .int), 6111, 1013),
  (yX12_worst, cX12_worst, 7, (some .int), 6119, 1013),
  (yX12_within, cX12_within, 6, (some .int), 6126, 1013),
  (yX12_farthest, cX12_farthest, 8, (some .int), 6135, 1013),
  (yX12_bestAdd, cX12_bestAdd, 9, (some .int), 6131, 1013),
  (yX12_clocked, cX12_clocked, 6, (some .int), 6143, 1013),
  (yX12_clocks, cX12_clocks, 4, (some .int), 6139, 1013),
  (yX12_ones, cX12_ones, 3, (some .int), 6150, 1013),
  (yX12_fewest, cX12_fewest, 6, (some .int), 6147, 1013),
  (yX12_crossed, cX12_crossed, 6, (some .int), 6154, 1013),
  (yX12_fromFirst, cX12_fromFirst, 3, none, 6162, 1013),
  (yX12_noonOf, cX12_noonOf, 2, (some .int), 6166, 1013),
  (yX12_noon, cX12_noon, 3, (some .int), 6158, 1013),
  (yX12_firstNoon, cX12_firstNoon, 4, (some .int), 6170, 1013),
  (yX12_waits, cX12_waits, 7, (some .int), 6174, 1013),
  (yX12_offs, cX12_offs, 3, (some .int), 6182, 1013),
  (yX12_mender, cX12_mender, 8, (some .int), 6178, 1013),
  (yX12_bestDay, cX12_bestDay, 8, (some .int), 6186, 1013),
  (yX12_latest, cX12_latest, 5, (some .int), 6190, 1013),
  (yX12_seed, cX12_seed, 3, (some .int), 6194, 1013),
  (yX12_draws, cX12_draws, 2, none, 6202, 1013),
  (yX12_draw, cX12_draw, 2, (some .int), 6198, 1013),
  (yX12_often, cX12_often, 9, (some .int), 6207, 1013),
  (yX12_lost, cX12_lost, 4, (some .int), 6212, 1013),
  (yX12_report, cX12_report, 3, (some .int), 6216, 1013),
  (yX12_forget, cX12_forget, 2, (some .int), 6220, 1013),
  (yX12_isFit, cX12_isFit, 5, (some .boolean), 6233, 1013),
  (yX12_findFits, cX12_findFits, 4, none, 6229, 1013),
  (yX12_fits, cX12_fits, 3, (some .int), 6224, 1013),
  (yX12_liar, cX12_liar, 3, (some .int), 6237, 1013),
  (yX12_prove, cX12_prove, 5, (some .int), 7001, 1013),
  (yX12_isRow, cX12_isRow, 3, (some .boolean), 7009, 1013),
  (yX12_row, cX12_row, 3, (some .int), 7005, 1013),
  (yX12_alterRow, cX12_alterRow, 5, (some .int), 7013, 1013),
  (yX12_isBrought, cX12_isBrought, 9, (some .boolean), 7021, 1013),
  (yX12_judge, cX12_judge, 4, (some .int), 7017, 1013),
  (yX12_feed, cX12_feed, 5, (some .int), 7025, 1013),
  (yX12_byteAt, cX12_byteAt, 2, (some .int), 7043, 1013),
  (yX12_isLetter, cX12_isLetter, 1, (some .boolean), 7046, 1013),
  (yX12_isDigit, cX12_isDigit, 1, (some .boolean), 7051, 1013),
  (yX12_token, cX12_token, 3, none, 7039, 1013),
  (yX12_needs, cX12_needs, 2, none, 7077, 1013),
  (yX12_word, cX12_word, 4, (some .long), 7065, 1013),
  (yX12_number, cX12_number, 4, none, 7117, 1013),
  (yX12_kindHere, cX12_kindHere, 3, (some .int), 7061, 1013),
  (yX12_factHere, cX12_factHere, 3, (some .int), 7103, 1013),
  (yX12_writes, cX12_writes, 2, none, 7113, 1013),
  (yX12_valueHere, cX12_valueHere, 2, none, 7099, 1013),
  (yX12_comparison, cX12_comparison, 2, none, 7095, 1013),
  (yX12_one, cX12_one, 2, none, 7090, 1013),
  (yX12_all, cX12_all, 1, none, 7086, 1013),
  (yX12_condition, cX12_condition, 1, none, 7082, 1013),
  (yX12_rule, cX12_rule, 7, none, 7057, 1013),
  (yX12_rules, cX12_rules, 1, (some .int), 7031, 1013),
  (yX12_isOne, cX12_isOne, 1, (some .boolean), 7133, 1013),
  (yX12_sheet, cX12_sheet, 5, (some .int), 7130, 1013),
  (yX12_narrowed, cX12_narrowed, 2, (some .int), 7142, 1013),
  (yX12_write, cX12_write, 4, (some .int), 7139, 1013),
  (yX12_wrong, cX12_wrong, 3, (some .int), 7150, 1013),
  (yX12_item, cX12_item, 5, (some .int), 7146, 1013),
  (yX12_adds, cX12_adds, 7, (some .int), 7154, 1013),
  (yX12_shelf, cX12_shelf, 4, (some .int), 7159, 1013),
  (yX12_onShelf, cX12_onShelf, 2, (some .int), 7169, 1013),
  (yX12_taken, cX12_taken, 5, (some .int), 7163, 1013),
  (yX12_runs, cX12_runs, 2, none, 7181, 1013),
  (yX12_cries, cX12_cries, 2, (some .int), 7177, 1013),
  (yX12_hears, cX12_hears, 4, (some .int), 7185, 1013),
  (yX12_parts, cX12_parts, 2, (some .int), 7193, 1013),
  (yX12_shares, cX12_shares, 3, (some .int), 7189, 1013),
  (yX12_tells, cX12_tells, 3, (some .int), 7197, 1013),
  (yX12_act, cX12_act, 5, (some .int), 7173, 1013),
  (yX12_traced, cX12_traced, 1, (some .int), 7205, 1013),
  (yX12_trace, cX12_trace, 2, (some .int), 7201, 1013),
  (yX12_many, cX12_many, 2, (some .int), 7209, 1013),
  (yX12_keep, cX12_keep, 2, (some .int), 7213, 1013),
  (yX12_again, cX12_again, 2, (some .int), 7217, 1013),
  (yJ6_bitCount_0f7a4, cJ6_bitCount_0f7a4, 1, (some .int), 4075, 1021),
  (yJ7_fill_53178, cJ7_fill_53178, 4, none, 3234, 1019),
  (yL_law, cL_law, 4, ret, 0, 0)]
def mJt : List (MethodName × ByteArray × Nat × Option FieldType × Nat × Nat) := [(yJ0_length_8abf5, cJ0_length_8abf5, 1, (some .int), 3029, 1014), (yJ0_charAt_5068e, cJ0_charAt_5068e, 2, (some .char), 3039, 1014)]
def mX : Nat → Nat := fun k => (([2, 4, 3, 4, 5, 4, 3, 3, 2, 5, 2, 3, 2, 2, 3, 2, 2, 2, 2, 2, 2, 2, 2, 2, 2, 1, 1, 2, 3, 4, 6, 4, 2, 4, 2, 1, 2, 1, 1, 2, 2, 1, 2, 1, 2, 1, 1, 1, 1, 2, 2, 1, 1, 1, 3, 2, 2, 2, 2, 5, 5, 2, 2, 2, 1, 1, 2, 1, 2, 3, 3, 3, 5, 2, 2, 2, 2, 3, 2, 1, 6, 3, 6, 4, 3, 4, 2, 1, 2, 1, 2, 5, 2, 5, 3, 2, 4, 4, 4, 6, 6, 9, 4, 7, 4, 3, 4, 6, 8, 7, 5, 3, 2, 9, 5, 1, 1, 1, 3, 2, 3, 4, 1, 1, 6, 5, 4, 2, 7, 5, 4, 6, 3, 5, 6, 3, 3, 4, 4, 4, 6, 4, 5, 7, 2, 2, 1, 1, 3, 2, 1, 2, 1, 1, 2, 6, 2, 1, 1, 2, 1, 2, 2, 2, 3, 2, 6, 2, 3, 3, 7, 8, 4, 5, 4, 3, 4, 2, 2, 11, 3, 3, 2, 5, 3, 3, 3, 4, 4, 4, 4, 7, 6, 8, 9, 6, 4, 3, 6, 6, 3, 2, 3, 4, 7, 3, 8, 8, 5, 3, 2, 2, 9, 4, 3, 2, 5, 4, 3, 3, 5, 3, 3, 5, 9, 4, 5, 2, 1, 1, 3, 2, 4, 4, 3, 3, 2, 2, 2, 2, 1, 1, 7, 1, 1, 5, 2, 4, 3, 5, 7, 4, 2, 5, 2, 2, 4, 2, 3, 3, 5, 1, 2, 2, 2, 2, 1, 4, 4] : List Nat)[k]?).getD 0
end
section
/-! THE MACHINE'S HEAP IN THE JVM'S: cell i stands at ad i; what a frame knows -/
def m_v (ad : Nat → Nat) : Value → Value
  | .ref a => .ref (ad a)
  | v => v
theorem m_v_cat (ad : Nat → Nat) (v : Value) : (m_v ad v).category = v.category := by cases v <;> rfl
theorem m_v_rf (ad : Nat → Nat) (r : Option Nat) : m_v ad (va_rf r) = va_rf (r.map ad) := by cases r <;> rfl
def m_fld (ad : Nat → Nat) (st : Nat → Int32) (c : Nat) (rs : List (Option Nat)) (j : Nat) : Value := bif m_num (m_ty c j) then .int (st j) else va_rf ((m_ri rs j).map ad)
def m_cel (dA : Nat → ClassId) (ad : Nat → Nat) (st : Nat → Int32) (r : mR) : va_E :=
  if r.1 < 100 then .inr (r.1, (List.range r.2.1).map (m_fld ad st r.1 r.2.2))
  else if r.1 < 104 then .inl (dA r.1, r.2.1, .inl st)
  else .inl (dA r.1, r.2.1, .inr (.inr (.inr (.inr (fun i => (m_ri r.2.2 i).map ad)))))
def m_at (h : mH) (i : Nat) : mR := (h.1[i]?).getD (0, 0, [])
def m_ws (dA : Nat → ClassId) (ad : Nat → Nat) (h : mH) : va_W := (List.range h.1.length).map fun i => (ad i, m_cel dA ad (h.2 i) (m_at h i))
def m_sz (h : mH) : Nat := (h.1.map fun r => r.2.1).sum
theorem m_ws_len (dA : Nat → ClassId) (ad : Nat → Nat) (h : mH) : (m_ws dA ad h).length = h.1.length := by simp [m_ws]
theorem m_at_eq {h : mH} {i : Nat} {r : mR} (hi : h.1[i]? = some r) : m_at h i = r := by simp [m_at, hi]
theorem m_ws_get {dA : Nat → ClassId} {ad : Nat → Nat} {h : mH} {i : Nat} {r : mR} (hi : h.1[i]? = some r) : (m_ws dA ad h)[i]? = some (ad i, m_cel dA ad (h.2 i) r) := by
  have hl := (List.getElem?_eq_some_iff.mp hi).1
  simp [m_ws, List.getElem?_map, List.getElem?_range hl, m_at_eq hi]
theorem m_ws_at {dA : Nat → ClassId} {ad : Nat → Nat} {h : mH} {i : Nat} (hl : i < h.1.length) : (m_ws dA ad h)[i]? = some (ad i, m_cel dA ad (h.2 i) (m_at h i)) := by
  simp [m_ws, List.getElem?_map, List.getElem?_range hl]
theorem m_ws_set {dA : Nat → ClassId} {ad : Nat → Nat} {h : mH} {i : Nat} {r r' : mR} (f : Nat → Int32) (hi : h.1[i]? = some r) : (m_ws dA ad h).set i (ad i, m_cel dA ad f r') = m_ws dA ad (h.1.set i r', m_row h.2 i f) := by
  have hl := (List.getElem?_eq_some_iff.mp hi).1
  apply List.ext_getElem?
  intro j
  by_cases hj : j = i
  · subst hj
    rw [List.getElem?_set_self (by rw [m_ws_len]; exact hl), m_ws_at (by simpa using hl)]
    have e1 : m_row h.2 j f j = f := by funext b; simp [m_row]
    have e2 : m_at (h.1.set j r', m_row h.2 j f) j = r' := by simp [m_at, hl]
    rw [e2]
    show _ = some (ad j, m_cel dA ad (m_row h.2 j f j) r')
    rw [e1]
  · rw [List.getElem?_set_ne (Ne.symm hj)]
    by_cases hjl : j < h.1.length
    · rw [m_ws_at hjl, m_ws_at (by simpa using hjl)]
      have e1 : m_row h.2 i f j = h.2 j := by funext b; simp [m_row, hj]
      have e2 : m_at (h.1.set i r', m_row h.2 i f) j = m_at h j := by simp [m_at, List.getElem?_set_ne (Ne.symm hj)]
      rw [e2]
      show _ = some (ad j, m_cel dA ad (m_row h.2 i f j) _)
      rw [e1]
    · rw [List.getElem?_eq_none (by rw [m_ws_len]; omega), List.getElem?_eq_none (by rw [m_ws_len]; simp; omega)]
theorem m_row_up (st : Nat → Nat → Int32) (i j : Nat) (v : Int32) : m_row st i (upd (st i) j v) = m_up st i j v := by
  funext a b
  by_cases ha : a = i
  · subst ha; simp [m_row, m_up, upd]
  · simp [m_row, m_up, ha]
theorem m_row_self (st : Nat → Nat → Int32) (i : Nat) : m_row st i (st i) = st := by
  funext a b
  by_cases ha : a = i
  · subst ha; simp [m_row]
  · simp [m_row, ha]
theorem m_set_self {l : List mR} {i : Nat} {r : mR} (hi : l[i]? = some r) : l.set i r = l := by
  apply List.ext_getElem?
  intro j
  by_cases hj : j = i
  · subst hj
    rw [List.getElem?_set_self (List.getElem?_eq_some_iff.mp hi).1, hi]
  · rw [List.getElem?_set_ne (Ne.symm hj)]
theorem m_sz_set {l : List mR} {i : Nat} {c n : Nat} {rs rs' : List (Option Nat)} (st st' : Nat → Nat → Int32) (hi : l[i]? = some (c, n, rs)) : m_sz (l.set i (c, n, rs'), st') = m_sz (l, st) := by
  unfold m_sz
  show ((l.set i (c, n, rs')).map _).sum = (l.map _).sum
  congr 1
  apply List.ext_getElem?
  intro j
  rw [List.getElem?_map, List.getElem?_map]
  by_cases hj : j = i
  · subst hj
    rw [List.getElem?_set_self (List.getElem?_eq_some_iff.mp hi).1, hi]
    rfl
  · rw [List.getElem?_set_ne (Ne.symm hj)]
theorem m_sz_fst (l : List mR) (st st' : Nat → Nat → Int32) : m_sz (l, st) = m_sz (l, st') := rfl
/-! the locals -/
def m_LS (ad : Nat → Nat) (ls : Array Slot) (nL : Nat) (lo : mL) : Prop := ls.size = nL ∧ lv_wf ls ∧ ∀ (i : Nat) (v : Value), m_ld lo i = some v → ls[i]? = some (.val (m_v ad v))
def m_pr (ad : Nat → Nat) (lo : mL) : List (Nat × Value) := (List.range lo.length).filterMap fun i => (m_ld lo i).map fun v => (i, m_v ad v)
theorem m_ld_lt {lo : mL} {i : Nat} {v : Value} (h : m_ld lo i = some v) : i < lo.length := by
  by_cases hi : i < lo.length
  · exact hi
  · simp [m_ld, List.getElem?_eq_none (Nat.le_of_not_lt hi)] at h
theorem m_pr_in {ad : Nat → Nat} {lo : mL} {i : Nat} {v : Value} (h : m_ld lo i = some v) : (i, m_v ad v) ∈ m_pr ad lo := by
  refine List.mem_filterMap.mpr ⟨i, List.mem_range.mpr (m_ld_lt h), ?_⟩
  rw [h]; rfl
theorem m_LS.has {ad : Nat → Nat} {ls : Array Slot} {nL : Nat} {lo : mL} (h : m_LS ad ls nL lo) : lv_has ls nL (m_pr ad lo) := by
  refine ⟨h.1, h.2.1, fun q hq => ?_⟩
  obtain ⟨i, -, hi⟩ := List.mem_filterMap.mp hq
  cases hv : m_ld lo i with
  | none => rw [hv] at hi; cases hi
  | some v =>
    rw [hv] at hi
    cases hi
    exact h.2.2 i v hv
theorem m_ld_0 (o : Option Value) (l : mL) : m_ld (o :: l) 0 = o := rfl
theorem m_ld_s (o : Option Value) (l : mL) (i : Nat) : m_ld (o :: l) (i + 1) = m_ld l i := by simp [m_ld]
theorem m_ld_nil (i : Nat) : m_ld [] i = none := by simp [m_ld]
theorem m_c1_some {o : Option Value} {w : Value} (h : m_c1 o = some w) : o = some w ∧ ¬ w.category = 2 := by
  unfold m_c1 at h
  split at h
  · cases h
  · cases h
  · rename_i h1 h2
    refine ⟨h, ?_⟩
    cases w <;> simp_all [Value.category]
theorem m_ld_st1 : ∀ (lo : mL) (i : Nat) (v : Value) (j : Nat) (w : Value), m_ld (m_st1 lo i v) j = some w → (j = i ∧ w = v) ∨ (j ≠ i ∧ m_ld lo j = some w ∧ ¬ (j + 1 = i ∧ w.category = 2))
  | [], i, v, j, w, h => by simp [m_st1, m_ld_nil] at h
  | o :: l, 0, v, j, w, h => by
    cases j with
    | zero => rw [m_st1, m_ld_0] at h; cases h; exact Or.inl ⟨rfl, rfl⟩
    | succ j => rw [m_st1, m_ld_s] at h; exact Or.inr ⟨by omega, by rw [m_ld_s]; exact h, by omega⟩
  | o :: l, 1, v, j, w, h => by
    cases j with
    | zero =>
      rw [m_st1, m_ld_0] at h
      obtain ⟨h1, h2⟩ := m_c1_some h
      exact Or.inr ⟨by omega, by rw [m_ld_0]; exact h1, fun q => h2 q.2⟩
    | succ j =>
      rw [m_st1, m_ld_s] at h
      rcases m_ld_st1 l 0 v j w h with ⟨h1, h2⟩ | ⟨h1, h2, h3⟩
      · exact Or.inl ⟨by omega, h2⟩
      · exact Or.inr ⟨by omega, by rw [m_ld_s]; exact h2, by omega⟩
  | o :: l, n + 2, v, j, w, h => by
    cases j with
    | zero => rw [m_st1, m_ld_0] at h; exact Or.inr ⟨by omega, by rw [m_ld_0]; exact h, by omega⟩
    | succ j =>
      rw [m_st1, m_ld_s] at h
      rcases m_ld_st1 l (n + 1) v j w h with ⟨h1, h2⟩ | ⟨h1, h2, h3⟩
      · exact Or.inl ⟨by omega, h2⟩
      · exact Or.inr ⟨by omega, by rw [m_ld_s]; exact h2, fun q => h3 ⟨by omega, q.2⟩⟩
theorem m_ld_no : ∀ (l : mL) (j : Nat) (w : Value), m_ld (m_no l) j = some w → j ≠ 0 ∧ m_ld l j = some w
  | [], j, w, h => by simp [m_no, m_ld_nil] at h
  | o :: l, 0, w, h => by rw [m_no, m_ld_0] at h; cases h
  | o :: l, j + 1, w, h => by rw [m_no, m_ld_s] at h; exact ⟨by omega, by rw [m_ld_s]; exact h⟩
theorem m_ld_st2 : ∀ (lo : mL) (i : Nat) (v : Value) (j : Nat) (w : Value), m_ld (m_st2 lo i v) j = some w → (j = i ∧ w = v) ∨ (j ≠ i ∧ j ≠ i + 1 ∧ m_ld lo j = some w ∧ ¬ (j + 1 = i ∧ w.category = 2))
  | [], i, v, j, w, h => by simp [m_st2, m_ld_nil] at h
  | o :: l, 0, v, j, w, h => by
    match j with
    | 0 => rw [m_st2, m_ld_0] at h; cases h; exact Or.inl ⟨rfl, rfl⟩
    | j + 1 =>
      rw [m_st2, m_ld_s] at h
      obtain ⟨h1, h2⟩ := m_ld_no l j w h
      exact Or.inr ⟨by omega, by omega, by rw [m_ld_s]; exact h2, by omega⟩
  | o :: l, 1, v, j, w, h => by
    cases j with
    | zero =>
      rw [m_st2, m_ld_0] at h
      obtain ⟨h1, h2⟩ := m_c1_some h
      exact Or.inr ⟨by omega, by omega, by rw [m_ld_0]; exact h1, fun q => h2 q.2⟩
    | succ j =>
      rw [m_st2, m_ld_s] at h
      rcases m_ld_st2 l 0 v j w h with ⟨h1, h2⟩ | ⟨h1, h2, h3, h4⟩
      · exact Or.inl ⟨by omega, h2⟩
      · exact Or.inr ⟨by omega, by omega, by rw [m_ld_s]; exact h3, by omega⟩
  | o :: l, n + 2, v, j, w, h => by
    cases j with
    | zero => rw [m_st2, m_ld_0] at h; exact Or.inr ⟨by omega, by omega, by rw [m_ld_0]; exact h, by omega⟩
    | succ j =>
      rw [m_st2, m_ld_s] at h
      rcases m_ld_st2 l (n + 1) v j w h with ⟨h1, h2⟩ | ⟨h1, h2, h3, h4⟩
      · exact Or.inl ⟨by omega, h2⟩
      · exact Or.inr ⟨by omega, by omega, by rw [m_ld_s]; exact h3, fun q => h4 ⟨by omega, q.2⟩⟩
theorem m_LS.st1 {ad : Nat → Nat} {ls : Array Slot} {nL : Nat} {lo : mL} {i : Nat} {v : Value} (h : lv_has ls nL ((i, m_v ad v) :: (m_pr ad lo).filter (fun q => !(q.1 == i) && !(q.1 + 1 == i && q.2.category == 2)))) : m_LS ad ls nL (m_st1 lo i v) := by
  refine ⟨h.1, h.2.1, fun j w hj => ?_⟩
  rcases m_ld_st1 lo i v j w hj with ⟨rfl, rfl⟩ | ⟨h1, h2, h3⟩
  · exact h.2.2 _ List.mem_cons_self
  · refine h.2.2 (j, m_v ad w) (List.mem_cons_of_mem _ (List.mem_filter.mpr ⟨m_pr_in h2, ?_⟩))
    by_cases hj1 : j + 1 = i
    · have hc : ¬ w.category = 2 := fun q => h3 ⟨hj1, q⟩
      simp [h1, m_v_cat, hc]
    · simp [h1, hj1]
theorem m_LS.st2 {ad : Nat → Nat} {ls : Array Slot} {nL : Nat} {lo : mL} {i : Nat} {v : Value} (h : lv_has ls nL ((i, m_v ad v) :: (m_pr ad lo).filter (fun q => !(q.1 == i) && (!(q.1 == i + 1) && !(q.1 + 1 == i && q.2.category == 2))))) : m_LS ad ls nL (m_st2 lo i v) := by
  refine ⟨h.1, h.2.1, fun j w hj => ?_⟩
  rcases m_ld_st2 lo i v j w hj with ⟨rfl, rfl⟩ | ⟨h1, h1', h2, h3⟩
  · exact h.2.2 _ List.mem_cons_self
  · refine h.2.2 (j, m_v ad w) (List.mem_cons_of_mem _ (List.mem_filter.mpr ⟨m_pr_in h2, ?_⟩))
    by_cases hj1 : j + 1 = i
    · have hc : ¬ w.category = 2 := fun q => h3 ⟨hj1, q⟩
      simp [h1, h1', m_v_cat, hc]
    · simp [h1, h1', hj1]
theorem m_pr_k {ad : Nat → Nat} {lo : mL} {i : Nat} {v : Value} (h : m_ld lo i = some v) : ∃ k : Nat, (m_pr ad lo)[k]? = some (i, m_v ad v) := List.getElem?_of_mem (m_pr_in h)
/-- the locals at the entry -/
theorem m_lay_sl (vs : List Value) (ad : Nat → Nat) : (lg_sl (vs.map (m_v ad))).length = (m_lay vs).length := by
  induction vs with
  | nil => rfl
  | cons v l ih =>
    have e : lg_sl ((v :: l).map (m_v ad)) = lg_sl [m_v ad v] ++ lg_sl (l.map (m_v ad)) := by simp [lg_sl]
    rw [e, List.length_append, ih]
    cases v <;> simp [lg_sl, m_lay, m_v, Value.category] <;> omega
theorem m_ld_lay : ∀ (vs : List Value) (i : Nat) (v : Value) (b : Nat) (ad : Nat → Nat), m_ld (m_lay vs) i = some v → (b + i, m_v ad v) ∈ lv_args b (vs.map (m_v ad))
  | [], i, v, b, ad, h => by simp [m_lay, m_ld_nil] at h
  | w :: l, i, v, b, ad, h => by
    by_cases hc : w.category = 2
    · have hl : m_lay (w :: l) = some w :: none :: m_lay l := by cases w <;> simp [Value.category] at hc <;> rfl
      rw [hl] at h
      have hc' : (m_v ad w).category = 2 := by rw [m_v_cat]; exact hc
      match i with
      | 0 => rw [m_ld_0] at h; cases h; exact List.mem_cons_self
      | 1 => rw [m_ld_s, m_ld_0] at h; cases h
      | i + 2 =>
        rw [m_ld_s, m_ld_s] at h
        have := m_ld_lay l i v (b + 2) ad h
        rw [List.map_cons, lv_args, if_pos hc']
        rw [show b + (i + 2) = b + 2 + i by omega]
        exact List.mem_cons_of_mem _ this
    · have hl : m_lay (w :: l) = some w :: m_lay l := by cases w <;> simp [Value.category] at hc <;> rfl
      rw [hl] at h
      have hc' : ¬ (m_v ad w).category = 2 := by rw [m_v_cat]; exact hc
      match i with
      | 0 => rw [m_ld_0] at h; cases h; exact List.mem_cons_self
      | i + 1 =>
        rw [m_ld_s] at h
        have := m_ld_lay l i v (b + 1) ad h
        rw [List.map_cons, lv_args, if_neg hc']
        rw [show b + (i + 1) = b + 1 + i by omega]
        exact List.mem_cons_of_mem _ this
theorem m_ld_lo {n : Nat} {vs : List Value} {i : Nat} {v : Value} (h : m_ld (m_lo n vs) i = some v) : m_ld (m_lay vs) i = some v := by
  unfold m_lo m_ld at h
  unfold m_ld
  by_cases hi : i < (m_lay vs).length
  · rw [List.getElem?_append_left hi] at h; exact h
  · rw [List.getElem?_append_right (by omega), List.getElem?_replicate] at h
    split at h <;> cases h
theorem m_LS.entry (ad : Nat → Nat) (vs : List Value) {n : Nat} (h : (m_lay vs).length ≤ n) : m_LS ad ((lg_sl (vs.map (m_v ad)) ++ List.replicate (n - (lg_sl (vs.map (m_v ad))).length) Slot.unset).toArray) n (m_lo n vs) := by
  obtain ⟨h1, h2, h3⟩ := lv_entry (vs.map (m_v ad)) (n := n) (by rw [m_lay_sl]; exact h)
  refine ⟨h1, h2, fun i v hv => ?_⟩
  have := m_ld_lay vs i v 0 ad (m_ld_lo hv)
  rw [Nat.zero_add] at this
  exact h3 _ this
end
section
/-! ONE INSTRUCTION -/
def m_tys (dA : Nat → ClassId) : List (ClassId × FieldType) := [(dA 100, .int), (dA 101, .byte), (dA 102, .boolean), (dA 104, .array .int), (dA 105, .object RX10)]
/-- what stays, in a frame: the code, the tables, which cells may change, where they stand -/
def m_Fx (p : Program) (s : State) (m : MethodId) (args : Array Value) (meth : Method) (c : Code) (cc : ByteArray) (own nm : String) (nL : Nat) (D : va_G) (dA : Nat → ClassId) (ad : Nat → Nat) (A : Nat → Prop) (B : Nat) : Prop :=
  p.tables.exec = Jvm.exec ∧ c.code = cc ∧ c.maxLocals = nL ∧ s.vm.findClass own = some m.cls ∧ (∀ w ∈ mTT, w.before args s = true) ∧ va_K D m_cl (m_tys dA) s ∧ (∀ q, s.heap.size ≤ q → A q) ∧ meth.name = nm ∧ (∀ i, i < m_str0 → ad i = B + i)
/-- what holds now: the heap's picture, what has been made since the entry, the locals -/
def m_Nw (s : State) (nL : Nat) (D : va_G) (dA : Nat → ClassId) (ad : Nat → Nat) (A : Nat → Prop) (B N0 S0 : Nat) (lo : mL) (h : mH) (H : Heap) (locs : List Loc) (cells slots : Nat) (ls : Array Slot) : Prop :=
  va_P D m_cl (m_ws dA ad h) H ∧ va_D A (m_ws dA ad h) ∧ va_S A s.heap H locs ∧ H.size = B + h.1.length ∧ cells + N0 = h.1.length ∧ slots + S0 = m_sz h ∧ m_LS ad ls nL lo
/-- the method comes from here to its goal -/
def m_W (p : Program) (l : Launch) (e : Env) (R : Room) (s : State) (m : MethodId) (args : Array Value) (below : List Frame) (meth : Method) (c : Code) (Q : State → Prop) (nL : Nat) (D : va_G) (dA : Nat → ClassId) (ad : Nat → Nat) (A : Nat → Prop) (B N0 S0 : Nat) (pc : Nat) (lo : mL) (os : List Value) (h : mH) : Prop :=
  ∀ (H : Heap) (locs : List Loc) (cells slots : Nat) (ls : Array Slot), m_Nw s nL D dA ad A B N0 S0 lo h H locs cells slots ls → W p l e R s m args below meth c H locs cells slots Q (F0 m pc ls (os.map (m_v ad)))
/-- the script -/
def m_Sc (s : State) (ad : Nat → Nat) (A : Nat → Prop) (sc : mS) : Prop := ∀ L xs, sc = some (L, xs) → va_X (ad m_scr0) L xs s s.heap ∧ ad m_scr0 < s.heap.size ∧ ¬ A (ad m_scr0) ∧ L < 2 ^ 31
/-- text constants: where they are named, what they say -/
def m_sk : List (Nat × String) := [(113, "watchman plain proud drunk mender sleeper "), (128, "if "), (134, "add more mile silent "), (143, "not "), (171, "day wind add delay miles number "), (163, "or and ")]
def m_Tx (s : State) (ad : Nat → Nat) : Prop := ∀ (j : Nat) (q : Nat × String), m_sk[j]? = some q → vk_R RX6 q.1 q.2 (ad (m_str0 + j)) s
theorem mTc_in : ∀ (c : Nat) (w : Jvm.Cond), w ∈ mTc c → w ∈ lw_tbl
  | 0, w, h => List.mem_append_left _ h
  | 1, w, h => List.mem_append_right _ (List.mem_append_left _ h)
  | 2, w, h => List.mem_append_right _ (List.mem_append_right _ (List.mem_append_left _ h))
  | 3, w, h => List.mem_append_right _ (List.mem_append_right _ (List.mem_append_right _ (List.mem_append_left _ h)))
  | 4, w, h => List.mem_append_right _ (List.mem_append_right _ (List.mem_append_right _ (List.mem_append_right _ (List.mem_append_left _ h))))
  | 5, w, h => List.mem_append_right _ (List.mem_append_right _ (List.mem_append_right _ (List.mem_append_right _ (List.mem_append_right _ (List.mem_append_left _ h)))))
  | 6, w, h => List.mem_append_right _ (List.mem_append_right _ (List.mem_append_right _ (List.mem_append_right _ (List.mem_append_right _ (List.mem_append_right _ (List.mem_append_left _ h))))))
  | 7, w, h => List.mem_append_right _ (List.mem_append_right _ (List.mem_append_right _ (List.mem_append_right _ (List.mem_append_right _ (List.mem_append_right _ (List.mem_append_right _ h))))))
  | n + 8, w, h => by simp [mTc] at h
theorem m_tw_in {q : Nat} {w : Jvm.Cond} (h : m_tw q = some w) (hg : goodWord w = true) : w ∈ mTT := List.mem_filter.mpr ⟨mTc_in _ _ (List.mem_of_getElem? h), hg⟩
def m_w (q : Nat) (w : Jvm.Cond) : Bool := decide (m_tw q = some w) && goodWord w
theorem m_w_in {q : Nat} {w : Jvm.Cond} (h : m_w q w = true) : w ∈ mTT := by
  simp only [m_w, Bool.and_eq_true, decide_eq_true_eq] at h
  exact m_tw_in h.1 h.2
/-- the field link at place q of the words, for the slot k of class c -/
def m_fl (own : String) (idx k q sm c : Nat) : Bool :=
  match m_cl[c]? with
  | none => false
  | some (_, T, N) => Nat.blt k N && (match m_tw q with
    | some (.fieldLink o i r nm d) => decide (o = own) && decide (i = idx) && decide (nm = (T k).2.1) && decide (d = (T k).2.2.1) && (match sm with
      | 0 => decide (r = (T k).1)
      | t + 1 => m_w t (.sameField r (T k).1 (T k).2.1 (T k).2.2.1))
    | _ => false)
def m_fin (own nm : String) (k fin c : Nat) : Bool :=
  match m_cl[c]? with
  | none => false
  | some (_, T, _) => (match fin with
    | 0 => decide ((T k).2.2.2 = false)
    | _ => decide ((T k).2.2.2 = true) && decide (nm = "<init>") && decide ((T k).1 = own))
/-- what a program decides of an instruction that neither branches nor calls -/
def m_ck (own nm : String) (nL : Nat) (i : Instr) (n : Nat) (v : Int32 × Int64) (ds : List (List Nat)) : Bool :=
  match i with
  | .iconst k => decide (n = 1) && decide (Int32.ofInt k = v.1)
  | .bipush k => decide (n = 2) && decide ((Int8.ofInt k).toInt32 = v.1)
  | .sipush k => decide (n = 3) && decide ((Int16.ofInt k).toInt32 = v.1)
  | .lconst k => decide (n = 1) && decide (Int64.ofNat k = v.2)
  | .ldc k => decide (n = 2) && (match m_hd ds with
    | [0, q] => m_w q (.constant own k v.1)
    | [1, j] => decide (own = RX6) && decide ((m_sk[j]?).map (·.1) = some k)
    | _ => false)
  | .ldc_w k => decide (n = 3) && m_w (m_d (m_hd ds) 1) (.constant own k v.1)
  | .ldc2_w k => decide (n = 3) && m_w (m_d (m_hd ds) 0) (.constantLong own k v.2)
  | .iload _ => decide (n = 2)
  | .lload _ => decide (n = 2)
  | .aload _ => decide (n = 2)
  | .istore k => decide (n = 2) && Nat.blt k nL
  | .lstore k => decide (n = 2) && Nat.blt (k + 1) nL
  | .astore k => decide (n = 2) && Nat.blt k nL
  | .istore_n k => decide (n = 1) && Nat.blt k.1 nL
  | .lstore_n k => decide (n = 1) && Nat.blt (k.1 + 1) nL
  | .astore_n k => decide (n = 1) && Nat.blt k.1 nL
  | .iinc k z => decide (n = 3) && Nat.blt k nL && decide (Int32.ofInt z = v.1)
  | .getfield k => decide (n = 3) && ((ds[1]?).getD []).all (fun c => m_fl own k (m_d (m_hd ds) 0) (m_d (m_hd ds) 1) (m_d (m_hd ds) 2) c)
  | .putfield k => decide (n = 3) && ((ds[1]?).getD []).all (fun c => m_fl own k (m_d (m_hd ds) 0) (m_d (m_hd ds) 1) (m_d (m_hd ds) 2) c && m_fin own nm (m_d (m_hd ds) 0) (m_d (m_hd ds) 3) c)
  | .new k => decide (n = 3) && (match m_cl[m_d (m_hd ds) 0]? with
    | none => false
    | some (C, _, N) => decide (N = m_d (m_hd ds) 1) && m_w (m_d (m_hd ds) 2) (.classLink own k C) && m_w (m_d (m_hd ds) 3) (.instantiable C N) && m_w (m_d (m_hd ds) 4) (.initialized C))
  | .newarray t => decide (n = 2) && (decide (t = .int) || decide (t = .byte) || decide (t = .boolean)) && m_w (m_d (m_hd ds) 0) (.arrayClass (newarray.typeOf t))
  | .anewarray k => decide (n = 3) && m_w (m_d (m_hd ds) 0) (.classLink own k RX10)
  | .multianewarray k z => decide (n = 4) && decide (z = 2) && m_w (m_d (m_hd ds) 0) (.classLink own k "[[I") && m_w (m_d (m_hd ds) 1) (.arrayClass .int)
  | _ => decide (n = 1)
section MS
variable {p : Program} {l : Launch} {e : Env} {R : Room} {s : State} {m : MethodId} {args : Array Value} {below : List Frame} {meth : Method} {c : Code} {Q : State → Prop} {cc : ByteArray} {own nm : String} {nL : Nat} {D : va_G} {dA : Nat → ClassId} {ad : Nat → Nat} {A : Nat → Prop} {B N0 S0 : Nat} {sc : mS} {pc n : Nat} {v : Int32 × Int64} {ds : List (List Nat)} {lo lo' : mL} {os os' : List Value} {h h' : mH}
theorem m_Nw_lo {H : Heap} {locs : List Loc} {cells slots : Nat} {ls ls' : Array Slot} (hN : m_Nw s nL D dA ad A B N0 S0 lo h H locs cells slots ls) (hl : m_LS ad ls' nL lo') : m_Nw s nL D dA ad A B N0 S0 lo' h H locs cells slots ls' := ⟨hN.1, hN.2.1, hN.2.2.1, hN.2.2.2.1, hN.2.2.2.2.1, hN.2.2.2.2.2.1, hl⟩

theorem m_ok_iconst {z : Int} (hF : m_Fx p s m args meth c cc own nm nL D dA ad A B) (hdg : decode cc pc = .ok (.iconst z, n)) (hk : m_ck own nm nL (.iconst z) n v ds = true) (hr : m_1 sc (.iconst z) v ds lo os h = some (lo', os', h')) (kk : m_W p l e R s m args below meth c Q nL D dA ad A B N0 S0 (pc + n) lo' os' h') : m_W p l e R s m args below meth c Q nL D dA ad A B N0 S0 pc lo os h := by
  obtain ⟨hx, hb, hml, hown, hts, hK, hA, hnm, hB⟩ := hF
  simp only [m_ck, Bool.and_eq_true, decide_eq_true_eq] at hk
  obtain ⟨rfl, h1⟩ := hk
  simp only [m_1] at hr
  cases hr
  intro H locs cells slots ls hN
  exact lv_iconst hx hb hdg h1 (kk H locs cells slots ls hN)

theorem m_ok_bipush {z : Int} (hF : m_Fx p s m args meth c cc own nm nL D dA ad A B) (hdg : decode cc pc = .ok (.bipush z, n)) (hk : m_ck own nm nL (.bipush z) n v ds = true) (hr : m_1 sc (.bipush z) v ds lo os h = some (lo', os', h')) (kk : m_W p l e R s m args below meth c Q nL D dA ad A B N0 S0 (pc + n) lo' os' h') : m_W p l e R s m args below meth c Q nL D dA ad A B N0 S0 pc lo os h := by
  obtain ⟨hx, hb, hml, hown, hts, hK, hA, hnm, hB⟩ := hF
  simp only [m_ck, Bool.and_eq_true, decide_eq_true_eq] at hk
  obtain ⟨rfl, h1⟩ := hk
  simp only [m_1] at hr
  cases hr
  intro H locs cells slots ls hN
  exact lv_bipush hx hb hdg h1 (kk H locs cells slots ls hN)

theorem m_ok_sipush {z : Int} (hF : m_Fx p s m args meth c cc own nm nL D dA ad A B) (hdg : decode cc pc = .ok (.sipush z, n)) (hk : m_ck own nm nL (.sipush z) n v ds = true) (hr : m_1 sc (.sipush z) v ds lo os h = some (lo', os', h')) (kk : m_W p l e R s m args below meth c Q nL D dA ad A B N0 S0 (pc + n) lo' os' h') : m_W p l e R s m args below meth c Q nL D dA ad A B N0 S0 pc lo os h := by
  obtain ⟨hx, hb, hml, hown, hts, hK, hA, hnm, hB⟩ := hF
  simp only [m_ck, Bool.and_eq_true, decide_eq_true_eq] at hk
  obtain ⟨rfl, h1⟩ := hk
  simp only [m_1] at hr
  cases hr
  intro H locs cells slots ls hN
  exact lv_sipush hx hb hdg h1 (kk H locs cells slots ls hN)

theorem m_ok_lconst {z : Fin 2} (hF : m_Fx p s m args meth c cc own nm nL D dA ad A B) (hdg : decode cc pc = .ok (.lconst z, n)) (hk : m_ck own nm nL (.lconst z) n v ds = true) (hr : m_1 sc (.lconst z) v ds lo os h = some (lo', os', h')) (kk : m_W p l e R s m args below meth c Q nL D dA ad A B N0 S0 (pc + n) lo' os' h') : m_W p l e R s m args below meth c Q nL D dA ad A B N0 S0 pc lo os h := by
  obtain ⟨hx, hb, hml, hown, hts, hK, hA, hnm, hB⟩ := hF
  simp only [m_ck, Bool.and_eq_true, decide_eq_true_eq] at hk
  obtain ⟨rfl, h1⟩ := hk
  simp only [m_1] at hr
  cases hr
  intro H locs cells slots ls hN
  exact lv_lconst hx hb hdg h1 (kk H locs cells slots ls hN)

theorem m_ok_ldc {z : Nat} (hF : m_Fx p s m args meth c cc own nm nL D dA ad A B) (hT : m_Tx s ad) (hdg : decode cc pc = .ok (.ldc z, n)) (hk : m_ck own nm nL (.ldc z) n v ds = true) (hr : m_1 sc (.ldc z) v ds lo os h = some (lo', os', h')) (kk : m_W p l e R s m args below meth c Q nL D dA ad A B N0 S0 (pc + n) lo' os' h') : m_W p l e R s m args below meth c Q nL D dA ad A B N0 S0 pc lo os h := by
  obtain ⟨hx, hb, hml, hown, hts, hK, hA, hnm, hB⟩ := hF
  simp only [m_ck, Bool.and_eq_true, decide_eq_true_eq] at hk
  obtain ⟨rfl, h1⟩ := hk
  simp only [m_1] at hr
  split at hr
  · rename_i q hq
    rw [hq] at h1
    cases hr
    intro H locs cells slots ls hN
    exact lv_ldc hx hb hown (hts _ (m_w_in h1)) hdg (kk H locs cells slots ls hN)
  · rename_i j hq
    rw [hq] at h1
    simp only [Bool.and_eq_true, decide_eq_true_eq] at h1
    obtain ⟨rfl, h2⟩ := h1
    cases hr
    intro H locs cells slots ls hN
    cases hj : m_sk[j]? with
    | none => rw [hj] at h2; cases h2
    | some q =>
      rw [hj] at h2
      cases h2
      exact va_ldcS hx hb hown (hT j q hj) hdg (kk H locs cells slots ls hN)
  · cases hr

theorem m_ok_ldc_w {z : Nat} (hF : m_Fx p s m args meth c cc own nm nL D dA ad A B) (hdg : decode cc pc = .ok (.ldc_w z, n)) (hk : m_ck own nm nL (.ldc_w z) n v ds = true) (hr : m_1 sc (.ldc_w z) v ds lo os h = some (lo', os', h')) (kk : m_W p l e R s m args below meth c Q nL D dA ad A B N0 S0 (pc + n) lo' os' h') : m_W p l e R s m args below meth c Q nL D dA ad A B N0 S0 pc lo os h := by
  obtain ⟨hx, hb, hml, hown, hts, hK, hA, hnm, hB⟩ := hF
  simp only [m_ck, Bool.and_eq_true, decide_eq_true_eq] at hk
  obtain ⟨rfl, h1⟩ := hk
  simp only [m_1] at hr
  cases hr
  intro H locs cells slots ls hN
  exact lv_ldcw hx hb hown (hts _ (m_w_in h1)) hdg (kk H locs cells slots ls hN)

theorem m_ok_ldc2_w {z : Nat} (hF : m_Fx p s m args meth c cc own nm nL D dA ad A B) (hdg : decode cc pc = .ok (.ldc2_w z, n)) (hk : m_ck own nm nL (.ldc2_w z) n v ds = true) (hr : m_1 sc (.ldc2_w z) v ds lo os h = some (lo', os', h')) (kk : m_W p l e R s m args below meth c Q nL D dA ad A B N0 S0 (pc + n) lo' os' h') : m_W p l e R s m args below meth c Q nL D dA ad A B N0 S0 pc lo os h := by
  obtain ⟨hx, hb, hml, hown, hts, hK, hA, hnm, hB⟩ := hF
  simp only [m_ck, Bool.and_eq_true, decide_eq_true_eq] at hk
  obtain ⟨rfl, h1⟩ := hk
  simp only [m_1] at hr
  cases hr
  intro H locs cells slots ls hN
  exact lv_ldc2 hx hb hown (hts _ (m_w_in h1)) hdg (kk H locs cells slots ls hN)

theorem m_ok_iload {z : Nat} (hF : m_Fx p s m args meth c cc own nm nL D dA ad A B) (hdg : decode cc pc = .ok (.iload z, n)) (hk : m_ck own nm nL (.iload z) n v ds = true) (hr : m_1 sc (.iload z) v ds lo os h = some (lo', os', h')) (kk : m_W p l e R s m args below meth c Q nL D dA ad A B N0 S0 (pc + n) lo' os' h') : m_W p l e R s m args below meth c Q nL D dA ad A B N0 S0 pc lo os h := by
  obtain ⟨hx, hb, hml, hown, hts, hK, hA, hnm, hB⟩ := hF
  simp only [m_ck, Bool.and_eq_true, decide_eq_true_eq] at hk
  obtain rfl := hk
  simp only [m_1] at hr
  split at hr
  · rename_i x hx1
    cases hr
    intro H locs cells slots ls hN
    exact lv_iload hx hb hdg (hN.2.2.2.2.2.2.2.2 _ _ hx1) (kk H locs cells slots ls hN)
  · cases hr

theorem m_ok_iload_n {z : Fin 4} (hF : m_Fx p s m args meth c cc own nm nL D dA ad A B) (hdg : decode cc pc = .ok (.iload_n z, n)) (hk : m_ck own nm nL (.iload_n z) n v ds = true) (hr : m_1 sc (.iload_n z) v ds lo os h = some (lo', os', h')) (kk : m_W p l e R s m args below meth c Q nL D dA ad A B N0 S0 (pc + n) lo' os' h') : m_W p l e R s m args below meth c Q nL D dA ad A B N0 S0 pc lo os h := by
  obtain ⟨hx, hb, hml, hown, hts, hK, hA, hnm, hB⟩ := hF
  simp only [m_ck, Bool.and_eq_true, decide_eq_true_eq] at hk
  obtain rfl := hk
  simp only [m_1] at hr
  split at hr
  · rename_i x hx1
    cases hr
    intro H locs cells slots ls hN
    exact lv_iload_n hx hb hdg rfl (hN.2.2.2.2.2.2.2.2 _ _ hx1) (kk H locs cells slots ls hN)
  · cases hr

theorem m_ok_lload {z : Nat} (hF : m_Fx p s m args meth c cc own nm nL D dA ad A B) (hdg : decode cc pc = .ok (.lload z, n)) (hk : m_ck own nm nL (.lload z) n v ds = true) (hr : m_1 sc (.lload z) v ds lo os h = some (lo', os', h')) (kk : m_W p l e R s m args below meth c Q nL D dA ad A B N0 S0 (pc + n) lo' os' h') : m_W p l e R s m args below meth c Q nL D dA ad A B N0 S0 pc lo os h := by
  obtain ⟨hx, hb, hml, hown, hts, hK, hA, hnm, hB⟩ := hF
  simp only [m_ck, Bool.and_eq_true, decide_eq_true_eq] at hk
  obtain rfl := hk
  simp only [m_1] at hr
  split at hr
  · rename_i x hx1
    cases hr
    intro H locs cells slots ls hN
    exact lv_lload hx hb hdg (hN.2.2.2.2.2.2.2.2 _ _ hx1) (kk H locs cells slots ls hN)
  · cases hr

theorem m_ok_lload_n {z : Fin 4} (hF : m_Fx p s m args meth c cc own nm nL D dA ad A B) (hdg : decode cc pc = .ok (.lload_n z, n)) (hk : m_ck own nm nL (.lload_n z) n v ds = true) (hr : m_1 sc (.lload_n z) v ds lo os h = some (lo', os', h')) (kk : m_W p l e R s m args below meth c Q nL D dA ad A B N0 S0 (pc + n) lo' os' h') : m_W p l e R s m args below meth c Q nL D dA ad A B N0 S0 pc lo os h := by
  obtain ⟨hx, hb, hml, hown, hts, hK, hA, hnm, hB⟩ := hF
  simp only [m_ck, Bool.and_eq_true, decide_eq_true_eq] at hk
  obtain rfl := hk
  simp only [m_1] at hr
  split at hr
  · rename_i x hx1
    cases hr
    intro H locs cells slots ls hN
    exact lv_lload_n hx hb hdg rfl (hN.2.2.2.2.2.2.2.2 _ _ hx1) (kk H locs cells slots ls hN)
  · cases hr

theorem m_ok_aload {z : Nat} (hF : m_Fx p s m args meth c cc own nm nL D dA ad A B) (hdg : decode cc pc = .ok (.aload z, n)) (hk : m_ck own nm nL (.aload z) n v ds = true) (hr : m_1 sc (.aload z) v ds lo os h = some (lo', os', h')) (kk : m_W p l e R s m args below meth c Q nL D dA ad A B N0 S0 (pc + n) lo' os' h') : m_W p l e R s m args below meth c Q nL D dA ad A B N0 S0 pc lo os h := by
  obtain ⟨hx, hb, hml, hown, hts, hK, hA, hnm, hB⟩ := hF
  simp only [m_ck, Bool.and_eq_true, decide_eq_true_eq] at hk
  obtain rfl := hk
  simp only [m_1] at hr
  split at hr
  · rename_i x hx1
    cases hr
    intro H locs cells slots ls hN
    exact lv_aload hx hb hdg (hN.2.2.2.2.2.2.2.2 _ _ hx1) (kk H locs cells slots ls hN)
  · cases hr

theorem m_ok_aload_n {z : Fin 4} (hF : m_Fx p s m args meth c cc own nm nL D dA ad A B) (hdg : decode cc pc = .ok (.aload_n z, n)) (hk : m_ck own nm nL (.aload_n z) n v ds = true) (hr : m_1 sc (.aload_n z) v ds lo os h = some (lo', os', h')) (kk : m_W p l e R s m args below meth c Q nL D dA ad A B N0 S0 (pc + n) lo' os' h') : m_W p l e R s m args below meth c Q nL D dA ad A B N0 S0 pc lo os h := by
  obtain ⟨hx, hb, hml, hown, hts, hK, hA, hnm, hB⟩ := hF
  simp only [m_ck, Bool.and_eq_true, decide_eq_true_eq] at hk
  obtain rfl := hk
  simp only [m_1] at hr
  split at hr
  · rename_i x hx1
    cases hr
    intro H locs cells slots ls hN
    exact lv_aload_n hx hb hdg rfl (hN.2.2.2.2.2.2.2.2 _ _ hx1) (kk H locs cells slots ls hN)
  · cases hr

theorem m_ok_istore {z : Nat} (hF : m_Fx p s m args meth c cc own nm nL D dA ad A B) (hdg : decode cc pc = .ok (.istore z, n)) (hk : m_ck own nm nL (.istore z) n v ds = true) (hr : m_1 sc (.istore z) v ds lo os h = some (lo', os', h')) (kk : m_W p l e R s m args below meth c Q nL D dA ad A B N0 S0 (pc + n) lo' os' h') : m_W p l e R s m args below meth c Q nL D dA ad A B N0 S0 pc lo os h := by
  obtain ⟨hx, hb, hml, hown, hts, hK, hA, hnm, hB⟩ := hF
  simp only [m_ck, Bool.and_eq_true, decide_eq_true_eq] at hk
  obtain ⟨rfl, h1⟩ := hk
  simp only [m_1] at hr
  split at hr
  · cases hr
    intro H locs cells slots ls hN
    exact lv_istore (lv := m_pr ad lo) hx hb hdg (hN.2.2.2.2.2.2.has) (Nat.blt_eq.mp h1) rfl (fun ls' hl => kk H locs cells slots ls' (m_Nw_lo hN (m_LS.st1 hl)))
  · cases hr

theorem m_ok_istore_n {z : Fin 4} (hF : m_Fx p s m args meth c cc own nm nL D dA ad A B) (hdg : decode cc pc = .ok (.istore_n z, n)) (hk : m_ck own nm nL (.istore_n z) n v ds = true) (hr : m_1 sc (.istore_n z) v ds lo os h = some (lo', os', h')) (kk : m_W p l e R s m args below meth c Q nL D dA ad A B N0 S0 (pc + n) lo' os' h') : m_W p l e R s m args below meth c Q nL D dA ad A B N0 S0 pc lo os h := by
  obtain ⟨hx, hb, hml, hown, hts, hK, hA, hnm, hB⟩ := hF
  simp only [m_ck, Bool.and_eq_true, decide_eq_true_eq] at hk
  obtain ⟨rfl, h1⟩ := hk
  simp only [m_1] at hr
  split at hr
  · cases hr
    intro H locs cells slots ls hN
    exact lv_istore_n (lv := m_pr ad lo) hx hb hdg rfl (hN.2.2.2.2.2.2.has) (Nat.blt_eq.mp h1) rfl (fun ls' hl => kk H locs cells slots ls' (m_Nw_lo hN (m_LS.st1 hl)))
  · cases hr

theorem m_ok_astore {z : Nat} (hF : m_Fx p s m args meth c cc own nm nL D dA ad A B) (hdg : decode cc pc = .ok (.astore z, n)) (hk : m_ck own nm nL (.astore z) n v ds = true) (hr : m_1 sc (.astore z) v ds lo os h = some (lo', os', h')) (kk : m_W p l e R s m args below meth c Q nL D dA ad A B N0 S0 (pc + n) lo' os' h') : m_W p l e R s m args below meth c Q nL D dA ad A B N0 S0 pc lo os h := by
  obtain ⟨hx, hb, hml, hown, hts, hK, hA, hnm, hB⟩ := hF
  simp only [m_ck, Bool.and_eq_true, decide_eq_true_eq] at hk
  obtain ⟨rfl, h1⟩ := hk
  simp only [m_1] at hr
  split at hr
  · cases hr
    intro H locs cells slots ls hN
    exact lv_astore (lv := m_pr ad lo) hx hb hdg (hN.2.2.2.2.2.2.has) (Nat.blt_eq.mp h1) rfl (fun ls' hl => kk H locs cells slots ls' (m_Nw_lo hN (m_LS.st1 hl)))
  · cases hr

theorem m_ok_astore_n {z : Fin 4} (hF : m_Fx p s m args meth c cc own nm nL D dA ad A B) (hdg : decode cc pc = .ok (.astore_n z, n)) (hk : m_ck own nm nL (.astore_n z) n v ds = true) (hr : m_1 sc (.astore_n z) v ds lo os h = some (lo', os', h')) (kk : m_W p l e R s m args below meth c Q nL D dA ad A B N0 S0 (pc + n) lo' os' h') : m_W p l e R s m args below meth c Q nL D dA ad A B N0 S0 pc lo os h := by
  obtain ⟨hx, hb, hml, hown, hts, hK, hA, hnm, hB⟩ := hF
  simp only [m_ck, Bool.and_eq_true, decide_eq_true_eq] at hk
  obtain ⟨rfl, h1⟩ := hk
  simp only [m_1] at hr
  split at hr
  · cases hr
    intro H locs cells slots ls hN
    exact lv_astore_n (lv := m_pr ad lo) hx hb hdg rfl (hN.2.2.2.2.2.2.has) (Nat.blt_eq.mp h1) rfl (fun ls' hl => kk H locs cells slots ls' (m_Nw_lo hN (m_LS.st1 hl)))
  · cases hr

theorem m_ok_lstore {z : Nat} (hF : m_Fx p s m args meth c cc own nm nL D dA ad A B) (hdg : decode cc pc = .ok (.lstore z, n)) (hk : m_ck own nm nL (.lstore z) n v ds = true) (hr : m_1 sc (.lstore z) v ds lo os h = some (lo', os', h')) (kk : m_W p l e R s m args below meth c Q nL D dA ad A B N0 S0 (pc + n) lo' os' h') : m_W p l e R s m args below meth c Q nL D dA ad A B N0 S0 pc lo os h := by
  obtain ⟨hx, hb, hml, hown, hts, hK, hA, hnm, hB⟩ := hF
  simp only [m_ck, Bool.and_eq_true, decide_eq_true_eq] at hk
  obtain ⟨rfl, h1⟩ := hk
  simp only [m_1] at hr
  split at hr
  · cases hr
    intro H locs cells slots ls hN
    exact lv_lstore (lv := m_pr ad lo) hx hb hdg (hN.2.2.2.2.2.2.has) (Nat.blt_eq.mp h1) rfl (fun ls' hl => kk H locs cells slots ls' (m_Nw_lo hN (m_LS.st2 hl)))
  · cases hr

theorem m_ok_lstore_n {z : Fin 4} (hF : m_Fx p s m args meth c cc own nm nL D dA ad A B) (hdg : decode cc pc = .ok (.lstore_n z, n)) (hk : m_ck own nm nL (.lstore_n z) n v ds = true) (hr : m_1 sc (.lstore_n z) v ds lo os h = some (lo', os', h')) (kk : m_W p l e R s m args below meth c Q nL D dA ad A B N0 S0 (pc + n) lo' os' h') : m_W p l e R s m args below meth c Q nL D dA ad A B N0 S0 pc lo os h := by
  obtain ⟨hx, hb, hml, hown, hts, hK, hA, hnm, hB⟩ := hF
  simp only [m_ck, Bool.and_eq_true, decide_eq_true_eq] at hk
  obtain ⟨rfl, h1⟩ := hk
  simp only [m_1] at hr
  split at hr
  · cases hr
    intro H locs cells slots ls hN
    exact lv_lstore_n (lv := m_pr ad lo) hx hb hdg rfl (hN.2.2.2.2.2.2.has) (Nat.blt_eq.mp h1) rfl (fun ls' hl => kk H locs cells slots ls' (m_Nw_lo hN (m_LS.st2 hl)))
  · cases hr

theorem m_ok_iinc {z : Nat} {y : Int} (hF : m_Fx p s m args meth c cc own nm nL D dA ad A B) (hdg : decode cc pc = .ok (.iinc z y, n)) (hk : m_ck own nm nL (.iinc z y) n v ds = true) (hr : m_1 sc (.iinc z y) v ds lo os h = some (lo', os', h')) (kk : m_W p l e R s m args below meth c Q nL D dA ad A B N0 S0 (pc + n) lo' os' h') : m_W p l e R s m args below meth c Q nL D dA ad A B N0 S0 pc lo os h := by
  obtain ⟨hx, hb, hml, hown, hts, hK, hA, hnm, hB⟩ := hF
  simp only [m_ck, Bool.and_eq_true, decide_eq_true_eq] at hk
  obtain ⟨⟨rfl, h1⟩, h2⟩ := hk
  simp only [m_1] at hr
  split at hr
  · rename_i x hx1
    cases hr
    intro H locs cells slots ls hN
    obtain ⟨k, hk⟩ := m_pr_k (ad := ad) hx1
    exact lv_iinc (lv := m_pr ad lo) hx hb hdg hN.2.2.2.2.2.2.has hk (by rw [h2]) (Nat.blt_eq.mp h1) rfl (fun ls' hl => kk H locs cells slots ls' (m_Nw_lo hN (m_LS.st1 hl)))
  · cases hr

theorem m_ok_iadd (hF : m_Fx p s m args meth c cc own nm nL D dA ad A B) (hdg : decode cc pc = .ok (.iadd, n)) (hk : m_ck own nm nL (.iadd) n v ds = true) (hr : m_1 sc (.iadd) v ds lo os h = some (lo', os', h')) (kk : m_W p l e R s m args below meth c Q nL D dA ad A B N0 S0 (pc + n) lo' os' h') : m_W p l e R s m args below meth c Q nL D dA ad A B N0 S0 pc lo os h := by
  obtain ⟨hx, hb, hml, hown, hts, hK, hA, hnm, hB⟩ := hF
  simp only [m_ck, decide_eq_true_eq] at hk
  obtain rfl := hk
  simp only [m_1] at hr
  split at hr
  · cases hr
    intro H locs cells slots ls hN
    exact lv_iadd hx hb hdg (kk H locs cells slots ls hN)
  · cases hr

theorem m_ok_isub (hF : m_Fx p s m args meth c cc own nm nL D dA ad A B) (hdg : decode cc pc = .ok (.isub, n)) (hk : m_ck own nm nL (.isub) n v ds = true) (hr : m_1 sc (.isub) v ds lo os h = some (lo', os', h')) (kk : m_W p l e R s m args below meth c Q nL D dA ad A B N0 S0 (pc + n) lo' os' h') : m_W p l e R s m args below meth c Q nL D dA ad A B N0 S0 pc lo os h := by
  obtain ⟨hx, hb, hml, hown, hts, hK, hA, hnm, hB⟩ := hF
  simp only [m_ck, decide_eq_true_eq] at hk
  obtain rfl := hk
  simp only [m_1] at hr
  split at hr
  · cases hr
    intro H locs cells slots ls hN
    exact lv_isub hx hb hdg (kk H locs cells slots ls hN)
  · cases hr

theorem m_ok_imul (hF : m_Fx p s m args meth c cc own nm nL D dA ad A B) (hdg : decode cc pc = .ok (.imul, n)) (hk : m_ck own nm nL (.imul) n v ds = true) (hr : m_1 sc (.imul) v ds lo os h = some (lo', os', h')) (kk : m_W p l e R s m args below meth c Q nL D dA ad A B N0 S0 (pc + n) lo' os' h') : m_W p l e R s m args below meth c Q nL D dA ad A B N0 S0 pc lo os h := by
  obtain ⟨hx, hb, hml, hown, hts, hK, hA, hnm, hB⟩ := hF
  simp only [m_ck, decide_eq_true_eq] at hk
  obtain rfl := hk
  simp only [m_1] at hr
  split at hr
  · cases hr
    intro H locs cells slots ls hN
    exact lv_imul hx hb hdg (kk H locs cells slots ls hN)
  · cases hr

theorem m_ok_iand (hF : m_Fx p s m args meth c cc own nm nL D dA ad A B) (hdg : decode cc pc = .ok (.iand, n)) (hk : m_ck own nm nL (.iand) n v ds = true) (hr : m_1 sc (.iand) v ds lo os h = some (lo', os', h')) (kk : m_W p l e R s m args below meth c Q nL D dA ad A B N0 S0 (pc + n) lo' os' h') : m_W p l e R s m args below meth c Q nL D dA ad A B N0 S0 pc lo os h := by
  obtain ⟨hx, hb, hml, hown, hts, hK, hA, hnm, hB⟩ := hF
  simp only [m_ck, decide_eq_true_eq] at hk
  obtain rfl := hk
  simp only [m_1] at hr
  split at hr
  · cases hr
    intro H locs cells slots ls hN
    exact lv_iand hx hb hdg (kk H locs cells slots ls hN)
  · cases hr

theorem m_ok_ior (hF : m_Fx p s m args meth c cc own nm nL D dA ad A B) (hdg : decode cc pc = .ok (.ior, n)) (hk : m_ck own nm nL (.ior) n v ds = true) (hr : m_1 sc (.ior) v ds lo os h = some (lo', os', h')) (kk : m_W p l e R s m args below meth c Q nL D dA ad A B N0 S0 (pc + n) lo' os' h') : m_W p l e R s m args below meth c Q nL D dA ad A B N0 S0 pc lo os h := by
  obtain ⟨hx, hb, hml, hown, hts, hK, hA, hnm, hB⟩ := hF
  simp only [m_ck, decide_eq_true_eq] at hk
  obtain rfl := hk
  simp only [m_1] at hr
  split at hr
  · cases hr
    intro H locs cells slots ls hN
    exact lv_ior hx hb hdg (kk H locs cells slots ls hN)
  · cases hr

theorem m_ok_ixor (hF : m_Fx p s m args meth c cc own nm nL D dA ad A B) (hdg : decode cc pc = .ok (.ixor, n)) (hk : m_ck own nm nL (.ixor) n v ds = true) (hr : m_1 sc (.ixor) v ds lo os h = some (lo', os', h')) (kk : m_W p l e R s m args below meth c Q nL D dA ad A B N0 S0 (pc + n) lo' os' h') : m_W p l e R s m args below meth c Q nL D dA ad A B N0 S0 pc lo os h := by
  obtain ⟨hx, hb, hml, hown, hts, hK, hA, hnm, hB⟩ := hF
  simp only [m_ck, decide_eq_true_eq] at hk
  obtain rfl := hk
  simp only [m_1] at hr
  split at hr
  · cases hr
    intro H locs cells slots ls hN
    exact lv_ixor hx hb hdg (kk H locs cells slots ls hN)
  · cases hr

theorem m_ok_ladd (hF : m_Fx p s m args meth c cc own nm nL D dA ad A B) (hdg : decode cc pc = .ok (.ladd, n)) (hk : m_ck own nm nL (.ladd) n v ds = true) (hr : m_1 sc (.ladd) v ds lo os h = some (lo', os', h')) (kk : m_W p l e R s m args below meth c Q nL D dA ad A B N0 S0 (pc + n) lo' os' h') : m_W p l e R s m args below meth c Q nL D dA ad A B N0 S0 pc lo os h := by
  obtain ⟨hx, hb, hml, hown, hts, hK, hA, hnm, hB⟩ := hF
  simp only [m_ck, decide_eq_true_eq] at hk
  obtain rfl := hk
  simp only [m_1] at hr
  split at hr
  · cases hr
    intro H locs cells slots ls hN
    exact lv_ladd hx hb hdg (kk H locs cells slots ls hN)
  · cases hr

theorem m_ok_lmul (hF : m_Fx p s m args meth c cc own nm nL D dA ad A B) (hdg : decode cc pc = .ok (.lmul, n)) (hk : m_ck own nm nL (.lmul) n v ds = true) (hr : m_1 sc (.lmul) v ds lo os h = some (lo', os', h')) (kk : m_W p l e R s m args below meth c Q nL D dA ad A B N0 S0 (pc + n) lo' os' h') : m_W p l e R s m args below meth c Q nL D dA ad A B N0 S0 pc lo os h := by
  obtain ⟨hx, hb, hml, hown, hts, hK, hA, hnm, hB⟩ := hF
  simp only [m_ck, decide_eq_true_eq] at hk
  obtain rfl := hk
  simp only [m_1] at hr
  split at hr
  · cases hr
    intro H locs cells slots ls hN
    exact lv_lmul hx hb hdg (kk H locs cells slots ls hN)
  · cases hr

theorem m_ok_land (hF : m_Fx p s m args meth c cc own nm nL D dA ad A B) (hdg : decode cc pc = .ok (.land, n)) (hk : m_ck own nm nL (.land) n v ds = true) (hr : m_1 sc (.land) v ds lo os h = some (lo', os', h')) (kk : m_W p l e R s m args below meth c Q nL D dA ad A B N0 S0 (pc + n) lo' os' h') : m_W p l e R s m args below meth c Q nL D dA ad A B N0 S0 pc lo os h := by
  obtain ⟨hx, hb, hml, hown, hts, hK, hA, hnm, hB⟩ := hF
  simp only [m_ck, decide_eq_true_eq] at hk
  obtain rfl := hk
  simp only [m_1] at hr
  split at hr
  · cases hr
    intro H locs cells slots ls hN
    exact lv_land hx hb hdg (kk H locs cells slots ls hN)
  · cases hr

theorem m_ok_lor (hF : m_Fx p s m args meth c cc own nm nL D dA ad A B) (hdg : decode cc pc = .ok (.lor, n)) (hk : m_ck own nm nL (.lor) n v ds = true) (hr : m_1 sc (.lor) v ds lo os h = some (lo', os', h')) (kk : m_W p l e R s m args below meth c Q nL D dA ad A B N0 S0 (pc + n) lo' os' h') : m_W p l e R s m args below meth c Q nL D dA ad A B N0 S0 pc lo os h := by
  obtain ⟨hx, hb, hml, hown, hts, hK, hA, hnm, hB⟩ := hF
  simp only [m_ck, decide_eq_true_eq] at hk
  obtain rfl := hk
  simp only [m_1] at hr
  split at hr
  · cases hr
    intro H locs cells slots ls hN
    exact lv_lor hx hb hdg (kk H locs cells slots ls hN)
  · cases hr

theorem m_ok_ishl (hF : m_Fx p s m args meth c cc own nm nL D dA ad A B) (hdg : decode cc pc = .ok (.ishl, n)) (hk : m_ck own nm nL (.ishl) n v ds = true) (hr : m_1 sc (.ishl) v ds lo os h = some (lo', os', h')) (kk : m_W p l e R s m args below meth c Q nL D dA ad A B N0 S0 (pc + n) lo' os' h') : m_W p l e R s m args below meth c Q nL D dA ad A B N0 S0 pc lo os h := by
  obtain ⟨hx, hb, hml, hown, hts, hK, hA, hnm, hB⟩ := hF
  simp only [m_ck, decide_eq_true_eq] at hk
  obtain rfl := hk
  simp only [m_1] at hr
  split at hr
  · cases hr
    intro H locs cells slots ls hN
    exact lv_ishl hx hb hdg (kk H locs cells slots ls hN)
  · cases hr

theorem m_ok_ishr (hF : m_Fx p s m args meth c cc own nm nL D dA ad A B) (hdg : decode cc pc = .ok (.ishr, n)) (hk : m_ck own nm nL (.ishr) n v ds = true) (hr : m_1 sc (.ishr) v ds lo os h = some (lo', os', h')) (kk : m_W p l e R s m args below meth c Q nL D dA ad A B N0 S0 (pc + n) lo' os' h') : m_W p l e R s m args below meth c Q nL D dA ad A B N0 S0 pc lo os h := by
  obtain ⟨hx, hb, hml, hown, hts, hK, hA, hnm, hB⟩ := hF
  simp only [m_ck, decide_eq_true_eq] at hk
  obtain rfl := hk
  simp only [m_1] at hr
  split at hr
  · cases hr
    intro H locs cells slots ls hN
    exact lv_ishr hx hb hdg (kk H locs cells slots ls hN)
  · cases hr

theorem m_ok_iushr (hF : m_Fx p s m args meth c cc own nm nL D dA ad A B) (hdg : decode cc pc = .ok (.iushr, n)) (hk : m_ck own nm nL (.iushr) n v ds = true) (hr : m_1 sc (.iushr) v ds lo os h = some (lo', os', h')) (kk : m_W p l e R s m args below meth c Q nL D dA ad A B N0 S0 (pc + n) lo' os' h') : m_W p l e R s m args below meth c Q nL D dA ad A B N0 S0 pc lo os h := by
  obtain ⟨hx, hb, hml, hown, hts, hK, hA, hnm, hB⟩ := hF
  simp only [m_ck, decide_eq_true_eq] at hk
  obtain rfl := hk
  simp only [m_1] at hr
  split at hr
  · cases hr
    intro H locs cells slots ls hN
    exact lv_iushr hx hb hdg rfl (kk H locs cells slots ls hN)
  · cases hr

theorem m_ok_lshl (hF : m_Fx p s m args meth c cc own nm nL D dA ad A B) (hdg : decode cc pc = .ok (.lshl, n)) (hk : m_ck own nm nL (.lshl) n v ds = true) (hr : m_1 sc (.lshl) v ds lo os h = some (lo', os', h')) (kk : m_W p l e R s m args below meth c Q nL D dA ad A B N0 S0 (pc + n) lo' os' h') : m_W p l e R s m args below meth c Q nL D dA ad A B N0 S0 pc lo os h := by
  obtain ⟨hx, hb, hml, hown, hts, hK, hA, hnm, hB⟩ := hF
  simp only [m_ck, decide_eq_true_eq] at hk
  obtain rfl := hk
  simp only [m_1] at hr
  split at hr
  · cases hr
    intro H locs cells slots ls hN
    exact lv_lshl hx hb hdg rfl (kk H locs cells slots ls hN)
  · cases hr

theorem m_ok_lshr (hF : m_Fx p s m args meth c cc own nm nL D dA ad A B) (hdg : decode cc pc = .ok (.lshr, n)) (hk : m_ck own nm nL (.lshr) n v ds = true) (hr : m_1 sc (.lshr) v ds lo os h = some (lo', os', h')) (kk : m_W p l e R s m args below meth c Q nL D dA ad A B N0 S0 (pc + n) lo' os' h') : m_W p l e R s m args below meth c Q nL D dA ad A B N0 S0 pc lo os h := by
  obtain ⟨hx, hb, hml, hown, hts, hK, hA, hnm, hB⟩ := hF
  simp only [m_ck, decide_eq_true_eq] at hk
  obtain rfl := hk
  simp only [m_1] at hr
  split at hr
  · cases hr
    intro H locs cells slots ls hN
    exact lv_lshr hx hb hdg rfl (kk H locs cells slots ls hN)
  · cases hr

theorem m_ok_lushr (hF : m_Fx p s m args meth c cc own nm nL D dA ad A B) (hdg : decode cc pc = .ok (.lushr, n)) (hk : m_ck own nm nL (.lushr) n v ds = true) (hr : m_1 sc (.lushr) v ds lo os h = some (lo', os', h')) (kk : m_W p l e R s m args below meth c Q nL D dA ad A B N0 S0 (pc + n) lo' os' h') : m_W p l e R s m args below meth c Q nL D dA ad A B N0 S0 pc lo os h := by
  obtain ⟨hx, hb, hml, hown, hts, hK, hA, hnm, hB⟩ := hF
  simp only [m_ck, decide_eq_true_eq] at hk
  obtain rfl := hk
  simp only [m_1] at hr
  split at hr
  · cases hr
    intro H locs cells slots ls hN
    exact lv_lushr hx hb hdg rfl (kk H locs cells slots ls hN)
  · cases hr

theorem m_ok_i2l (hF : m_Fx p s m args meth c cc own nm nL D dA ad A B) (hdg : decode cc pc = .ok (.i2l, n)) (hk : m_ck own nm nL (.i2l) n v ds = true) (hr : m_1 sc (.i2l) v ds lo os h = some (lo', os', h')) (kk : m_W p l e R s m args below meth c Q nL D dA ad A B N0 S0 (pc + n) lo' os' h') : m_W p l e R s m args below meth c Q nL D dA ad A B N0 S0 pc lo os h := by
  obtain ⟨hx, hb, hml, hown, hts, hK, hA, hnm, hB⟩ := hF
  simp only [m_ck, decide_eq_true_eq] at hk
  obtain rfl := hk
  simp only [m_1] at hr
  split at hr
  · cases hr
    intro H locs cells slots ls hN
    exact lv_i2l hx hb hdg rfl (kk H locs cells slots ls hN)
  · cases hr

theorem m_ok_l2i (hF : m_Fx p s m args meth c cc own nm nL D dA ad A B) (hdg : decode cc pc = .ok (.l2i, n)) (hk : m_ck own nm nL (.l2i) n v ds = true) (hr : m_1 sc (.l2i) v ds lo os h = some (lo', os', h')) (kk : m_W p l e R s m args below meth c Q nL D dA ad A B N0 S0 (pc + n) lo' os' h') : m_W p l e R s m args below meth c Q nL D dA ad A B N0 S0 pc lo os h := by
  obtain ⟨hx, hb, hml, hown, hts, hK, hA, hnm, hB⟩ := hF
  simp only [m_ck, decide_eq_true_eq] at hk
  obtain rfl := hk
  simp only [m_1] at hr
  split at hr
  · cases hr
    intro H locs cells slots ls hN
    exact lv_l2i hx hb hdg rfl (kk H locs cells slots ls hN)
  · cases hr

theorem m_ok_i2b (hF : m_Fx p s m args meth c cc own nm nL D dA ad A B) (hdg : decode cc pc = .ok (.i2b, n)) (hk : m_ck own nm nL (.i2b) n v ds = true) (hr : m_1 sc (.i2b) v ds lo os h = some (lo', os', h')) (kk : m_W p l e R s m args below meth c Q nL D dA ad A B N0 S0 (pc + n) lo' os' h') : m_W p l e R s m args below meth c Q nL D dA ad A B N0 S0 pc lo os h := by
  obtain ⟨hx, hb, hml, hown, hts, hK, hA, hnm, hB⟩ := hF
  simp only [m_ck, decide_eq_true_eq] at hk
  obtain rfl := hk
  simp only [m_1] at hr
  split at hr
  · cases hr
    intro H locs cells slots ls hN
    exact lv_i2b hx hb hdg rfl (kk H locs cells slots ls hN)
  · cases hr

theorem m_ok_i2s (hF : m_Fx p s m args meth c cc own nm nL D dA ad A B) (hdg : decode cc pc = .ok (.i2s, n)) (hk : m_ck own nm nL (.i2s) n v ds = true) (hr : m_1 sc (.i2s) v ds lo os h = some (lo', os', h')) (kk : m_W p l e R s m args below meth c Q nL D dA ad A B N0 S0 (pc + n) lo' os' h') : m_W p l e R s m args below meth c Q nL D dA ad A B N0 S0 pc lo os h := by
  obtain ⟨hx, hb, hml, hown, hts, hK, hA, hnm, hB⟩ := hF
  simp only [m_ck, decide_eq_true_eq] at hk
  obtain rfl := hk
  simp only [m_1] at hr
  split at hr
  · cases hr
    intro H locs cells slots ls hN
    exact lv_i2s hx hb hdg rfl (kk H locs cells slots ls hN)
  · cases hr

theorem m_ok_idiv (hF : m_Fx p s m args meth c cc own nm nL D dA ad A B) (hdg : decode cc pc = .ok (.idiv, n)) (hk : m_ck own nm nL (.idiv) n v ds = true) (hr : m_1 sc (.idiv) v ds lo os h = some (lo', os', h')) (kk : m_W p l e R s m args below meth c Q nL D dA ad A B N0 S0 (pc + n) lo' os' h') : m_W p l e R s m args below meth c Q nL D dA ad A B N0 S0 pc lo os h := by
  obtain ⟨hx, hb, hml, hown, hts, hK, hA, hnm, hB⟩ := hF
  simp only [m_ck, decide_eq_true_eq] at hk
  obtain rfl := hk
  simp only [m_1] at hr
  split at hr
  · split at hr
    · cases hr
    · rename_i hy
      cases hr
      intro H locs cells slots ls hN
      exact lv_idiv hx hb hdg hy (kk H locs cells slots ls hN)
  · cases hr

theorem m_ok_irem (hF : m_Fx p s m args meth c cc own nm nL D dA ad A B) (hdg : decode cc pc = .ok (.irem, n)) (hk : m_ck own nm nL (.irem) n v ds = true) (hr : m_1 sc (.irem) v ds lo os h = some (lo', os', h')) (kk : m_W p l e R s m args below meth c Q nL D dA ad A B N0 S0 (pc + n) lo' os' h') : m_W p l e R s m args below meth c Q nL D dA ad A B N0 S0 pc lo os h := by
  obtain ⟨hx, hb, hml, hown, hts, hK, hA, hnm, hB⟩ := hF
  simp only [m_ck, decide_eq_true_eq] at hk
  obtain rfl := hk
  simp only [m_1] at hr
  split at hr
  · split at hr
    · cases hr
    · rename_i hy
      cases hr
      intro H locs cells slots ls hN
      exact lv_irem hx hb hdg hy (kk H locs cells slots ls hN)
  · cases hr

theorem m_ok_lcmp (hF : m_Fx p s m args meth c cc own nm nL D dA ad A B) (hdg : decode cc pc = .ok (.lcmp, n)) (hk : m_ck own nm nL (.lcmp) n v ds = true) (hr : m_1 sc (.lcmp) v ds lo os h = some (lo', os', h')) (kk : m_W p l e R s m args below meth c Q nL D dA ad A B N0 S0 (pc + n) lo' os' h') : m_W p l e R s m args below meth c Q nL D dA ad A B N0 S0 pc lo os h := by
  obtain ⟨hx, hb, hml, hown, hts, hK, hA, hnm, hB⟩ := hF
  simp only [m_ck, decide_eq_true_eq] at hk
  obtain rfl := hk
  simp only [m_1] at hr
  split at hr
  · cases hr
    intro H locs cells slots ls hN
    exact W.lcmp hx hb hdg (kk H locs cells slots ls hN)
  · cases hr

theorem m_ok_dup (hF : m_Fx p s m args meth c cc own nm nL D dA ad A B) (hdg : decode cc pc = .ok (.dup, n)) (hk : m_ck own nm nL (.dup) n v ds = true) (hr : m_1 sc (.dup) v ds lo os h = some (lo', os', h')) (kk : m_W p l e R s m args below meth c Q nL D dA ad A B N0 S0 (pc + n) lo' os' h') : m_W p l e R s m args below meth c Q nL D dA ad A B N0 S0 pc lo os h := by
  obtain ⟨hx, hb, hml, hown, hts, hK, hA, hnm, hB⟩ := hF
  simp only [m_ck, decide_eq_true_eq] at hk
  obtain rfl := hk
  simp only [m_1] at hr
  split at hr
  · cases hr
    intro H locs cells slots ls hN
    exact lv_dup hx hb hdg rfl (kk H locs cells slots ls hN)
  · cases hr
    intro H locs cells slots ls hN
    exact lv_dup hx hb hdg rfl (kk H locs cells slots ls hN)
  · cases hr

theorem m_ok_dup_x1 (hF : m_Fx p s m args meth c cc own nm nL D dA ad A B) (hdg : decode cc pc = .ok (.dup_x1, n)) (hk : m_ck own nm nL (.dup_x1) n v ds = true) (hr : m_1 sc (.dup_x1) v ds lo os h = some (lo', os', h')) (kk : m_W p l e R s m args below meth c Q nL D dA ad A B N0 S0 (pc + n) lo' os' h') : m_W p l e R s m args below meth c Q nL D dA ad A B N0 S0 pc lo os h := by
  obtain ⟨hx, hb, hml, hown, hts, hK, hA, hnm, hB⟩ := hF
  simp only [m_ck, decide_eq_true_eq] at hk
  obtain rfl := hk
  simp only [m_1] at hr
  split at hr
  · cases hr
    intro H locs cells slots ls hN
    exact lv_dup_x1 hx hb hdg rfl rfl (kk H locs cells slots ls hN)
  · cases hr

theorem m_ok_dup2 (hF : m_Fx p s m args meth c cc own nm nL D dA ad A B) (hdg : decode cc pc = .ok (.dup2, n)) (hk : m_ck own nm nL (.dup2) n v ds = true) (hr : m_1 sc (.dup2) v ds lo os h = some (lo', os', h')) (kk : m_W p l e R s m args below meth c Q nL D dA ad A B N0 S0 (pc + n) lo' os' h') : m_W p l e R s m args below meth c Q nL D dA ad A B N0 S0 pc lo os h := by
  obtain ⟨hx, hb, hml, hown, hts, hK, hA, hnm, hB⟩ := hF
  simp only [m_ck, decide_eq_true_eq] at hk
  obtain rfl := hk
  simp only [m_1] at hr
  split at hr
  · cases hr
    intro H locs cells slots ls hN
    exact lv_dup2_11 hx hb hdg rfl rfl (kk H locs cells slots ls hN)
  · cases hr

theorem m_ok_pop (hF : m_Fx p s m args meth c cc own nm nL D dA ad A B) (hdg : decode cc pc = .ok (.pop, n)) (hk : m_ck own nm nL (.pop) n v ds = true) (hr : m_1 sc (.pop) v ds lo os h = some (lo', os', h')) (kk : m_W p l e R s m args below meth c Q nL D dA ad A B N0 S0 (pc + n) lo' os' h') : m_W p l e R s m args below meth c Q nL D dA ad A B N0 S0 pc lo os h := by
  obtain ⟨hx, hb, hml, hown, hts, hK, hA, hnm, hB⟩ := hF
  simp only [m_ck, decide_eq_true_eq] at hk
  obtain rfl := hk
  simp only [m_1] at hr
  split at hr
  · cases hr
    intro H locs cells slots ls hN
    exact lv_pop hx hb hdg rfl (kk H locs cells slots ls hN)
  · cases hr

end MS
end
section
/-! THE INSTRUCTIONS THAT READ AND WRITE CELLS -/
theorem m_cl_ok : ∀ (c : Nat) (C : String) (T : u_T) (N : Nat), m_cl[c]? = some (C, T, N) → (∀ w ∈ u_ws C T N, w ∈ mTT) ∧ (∀ k, k < N → parseFieldDescriptor (T k).2.2.1 = some (m_ty c k)) ∧ (∀ a, a < N → ∀ b, b < N → a ≠ b → (T a).2.1 ≠ (T b).2.1)
  | 0, _, _, _, h => by cases h; exact ⟨by decide +kernel, tyX0_ok, nmX0⟩
  | 1, _, _, _, h => by cases h; exact ⟨by decide +kernel, tyX1_ok, nmX1⟩
  | 2, _, _, _, h => by cases h; exact ⟨by decide +kernel, tyX2_ok, nmX2⟩
  | 3, _, _, _, h => by cases h; exact ⟨by decide +kernel, tyX3_ok, nmX3⟩
  | 4, _, _, _, h => by cases h; exact ⟨by decide +kernel, tyX4_ok, nmX4⟩
  | 5, _, _, _, h => by cases h; exact ⟨by decide +kernel, tyX5_ok, nmX5⟩
  | 6, _, _, _, h => by cases h; exact ⟨by decide +kernel, tyX6_ok, nmX6⟩
  | 7, _, _, _, h => by cases h; exact ⟨by decide +kernel, tyX7_ok, nmX7⟩
  | 8, _, _, _, h => by cases h; exact ⟨by decide +kernel, tyX8_ok, nmX8⟩
  | 9, _, _, _, h => by cases h; exact ⟨by decide +kernel, tyX9_ok, nmX9⟩
  | 10, _, _, _, h => by cases h; exact ⟨by decide +kernel, tyX10_ok, nmX10⟩
  | 11, _, _, _, h => by cases h; exact ⟨by decide +kernel, tyX11_ok, nmX11⟩
  | 12, _, _, _, h => by cases h; exact ⟨by decide +kernel, tyX12_ok, nmX12⟩
  | n + 13, _, _, _, h => by simp [m_cl] at h
theorem m_cl_lt {c : Nat} {q : vw_C} (h : m_cl[c]? = some q) : c < 100 := by
  have := (List.getElem?_eq_some_iff.mp h).1
  have h2 : m_cl.length = 13 := rfl
  omega
theorem m_cel_o (dA : Nat → ClassId) (ad : Nat → Nat) (st : Nat → Int32) {c n : Nat} {rs : List (Option Nat)} (h : c < 100) : m_cel dA ad st (c, n, rs) = .inr (c, (List.range n).map (m_fld ad st c rs)) := by simp [m_cel, h]
theorem m_cel_a (dA : Nat → ClassId) (ad : Nat → Nat) (st : Nat → Int32) {c n : Nat} {rs : List (Option Nat)} (h1 : ¬ c < 100) (h2 : c < 104) : m_cel dA ad st (c, n, rs) = .inl (dA c, n, .inl st) := by simp [m_cel, h1, h2]
theorem m_cel_q (dA : Nat → ClassId) (ad : Nat → Nat) (st : Nat → Int32) {c n : Nat} {rs : List (Option Nat)} (h2 : ¬ c < 104) : m_cel dA ad st (c, n, rs) = .inl (dA c, n, .inr (.inr (.inr (.inr (fun i => (m_ri rs i).map ad))))) := by
  have h1 : ¬ c < 100 := by omega
  simp [m_cel, h1, h2]
theorem m_fs_get (f : Nat → Value) {n k : Nat} (hk : k < n) : ((List.range n).map f)[k]? = some (f k) := by simp [List.getElem?_map, List.getElem?_range hk]
theorem m_fs_set {f g : Nat → Value} {n k : Nat} {v : Value} (hk : g k = v) (hj : ∀ j, j ≠ k → g j = f j) : ((List.range n).map f).set k v = (List.range n).map g := by
  apply List.ext_getElem?
  intro j
  by_cases hjk : j = k
  · subst hjk
    by_cases hl : j < n
    · rw [List.getElem?_set_self (by simpa using hl), m_fs_get g hl, hk]
    · rw [List.getElem?_eq_none (by simp; omega), List.getElem?_eq_none (by simp; omega)]
  · rw [List.getElem?_set_ne (Ne.symm hjk)]
    by_cases hl : j < n
    · rw [m_fs_get f hl, m_fs_get g hl, hj j hjk]
    · rw [List.getElem?_eq_none (by simp; omega), List.getElem?_eq_none (by simp; omega)]
theorem m_get_spec {h : mH} {i k : Nat} {cs : List Nat} {w : Value} (hg : m_get h i k cs = some w) : ∃ (c n : Nat) (rs : List (Option Nat)), h.1[i]? = some (c, n, rs) ∧ c ∈ cs ∧ k < n ∧ ∀ ad : Nat → Nat, m_v ad w = m_fld ad (h.2 i) c rs k := by
  unfold m_get at hg
  split at hg
  · cases hg
  · rename_i c n rs hi
    cases h1 : (cs.elem c && Nat.blt k n) with
    | false => rw [h1] at hg; cases hg
    | true =>
      rw [h1, cond_true] at hg
      simp only [Bool.and_eq_true] at h1
      refine ⟨c, n, rs, hi, List.elem_iff.mp h1.1, Nat.blt_eq.mp h1.2, fun ad => ?_⟩
      unfold m_fld
      cases h2 : m_num (m_ty c k) with
      | false => rw [h2] at hg; cases hg; exact m_v_rf ad _
      | true => rw [h2] at hg; cases hg; rfl
theorem m_put_spec {h h' : mH} {i k : Nat} {cs : List Nat} {w : Value} (hg : m_put h i k cs w = some h') : ∃ (c n : Nat) (rs : List (Option Nat)), h.1[i]? = some (c, n, rs) ∧ c ∈ cs ∧ k < n ∧
    ((∃ x, w = .int x ∧ m_num (m_ty c k) = true ∧ (m_isZ (m_ty c k) = true → x = 0 ∨ x = 1) ∧ h' = (h.1, m_up h.2 i k x)) ∨ ∃ b, w = .ref b ∧ m_isR (m_ty c k) = true ∧ k < rs.length ∧ h' = (h.1.set i (c, n, rs.set k (some b)), h.2)) := by
  unfold m_put at hg
  split at hg
  · cases hg
  · rename_i c n rs hi
    cases h1 : (cs.elem c && Nat.blt k n) with
    | false => rw [h1] at hg; cases hg
    | true =>
      rw [h1, cond_true] at hg
      simp only [Bool.and_eq_true] at h1
      refine ⟨c, n, rs, hi, List.elem_iff.mp h1.1, Nat.blt_eq.mp h1.2, ?_⟩
      split at hg
      · rename_i x
        cases h2 : m_num (m_ty c k) with
        | false => rw [h2] at hg; cases hg
        | true =>
          rw [h2, cond_true] at hg
          cases h3 : m_isZ (m_ty c k) with
          | false => rw [h3, cond_false] at hg; cases hg; exact Or.inl ⟨x, rfl, rfl, (fun q => by cases q), rfl⟩
          | true =>
            rw [h3, cond_true] at hg
            split at hg
            · rename_i h4; cases hg; exact Or.inl ⟨x, rfl, rfl, (fun _ => h4), rfl⟩
            · cases hg
      · rename_i b
        cases h2 : (m_isR (m_ty c k) && Nat.blt k rs.length) with
        | false => rw [h2] at hg; cases hg
        | true =>
          rw [h2, cond_true] at hg
          cases hg
          simp only [Bool.and_eq_true] at h2
          exact Or.inr ⟨b, rfl, h2.1, Nat.blt_eq.mp h2.2, rfl⟩
      · cases hg
theorem m_isR_num {t : FieldType} (h : m_isR t = true) : m_num t = false := by cases t <;> simp [m_isR] at h <;> rfl
theorem m_fitR {t : FieldType} (h : m_isR t = true) (a : Nat) : narrow t (.ref a) = .ref a ∧ fits t (.ref a) = true := by
  cases t <;> simp [m_isR] at h <;> exact ⟨rfl, rfl⟩
theorem m_fitN {t : FieldType} {x : Int32} (h : m_num t = true) (hz : m_isZ t = true → x = 0 ∨ x = 1) : narrow t (.int x) = .int x ∧ fits t (.int x) = true := by
  cases t <;> simp [m_num] at h
  · exact ⟨rfl, rfl⟩
  · rcases hz rfl with rfl | rfl <;> exact ⟨by decide +kernel, by decide +kernel⟩
section MH
variable {p : Program} {l : Launch} {e : Env} {R : Room} {s : State} {m : MethodId} {args : Array Value} {below : List Frame} {meth : Method} {c : Code} {Q : State → Prop} {cc : ByteArray} {own nm : String} {nL : Nat} {D : va_G} {dA : Nat → ClassId} {ad : Nat → Nat} {A : Nat → Prop} {B N0 S0 : Nat} {sc : mS} {pc n : Nat} {v : Int32 × Int64} {ds : List (List Nat)} {lo lo' : mL} {os os' : List Value} {h h' : mH}
theorem m_fl_spec {idx k q sm ci : Nat} (hf : m_fl own idx k q sm ci = true) (hts : ∀ w ∈ mTT, w.before args s = true) : ∃ (C : String) (T : u_T) (N : Nat) (r : String), m_cl[ci]? = some (C, T, N) ∧ k < N ∧ (Cond.fieldLink own idx r (T k).2.1 (T k).2.2.1).before args s = true ∧ ∀ x, s.fieldFound? (T k).1 (T k).2.1 (T k).2.2.1 = some x → s.fieldFound? r (T k).2.1 (T k).2.2.1 = some x := by
  unfold m_fl at hf
  split at hf
  · cases hf
  · rename_i C T N hc
    simp only [Bool.and_eq_true] at hf
    obtain ⟨h1, h2⟩ := hf
    split at h2
    · rename_i o i r nm d hq
      simp only [Bool.and_eq_true, decide_eq_true_eq] at h2
      obtain ⟨⟨⟨⟨rfl, rfl⟩, rfl⟩, rfl⟩, h3⟩ := h2
      refine ⟨C, T, N, r, hc, Nat.blt_eq.mp h1, hts _ (m_tw_in hq rfl), fun x hx => ?_⟩
      split at h3
      · simp only [decide_eq_true_eq] at h3
        rw [h3]; exact hx
      · exact u_same (hts _ (m_w_in h3)) x hx
    · cases h2
theorem m_ok_getfield {z : Nat} (hF : m_Fx p s m args meth c cc own nm nL D dA ad A B) (hdg : decode cc pc = .ok (.getfield z, n)) (hk : m_ck own nm nL (.getfield z) n v ds = true) (hr : m_1 sc (.getfield z) v ds lo os h = some (lo', os', h')) (kk : m_W p l e R s m args below meth c Q nL D dA ad A B N0 S0 (pc + n) lo' os' h') : m_W p l e R s m args below meth c Q nL D dA ad A B N0 S0 pc lo os h := by
  obtain ⟨hx, hb, hml, hown, hts, hK, hA, hnm, hB⟩ := hF
  simp only [m_ck, Bool.and_eq_true, decide_eq_true_eq] at hk
  obtain ⟨rfl, h1⟩ := hk
  simp only [m_1] at hr
  split at hr
  · rename_i a os0
    split at hr
    · rename_i w hg
      cases hr
      obtain ⟨ci, nn, rs, hi, hcs, hkn, hv⟩ := m_get_spec hg
      obtain ⟨C, T, N, r, hc, hkN, hlink, hsame⟩ := m_fl_spec (List.all_eq_true.mp h1 ci hcs) hts
      obtain ⟨hin, hty, hap⟩ := m_cl_ok _ _ _ _ hc
      intro H locs cells slots ls hN
      refine va_get hx hb hts hin hown hK hN.1 a (fs := (List.range nn).map (m_fld ad (h.2 a) ci rs)) (by rw [← m_cel_o dA ad (h.2 a) (m_cl_lt hc)]; exact m_ws_get hi) hc _ hkN hlink hsame (m_fs_get _ hkn) hdg ?_
      have k2 := kk H locs cells slots ls hN
      rw [List.map_cons, hv] at k2
      exact k2
    · cases hr
  · cases hr
/-- a write, at the JVM's level: the field k of the object a -/
theorem m_putJ (hF : m_Fx p s m args meth c cc own nm nL D dA ad A B) {z k q sm fin ci : Nat} (hdg : decode cc pc = .ok (.putfield z, 3)) (hfl : m_fl own z k q sm ci = true) (hfn : m_fin own nm k fin ci = true) {ws : va_W} {H : Heap} {locs : List Loc} {cells slots : Nat} {ls : Array Slot} {rest : List Value} (hP : va_P D m_cl ws H) (hD : va_D A ws) (hS : va_S A s.heap H locs) {a p0 : Nat} {fs : List Value} (he : ws[p0]? = some (a, .inr (ci, fs))) {v : Value} (hn : narrow (m_ty ci k) v = v) (hft : fits (m_ty ci k) v = true) (hl : k < fs.length)
    (kk : ∀ (H1 : Heap) (locs1 : List Loc), va_P D m_cl (ws.set p0 (a, .inr (ci, fs.set k v))) H1 → va_D A (ws.set p0 (a, .inr (ci, fs.set k v))) → va_S A s.heap H1 locs1 → H1.size = H.size → W p l e R s m args below meth c H1 locs1 cells slots Q (F0 m (pc + 3) ls rest)) : W p l e R s m args below meth c H locs cells slots Q (F0 m pc ls (v :: .ref a :: rest)) := by
  obtain ⟨hx, hb, hml, hown, hts, hK, hA, hnm, hB⟩ := hF
  obtain ⟨C, T, N, ref, hc, hk, hlink, hsame⟩ := m_fl_spec hfl hts
  obtain ⟨hin, hty, hap0⟩ := m_cl_ok _ _ _ _ hc
  have hap := va_apart (own := own) hts hin (m_ty ci) hty hap0 hK hc
  obtain ⟨r, h1, cell, q1, q2, q3, q4⟩ := hP p0 _ he
  have hr : r = (C, T, N) := Option.some.inj (h1.symm.trans hc)
  subst hr
  obtain ⟨hSl, hfc, kC, hkC, hkind⟩ := hK.1 ci _ hc
  obtain ⟨cf, kf, fi, f, hi, hsl⟩ := hSl k hk
  have hst := (u_facts hfc hkC (u_lays hts hin hk) hi).1
  have hlay := hts _ (hin _ (u_in_lay hk))
  have fin2 : ∀ H' : Heap, H'[a]? = some (cell.setSlot f.slot v) → H'.size = H.size → (∀ q, q ≠ a → H'[q]? = H[q]?) → W p l e R s m args below meth c H' (locs ++ [⟨a, f.slot⟩]) cells slots Q (F0 m (pc + 3) ls rest) := fun H' e1 e2 e3 => by
    rw [hsl] at e1 ⊢
    exact kk H' _ (hP.set hD he ⟨_, hc, t_OB.to (V := updV (vp_V fs) k v) ⟨_, e1, q2, q3, t_set q4 hap hk v⟩ (fun j _ => vp_updV_set hl v j)⟩ e3) (hD.set he) (hS.put e2 e3 (hD.2 p0 _ he)) e2
  unfold m_fin at hfn
  simp only [hc] at hfn
  split at hfn
  · simp only [decide_eq_true_eq] at hfn
    unfold u_lay at hlay
    rw [if_neg (by rw [hfn]; decide)] at hlay
    have h6 := u_store hfc hkC hkind hlay hi (hty k hk) hn hft
    exact W.putK hx hb (f := f) ⟨hown, hlink, ⟨_, _, _, hsame _ hi⟩, hst⟩ (by rw [q2]; exact h6) q1 q3 (by rw [hsl]; exact k2_hasslot (q4 k hk)) rfl rfl hdg fin2
  · simp only [Bool.and_eq_true, decide_eq_true_eq] at hfn
    obtain ⟨⟨hfin, hnm2⟩, hdecl⟩ := hfn
    unfold u_lay at hlay
    rw [if_pos hfin] at hlay
    have hcf : m.cls = cf := by
      obtain ⟨_, _, c', _, _, _, -, -, hf', -, -, -, hown2, -⟩ := Cond.laysFinal_spec hlay
      have e1 : c' = cf := by have := hi.symm.trans hf'; simp at this; exact this.1.symm
      rw [hdecl] at hown2
      rw [← e1]; exact Option.some.inj (hown.symm.trans hown2)
    have h6 := u_fits hfc hkC hkind (Or.inr hlay) hi (hty k hk) hn hft
    exact W.putFinK hx hb hown hlink (hsame _ hi) hst hcf (hnm.trans hnm2) (by rw [q2]; exact h6) q1 q3 (by rw [hsl]; exact k2_hasslot (q4 k hk)) rfl rfl hdg fin2
theorem m_ok_putfield {z : Nat} (hF : m_Fx p s m args meth c cc own nm nL D dA ad A B) (hdg : decode cc pc = .ok (.putfield z, n)) (hk : m_ck own nm nL (.putfield z) n v ds = true) (hr : m_1 sc (.putfield z) v ds lo os h = some (lo', os', h')) (kk : m_W p l e R s m args below meth c Q nL D dA ad A B N0 S0 (pc + n) lo' os' h') : m_W p l e R s m args below meth c Q nL D dA ad A B N0 S0 pc lo os h := by
  simp only [m_ck, Bool.and_eq_true, decide_eq_true_eq] at hk
  obtain ⟨rfl, h1⟩ := hk
  simp only [m_1] at hr
  split at hr
  · rename_i w a os0
    split at hr
    · rename_i h2 hg
      cases hr
      obtain ⟨ci, nn, rs, hi, hcs, hkn, hv⟩ := m_put_spec hg
      have h3 := List.all_eq_true.mp h1 ci hcs
      simp only [Bool.and_eq_true] at h3
      obtain ⟨C, T, N, r, hc, -⟩ := m_fl_spec h3.1 hF.2.2.2.2.1
      have hlt := m_cl_lt hc
      intro H locs cells slots ls hN
      have he := m_ws_get (dA := dA) (ad := ad) hi
      rw [m_cel_o dA ad (h.2 a) hlt] at he
      rcases hv with ⟨x, rfl, hnu, hz, rfl⟩ | ⟨b, rfl, hre, hkr, rfl⟩
      · obtain ⟨hn, hft⟩ := m_fitN hnu hz
        have eS : ((List.range nn).map (m_fld ad (h.2 a) ci rs)).set (m_d (m_hd ds) 0) (.int x) = (List.range nn).map (m_fld ad (upd (h.2 a) (m_d (m_hd ds) 0) x) ci rs) := m_fs_set (by simp [m_fld, hnu, upd]) (fun j hj => by simp [m_fld, upd, hj])
        refine m_putJ (v := .int x) hF hdg h3.1 h3.2 hN.1 hN.2.1 hN.2.2.1 he hn hft (by simpa using hkn) fun H1 locs1 hP1 hD1 hS1 hz1 => ?_
        rw [eS, ← m_cel_o dA ad _ hlt, m_ws_set _ hi, m_set_self hi, m_row_up] at hP1 hD1
        exact kk H1 locs1 cells slots ls ⟨hP1, hD1, hS1, by rw [hz1]; exact hN.2.2.2.1, hN.2.2.2.2.1, hN.2.2.2.2.2.1, hN.2.2.2.2.2.2⟩
      · obtain ⟨hn, hft⟩ := m_fitR hre (ad b)
        have eS : ((List.range nn).map (m_fld ad (h.2 a) ci rs)).set (m_d (m_hd ds) 0) (.ref (ad b)) = (List.range nn).map (m_fld ad (h.2 a) ci (rs.set (m_d (m_hd ds) 0) (some b))) := m_fs_set (by simp [m_fld, m_isR_num hre, m_ri, hkr, va_rf]) (fun j hj => by simp [m_fld, m_ri, List.getElem?_set_ne (Ne.symm hj)])
        refine m_putJ (v := .ref (ad b)) hF hdg h3.1 h3.2 hN.1 hN.2.1 hN.2.2.1 he hn hft (by simpa using hkn) fun H1 locs1 hP1 hD1 hS1 hz1 => ?_
        rw [eS, ← m_cel_o dA ad _ hlt, m_ws_set _ hi, m_row_self] at hP1 hD1
        exact kk H1 locs1 cells slots ls ⟨hP1, hD1, hS1, by rw [hz1, hN.2.2.2.1]; simp, by rw [hN.2.2.2.2.1]; simp, by rw [hN.2.2.2.2.2.1]; exact (m_sz_set _ _ hi).symm, hN.2.2.2.2.2.2⟩
    · cases hr
  · cases hr
/-- an array's place, and its class -/
theorem m_tys_at (dA : Nat → ClassId) {c : Nat} (h : c = 100 ∨ c = 101 ∨ c = 102) : ∃ t0 : Nat, (m_tys dA)[t0]? = some (dA c, if c = 100 then .int else if c = 101 then .byte else .boolean) := by
  rcases h with rfl | rfl | rfl
  · exact ⟨0, rfl⟩
  · exact ⟨1, rfl⟩
  · exact ⟨2, rfl⟩
theorem m_ix_some {j : Int32} {n q : Nat} (hq : m_ix j n = some q) : vp_in j n ∧ q = j.toNatClampNeg := by
  unfold m_ix at hq
  split at hq
  · cases hq
  · rename_i h1; cases hq; exact ⟨h1, rfl⟩
theorem m_ald_spec {ks : List Nat} {i : Nat} {j w : Int32} (hg : m_ald sc h ks i j = some w) : (∃ (c n : Nat) (rs : List (Option Nat)), h.1[i]? = some (c, n, rs) ∧ c ∈ ks ∧ vp_in j n ∧ w = h.2 i j.toNatClampNeg) ∨ ∃ (L : Nat) (xs : Nat → Int32), sc = some (L, xs) ∧ i = m_scr0 ∧ 100 ∈ ks ∧ vp_in j L ∧ w = xs j.toNatClampNeg := by
  unfold m_ald at hg
  split at hg
  · rename_i c n rs hi
    cases h1 : ks.elem c with
    | false => rw [h1] at hg; cases hg
    | true =>
      rw [h1, cond_true] at hg
      split at hg
      · rename_i q hq
        obtain ⟨h2, rfl⟩ := m_ix_some hq
        cases hg
        exact Or.inl ⟨c, n, rs, hi, List.elem_iff.mp h1, h2, rfl⟩
      · cases hg
  · split at hg
    · cases hg
    · rename_i L xs
      cases h1 : (Nat.beq i m_scr0 && ks.elem 100) with
      | false => rw [h1] at hg; cases hg
      | true =>
        rw [h1, cond_true] at hg
        simp only [Bool.and_eq_true] at h1
        split at hg
        rotate_left
        · cases hg
        · rename_i q hq
          obtain ⟨h2, rfl⟩ := m_ix_some hq
          cases hg
          exact Or.inr ⟨L, xs, rfl, Nat.eq_of_beq_eq_true h1.1, List.elem_iff.mp h1.2, h2, rfl⟩
theorem m_ok_iaload (hF : m_Fx p s m args meth c cc own nm nL D dA ad A B) (hSc : m_Sc s ad A sc) (hdg : decode cc pc = .ok (.iaload, n)) (hk : m_ck own nm nL .iaload n v ds = true) (hr : m_1 sc .iaload v ds lo os h = some (lo', os', h')) (kk : m_W p l e R s m args below meth c Q nL D dA ad A B N0 S0 (pc + n) lo' os' h') : m_W p l e R s m args below meth c Q nL D dA ad A B N0 S0 pc lo os h := by
  obtain ⟨hx, hb, hml, hown, hts, hK, hA, hnm, hB⟩ := hF
  simp only [m_ck, decide_eq_true_eq] at hk
  obtain rfl := hk
  simp only [m_1] at hr
  split at hr
  · rename_i j a os0
    split at hr
    · rename_i w hg
      cases hr
      intro H locs cells slots ls hN
      rcases m_ald_spec hg with ⟨c1, n1, rs, hi, hc, hin, rfl⟩ | ⟨L, xs, hs1, rfl, hc, hin, rfl⟩
      · simp only [List.mem_singleton] at hc
        subst hc
        have he := m_ws_get (dA := dA) (ad := ad) hi
        rw [m_cel_a dA ad (h.2 a) (by omega) (by omega)] at he
        exact va_iald hx hb hK hN.1 a 0 he rfl hin hdg (kk H locs cells slots ls hN)
      · obtain ⟨hX, hbl, hbA, -⟩ := hSc L xs hs1
        exact va_sld hx hb hX hbl hbA hN.2.2.1 hin hdg (kk H locs cells slots ls hN)
    · cases hr
  · cases hr
theorem m_ok_baload (hF : m_Fx p s m args meth c cc own nm nL D dA ad A B) (hdg : decode cc pc = .ok (.baload, n)) (hk : m_ck own nm nL .baload n v ds = true) (hr : m_1 sc .baload v ds lo os h = some (lo', os', h')) (kk : m_W p l e R s m args below meth c Q nL D dA ad A B N0 S0 (pc + n) lo' os' h') : m_W p l e R s m args below meth c Q nL D dA ad A B N0 S0 pc lo os h := by
  obtain ⟨hx, hb, hml, hown, hts, hK, hA, hnm, hB⟩ := hF
  simp only [m_ck, decide_eq_true_eq] at hk
  obtain rfl := hk
  simp only [m_1] at hr
  split at hr
  · rename_i j a os0
    split at hr
    · rename_i w hg
      cases hr
      intro H locs cells slots ls hN
      rcases m_ald_spec hg with ⟨c1, n1, rs, hi, hc, hin, rfl⟩ | ⟨L, xs, hs1, rfl, hc, hin, rfl⟩
      · simp only [List.mem_cons, List.not_mem_nil, or_false] at hc
        have he := m_ws_get (dA := dA) (ad := ad) hi
        rcases hc with rfl | rfl
        · rw [m_cel_a dA ad (h.2 a) (by omega) (by omega)] at he
          exact va_bald hx hb hK hN.1 a 1 he rfl hin hdg (kk H locs cells slots ls hN)
        · rw [m_cel_a dA ad (h.2 a) (by omega) (by omega)] at he
          exact va_zald hx hb hK hN.1 a 2 he rfl hin hdg (kk H locs cells slots ls hN)
      · simp at hc
    · cases hr
  · cases hr
theorem m_ast_spec {ks : List Nat} {i : Nat} {j x : Int32} (hg : m_ast h ks i j x = some h') : ∃ (c n : Nat) (rs : List (Option Nat)), h.1[i]? = some (c, n, rs) ∧ c ∈ ks ∧ vp_in j n ∧ h' = (h.1, m_up h.2 i j.toNatClampNeg (bif Nat.beq c 101 then vp_nar .byte x else bif Nat.beq c 102 then vp_nar .boolean x else x)) := by
  unfold m_ast at hg
  split at hg
  · rename_i c n rs hi
    cases h1 : ks.elem c with
    | false => rw [h1] at hg; cases hg
    | true =>
      rw [h1, cond_true] at hg
      split at hg
      rotate_left
      · cases hg
      · rename_i q hq
        obtain ⟨h2, rfl⟩ := m_ix_some hq
        cases hg
        exact ⟨c, n, rs, hi, List.elem_iff.mp h1, h2, rfl⟩
  · cases hg
/-- a number has been put into row i -/
theorem m_Nw_put {H H1 : Heap} {locs : List Loc} {cells slots : Nat} {ls : Array Slot} {i j ci k : Nat} {rs : List (Option Nat)} {y : Int32} (hi : h.1[i]? = some (ci, k, rs)) (h1 : ¬ ci < 100) (h2 : ci < 104) (hN : m_Nw s nL D dA ad A B N0 S0 lo h H locs cells slots ls) (e1 : H1[ad i]? = some (vp_cell (dA ci) (k, .inl (upd (h.2 i) j y)))) (z : H1.size = H.size) (oq : ∀ q, q ≠ ad i → H1[q]? = H[q]?) : m_Nw s nL D dA ad A B N0 S0 lo (h.1, m_up h.2 i j y) H1 (locs ++ [⟨ad i, j⟩]) cells slots ls := by
  have he := m_ws_get (dA := dA) (ad := ad) hi
  have hP := hN.1.set hN.2.1 he (e := .inl (dA ci, k, .inl (upd (h.2 i) j y))) e1 oq
  have hD := hN.2.1.set he (e := .inl (dA ci, k, .inl (upd (h.2 i) j y)))
  rw [← m_cel_a dA ad _ (rs := rs) h1 h2, m_ws_set _ hi, m_set_self hi, m_row_up] at hP hD
  exact ⟨hP, hD, hN.2.2.1.put z oq (hN.2.1.2 i _ he), by rw [z]; exact hN.2.2.2.1, hN.2.2.2.2.1, hN.2.2.2.2.2.1, hN.2.2.2.2.2.2⟩
theorem m_cellU (cA : ClassId) (k : Nat) (f : Nat → Int32) (j : Nat) (y : Int32) : (arrV cA k (fun q => .int (f q))).setSlot j (.int y) = vp_cell cA (k, .inl (upd f j y)) := by
  rw [vp_cell_i, arrV_store]
  congr 1
  funext q
  by_cases hq : q = j
  · subst hq; simp [updV, upd]
  · simp [updV, upd, hq]
theorem m_ok_iastore (hF : m_Fx p s m args meth c cc own nm nL D dA ad A B) (hdg : decode cc pc = .ok (.iastore, n)) (hk : m_ck own nm nL .iastore n v ds = true) (hr : m_1 sc .iastore v ds lo os h = some (lo', os', h')) (kk : m_W p l e R s m args below meth c Q nL D dA ad A B N0 S0 (pc + n) lo' os' h') : m_W p l e R s m args below meth c Q nL D dA ad A B N0 S0 pc lo os h := by
  obtain ⟨hx, hb, hml, hown, hts, hK, hA, hnm, hB⟩ := hF
  simp only [m_ck, decide_eq_true_eq] at hk
  obtain rfl := hk
  simp only [m_1] at hr
  split at hr
  · rename_i x j a os0
    split at hr
    · rename_i h2 hg
      cases hr
      obtain ⟨ci, k, rs, hi, hc, hin, rfl⟩ := m_ast_spec hg
      simp only [List.mem_singleton] at hc
      subst hc
      intro H locs cells slots ls hN
      have he := m_ws_get (dA := dA) (ad := ad) hi
      rw [m_cel_a dA ad (h.2 a) (by omega) (by omega)] at he
      refine W.iast hx hb (hN.1 a _ he) ((hK.2 0 _ rfl).1 k (fun j => .int (h.2 a j))) (fun q => by cases q) (by show ¬ (j < 0 ∨ (arrV _ _ _).slots.size ≤ _); rw [arrV_size]; exact hin) rfl rfl hdg fun H1 e z oq => ?_
      exact kk H1 _ cells slots ls (m_Nw_put hi (by omega) (by omega) hN (e.trans (congrArg some (m_cellU _ _ _ _ _))) z oq)
    · cases hr
  · cases hr
theorem m_ok_bastore (hF : m_Fx p s m args meth c cc own nm nL D dA ad A B) (hdg : decode cc pc = .ok (.bastore, n)) (hk : m_ck own nm nL .bastore n v ds = true) (hr : m_1 sc .bastore v ds lo os h = some (lo', os', h')) (kk : m_W p l e R s m args below meth c Q nL D dA ad A B N0 S0 (pc + n) lo' os' h') : m_W p l e R s m args below meth c Q nL D dA ad A B N0 S0 pc lo os h := by
  obtain ⟨hx, hb, hml, hown, hts, hK, hA, hnm, hB⟩ := hF
  simp only [m_ck, decide_eq_true_eq] at hk
  obtain rfl := hk
  simp only [m_1] at hr
  split at hr
  · rename_i x j a os0
    split at hr
    · rename_i h2 hg
      cases hr
      obtain ⟨ci, k, rs, hi, hc, hin, rfl⟩ := m_ast_spec hg
      simp only [List.mem_cons, List.not_mem_nil, or_false] at hc
      intro H locs cells slots ls hN
      have he := m_ws_get (dA := dA) (ad := ad) hi
      rcases hc with rfl | rfl
      · rw [m_cel_a dA ad (h.2 a) (by omega) (by omega)] at he
        refine W.bast hx hb (hN.1 a _ he) ((hK.2 1 _ rfl).1 k (fun j => .int (h.2 a j))) (fun q => by cases q) (by show ¬ (j < 0 ∨ (arrV _ _ _).slots.size ≤ _); rw [arrV_size]; exact hin) rfl rfl hdg fun H1 e z oq => ?_
        exact kk H1 _ cells slots ls (m_Nw_put hi (by omega) (by omega) hN (e.trans (congrArg some (m_cellU _ _ _ _ _))) z oq)
      · rw [m_cel_a dA ad (h.2 a) (by omega) (by omega)] at he
        refine W.zast hx hb (hN.1 a _ he) ((hK.2 2 _ rfl).1 k (fun j => .int (h.2 a j))) (fun q => by cases q) (by show ¬ (j < 0 ∨ (arrV _ _ _).slots.size ≤ _); rw [arrV_size]; exact hin) rfl rfl hdg fun H1 e z oq => ?_
        exact kk H1 _ cells slots ls (m_Nw_put hi (by omega) (by omega) hN (e.trans (congrArg some (m_cellU _ _ _ _ _))) z oq)
    · cases hr
  · cases hr
theorem m_aq_spec {i : Nat} {j : Int32} {w : Value} (hg : m_aq h i j = some w) : ∃ (c n : Nat) (rs : List (Option Nat)), h.1[i]? = some (c, n, rs) ∧ (c = 104 ∨ c = 105) ∧ vp_in j n ∧ w = va_rf (m_ri rs j.toNatClampNeg) := by
  unfold m_aq at hg
  split at hg
  · rename_i c n rs hi
    cases h1 : (Nat.beq c 104 || Nat.beq c 105) with
    | false => rw [h1] at hg; cases hg
    | true =>
      rw [h1, cond_true] at hg
      simp only [Bool.or_eq_true] at h1
      split at hg
      rotate_left
      · cases hg
      · rename_i q hq
        obtain ⟨h2, rfl⟩ := m_ix_some hq
        cases hg
        exact ⟨c, n, rs, hi, h1.imp Nat.eq_of_beq_eq_true Nat.eq_of_beq_eq_true, h2, rfl⟩
  · cases hg
theorem m_ok_aaload (hF : m_Fx p s m args meth c cc own nm nL D dA ad A B) (hdg : decode cc pc = .ok (.aaload, n)) (hk : m_ck own nm nL .aaload n v ds = true) (hr : m_1 sc .aaload v ds lo os h = some (lo', os', h')) (kk : m_W p l e R s m args below meth c Q nL D dA ad A B N0 S0 (pc + n) lo' os' h') : m_W p l e R s m args below meth c Q nL D dA ad A B N0 S0 pc lo os h := by
  obtain ⟨hx, hb, hml, hown, hts, hK, hA, hnm, hB⟩ := hF
  simp only [m_ck, decide_eq_true_eq] at hk
  obtain rfl := hk
  simp only [m_1] at hr
  split at hr
  · rename_i j a os0
    split at hr
    · rename_i w hg
      cases hr
      obtain ⟨ci, k, rs, hi, hc, hin, rfl⟩ := m_aq_spec hg
      intro H locs cells slots ls hN
      have he := m_ws_get (dA := dA) (ad := ad) hi
      have hlt : j.toNatClampNeg < k := Nat.not_le.mp fun q => hin (Or.inr q)
      have k2 := kk H locs cells slots ls hN
      rw [List.map_cons, m_v_rf] at k2
      rcases hc with rfl | rfl
      · rw [m_cel_q dA ad (h.2 a) (by omega)] at he
        exact W.aald (v := va_rf ((m_ri rs j.toNatClampNeg).map ad)) (ty := .array .int) hx hb (hN.1 a _ he) ((hK.2 3 _ rfl).1 k (fun j => va_rf ((m_ri rs j).map ad))) rfl (fun q => by cases q) (by show ¬ (j < 0 ∨ (arrV _ _ _).slots.size ≤ _); rw [arrV_size]; exact hin) (by show (arrV _ _ _).slots[_]? = _; rw [arrV_read _ _ hlt]) rfl rfl hdg k2
      · rw [m_cel_q dA ad (h.2 a) (by omega)] at he
        exact W.aald (v := va_rf ((m_ri rs j.toNatClampNeg).map ad)) (ty := .object RX10) hx hb (hN.1 a _ he) ((hK.2 4 _ rfl).1 k (fun j => va_rf ((m_ri rs j).map ad))) rfl (fun q => by cases q) (by show ¬ (j < 0 ∨ (arrV _ _ _).slots.size ≤ _); rw [arrV_size]; exact hin) (by show (arrV _ _ _).slots[_]? = _; rw [arrV_read _ _ hlt]) rfl rfl hdg k2
    · cases hr
  · cases hr
/-- kinds of arrays that a heap of ours can hold -/
theorem m_ok_arraylength (hF : m_Fx p s m args meth c cc own nm nL D dA ad A B) (hSc : m_Sc s ad A sc) (hdg : decode cc pc = .ok (.arraylength, n)) (hk : m_ck own nm nL .arraylength n v ds = true) (hr : m_1 sc .arraylength v ds lo os h = some (lo', os', h')) (kk : m_W p l e R s m args below meth c Q nL D dA ad A B N0 S0 (pc + n) lo' os' h') : m_W p l e R s m args below meth c Q nL D dA ad A B N0 S0 pc lo os h := by
  obtain ⟨hx, hb, hml, hown, hts, hK, hA, hnm, hB⟩ := hF
  simp only [m_ck, decide_eq_true_eq] at hk
  obtain rfl := hk
  simp only [m_1] at hr
  split at hr
  · rename_i a os0
    split at hr
    · rename_i w hg
      cases hr
      intro H locs cells slots ls hN
      unfold m_len at hg
      split at hg
      · rename_i ci k rs hi
        cases h1 : Nat.ble 100 ci && Nat.ble ci 105 && !Nat.beq ci 103 with
        | false => rw [h1] at hg; cases hg
        | true =>
          rw [h1, cond_true] at hg
          cases hg
          simp only [Bool.and_eq_true, Bool.not_eq_true', Nat.ble_eq] at h1
          have hne : ci ≠ 103 := fun q => by subst q; simp at h1
          have he := m_ws_get (dA := dA) (ad := ad) hi
          have hcs : ci = 100 ∨ ci = 101 ∨ ci = 102 ∨ ci = 104 ∨ ci = 105 := by omega
          rcases hcs with rfl | rfl | rfl | rfl | rfl
          · rw [m_cel_a dA ad (h.2 a) (by omega) (by omega)] at he
            exact va_alen hx hb hK hN.1 a 0 he rfl rfl hdg (kk H locs cells slots ls hN)
          · rw [m_cel_a dA ad (h.2 a) (by omega) (by omega)] at he
            exact va_alen hx hb hK hN.1 a 1 he rfl rfl hdg (kk H locs cells slots ls hN)
          · rw [m_cel_a dA ad (h.2 a) (by omega) (by omega)] at he
            exact va_alen hx hb hK hN.1 a 2 he rfl rfl hdg (kk H locs cells slots ls hN)
          · rw [m_cel_q dA ad (h.2 a) (by omega)] at he
            exact va_alen hx hb hK hN.1 a 3 he rfl rfl hdg (kk H locs cells slots ls hN)
          · rw [m_cel_q dA ad (h.2 a) (by omega)] at he
            exact va_alen hx hb hK hN.1 a 4 he rfl rfl hdg (kk H locs cells slots ls hN)
      · split at hg
        · cases hg
        · rename_i L xs
          cases h1 : Nat.beq a m_scr0 with
          | false => rw [h1] at hg; cases hg
          | true =>
            rw [h1, cond_true] at hg
            cases hg
            have := Nat.eq_of_beq_eq_true h1
            subst this
            obtain ⟨hX, hbl, hbA, -⟩ := hSc L xs rfl
            exact va_slen hx hb hX hbl hbA hN.2.2.1 hdg (kk H locs cells slots ls hN)
    · cases hr
  · cases hr
end MH
end
section
/-! ROWS OF ROWS -/
/-- what stands when i of the rows have been made -/
def m_mi (p : Program) (l : Launch) (e : Env) (R : Room) (s : State) (m : MethodId) (args : Array Value) (below : List Frame) (meth : Method) (c : Code) (T : State) (cA cI : ClassId) (N K : Nat) (locs : List Loc) (cells slots i : Nat) (T' : State) : Prop :=
  (∃ ls, Stand p l e R s m args below meth c T' ls (cells + 1 + i) (slots + N + i * K) ∧ ∀ q ∈ ls, q ∈ locs ∨ q.base = T.heap.size) ∧ T'.vm = T.vm ∧ T'.heap.size = T.heap.size + 1 + i ∧
  T'.heap[T.heap.size]? = some (arrV cA N fun j => if j < i then .ref (T.heap.size + 1 + j) else .null) ∧ (∀ j, j < i → T'.heap[T.heap.size + 1 + j]? = some (arrV cI K fun _ => .int 0)) ∧ ∀ q, q < T.heap.size → T'.heap[q]? = T.heap[q]?
section MU
variable {p : Program} {l : Launch} {e : Env} {R : Room} {s : State} {m : MethodId} {args : Array Value} {below : List Frame} {meth : Method} {c : Code} {locs : List Loc} {cells slots : Nat}
theorem m_wpA {E : CtlPost} {d : Bool} {acts : List Action} {s : State} {c comp : ClassId} {k : Class} {type : FieldType} {len : Nat} {init : Value} (hk : s.vm.classes[c]? = some k) (hkind : k.kind = .array comp type) (hl : ¬ len > e.platform.arrayLengthLimit) (hh : ¬ len * componentBytes type > e.platform.maxHeapBytes) (hfit : fits type init = true) {Q : Addr → Pre} (h1 : s.heap.size < e.platform.maxCells) (h2 : s.slotsUsed + len ≤ e.platform.maxSlots) (hq : ∀ acts', Q s.heap.size d acts' (s.pushCell (arrV c len fun _ => init))) : wp (Jvm.newArray c len init) Q E e d acts s := by
  have hf : ∀ i v, (Array.replicate len init)[i]? = some v → s.fitsSlot c .none i v = true := by
    intro i v hv
    rw [Array.getElem?_replicate] at hv
    split at hv
    · cases hv; simp [State.fitsSlot, State.slotType?, hk, hkind, hfit]
    · cases hv
  simp only [Jvm.newArray, Jvm.arrayFits, wp_bind', W.ask, W.ite, hl, if_false, wp_pure', W.theClass, hk, hkind, hh, W.alloc, W.stop, Option.some.injEq, exists_eq_left', Array.size_replicate]
  rw [if_neg (by omega)]
  refine ⟨h1, h2, hf, ?_⟩
  rw [arrV_new]
  exact hq _
theorem m_mi_0 {T : State} {cA cI : ClassId} {N K : Nat} (X : Stand p l e R s m args below meth c T locs cells slots) : m_mi p l e R s m args below meth c T cA cI N K locs cells slots 0 (T.pushCell (arrV cA N fun _ => .null)) := by
  refine ⟨⟨locs, ?_, fun q hq => Or.inl hq⟩, by simp, by simp, ?_, fun j h => absurd h (Nat.not_lt_zero _), fun q hq => State.heap_pushCell_of_lt _ _ hq⟩
  · have h := X.pushed (arrV cA N fun _ => .null)
    rw [arrV_size] at h
    simpa using h
  · rw [State.heap_pushCell_size]
    simp
theorem m_mi_s {T T' : State} {cA cI : ClassId} {N K i : Nat} (hi : i < N) (h : m_mi p l e R s m args below meth c T cA cI N K locs cells slots i T') : m_mi p l e R s m args below meth c T cA cI N K locs cells slots (i + 1) ((T'.pushCell (arrV cI K fun _ => .int 0)).setCell T.heap.size ((arrV cA N fun j => if j < i then .ref (T.heap.size + 1 + j) else .null).setSlot i (.ref T'.heap.size))) := by
  obtain ⟨⟨ls, X, hl⟩, hv, hz, ho, hr, hq⟩ := h
  have hlt : T.heap.size < T'.heap.size := by omega
  have ho1 : (T'.pushCell (arrV cI K fun _ => .int 0)).heap[T.heap.size]? = some (arrV cA N fun j => if j < i then .ref (T.heap.size + 1 + j) else .null) := by
    rw [State.heap_pushCell_of_lt (h := hlt)]; exact ho
  refine ⟨⟨ls ++ [⟨T.heap.size, i⟩], ?_, ?_⟩, by simp [hv], ?_, ?_, ?_, ?_⟩
  · have h := (X.pushed (arrV cI K fun _ => .int 0)).stored ho1 i (.ref T'.heap.size)
    rw [arrV_size] at h
    have e3 : slots + N + (i + 1) * K = slots + N + i * K + K := by rw [Nat.succ_mul]; omega
    rw [e3]
    exact h
  · intro q hq
    rcases List.mem_append.mp hq with h | h
    · exact hl q h
    · rw [List.mem_singleton] at h
      exact Or.inr (by rw [h])
  · rw [size_setCell]; simp [hz]; omega
  · rw [State.heap_setCell_self ho1, arrV_store]
    refine congrArg some (congrArg (arrV cA N) (funext fun j => ?_))
    unfold updV
    by_cases hj : j = i
    · subst hj; rw [if_pos rfl, if_pos (Nat.lt_succ_self _), hz]
    · rw [if_neg hj]
      show (if j < i then _ else _) = _
      by_cases hj2 : j < i
      · rw [if_pos hj2, if_pos (by omega)]
      · rw [if_neg hj2, if_neg (by omega)]
  · intro j hj
    rw [State.heap_setCell_other (show T.heap.size ≠ T.heap.size + 1 + j by omega)]
    by_cases h : j = i
    · subst h
      rw [← hz]
      exact State.heap_pushCell_size _ _
    · have h9 : T.heap.size + 1 + j < T'.heap.size := by omega
      rw [State.heap_pushCell_of_lt (h := h9)]
      exact hr j (by omega)
  · intro q h
    have h9 : q < T'.heap.size := by omega
    rw [State.heap_setCell_other (show T.heap.size ≠ q by omega), State.heap_pushCell_of_lt (h := h9)]
    exact hq q h
/-- the state behind i rows -/
def m_ms (T : State) (cA cI : ClassId) (N K : Nat) : Nat → State
  | 0 => T.pushCell (arrV cA N fun _ => .null)
  | i + 1 => ((m_ms T cA cI N K i).pushCell (arrV cI K fun _ => .int 0)).setCell T.heap.size ((arrV cA N fun j => if j < i then .ref (T.heap.size + 1 + j) else .null).setSlot i (.ref (m_ms T cA cI N K i).heap.size))
theorem m_ms_mi {T : State} {cA cI : ClassId} {N K : Nat} (X : Stand p l e R s m args below meth c T locs cells slots) : ∀ i, i ≤ N → m_mi p l e R s m args below meth c T cA cI N K locs cells slots i (m_ms T cA cI N K i)
  | 0, _ => m_mi_0 X
  | i + 1, h => m_mi_s h (m_ms_mi X i (Nat.le_of_succ_le h))
theorem m_mi_go {T : State} {cA cI cc : ClassId} {kA kI : Class} {n k : Int32} (X : Stand p l e R s m args below meth c T locs cells slots) (hkA : T.vm.classes[cA]? = some kA) (hkindA : kA.kind = .array cI (.array .int)) (hkI : T.vm.classes[cI]? = some kI) (hkindI : kI.kind = .array cc .int) (hn : ¬ n < 0) (hk : ¬ k < 0) (hN : n.toNatClampNeg < 100000) (hK : k.toNatClampNeg < 100000) (h1 : cells + (1 + n.toNatClampNeg) ≤ R.cells) (h2 : slots + (n.toNatClampNeg + n.toNatClampNeg * k.toNatClampNeg) ≤ R.slots)
    {E : CtlPost} {d : Bool} {acts : List Action} {f : JFrame} {Q : Addr → Pre} (hq : ∀ d' acts', Q T.heap.size d' acts' ((m_ms T cA cI n.toNatClampNeg k.toNatClampNeg n.toNatClampNeg).setTop f)) : wp (multianewarray.make cA [n, k]) Q E e d acts (T.setTop f) := by
  have hl : ∀ a : Nat, a < 100000 → ¬ a > e.platform.arrayLengthLimit := fun a ha => by rw [Launch.admits_arrayLengthLimit X.admits]; omega
  have hh : ∀ a : Nat, a < 100000 → ¬ a * 4 > e.platform.maxHeapBytes := fun a ha => by rw [Launch.admits_maxHeapBytes X.admits]; omega
  have hf : ([k].find? (· < 0)) = none := by simp [hk]
  obtain ⟨hr1, hr2⟩ := X.roomAbove h1 h2
  rw [multianewarray.make]
  simp only [wp_bind', W.ite, hn, if_false, wp_pure', W.theClass, State.vm_setTop, hkA, hkindA, Option.some.injEq, exists_eq_left']
  refine m_wpA (k := kA) (by simpa using hkA) hkindA (hl _ hN) (hh _ hN) rfl (by simp; omega) (by simp; omega) fun acts' => ?_
  simp only [hf]
  rw [ite_self, wp_bind', Std.Legacy.Range.forIn_eq_forIn_range']
  have hsz : ([:n.toNatClampNeg] : Std.Legacy.Range).size = n.toNatClampNeg := by simp [Std.Legacy.Range.size]
  rw [hsz]
  show wp (forIn (List.range' 0 n.toNatClampNeg 1) PUnit.unit _) _ E e d _ _
  refine wp_forIn_inv (fun rest s' => ∃ i, i + rest.length = n.toNatClampNeg ∧ rest = List.range' i rest.length ∧ s' = (m_ms T cA cI n.toNatClampNeg k.toNatClampNeg i).setTop f) _ _ ⟨0, by simp, by simp, ?_⟩ ?_ ?_
  · rw [State.pushCell_setTop]
    rfl
  · rintro x rest s' d' acts' Q' ⟨i, hi, hl2, rfl⟩ hnext
    simp only [List.length_cons, List.range'_succ, List.cons.injEq] at hi hl2
    obtain ⟨rfl, hrest⟩ := hl2
    have hmul : x * k.toNatClampNeg + k.toNatClampNeg ≤ n.toNatClampNeg * k.toNatClampNeg := by
      have := Nat.mul_le_mul_right k.toNatClampNeg (show x + 1 ≤ n.toNatClampNeg by omega)
      rw [Nat.succ_mul] at this; exact this
    have hm := m_ms_mi (cA := cA) (cI := cI) (K := k.toNatClampNeg) X x (show x ≤ n.toNatClampNeg by omega)
    generalize hT' : m_ms T cA cI n.toNatClampNeg k.toNatClampNeg x = T' at hm
    obtain ⟨ls, XT, -⟩ := hm.1
    have hv := hm.2.1
    have hz := hm.2.2.1
    obtain ⟨r1, r2⟩ := XT.roomAbove (a := 1) (b := k.toNatClampNeg) (by omega) (by omega)
    simp only [wp_bind']
    rw [multianewarray.make]
    simp only [wp_bind', W.ite, hk, if_false, wp_pure', W.theClass, State.vm_setTop, hv, hkI, hkindI, Option.some.injEq, exists_eq_left']
    refine m_wpA (k := kI) (by simpa [hv] using hkI) hkindI (hl _ hK) (hh _ hK) rfl (by simp; omega) (by simp; omega) fun acts'' => ?_
    simp only [wp_bind', W.writeLoc, wp_pure']
    have hlt0 : T.heap.size < T'.heap.size := by omega
    refine ⟨arrV cA n.toNatClampNeg fun j => if j < x then .ref (T.heap.size + 1 + j) else .null, ?_, ?_, ?_, ?_, hnext _ _ _ ⟨x + 1, by omega, hrest, ?_⟩⟩
    · simp only [State.heap_setTop, State.pushCell_setTop]
      rw [State.heap_pushCell_of_lt (h := hlt0)]; exact hm.2.2.2.1
    · simp [arrV]
    · rw [arrV_size]; omega
    · simp [State.fitsSlot, State.slotType?, arrV, hv, hkA, hkindA, fits]
    · simp only [State.heap_setTop, State.pushCell_setTop, State.setCell_setTop, m_ms, hT']
      rfl
  · rintro s' d' acts' ⟨i, hi, -, rfl⟩
    simp only [List.length_nil, Nat.add_zero] at hi
    subst hi
    simp only [wp_pure']
    exact hq _ _
theorem m_mna {H : Heap} {Q : State → Prop} {cc : ByteArray} {own : String} {z pc : Nat} {ls : Array Slot} {rest : List Value} (hexec : p.tables.exec = Jvm.exec) (hb : c.code = cc) (hown : s.vm.findClass own = some m.cls) (hcl : (Cond.classLink own z "[[I").before args s = true) (hov : (Cond.arrayOver (.array .int)).before args s = true) (har : (Cond.arrayClass .int).before args s = true) {n k : Int32} (hn : ¬ n < 0) (hk : ¬ k < 0) (hN : n.toNatClampNeg < 100000) (hK : k.toNatClampNeg < 100000) (h1 : cells + (1 + n.toNatClampNeg) ≤ R.cells) (h2 : slots + (n.toNatClampNeg + n.toNatClampNeg * k.toNatClampNeg) ≤ R.slots) (hdg : decode cc pc = .ok (.multianewarray z 2, 4))
    (kk : ∀ (cA cI : ClassId) (H1 : Heap) (locs1 : List Loc), s.vm.findClass "[[I" = some cA → s.vm.findClass "[I" = some cI → (∀ q ∈ locs1, q ∈ locs ∨ q.base = H.size) → H1.size = H.size + 1 + n.toNatClampNeg → H1[H.size]? = some (arrV cA n.toNatClampNeg fun j => if j < n.toNatClampNeg then .ref (H.size + 1 + j) else .null) → (∀ j, j < n.toNatClampNeg → H1[H.size + 1 + j]? = some (arrV cI k.toNatClampNeg fun _ => .int 0)) → (∀ q : Nat, q < H.size → H1[q]? = H[q]?) →
      W p l e R s m args below meth c H1 locs1 (cells + 1 + n.toNatClampNeg) (slots + n.toNatClampNeg + n.toNatClampNeg * k.toNatClampNeg) Q (F0 m (pc + 4) ls (.ref H.size :: rest))) : W p l e R s m args below meth c H locs cells slots Q (F0 m pc ls (.int k :: .int n :: rest)) := by
  intro T hT X
  subst hT; subst hb
  have hpl : e.platform.magicAccessors = ({} : Platform).magicAccessors := by rw [X.admits.platform]
  obtain ⟨comp, cA, kA, hcomp, -, hkA, hkindA, hnameA⟩ := arrayOverA_spec hov
  obtain ⟨comp', kI, ci, hcomp', hkI, hkindI⟩ := Cond.arrayClass_spec har
  have hcomp2 : s.vm.findClass "[I" = some comp := hcomp
  have ec : comp' = comp := Option.some.inj (hcomp'.symm.trans hcomp2)
  subst ec
  obtain ⟨c0, hf0, hc0⟩ := Cond.classLink_spec hown hcl e.platform hpl
  have hnA2 : s.vm.findClass "[[I" = some cA := hnameA
  cases hnA2.symm.trans hf0
  obtain ⟨hg₁, hwarm₁, hready₁⟩ := State.classEntry (e := e) X.warmed hc0
  generalize T.vm.noted m.cls z (.cls cA) = vm₁ at hg₁ hwarm₁ hready₁
  have hal : s.vm.Alike vm₁ := hwarm₁.alike
  obtain ⟨kA₁, hkA₁, heA⟩ := hal.2.2 _ _ hkA
  obtain ⟨kI₁, hkI₁, heI⟩ := hal.2.2 _ _ hkI
  have X₁ := X.noted hwarm₁
  have hm := m_ms_mi (cA := cA) (cI := comp') (K := k.toNatClampNeg) X₁ n.toNatClampNeg (Nat.le_refl _)
  have go := fun (E : CtlPost) (d : Bool) (acts : List Action) (f : JFrame) (Q : Addr → Pre) => m_mi_go (E := E) (d := d) (acts := acts) (f := f) (Q := Q) (kA := kA₁) (kI := kI₁) (cc := ci) (n := n) (k := k) X₁ hkA₁ (by rw [heA]; exact hkindA) hkI₁ (by rw [heI]; exact hkindI) hn hk hN hK h1 h2
  generalize m_ms (T.setVm vm₁) cA comp' n.toNatClampNeg k.toNatClampNeg n.toNatClampNeg = T' at hm go
  obtain ⟨⟨ls1, XT, hls⟩, hv, hz, ho, hr, hq⟩ := hm
  obtain ⟨t, a1, b1⟩ := kk cA comp' T'.heap ls1 hnA2 hcomp2 hls hz ho hr hq T' rfl XT
  refine ⟨t, ?_, b1⟩
  jvm_step X.here [hexec, hdg]
  simp only [multianewarray.sem, wp_bind', W.resolveClassAt_links (State.method?_setTop (F0 m pc ls (.int k :: .int n :: rest)) X.here.top) hg₁]
  rw [W.popN, if_neg (by decide)]
  refine ⟨F0 m pc ls (.int k :: .int n :: rest), State.topJava?_setTop' (s := T.setVm vm₁) _ X.here.top, [.int n, .int k], rest, rfl, rfl, ?_⟩
  simp only [List.mapM_cons, List.mapM_nil, wp_bind', wp_pure']
  have eS : ((T.setTop (F0 m pc ls (.int k :: .int n :: rest))).setVm vm₁).setTop { F0 m pc ls (.int k :: .int n :: rest) with stack := rest } = (T.setVm vm₁).setTop { F0 m pc ls (.int k :: .int n :: rest) with stack := rest } := by
    show ((T.setVm vm₁).setTop _).setTop _ = _
    rw [State.setTop_setTop]
  rw [eS]
  refine go _ _ _ _ _ fun d' acts' => ?_
  simp only [wp_bind', W.mark, W.pushRef, State.topJava?_setTop' _ XT.here.top, Option.some.injEq, exists_eq_left', State.setTop_setTop, State.heap_setTop]
  intro acts
  simp [jvm, XT.here.top]
  exact a1
end MU
/-! THE INSTRUCTIONS THAT MAKE CELLS -/
theorem m_cl_tn : ∀ (c : Nat) (C : String) (T : u_T) (N : Nat), m_cl[c]? = some (C, T, N) → ∀ j, j < N → (m_num (m_ty c j) || m_isR (m_ty c j)) = true
  | 0, _, _, _, h => by cases h; decide +kernel
  | 1, _, _, _, h => by cases h; decide +kernel
  | 2, _, _, _, h => by cases h; decide +kernel
  | 3, _, _, _, h => by cases h; decide +kernel
  | 4, _, _, _, h => by cases h; decide +kernel
  | 5, _, _, _, h => by cases h; decide +kernel
  | 6, _, _, _, h => by cases h; decide +kernel
  | 7, _, _, _, h => by cases h; decide +kernel
  | 8, _, _, _, h => by cases h; decide +kernel
  | 9, _, _, _, h => by cases h; decide +kernel
  | 10, _, _, _, h => by cases h; decide +kernel
  | 11, _, _, _, h => by cases h; decide +kernel
  | 12, _, _, _, h => by cases h; decide +kernel
  | n + 13, _, _, _, h => by simp [m_cl] at h
theorem m_ws_push {dA : Nat → ClassId} {ad : Nat → Nat} {h : mH} {r : mR} : m_ws dA ad (m_new h r) = m_ws dA ad h ++ [(ad h.1.length, m_cel dA ad (fun _ => 0) r)] := by
  have e : (m_new h r).1.length = h.1.length + 1 := by simp [m_new]
  unfold m_ws
  rw [e, List.range_succ, List.map_append]
  congr 1
  · apply List.map_congr_left
    intro i hi
    have hl := List.mem_range.mp hi
    have e1 : (m_new h r).2 i = h.2 i := by funext b; simp [m_new, m_row, Nat.ne_of_lt hl]
    have e2 : m_at (m_new h r) i = m_at h i := by simp [m_at, m_new, List.getElem?_append_left hl]
    rw [e1, e2]
  · have e1 : (m_new h r).2 h.1.length = fun _ => 0 := by funext b; simp [m_new, m_row]
    have e2 : m_at (m_new h r) h.1.length = r := by simp [m_at, m_new]
    simp only [List.map_cons, List.map_nil, e1, e2]
theorem m_sz_new (h : mH) (c n : Nat) (rs : List (Option Nat)) : m_sz (m_new h (c, n, rs)) = m_sz h + n := by simp [m_sz, m_new]
/-- the room that is left -/
def m_Rm (R : Room) (N0 S0 : Nat) (h : mH) : Prop := h.1.length ≤ N0 + R.cells ∧ m_sz h ≤ S0 + R.slots ∧ h.1.length ≤ m_str0
def m_AOA (U : State) : Prop := (Cond.arrayOver (.array .int)).before #[] U = true
/-- words that aren't moved by the tables alone: arrays over rows and watchmen, who is a watchman, nest mates -/
def m_nest : List (String × Nat × MethodName × String) := [(RX11, 9, yX9_init, RX11), (RX9, 45, yX5_init, RX11), (RX11, 25, yX6_init, RX11), (RX6, 21, yX5_init, RX11), (RX11, 79, yX8_init, RX11), (RX5, 34, yX11_isUnder, RX11)]
def m_Ex (U : State) : Prop := va_AO RX10 U ∧ m_AOA U ∧ (∀ C ∈ [RX1, RX2, RX3, RX4, RX7], va_Nw (.castable C RX10) U) ∧ ∀ q ∈ m_nest, va_Nw (.methodLinkNest q.1 q.2.1 q.2.2.1 q.2.2.2) U
theorem m_at_mul {h : mH} {n k i : Nat} : m_at (m_mul h n k) i = if i < h.1.length then m_at h i else if i = h.1.length then (104, n, (List.range n).map fun i => some (h.1.length + 1 + i)) else if i < h.1.length + 1 + n then (100, k, []) else (0, 0, []) := by
  unfold m_at m_mul
  by_cases h1 : i < h.1.length
  · rw [if_pos h1, List.getElem?_append_left h1]
  · rw [if_neg h1, List.getElem?_append_right (Nat.le_of_not_lt h1)]
    by_cases h2 : i = h.1.length
    · subst h2
      rw [if_pos rfl, Nat.sub_self]
      rfl
    · rw [if_neg h2]
      obtain ⟨d, rfl⟩ : ∃ d, i = h.1.length + 1 + d := ⟨i - (h.1.length + 1), by omega⟩
      rw [show h.1.length + 1 + d - h.1.length = d + 1 by omega, List.getElem?_cons_succ]
      by_cases h3 : d < n
      · rw [if_pos (by omega), List.getElem?_map, List.getElem?_range h3]
        rfl
      · rw [if_neg (by omega), List.getElem?_map, List.getElem?_eq_none (by simp; omega)]
        rfl
theorem m_arrC {cI : ClassId} {N : Nat} {f g : Nat → Value} (h : ∀ j, j < N → f j = g j) : arrV cI N f = arrV cI N g := by
  have e : (Array.ofFn (n := N) fun j => f j.val) = Array.ofFn (n := N) fun j => g j.val := congrArg _ (funext fun j => h j.val j.isLt)
  unfold arrV
  rw [e]
theorem m_len_mul (h : mH) (n k : Nat) : (m_mul h n k).1.length = h.1.length + 1 + n := by simp [m_mul]; omega
theorem m_sz_mul (h : mH) (n k : Nat) : m_sz (m_mul h n k) = m_sz h + n + n * k := by
  simp only [m_sz, m_mul, List.map_append, List.sum_append, List.map_cons, List.sum_cons, List.map_map]
  have : ∀ (l : List Nat), (l.map ((fun r : mR => r.2.1) ∘ fun _ => (100, k, []))).sum = l.length * k := by
    intro l
    induction l with
    | nil => simp
    | cons x l ih => simp only [List.map_cons, List.sum_cons, ih, List.length_cons, Nat.succ_mul, Function.comp]; omega
  rw [this, List.length_range]
  omega
theorem m_ws_mem {dA : Nat → ClassId} {ad : Nat → Nat} {h : mH} {i : Nat} {q : Nat × va_E} (hq : (m_ws dA ad h)[i]? = some q) : i < h.1.length ∧ q = (ad i, m_cel dA ad (h.2 i) (m_at h i)) := by
  unfold m_ws at hq
  rw [List.getElem?_map] at hq
  by_cases hl : i < h.1.length
  · rw [List.getElem?_range hl] at hq
    exact ⟨hl, (Option.some.inj hq).symm⟩
  · rw [List.getElem?_eq_none (by simp; omega)] at hq
    cases hq
section MM
variable {p : Program} {l : Launch} {e : Env} {R : Room} {s : State} {m : MethodId} {args : Array Value} {below : List Frame} {meth : Method} {c : Code} {Q : State → Prop} {cc : ByteArray} {own nm : String} {nL : Nat} {D : va_G} {dA : Nat → ClassId} {ad : Nat → Nat} {A : Nat → Prop} {B N0 S0 : Nat} {sc : mS} {pc n : Nat} {v : Int32 × Int64} {ds : List (List Nat)} {lo lo' : mL} {os os' : List Value} {h h' : mH}
/-- a cell has been made -/
theorem m_Nw_new {H H1 : Heap} {locs : List Loc} {cells slots : Nat} {ls : Array Slot} {ci k : Nat} {rs : List (Option Nat)} (hA : ∀ q, s.heap.size ≤ q → A q) (hB : ∀ i, i < m_str0 → ad i = B + i) (hlt : h.1.length < m_str0) (hN : m_Nw s nL D dA ad A B N0 S0 lo h H locs cells slots ls) (z1 : H1.size = H.size + 1) (o1 : ∀ q, q < H.size → H1[q]? = H[q]?) (e1 : va_at D m_cl (H.size, m_cel dA ad (fun _ => 0) (ci, k, rs)) H1) : m_Nw s nL D dA ad A B N0 S0 lo (m_new h (ci, k, rs)) H1 locs (cells + 1) (slots + k) ls ∧ ad h.1.length = H.size := by
  obtain ⟨hP, hD, hS, hZ, hC, hL, hl⟩ := hN
  have hq : ad h.1.length = H.size := by rw [hB _ hlt, hZ]
  have hk : ∀ (k : Nat) (x : Nat × va_E), (m_ws dA ad h)[k]? = some x → H1[x.1]? = H[x.1]? := fun k x hx => o1 x.1 ((hP k x hx).lt)
  refine ⟨⟨?_, ?_, ⟨Nat.le_trans hS.1 (by omega), fun x h1 h2 => (o1 x (Nat.lt_of_lt_of_le h1 hS.1)).trans (hS.2.1 x h1 h2), hS.2.2⟩, ?_, ?_, ?_, hl⟩, hq⟩
  · rw [m_ws_push, hq]
    refine (hP.kept hk).app (fun k x hx => ?_)
    have hz : k < 1 := (List.getElem?_eq_some_iff.mp hx).1
    rw [show k = 0 by omega] at hx
    cases hx
    exact e1
  · rw [m_ws_push, hq]
    exact hD.push hP rfl (hA _ hS.1)
  · rw [z1, hZ]; simp [m_new]; omega
  · simp only [m_new, List.length_append, List.length_cons, List.length_nil]; omega
  · rw [m_sz_new]; omega
theorem m_ok_new {z : Nat} (hF : m_Fx p s m args meth c cc own nm nL D dA ad A B) (hRm : m_Rm R N0 S0 h') (hdg : decode cc pc = .ok (.new z, n)) (hk : m_ck own nm nL (.new z) n v ds = true) (hr : m_1 sc (.new z) v ds lo os h = some (lo', os', h')) (kk : m_W p l e R s m args below meth c Q nL D dA ad A B N0 S0 (pc + n) lo' os' h') : m_W p l e R s m args below meth c Q nL D dA ad A B N0 S0 pc lo os h := by
  obtain ⟨hx, hb, hml, hown, hts, hK, hA, hnm, hB⟩ := hF
  simp only [m_ck, Bool.and_eq_true, decide_eq_true_eq] at hk
  obtain ⟨rfl, h1⟩ := hk
  simp only [m_1] at hr
  cases hr
  split at h1
  · cases h1
  · rename_i C T N hc
    simp only [Bool.and_eq_true, decide_eq_true_eq] at h1
    obtain ⟨⟨⟨hNk, w1⟩, w2⟩, w3⟩ := h1
    obtain ⟨hin, hty, hap⟩ := m_cl_ok _ _ _ _ hc
    have hKn := hK.1 _ _ hc
    intro H locs cells slots ls hN
    obtain ⟨r1, r2, r3⟩ := hRm
    rw [m_sz_new] at r2
    simp only [m_new, List.length_append, List.length_cons, List.length_nil] at r1 r3
    have g1 := hN.2.2.2.2.1
    have g2 := hN.2.2.2.2.2.1
    refine W.newcK hx hb hown (hts _ (m_w_in w1)) (hts _ (m_w_in w2)) (hts _ (m_w_in w3)) rfl hdg (by omega) (by omega) hKn.2.1 rfl fun H1 kC hkC e1 z1 o1 => ?_
    obtain ⟨hN1, hq⟩ := m_Nw_new (H1 := H1) (ci := m_d (m_hd ds) 0) (k := m_d (m_hd ds) 1) (rs := List.replicate (m_d (m_hd ds) 1) none) hA hB (by omega) hN z1 o1 (by
      rw [m_cel_o dA ad _ (m_cl_lt hc)]
      refine ⟨_, hc, (u_born (m_ty (m_d (m_hd ds) 0)) hts hin hKn hkC e1 hty).to fun j hj => ?_⟩
      rw [hNk] at hj
      show _ = vp_V (List.map _ _) j
      have e2 : vp_V (List.map (m_fld ad (fun _ => 0) (m_d (m_hd ds) 0) (List.replicate (m_d (m_hd ds) 1) none)) (List.range (m_d (m_hd ds) 1))) j = m_fld ad (fun _ => 0) (m_d (m_hd ds) 0) (List.replicate (m_d (m_hd ds) 1) none) j := by
        unfold vp_V
        rw [List.getD_eq_getElem?_getD, m_fs_get _ hj]
        rfl
      rw [e2]
      have e3 : m_ri (List.replicate (m_d (m_hd ds) 1) none) j = none := by
        unfold m_ri
        rw [List.getElem?_replicate]
        split <;> rfl
      have ht := m_cl_tn _ _ _ _ hc j (by rw [hNk]; exact hj)
      unfold m_fld
      rw [e3]
      generalize m_ty (m_d (m_hd ds) 0) j = ty at ht
      cases ty <;> simp [m_num, m_isR] at ht <;> rfl)
    rw [hNk]
    have k2 := kk H1 locs _ _ ls hN1
    rw [List.map_cons] at k2
    have e9 : m_v ad (.ref h.1.length) = .ref H.size := by rw [← hq]; rfl
    rw [e9] at k2
    exact k2
theorem m_ok_newarray {z : ArrayType} (hF : m_Fx p s m args meth c cc own nm nL D dA ad A B) (hRm : m_Rm R N0 S0 h') (hdg : decode cc pc = .ok (.newarray z, n)) (hk : m_ck own nm nL (.newarray z) n v ds = true) (hr : m_1 sc (.newarray z) v ds lo os h = some (lo', os', h')) (kk : m_W p l e R s m args below meth c Q nL D dA ad A B N0 S0 (pc + n) lo' os' h') : m_W p l e R s m args below meth c Q nL D dA ad A B N0 S0 pc lo os h := by
  obtain ⟨hx, hb, hml, hown, hts, hK, hA, hnm, hB⟩ := hF
  simp only [m_ck, Bool.and_eq_true, decide_eq_true_eq, Bool.or_eq_true] at hk
  obtain ⟨⟨rfl, hz⟩, h1⟩ := hk
  simp only [m_1] at hr
  split at hr
  · rename_i x os0
    split at hr
    · cases hr
    · rename_i hn
      cases hr
      have hn1 : ¬ x < 0 := fun q => hn (Or.inl q)
      have hn2 : x.toNatClampNeg < 100000 := Nat.not_le.mp fun q => hn (Or.inr q)
      intro H locs cells slots ls hN
      obtain ⟨r1, r2, r3⟩ := hRm
      rw [m_sz_new] at r2
      simp only [m_new, List.length_append, List.length_cons, List.length_nil] at r1 r3
      have g1 := hN.2.2.2.2.1
      have g2 := hN.2.2.2.2.2.1
      refine va_newaK hx hb (hts _ (m_w_in h1)) rfl hdg rfl hn1 rfl (by rcases hz with (rfl | rfl) | rfl <;> simp [newarray.typeOf, componentBytes] <;> omega) (by omega) (by omega) rfl fun H1 cA e1 z1 o1 hAr hNm => ?_
      obtain ⟨hN1, hq⟩ := m_Nw_new (H1 := H1) (ci := m_aty z) (k := x.toNatClampNeg) (rs := []) hA hB (by omega) hN z1 o1 (by
        rcases hz with (rfl | rfl) | rfl
        · have hc : cA = dA 100 := Option.some.inj (hNm.symm.trans (hK.2 0 _ rfl).2)
          rw [show m_aty .int = 100 from rfl, m_cel_a dA ad _ (by omega) (by omega), ← hc]
          exact e1
        · have hc : cA = dA 101 := Option.some.inj (hNm.symm.trans (hK.2 1 _ rfl).2)
          rw [show m_aty .byte = 101 from rfl, m_cel_a dA ad _ (by omega) (by omega), ← hc]
          exact e1
        · have hc : cA = dA 102 := Option.some.inj (hNm.symm.trans (hK.2 2 _ rfl).2)
          rw [show m_aty .boolean = 102 from rfl, m_cel_a dA ad _ (by omega) (by omega), ← hc]
          exact e1)
      have k2 := kk H1 locs _ _ ls hN1
      rw [List.map_cons] at k2
      have e9 : m_v ad (.ref h.1.length) = .ref H.size := by rw [← hq]; rfl
      rw [e9] at k2
      exact k2
  · cases hr
theorem m_ok_anewarray {z : Nat} (hF : m_Fx p s m args meth c cc own nm nL D dA ad A B) (hE : m_Ex s) (hRm : m_Rm R N0 S0 h') (hdg : decode cc pc = .ok (.anewarray z, n)) (hk : m_ck own nm nL (.anewarray z) n v ds = true) (hr : m_1 sc (.anewarray z) v ds lo os h = some (lo', os', h')) (kk : m_W p l e R s m args below meth c Q nL D dA ad A B N0 S0 (pc + n) lo' os' h') : m_W p l e R s m args below meth c Q nL D dA ad A B N0 S0 pc lo os h := by
  obtain ⟨hx, hb, hml, hown, hts, hK, hA, hnm, hB⟩ := hF
  simp only [m_ck, Bool.and_eq_true, decide_eq_true_eq] at hk
  obtain ⟨rfl, h1⟩ := hk
  simp only [m_1] at hr
  split at hr
  · rename_i x os0
    split at hr
    · cases hr
    · rename_i hn
      cases hr
      have hn1 : ¬ x < 0 := fun q => hn (Or.inl q)
      have hn2 : x.toNatClampNeg < 100000 := Nat.not_le.mp fun q => hn (Or.inr q)
      intro H locs cells slots ls hN
      obtain ⟨r1, r2, r3⟩ := hRm
      rw [m_sz_new] at r2
      simp only [m_new, List.length_append, List.length_cons, List.length_nil] at r1 r3
      have g1 := hN.2.2.2.2.1
      have g2 := hN.2.2.2.2.2.1
      refine W.anew hx hb hown (hts _ (m_w_in h1)) (va_AO.use hE.1) rfl hdg rfl hn1 (by omega) (by omega) (by omega) fun cA kA comp f1 f2 f3 f4 => ?_
      generalize hH1 : H.push ({ cls := cA, slots := Array.replicate x.toNatClampNeg .null, vm := .none } : Cell) = H1
      have z1 : H1.size = H.size + 1 := by rw [← hH1, Array.size_push]
      have e1 : H1[H.size]? = some (arrV cA x.toNatClampNeg (fun _ => .null)) := by rw [← hH1, Array.getElem?_push_size, ← arrV_new]
      have o1 : ∀ q : Nat, q < H.size → H1[q]? = H[q]? := fun q hq => by rw [← hH1, Array.getElem?_push, if_neg (Nat.ne_of_lt hq)]
      obtain ⟨hN1, hq⟩ := m_Nw_new (H1 := H1) (ci := 105) (k := x.toNatClampNeg) (rs := List.replicate x.toNatClampNeg none) hA hB (by omega) hN z1 o1 (by
        obtain ⟨kA', comp', -, -, -, hf⟩ := (hK.2 4 _ rfl).2
        have hc : cA = dA 105 := Option.some.inj (f1.symm.trans hf)
        rw [m_cel_q dA ad _ (by omega), ← hc]
        show H1[H.size]? = some (vp_cell _ _)
        rw [vp_cell_q, e1]
        refine congrArg some (congrArg (arrV cA x.toNatClampNeg) (funext fun j => ?_))
        have e3 : m_ri (List.replicate x.toNatClampNeg none) j = none := by
          unfold m_ri
          rw [List.getElem?_replicate]
          split <;> rfl
        rw [e3]
        rfl)
      have k2 := kk H1 locs _ _ ls hN1
      rw [List.map_cons] at k2
      have e9 : m_v ad (.ref h.1.length) = .ref H.size := by rw [← hq]; rfl
      rw [e9] at k2
      exact k2
  · cases hr
theorem m_asg (hE : m_Ex s) {ci : Nat} (hc : ci ∈ [1, 2, 3, 4, 7, 10]) : ∃ (C : String) (T : u_T) (N : Nat), m_cl[ci]? = some (C, T, N) ∧ ∀ comp c0 : ClassId, s.vm.findClass RX10 = some comp → s.vm.findClass C = some c0 → s.vm.assignable c0 comp = true := by
  have hca := hE.2.2.1
  simp only [List.mem_cons, List.not_mem_nil, or_false] at hc
  rcases hc with rfl | rfl | rfl | rfl | rfl | rfl
  · exact ⟨_, _, _, rfl, fun comp c0 h1 h2 => vb_asgC (hca _ (by simp)) comp c0 h1 h2⟩
  · exact ⟨_, _, _, rfl, fun comp c0 h1 h2 => vb_asgC (hca _ (by simp)) comp c0 h1 h2⟩
  · exact ⟨_, _, _, rfl, fun comp c0 h1 h2 => vb_asgC (hca _ (by simp)) comp c0 h1 h2⟩
  · exact ⟨_, _, _, rfl, fun comp c0 h1 h2 => vb_asgC (hca _ (by simp)) comp c0 h1 h2⟩
  · exact ⟨_, _, _, rfl, fun comp c0 h1 h2 => vb_asgC (hca _ (by simp)) comp c0 h1 h2⟩
  · exact ⟨_, _, _, rfl, fun comp c0 h1 h2 => by cases h1.symm.trans h2; exact va_asg _ _⟩
theorem m_aqs_spec {i : Nat} {j : Int32} {a : Nat} (hg : m_aqs h i j a = some h') : ∃ (n : Nat) (rs : List (Option Nat)) (c1 n1 : Nat) (rs1 : List (Option Nat)), h.1[i]? = some (105, n, rs) ∧ vp_in j n ∧ h.1[a]? = some (c1, n1, rs1) ∧ c1 ∈ [1, 2, 3, 4, 7, 10] ∧ j.toNatClampNeg < rs.length ∧ h' = (h.1.set i (105, n, rs.set j.toNatClampNeg (some a)), h.2) := by
  unfold m_aqs at hg
  split at hg
  · rename_i c n rs hi
    cases h1 : Nat.beq c 105 with
    | false => rw [h1] at hg; cases hg
    | true =>
      rw [h1, cond_true] at hg
      have := Nat.eq_of_beq_eq_true h1
      subst this
      split at hg
      · cases hg
      · rename_i h2
        split at hg
        · rename_i c1 n1 rs1 ha
          cases h3 : ([1, 2, 3, 4, 7, 10].elem c1 && Nat.blt j.toNatClampNeg rs.length) with
          | false => rw [h3] at hg; cases hg
          | true =>
            rw [h3, cond_true] at hg
            cases hg
            simp only [Bool.and_eq_true] at h3
            exact ⟨n, rs, c1, n1, rs1, hi, h2, ha, List.elem_iff.mp h3.1, Nat.blt_eq.mp h3.2, rfl⟩
        · cases hg
  · cases hg
theorem m_ok_aastore (hF : m_Fx p s m args meth c cc own nm nL D dA ad A B) (hE : m_Ex s) (hdg : decode cc pc = .ok (.aastore, n)) (hk : m_ck own nm nL .aastore n v ds = true) (hr : m_1 sc .aastore v ds lo os h = some (lo', os', h')) (kk : m_W p l e R s m args below meth c Q nL D dA ad A B N0 S0 (pc + n) lo' os' h') : m_W p l e R s m args below meth c Q nL D dA ad A B N0 S0 pc lo os h := by
  obtain ⟨hx, hb, hml, hown, hts, hK, hA, hnm, hB⟩ := hF
  simp only [m_ck, decide_eq_true_eq] at hk
  obtain rfl := hk
  simp only [m_1] at hr
  split at hr
  · rename_i x j a os0
    split at hr
    · rename_i h2 hg
      cases hr
      obtain ⟨k, rs, c1, n1, rs1, hi, hin, ha, hc1, hjr, rfl⟩ := m_aqs_spec hg
      obtain ⟨C, T, N, hc, hasg⟩ := m_asg hE hc1
      intro H locs cells slots ls hN
      have hlt : j.toNatClampNeg < k := Nat.not_le.mp fun q => hin (Or.inr q)
      have h0 : ¬ j < 0 := fun q => hin (Or.inl q)
      have he := m_ws_get (dA := dA) (ad := ad) hi
      have he' := he
      rw [m_cel_q dA ad (h.2 a) (by omega)] at he
      have hv := m_ws_get (dA := dA) (ad := ad) ha
      rw [m_cel_o dA ad (h.2 x) (m_cl_lt hc)] at hv
      obtain ⟨cellV, g1, g3, ⟨kC, hkC⟩, hasg2⟩ := va_rAny (E := RX10) hK hN.1 hv hc hasg
      obtain ⟨kA, comp, k1, k2, k3, -⟩ := (hK.2 4 _ rfl).2
      obtain ⟨kE, hkE, -⟩ := Vm.findClass_spec k3
      refine W.aast hx hb (hN.1 a _ he) (fun q h => by cases h) (fun h => by cases h) k1 k2 rfl hkE ⟨h0, by show _ < (arrV _ _ _).slots.size; rw [arrV_size]; exact hlt⟩ g1 (fun q h => by rw [h] at g3; cases g3) hkC (hasg2 _ k3) rfl rfl hdg fun H1 e z oq => ?_
      have e1 : va_at D m_cl (ad a, m_cel dA ad (h.2 a) (105, k, rs.set j.toNatClampNeg (some x))) H1 := by
        rw [m_cel_q dA ad _ (by omega)]
        show H1[ad a]? = some (vp_cell _ _)
        rw [e]
        show some ((vp_cell _ _).setSlot _ _) = _
        rw [vp_cell_q, vp_cell_q, arrV_store]
        refine congrArg some (congrArg (arrV (dA 105) k) (funext fun q => ?_))
        by_cases hq : q = j.toNatClampNeg
        · subst hq
          simp [updV, m_ri, hjr, va_rf]
        · simp [updV, hq, m_ri, List.getElem?_set_ne (Ne.symm hq)]
      have hP := hN.1.set hN.2.1 he' e1 oq
      have hD := hN.2.1.set he' (e := m_cel dA ad (h.2 a) (105, k, rs.set j.toNatClampNeg (some x)))
      rw [m_ws_set _ hi, m_row_self] at hP hD
      exact kk H1 _ cells slots ls ⟨hP, hD, hN.2.2.1.put z oq (hN.2.1.2 a _ he'), by rw [z, hN.2.2.2.1]; simp, by rw [hN.2.2.2.2.1]; simp, by rw [hN.2.2.2.2.2.1]; exact (m_sz_set _ _ hi).symm, hN.2.2.2.2.2.2⟩
    · cases hr
  · cases hr
theorem m_ok_multianewarray {z y : Nat} (hF : m_Fx p s m args meth c cc own nm nL D dA ad A B) (hE : m_Ex s) (hRm : m_Rm R N0 S0 h') (hdg : decode cc pc = .ok (.multianewarray z y, n)) (hk : m_ck own nm nL (.multianewarray z y) n v ds = true) (hr : m_1 sc (.multianewarray z y) v ds lo os h = some (lo', os', h')) (kk : m_W p l e R s m args below meth c Q nL D dA ad A B N0 S0 (pc + n) lo' os' h') : m_W p l e R s m args below meth c Q nL D dA ad A B N0 S0 pc lo os h := by
  obtain ⟨hx, hb, hml, hown, hts, hK, hA, hnm, hB⟩ := hF
  simp only [m_ck, Bool.and_eq_true, decide_eq_true_eq] at hk
  obtain ⟨⟨⟨rfl, rfl⟩, w1⟩, w2⟩ := hk
  simp only [m_1] at hr
  split at hr
  · rename_i x y os0
    split at hr
    · cases hr
    · rename_i hn
      cases hr
      have n1 : ¬ y < 0 := fun q => hn (Or.inl q)
      have n2 : ¬ x < 0 := fun q => hn (Or.inr (Or.inl q))
      have n3 : y.toNatClampNeg < 100000 := Nat.not_le.mp fun q => hn (Or.inr (Or.inr (Or.inl q)))
      have n4 : x.toNatClampNeg < 100000 := Nat.not_le.mp fun q => hn (Or.inr (Or.inr (Or.inr q)))
      intro H locs cells slots ls hN
      obtain ⟨r1, r2, r3⟩ := hRm
      rw [m_sz_mul] at r2
      rw [m_len_mul] at r1 r3
      obtain ⟨hP, hD, hS, hZ, hC, hL, hl⟩ := hN
      refine m_mna hx hb hown (hts _ (m_w_in w1)) hE.2.1 (hts _ (m_w_in w2)) n1 n2 n3 n4 (by omega) (by omega) hdg fun cA cI H1 locs1 f1 f2 hl1 z1 o1 o2 o3 => ?_
      have hc1 : cA = dA 104 := Option.some.inj (f1.symm.trans (hK.2 3 _ rfl).2)
      have hc2 : cI = dA 100 := Option.some.inj (f2.symm.trans (hK.2 0 _ rfl).2)
      have hq : ad h.1.length = H.size := by rw [hB _ (by omega), hZ]
      have k2 := kk H1 locs1 (cells + 1 + y.toNatClampNeg) (slots + y.toNatClampNeg + y.toNatClampNeg * x.toNatClampNeg) ls ⟨?_, ?_, ?_, ?_, ?_, ?_, hl⟩
      · rw [List.map_cons] at k2
        have e9 : m_v ad (.ref h.1.length) = .ref H.size := by rw [← hq]; rfl
        rw [e9] at k2
        exact k2
      · intro i q hi
        obtain ⟨g1, rfl⟩ := m_ws_mem hi
        rw [m_len_mul] at g1
        rw [m_at_mul]
        by_cases h1 : i < h.1.length
        · rw [if_pos h1]
          have e1 : (m_mul h y.toNatClampNeg x.toNatClampNeg).2 i = h.2 i := by funext b; simp [m_mul, Nat.not_le.mpr h1]
          rw [e1]
          have hw : (m_ws dA ad h)[i]? = some (ad i, m_cel dA ad (h.2 i) (m_at h i)) := by
            unfold m_ws
            rw [List.getElem?_map, List.getElem?_range h1]
            rfl
          exact (hP i _ hw).kept (o3 _ (hP i _ hw).lt)
        · rw [if_neg h1]
          have e1 : (m_mul h y.toNatClampNeg x.toNatClampNeg).2 i = fun _ => 0 := by funext b; simp [m_mul, Nat.le_of_not_lt h1]
          rw [e1]
          by_cases h2 : i = h.1.length
          · subst h2
            rw [if_pos rfl, hq, m_cel_q dA ad _ (by omega), ← hc1]
            show H1[H.size]? = some (vp_cell _ _)
            rw [vp_cell_q, o1]
            refine congrArg some (m_arrC fun j hj => ?_)
            rw [if_pos hj]
            have e3 : m_ri ((List.range y.toNatClampNeg).map fun i => some (h.1.length + 1 + i)) j = some (h.1.length + 1 + j) := by
              unfold m_ri
              rw [List.getElem?_map, List.getElem?_range hj]
              rfl
            rw [e3]
            show _ = va_rf (some (ad (h.1.length + 1 + j)))
            have e5 : ad (h.1.length + 1 + j) = H.size + 1 + j := by rw [hB _ (by omega), hZ]; omega
            rw [e5]
            rfl
          · rw [if_neg h2, if_pos g1, m_cel_a dA ad _ (by omega) (by omega), ← hc2]
            obtain ⟨d, rfl⟩ : ∃ d, i = h.1.length + 1 + d := ⟨i - (h.1.length + 1), by omega⟩
            have e4 : ad (h.1.length + 1 + d) = H.size + 1 + d := by rw [hB _ (by omega), hZ]; omega
            rw [e4]
            exact o2 d (by omega)
      · constructor
        · intro i j p q hi hj he
          obtain ⟨g1, rfl⟩ := m_ws_mem hi
          obtain ⟨g2, rfl⟩ := m_ws_mem hj
          rw [m_len_mul] at g1 g2
          simp only at he
          rw [hB _ (by omega), hB _ (by omega)] at he
          omega
        · intro i q hi
          obtain ⟨g1, rfl⟩ := m_ws_mem hi
          rw [m_len_mul] at g1
          by_cases h1 : i < h.1.length
          · have hw : (m_ws dA ad h)[i]? = some (ad i, m_cel dA ad (h.2 i) (m_at h i)) := by
              unfold m_ws
              rw [List.getElem?_map, List.getElem?_range h1]
              rfl
            exact hD.2 i (ad i, m_cel dA ad (h.2 i) (m_at h i)) hw
          · refine hA _ ?_
            show _ ≤ ad i
            rw [hB _ (by omega)]
            have := hS.1
            omega
      · refine ⟨Nat.le_trans hS.1 (by omega), fun q h1 h2 => (o3 q (Nat.lt_of_lt_of_le h1 hS.1)).trans (hS.2.1 q h1 h2), fun q hq2 => ?_⟩
        rcases hl1 q hq2 with h1 | h1
        · exact hS.2.2 q h1
        · rw [h1]
          exact hA _ hS.1
      · rw [z1, hZ, m_len_mul]; omega
      · rw [m_len_mul]; omega
      · rw [m_sz_mul]; omega
  · cases hr
end MM
end
section
/-! ALL SIMPLE INSTRUCTIONS AT ONCE; that heaps only grow -/
def m_le (h h' : mH) : Prop := h.1.length ≤ h'.1.length ∧ m_sz h ≤ m_sz h'
theorem m_le.rf {h : mH} : m_le h h := ⟨Nat.le_refl _, Nat.le_refl _⟩
theorem m_le.tr {a b c : mH} (h1 : m_le a b) (h2 : m_le b c) : m_le a c := ⟨Nat.le_trans h1.1 h2.1, Nat.le_trans h1.2 h2.2⟩
theorem m_le_new (h : mH) (c n : Nat) (rs : List (Option Nat)) : m_le h (m_new h (c, n, rs)) := ⟨by simp [m_new], by rw [m_sz_new]; omega⟩
theorem m_le_mul (h : mH) (n k : Nat) : m_le h (m_mul h n k) := ⟨by simp [m_mul], by simp [m_mul, m_sz]⟩
theorem m_le_fst {l : List mR} {st st' : Nat → Nat → Int32} : m_le (l, st) (l, st') := ⟨Nat.le_refl _, Nat.le_refl _⟩
theorem m_le_put {h h' : mH} {i k : Nat} {cs : List Nat} {w : Value} (hg : m_put h i k cs w = some h') : m_le h h' := by
  obtain ⟨c, n, rs, hi, -, -, hv⟩ := m_put_spec hg
  rcases hv with ⟨x, -, -, -, rfl⟩ | ⟨b, -, -, -, rfl⟩
  · exact m_le_fst
  · exact ⟨by simp, Nat.le_of_eq (m_sz_set _ _ hi).symm⟩
theorem m_le_ast {h h' : mH} {ks : List Nat} {i : Nat} {j x : Int32} (hg : m_ast h ks i j x = some h') : m_le h h' := by
  obtain ⟨c, n, rs, hi, -, -, rfl⟩ := m_ast_spec hg
  exact m_le_fst
theorem m_le_aqs {h h' : mH} {i : Nat} {j : Int32} {a : Nat} (hg : m_aqs h i j a = some h') : m_le h h' := by
  obtain ⟨n, rs, c1, n1, rs1, hi, -, -, -, -, rfl⟩ := m_aqs_spec hg
  exact ⟨by simp, Nat.le_of_eq (m_sz_set _ _ hi).symm⟩
theorem m_le_1 {sc : mS} {i : Instr} {v : Int32 × Int64} {ds : List (List Nat)} {lo lo' : mL} {os os' : List Value} {h h' : mH} (hr : m_1 sc i v ds lo os h = some (lo', os', h')) : m_le h h' := by
  cases i
  case putfield z =>
    simp only [m_1] at hr
    split at hr
    · split at hr
      · rename_i h2 hg; cases hr; exact m_le_put hg
      · cases hr
    · cases hr
  case iastore =>
    simp only [m_1] at hr
    split at hr
    · split at hr
      · rename_i h2 hg; cases hr; exact m_le_ast hg
      · cases hr
    · cases hr
  case bastore =>
    simp only [m_1] at hr
    split at hr
    · split at hr
      · rename_i h2 hg; cases hr; exact m_le_ast hg
      · cases hr
    · cases hr
  case aastore =>
    simp only [m_1] at hr
    split at hr
    · split at hr
      · rename_i h2 hg; cases hr; exact m_le_aqs hg
      · cases hr
    · cases hr
  case new z => simp only [m_1] at hr; cases hr; exact m_le_new _ _ _ _
  case newarray z =>
    simp only [m_1] at hr
    split at hr
    · split at hr
      · cases hr
      · cases hr; exact m_le_new _ _ _ _
    · cases hr
  case anewarray z =>
    simp only [m_1] at hr
    split at hr
    · split at hr
      · cases hr
      · cases hr; exact m_le_new _ _ _ _
    · cases hr
  case multianewarray z y =>
    simp only [m_1] at hr
    split at hr
    · split at hr
      · cases hr
      · cases hr; exact m_le_mul _ _ _
    · cases hr
  all_goals
    simp only [m_1] at hr
    first
      | (cases hr; done)
      | (cases hr; exact m_le.rf)
      | (split at hr <;> first | (cases hr; done) | (cases hr; exact m_le.rf) | (split at hr <;> first | (cases hr; done) | (cases hr; exact m_le.rf)))
section MI
variable {p : Program} {l : Launch} {e : Env} {R : Room} {s : State} {m : MethodId} {args : Array Value} {below : List Frame} {meth : Method} {c : Code} {Q : State → Prop} {cc : ByteArray} {own nm : String} {nL : Nat} {D : va_G} {dA : Nat → ClassId} {ad : Nat → Nat} {A : Nat → Prop} {B N0 S0 : Nat} {sc : mS} {pc n : Nat} {v : Int32 × Int64} {ds : List (List Nat)} {lo lo' : mL} {os os' : List Value} {h h' : mH}
theorem m_ok_1 {i : Instr} (hF : m_Fx p s m args meth c cc own nm nL D dA ad A B) (hSc : m_Sc s ad A sc) (hE : m_Ex s) (hT : m_Tx s ad) (hRm : m_Rm R N0 S0 h') (hdg : decode cc pc = .ok (i, n)) (hk : m_ck own nm nL i n v ds = true) (hr : m_1 sc i v ds lo os h = some (lo', os', h')) (kk : m_W p l e R s m args below meth c Q nL D dA ad A B N0 S0 (pc + n) lo' os' h') : m_W p l e R s m args below meth c Q nL D dA ad A B N0 S0 pc lo os h := by
  cases i
  case iconst => exact m_ok_iconst hF hdg hk hr kk
  case bipush => exact m_ok_bipush hF hdg hk hr kk
  case sipush => exact m_ok_sipush hF hdg hk hr kk
  case lconst => exact m_ok_lconst hF hdg hk hr kk
  case ldc => exact m_ok_ldc hF hT hdg hk hr kk
  case ldc_w => exact m_ok_ldc_w hF hdg hk hr kk
  case ldc2_w => exact m_ok_ldc2_w hF hdg hk hr kk
  case iload => exact m_ok_iload hF hdg hk hr kk
  case iload_n => exact m_ok_iload_n hF hdg hk hr kk
  case lload => exact m_ok_lload hF hdg hk hr kk
  case lload_n => exact m_ok_lload_n hF hdg hk hr kk
  case aload => exact m_ok_aload hF hdg hk hr kk
  case aload_n => exact m_ok_aload_n hF hdg hk hr kk
  case istore => exact m_ok_istore hF hdg hk hr kk
  case istore_n => exact m_ok_istore_n hF hdg hk hr kk
  case astore => exact m_ok_astore hF hdg hk hr kk
  case astore_n => exact m_ok_astore_n hF hdg hk hr kk
  case lstore => exact m_ok_lstore hF hdg hk hr kk
  case lstore_n => exact m_ok_lstore_n hF hdg hk hr kk
  case iinc => exact m_ok_iinc hF hdg hk hr kk
  case iadd => exact m_ok_iadd hF hdg hk hr kk
  case isub => exact m_ok_isub hF hdg hk hr kk
  case imul => exact m_ok_imul hF hdg hk hr kk
  case idiv => exact m_ok_idiv hF hdg hk hr kk
  case irem => exact m_ok_irem hF hdg hk hr kk
  case iand => exact m_ok_iand hF hdg hk hr kk
  case ior => exact m_ok_ior hF hdg hk hr kk
  case ixor => exact m_ok_ixor hF hdg hk hr kk
  case ishl => exact m_ok_ishl hF hdg hk hr kk
  case ishr => exact m_ok_ishr hF hdg hk hr kk
  case iushr => exact m_ok_iushr hF hdg hk hr kk
  case ladd => exact m_ok_ladd hF hdg hk hr kk
  case lmul => exact m_ok_lmul hF hdg hk hr kk
  case land => exact m_ok_land hF hdg hk hr kk
  case lor => exact m_ok_lor hF hdg hk hr kk
  case lshl => exact m_ok_lshl hF hdg hk hr kk
  case lshr => exact m_ok_lshr hF hdg hk hr kk
  case lushr => exact m_ok_lushr hF hdg hk hr kk
  case lcmp => exact m_ok_lcmp hF hdg hk hr kk
  case i2l => exact m_ok_i2l hF hdg hk hr kk
  case l2i => exact m_ok_l2i hF hdg hk hr kk
  case i2b => exact m_ok_i2b hF hdg hk hr kk
  case i2s => exact m_ok_i2s hF hdg hk hr kk
  case dup => exact m_ok_dup hF hdg hk hr kk
  case dup_x1 => exact m_ok_dup_x1 hF hdg hk hr kk
  case dup2 => exact m_ok_dup2 hF hdg hk hr kk
  case pop => exact m_ok_pop hF hdg hk hr kk
  case getfield => exact m_ok_getfield hF hdg hk hr kk
  case putfield => exact m_ok_putfield hF hdg hk hr kk
  case iaload => exact m_ok_iaload hF hSc hdg hk hr kk
  case baload => exact m_ok_baload hF hdg hk hr kk
  case aaload => exact m_ok_aaload hF hdg hk hr kk
  case iastore => exact m_ok_iastore hF hdg hk hr kk
  case bastore => exact m_ok_bastore hF hdg hk hr kk
  case aastore => exact m_ok_aastore hF hE hdg hk hr kk
  case arraylength => exact m_ok_arraylength hF hSc hdg hk hr kk
  case new => exact m_ok_new hF hRm hdg hk hr kk
  case newarray => exact m_ok_newarray hF hRm hdg hk hr kk
  case anewarray => exact m_ok_anewarray hF hE hRm hdg hk hr kk
  case multianewarray => exact m_ok_multianewarray hF hE hRm hdg hk hr kk
  all_goals (simp only [m_1] at hr; cases hr)
end MI
end
section
/-! CALLS: what a method's contract is, over the whole world; how a call runs by it -/
def m_mt (k : Nat) : MethodName × ByteArray × Nat × Option FieldType × Nat × Nat := bif Nat.ble 900 k then (mJt[k - 900]?).getD (yL_law, cL_law, 4, ret, 0, 0) else (mMt[k]?).getD (yL_law, cL_law, 4, ret, 0, 0)
abbrev m_y (k : Nat) : MethodName := (m_mt k).1
abbrev m_by (k : Nat) : ByteArray := (m_mt k).2.1
abbrev m_mx (k : Nat) : Nat := (m_mt k).2.2.1
abbrev m_rt (k : Nat) : Option FieldType := (m_mt k).2.2.2.1
def m_mws (k : Nat) : List Jvm.Cond := Cond.code (m_y k) (m_by k) (m_mx k) (m_rt k) :: mTT
def m_okk (k : Nat) : Bool := m_w (m_mt k).2.2.2.2.1 (.code (m_y k) (m_by k) (m_mx k) (m_rt k)) && m_w (m_mt k).2.2.2.2.2 (.initialized (m_y k).cls) && decide ((m_y k).cls ≠ "java/lang/invoke/MethodHandle") && decide ((m_y k).cls ≠ "java/lang/invoke/VarHandle") && Nat.ble (m_mx k) 21
def m_na (y : MethodName) (n : Nat) : Bool := decide ((parseMethodDescriptor y.desc).map (fun d => d.parameters.length) = some n)
def m_tln : List Nat := m_txt.map List.length
/-- the text constants and the statics that their methods read -/
def m_TX (ad : Nat → Nat) (A : Nat → Prop) (U : State) (H : Heap) : Prop := m_Tx U ad ∧ (∃ adV : Nat → Nat, vk_S 6 m_tln m_txt (fun j => ad (m_str0 + j)) adV A U H) ∧ va_Z "java/lang/String" "COMPACT_STRINGS" "Z" (.int 1) A U H ∧ ∃ v : Value, v.category = 1 ∧ va_Z "jdk/internal/util/Preconditions" "SIOOBE_FORMATTER" "Ljava/util/function/BiFunction;" v A U H
def m_Fr (dA : Nat → ClassId) (ad : Nat → Nat) (B : Nat) (h : mH) : Nat → Prop := va_A (m_ws dA ad h) (B + h.1.length)
def m_Pre (D : va_G) (dA : Nat → ClassId) (ad : Nat → Nat) (B : Nat) (h : mH) (U : State) : Prop :=
  U.heap.size = B + h.1.length ∧ va_P D m_cl (m_ws dA ad h) U.heap ∧ va_K D m_cl (m_tys dA) U ∧ va_D (fun _ => True) (m_ws dA ad h) ∧ m_Ex U ∧ m_TX ad (m_Fr dA ad B h) U U.heap
def m_Q (D : va_G) (dA : Nat → ClassId) (ad : Nat → Nat) (B : Nat) (h : mH) (r : Option Value) (h' : mH) : Array Value → State → Outcome → State → Prop := fun _ st oc t =>
  (oc = .returned r ∧ t.heap.size = B + h'.1.length ∧ va_P D m_cl (m_ws dA ad h') t.heap ∧ va_D (m_Fr dA ad B h) (m_ws dA ad h')) ∧ va_F (m_Fr dA ad B h) st t
def m_rm (d mc ms : Nat) : Room := { frames := d + 1, cells := mc, slots := ms, locals := 40 * (d + 1) }
def m_Met (l : Launch) (D : va_G) (dA : Nat → ClassId) (ad : Nat → Nat) (B d k : Nat) (as : List Value) (h : mH) (r : Option Value) (h' : mH) : Prop :=
  Met l (m_y k) (m_mws k) (m_rm d (h'.1.length - h.1.length) (m_sz h' - m_sz h)) (va_Pc (as.map (m_v ad)) (m_Pre D dA ad B h)) (m_Q D dA ad B h r h') (h'.1.length - h.1.length) (m_sz h' - m_sz h) (m_Fr dA ad B h)
def m_nr (r : Option Value) : Prop := ∀ ad : Nat → Nat, r.toList.map (m_v ad) = r.toList
/-- what is known of the methods that a frame calls, at most so deep -/
def m_Cal (l : Launch) (D : va_G) (dA : Nat → ClassId) (ad : Nat → Nat) (B : Nat) (cal : mK) (d : Nat) : Prop := ∀ (k : Nat) (as : List Value) (h : mH) (w : Option Value) (h' : mH), cal k as h = some (w, h') → m_le h h' ∧ m_nr w ∧ (h'.1.length ≤ m_str0 → ∃ d' : Nat, d' < d ∧ m_Met l D dA ad B d' k as h w h')
/-- a frame's room: so deep -/
def m_Dp (R : Room) (d : Nat) : Prop := d + 1 ≤ R.frames ∧ 40 * (d + 1) ≤ R.locals
theorem m_goodTT : ∀ w ∈ mTT, goodWord w = true := fun w h => (List.mem_filter.mp h).2
theorem m_good {k : Nat} (h : m_okk k = true) : GoodIn mTT (m_mws k) := by
  simp only [m_okk, Bool.and_eq_true] at h
  intro w hw
  rcases List.mem_cons.mp hw with rfl | hw
  · exact ⟨m_w_in h.1.1.1.1, good_of_word (m_goodTT _ (m_w_in h.1.1.1.1))⟩
  · exact ⟨hw, good_of_word (m_goodTT _ hw)⟩
theorem m_AOA.moved {u U : State} (hvm : u.vm.Alike U.vm) (h : m_AOA u) : m_AOA U := by
  unfold m_AOA Cond.before Cond.holds at h ⊢
  simp only [Cond.value, beq_iff_eq] at h ⊢
  rw [Option.bind_eq_some_iff] at h
  obtain ⟨comp, h1, h⟩ := h
  rw [Option.bind_eq_some_iff] at h
  obtain ⟨c, h2, h⟩ := h
  rw [Option.map_eq_some_iff] at h
  obtain ⟨k, h3, h4⟩ := h
  obtain ⟨k', hk', he⟩ := hvm.2.2 _ _ h3
  refine Option.bind_eq_some_iff.mpr ⟨comp, by rw [hvm.findClass]; exact h1, Option.bind_eq_some_iff.mpr ⟨c, ?_, Option.map_eq_some_iff.mpr ⟨k', hk', ?_⟩⟩⟩
  · refine (va_idx_bare U.vm comp).symm.trans ?_
    rw [hvm.bare_eq]
    exact (va_idx_bare u.vm comp).trans h2
  · rw [hvm.findClass]
    have e : k'.kind = k.kind := by rw [he]
    rw [e]
    exact h4
theorem m_Ex.warm {s U : State} (hW : s.WarmedH U.vm) (h : m_Ex s) : m_Ex U := ⟨h.1.moved hW.alike, h.2.1.moved hW.alike, fun C hC => (h.2.2.1 C hC).warmC hW, fun q hq => (h.2.2.2 q hq).warmM hW⟩
theorem m_Ex.same {u U : State} (hv : u.vm = U.vm) (h : m_Ex u) : m_Ex U := ⟨h.1.moved (by rw [hv]; exact Vm.Alike.refl _), h.2.1.moved (by rw [hv]; exact Vm.Alike.refl _), fun C hC => (h.2.2.1 C hC).same rfl hv, fun q hq => (h.2.2.2 q hq).same rfl hv⟩
theorem m_TX.warm {ad : Nat → Nat} {A B : Nat → Prop} {s U : State} {H : Heap} (hW : s.WarmedH U.vm) (h : m_TX ad A s s.heap) (hk : ∀ a, a < s.heap.size → ¬ A a → H[a]? = s.heap[a]?) (hAB : ∀ q, B q → A q) : m_TX ad B U H := by
  obtain ⟨h1, ⟨adV, h2⟩, h3, v, hv9, h4⟩ := h
  refine ⟨fun j q hj => (h1 j q hj).warm hW, ⟨adV, ((h2.kept hk).narrow hAB).moved hW.alike⟩, ?_, v, hv9, ?_⟩
  · first | exact ((h3.kept hk).narrow hAB).moved hW.alike | exact ((h3.moved hW.alike).kept hk).narrow hAB
  · first | exact ((h4.kept hk).narrow hAB).moved hW.alike | exact ((h4.moved hW.alike).kept hk).narrow hAB
theorem m_TX.same {ad : Nat → Nat} {A : Nat → Prop} {u U : State} {H : Heap} (hv : u.vm = U.vm) (h : m_TX ad A u H) : m_TX ad A U H := by
  obtain ⟨h1, ⟨adV, h2⟩, h3, v, hv9, h4⟩ := h
  have ha : u.vm.Alike U.vm := by rw [hv]; exact Vm.Alike.refl _
  exact ⟨fun j q hj => (h1 j q hj).same hv.symm, ⟨adV, h2.moved ha⟩, h3.moved ha, v, hv9, h4.moved ha⟩
theorem m_blind {D : va_G} {dA : Nat → ClassId} {ad : Nat → Nat} {B : Nat} {h : mH} {av : List Value} : FrameBlind (va_Pc av (m_Pre D dA ad B h)) := by
  intro a U g mk q
  obtain ⟨q1, q2, q3, q4, q5, q6, q7⟩ := q
  exact ⟨q1, q2, q3, va_K.moved (u := U) (U := U.calling g mk a) (Vm.Alike.refl U.vm) q4, q5, q6.same rfl, q7.same rfl⟩
def m_cn (c : Nat) : Option String := bif Nat.beq c 300 then some "java/lang/String" else (m_cl[c]?).map (·.1)
/-- what a program decides of a call of an object's method -/
def m_ckV (own : String) (idx : Nat) (ds : List (List Nat)) : Bool :=
  match m_d (m_hd ds) 2 with
  | 0 => (ds.drop 1).all fun d => m_okk (m_d d 1) && (match m_cn (m_d d 0) with
    | none => false
    | some C => m_w (m_d (m_hd ds) 1) (.methodLink own idx (m_y (m_d d 1))) && m_w (m_d d 3) (.instanceMethod (m_y (m_d d 1))) && m_w (m_d d 2) (.selects C (m_y (m_d d 1)) (m_y (m_d d 1))) && m_na (m_y (m_d d 1)) (m_d (m_hd ds) 0))
  | _ => match m_tw (m_d (m_hd ds) 1), m_tw (m_d (m_hd ds) 3), m_tw (m_d (m_hd ds) 5) with
    | some (.methodLink o i x), some (.sameMethod r ow nm2 dd), some (.code z _ _ _) => decide (o = own) && decide (i = idx) && decide (r = x.cls) && decide (nm2 = x.name) && decide (dd = x.desc) && decide (z = ⟨ow, x.name, x.desc⟩) && m_w (m_d (m_hd ds) 4) (.instanceMethod ⟨ow, x.name, x.desc⟩) && decide (ow ≠ "java/lang/invoke/MethodHandle") && decide (ow ≠ "java/lang/invoke/VarHandle") && m_na x (m_d (m_hd ds) 0) &&
      (ds.drop 1).all fun d => m_okk (m_d d 1) && (match m_cn (m_d d 0) with
        | none => false
        | some C => m_w (m_d d 2) (.selects C x (m_y (m_d d 1))) && m_w (m_d d 3) (.instanceMethod (m_y (m_d d 1))))
    | _, _, _ => false
/-- .. of a static method -/
def m_ckS (own : String) (idx : Nat) (ds : List (List Nat)) : Bool :=
  bif Nat.beq (m_d (m_hd ds) 1) 998 then m_w (m_d (m_hd ds) 2) (.methodLink own idx arraycopyName) && m_w (m_d (m_hd ds) 3) (.native arraycopyName) && m_w (m_d (m_hd ds) 4) (.static arraycopyName) && m_w (m_d (m_hd ds) 5) (.initialized "java/lang/System")
  else bif Nat.beq (m_d (m_hd ds) 1) 995 then m_w (m_d (m_hd ds) 2) (.methodLink own idx Lib.Math.max.name) && m_w (m_d (m_hd ds) 3) (.static Lib.Math.max.name) && m_w (m_d (m_hd ds) 4) (.initialized "java/lang/Math") && m_w (m_d (m_hd ds) 5) (.code Lib.Math.max.name Lib.Math.max.code 2 (some .int))
  else bif Nat.beq (m_d (m_hd ds) 1) 996 then m_w (m_d (m_hd ds) 2) (.methodLink own idx Lib.Math.min.name) && m_w (m_d (m_hd ds) 3) (.static Lib.Math.min.name) && m_w (m_d (m_hd ds) 4) (.initialized "java/lang/Math") && m_w (m_d (m_hd ds) 5) (.code Lib.Math.min.name Lib.Math.min.code 2 (some .int))
  else bif Nat.beq (m_d (m_hd ds) 1) 997 then m_w (m_d (m_hd ds) 2) (.methodLink own idx Lib.Math.abs.name) && m_w (m_d (m_hd ds) 3) (.static Lib.Math.abs.name) && m_w (m_d (m_hd ds) 4) (.initialized "java/lang/Math") && m_w (m_d (m_hd ds) 5) (.code Lib.Math.abs.name Lib.Math.abs.code 1 (some .int))
  else m_okk (m_d (m_hd ds) 1) && m_w (m_d (m_hd ds) 3) (.static (m_y (m_d (m_hd ds) 1))) && m_na (m_y (m_d (m_hd ds) 1)) (m_d (m_hd ds) 0) && (match m_d (m_hd ds) 4 with
    | 0 => m_w (m_d (m_hd ds) 2) (.methodLink own idx (m_y (m_d (m_hd ds) 1)))
    | _ => match m_nest[m_d (m_hd ds) 2]? with
      | none => false
      | some q => decide (q.1 = own) && decide (q.2.1 = idx) && decide (q.2.2.1 = m_y (m_d (m_hd ds) 1)))
/-- .. of a constructor, of the superclass's own method -/
def m_ckI (own : String) (idx : Nat) (ds : List (List Nat)) : Bool :=
  bif Nat.beq (m_d (m_hd ds) 1) 999 then m_w (m_d (m_hd ds) 2) (.methodLink own idx objectInit) && m_w (m_d (m_hd ds) 3) (.instanceMethod objectInit) && m_w (m_d (m_hd ds) 4) (.code objectInit ⟨#[0xb1]⟩ 1 none) && decide (m_d (m_hd ds) 0 = 0)
  else m_okk (m_d (m_hd ds) 1) && m_w (m_d (m_hd ds) 3) (.instanceMethod (m_y (m_d (m_hd ds) 1))) && m_na (m_y (m_d (m_hd ds) 1)) (m_d (m_hd ds) 0) && (match m_d (m_hd ds) 4 with
    | 0 => m_w (m_d (m_hd ds) 2) (.methodLink own idx (m_y (m_d (m_hd ds) 1))) && decide ((m_y (m_d (m_hd ds) 1)).name = "<init>") && decide (m_rt (m_d (m_hd ds) 1) = none)
    | 1 => decide ((m_y (m_d (m_hd ds) 1)).name = "<init>") && decide (m_rt (m_d (m_hd ds) 1) = none) && (match m_nest[m_d (m_hd ds) 2]? with
      | none => false
      | some q => decide (q.1 = own) && decide (q.2.1 = idx) && decide (q.2.2.1 = m_y (m_d (m_hd ds) 1)))
    | _ => decide ((m_y (m_d (m_hd ds) 1)).name ≠ "<init>") && (match m_tw (m_d (m_hd ds) 2) with
      | some (.methodLink o i x) => decide (o = own) && decide (i = idx) && decide (x.name = (m_y (m_d (m_hd ds) 1)).name) && decide (x.desc = (m_y (m_d (m_hd ds) 1)).desc) && m_w (m_d ((ds[1]?).getD []) 0) (.sameMethod x.cls (m_y (m_d (m_hd ds) 1)).cls x.name x.desc) && m_w (m_d ((ds[1]?).getD []) 1) (.superclass own x.cls) && (match m_d ((ds[1]?).getD []) 2 with
        | 0 => decide (x.cls = (m_y (m_d (m_hd ds) 1)).cls)
        | t + 1 => m_w t (.superclass x.cls (m_y (m_d (m_hd ds) 1)).cls))
      | _ => false))
section MC
variable {p : Program} {l : Launch} {e : Env} {R : Room} {s : State} {m : MethodId} {args : Array Value} {below : List Frame} {meth : Method} {c : Code} {Q : State → Prop} {cc : ByteArray} {own nm : String} {nL : Nat} {D : va_G} {dA : Nat → ClassId} {ad : Nat → Nat} {A : Nat → Prop} {B N0 S0 : Nat} {pc n d : Nat} {ds : List (List Nat)} {lo lo' : mL} {os os' : List Value} {h h1 : mH} {w : Option Value} {k : Nat} {H : Heap} {locs : List Loc} {cells slots : Nat} {ls : Array Slot}
theorem m_Fr_in (hA : ∀ q, s.heap.size ≤ q → A q) (hN : m_Nw s nL D dA ad A B N0 S0 lo h H locs cells slots ls) : ∀ q, m_Fr dA ad B h q → A q := by
  intro q hq
  rcases hq with ⟨k, e, hk⟩ | hq
  · exact hN.2.1.2 k _ hk
  · exact hA q (Nat.le_trans hN.2.2.1.1 (by rw [hN.2.2.2.1]; exact hq))
theorem m_pre_of (hF : m_Fx p s m args meth c cc own nm nL D dA ad A B) (hE : m_Ex s) (hT : m_TX ad A s s.heap) (hN : m_Nw s nL D dA ad A B N0 S0 lo h H locs cells slots ls) (av : List Value) : ∀ U : State, U.heap = H → s.WarmedH U.vm → va_Pc av (m_Pre D dA ad B h) av.toArray U := by
  intro U hU hW
  refine ⟨rfl, by rw [hU]; exact hN.2.2.2.1, by rw [hU]; exact hN.1, va_K.moved hW.alike hF.2.2.2.2.2.1, hN.2.1.weaken (fun _ _ _ _ => trivial), hE.warm hW, ?_⟩
  rw [hU]
  exact hT.warm hW hN.2.2.1.2.1 (m_Fr_in hF.2.2.2.2.2.2.1 hN)
theorem m_after (hF : m_Fx p s m args meth c cc own nm nL D dA ad A B) (hN : m_Nw s nL D dA ad A B N0 S0 lo h H locs cells slots ls) (hle : m_le h h1) (hnr : m_nr w) {rest st0 : List Value} {a : Array Value} (hr : va_Run p l e R s m args below meth c H locs cells slots (h1.1.length - h.1.length) (m_sz h1 - m_sz h) (F0 m pc ls st0) (rest.map (m_v ad)) (m_Q D dA ad B h w h1 a) (m_Fr dA ad B h)) (kk : m_W p l e R s m args below meth c Q nL D dA ad A B N0 S0 (pc + 3) lo (w.toList ++ rest) h1) : W p l e R s m args below meth c H locs cells slots Q (F0 m pc ls st0) := by
  intro T hT X
  obtain ⟨v, st₀, t, T', L, h0, X', hL, e1, e2, ⟨⟨hv, hz1, hP1, hD1⟩, hz, hkp⟩, st⟩ := hr T hT X
  have hvw : v = w := by simpa using hv
  subst hvw
  rw [h0] at hz hkp
  have hin := m_Fr_in hF.2.2.2.2.2.2.1 hN
  obtain ⟨gP, gD, gS, gZ, gC, gL, gl⟩ := hN
  have k2 := kk T'.heap (locs ++ L) (cells + (h1.1.length - h.1.length)) (slots + (m_sz h1 - m_sz h)) ls ⟨by rw [e1]; exact hP1, hD1.weaken (fun _ q _ hq => hin _ hq), ⟨Nat.le_trans gS.1 (by rw [e1]; exact hz), fun q q1 q2 => by rw [e1, hkp q (Nat.lt_of_lt_of_le q1 gS.1) (fun z => q2 (hin q z))]; exact gS.2.1 q q1 q2, fun q hq => by
      rcases List.mem_append.mp hq with h | h
      · exact gS.2.2 q h
      · exact hin _ (hL q h)⟩, by rw [e1]; exact hz1, by have := hle.1; omega, by have := hle.2; omega, gl⟩
  rw [List.map_append, hnr ad] at k2
  obtain ⟨t2, a1, b1⟩ := k2 T' rfl X'
  exact ⟨t2, st t2 a1, b1⟩
theorem m_okk_spec (hk : m_okk k = true) (hts : ∀ w ∈ mTT, w.before args s = true) : (Cond.code (m_y k) (m_by k) (m_mx k) (m_rt k)).before args s = true ∧ (Cond.initialized (m_y k).cls).before args s = true ∧ (m_y k).cls ≠ "java/lang/invoke/MethodHandle" ∧ (m_y k).cls ≠ "java/lang/invoke/VarHandle" ∧ m_mx k ≤ 21 := by
  simp only [m_okk, Bool.and_eq_true, decide_eq_true_eq] at hk
  exact ⟨hts _ (m_w_in hk.1.1.1.1), hts _ (m_w_in hk.1.1.1.2), hk.1.1.2, hk.1.2, Nat.le_of_ble_eq_true hk.2⟩
theorem m_na_spec {y : MethodName} (hn : m_na y n = true) : ∀ sig, parseMethodDescriptor y.desc = some sig → n = sig.parameters.length := by
  intro sig hs
  simp only [m_na, decide_eq_true_eq] at hn
  rw [hs] at hn
  exact (Option.some.inj hn).symm
/-- the object that a call is of: its class -/
theorem m_recvO (hF : m_Fx p s m args meth c cc own nm nL D dA ad A B) (hN : m_Nw s nL D dA ad A B N0 S0 lo h H locs cells slots ls) {a ci nn : Nat} {rs : List (Option Nat)} {C : String} (hi : h.1[a]? = some (ci, nn, rs)) (hlt : ci < 100) (hc : m_cn ci = some C) : (∃ cellB : Cell, H[ad a]? = some cellB ∧ cellB.vm.isStatics = false ∧ s.vm.findClass C = some cellB.cls) ∧ ∃ cC : ClassId, ClassAt s C cC := by
  unfold m_cn at hc
  have h3 : Nat.beq ci 300 = false := by
    cases hb : Nat.beq ci 300 with
    | false => rfl
    | true => have := Nat.eq_of_beq_eq_true hb; omega
  rw [h3, cond_false] at hc
  cases hq : m_cl[ci]? with
  | none => rw [hq] at hc; cases hc
  | some q =>
    rw [hq] at hc
    cases hc
    have he := m_ws_get (dA := dA) (ad := ad) hi
    rw [m_cel_o dA ad (h.2 a) hlt] at he
    exact ⟨va_recv hF.2.2.2.2.2.1 hN.1 hq he, _, (hF.2.2.2.2.2.1.1 ci q hq).2⟩
theorem m_recvT (hT : m_TX ad A s s.heap) (hN : m_Nw s nL D dA ad A B N0 S0 lo h H locs cells slots ls) {a : Nat} (h1 : m_str0 ≤ a) (h2 : a < m_str0 + 6) : ∃ cellB : Cell, H[ad a]? = some cellB ∧ cellB.vm.isStatics = false ∧ s.vm.findClass "java/lang/String" = some cellB.cls := by
  obtain ⟨-, ⟨adV, hS⟩, -⟩ := hT
  have := vk_recv (i := a - m_str0) hS (by omega) hN.2.2.1
  rw [show m_str0 + (a - m_str0) = a by omega] at this
  exact this
theorem m_pick_spec {a : Nat} {al : List (List Nat)} (hp : m_pick h a al = some k) : ∃ x ∈ al, m_d x 1 = k ∧ ((∃ (ci nn : Nat) (rs : List (Option Nat)), h.1[a]? = some (ci, nn, rs) ∧ ci < 100 ∧ m_d x 0 = ci) ∨ (m_d x 0 = 300 ∧ m_str0 ≤ a ∧ a < m_str0 + 6)) := by
  unfold m_pick at hp
  split at hp
  · rename_i ci nn rs hi
    cases hb : Nat.blt ci 100 with
    | false => rw [hb] at hp; cases hp
    | true =>
      rw [hb, cond_true, Option.map_eq_some_iff] at hp
      obtain ⟨x, hx, rfl⟩ := hp
      exact ⟨x, List.mem_of_find?_eq_some hx, rfl, Or.inl ⟨ci, nn, rs, hi, Nat.blt_eq.mp hb, Nat.eq_of_beq_eq_true (by have := List.find?_some hx; simpa using this)⟩⟩
  · rw [Option.map_eq_some_iff] at hp
    obtain ⟨x, hx, rfl⟩ := hp
    have h3 := List.find?_some hx
    simp only [Bool.and_eq_true] at h3
    exact ⟨x, List.mem_of_find?_eq_some hx, rfl, Or.inr ⟨Nat.eq_of_beq_eq_true h3.1.1, Nat.le_of_ble_eq_true h3.1.2, Nat.blt_eq.mp h3.2⟩⟩
/-- the stack ahead of a call -/
theorem m_stk (ad : Nat → Nat) (os : List Value) (n : Nat) : os.map (m_v ad) = (((os.take n).reverse).map (m_v ad)).reverse ++ (os.drop n).map (m_v ad) := by
  rw [← List.map_reverse, List.reverse_reverse, ← List.map_append, List.take_append_drop]
theorem m_cat_map (ad : Nat → Nat) (os : List Value) : ((os.map (m_v ad)).map fun v => v.category).sum = m_cat os := by
  unfold m_cat
  rw [List.map_map]
  congr 1
  apply List.map_congr_left
  intro v _
  exact m_v_cat ad v
theorem m_take_len {x : Value} {os' : List Value} (hd : os.drop n = x :: os') : (os.take n).length = n := by
  have : n < os.length := by
    rcases Nat.lt_or_ge n os.length with q | q
    · exact q
    · rw [List.drop_eq_nil_of_le q] at hd; cases hd
  rw [List.length_take]; omega
/-- the room that a callee asks -/
theorem m_callB (hF : m_Fx p s m args meth c cc own nm nL D dA ad A B) (hk : m_okk k = true) (hDp : m_Dp R d) {d' mc ms : Nat} (hd : d' < d) : ((m_rm d' mc ms).cells = mc ∧ (m_rm d' mc ms).slots = ms ∧ (m_rm d' mc ms).frames + 1 ≤ R.frames ∧ 8 + (m_mx k + 11) + (m_rm d' mc ms).locals ≤ R.locals ∧ (∀ w ∈ m_mws k, ∀ (a' : Array Value) (U : State), s.WarmedH U.vm → w.before a' U = true) ∧ Cond.code (m_y k) (m_by k) (m_mx k) (m_rt k) ∈ m_mws k) := by
  obtain ⟨h1, h2⟩ := hDp
  have h3 := (m_okk_spec (args := args) (s := s) hk hF.2.2.2.2.1).2.2.2.2
  refine ⟨rfl, rfl, ?_, ?_, pay_in hF.2.2.2.2.1 (m_good hk), List.mem_cons_self⟩
  · show d' + 1 + 1 ≤ R.frames
    omega
  · show 8 + (m_mx k + 11) + 40 * (d' + 1) ≤ R.locals
    omega
theorem m_cells {R : Room} (hN : m_Nw s nL D dA ad A B N0 S0 lo h H locs cells slots ls) (hle : m_le h h1) (hRm : m_Rm R N0 S0 h1) : cells + (h1.1.length - h.1.length) ≤ R.cells ∧ slots + (m_sz h1 - m_sz h) ≤ R.slots := by
  have g1 := hN.2.2.2.2.1
  have g2 := hN.2.2.2.2.2.1
  obtain ⟨r1, r2, -⟩ := hRm
  have := hle.1
  have := hle.2
  constructor <;> omega
theorem m_ok_virtual {cal : mK} {z a : Nat} {os1 : List Value} (hF : m_Fx p s m args meth c cc own nm nL D dA ad A B) (hE : m_Ex s) (hT : m_TX ad A s s.heap) (hDp : m_Dp R d) (hcal : m_Cal l D dA ad B cal d) (hdg : decode cc pc = .ok (.invokevirtual z, 3)) (hck : m_ckV own z ds = true) (hd : os.drop (m_d (m_hd ds) 0) = .ref a :: os1) (hct : m_cat os1 ≤ 8) (hp : m_pick h a (ds.drop 1) = some k) (hr : cal k (.ref a :: (os.take (m_d (m_hd ds) 0)).reverse) h = some (w, h1)) (hRm : m_Rm R N0 S0 h1) (kk : m_W p l e R s m args below meth c Q nL D dA ad A B N0 S0 (pc + 3) lo (w.toList ++ os1) h1) : m_W p l e R s m args below meth c Q nL D dA ad A B N0 S0 pc lo os h := by
  intro H locs cells slots ls hN
  obtain ⟨hle, hnr, hm⟩ := hcal _ _ _ _ _ hr
  obtain ⟨d', hd', hM⟩ := hm hRm.2.2
  obtain ⟨hx, hb, hml, hown, hts, hK, hA, hnm, hB⟩ := id hF
  obtain ⟨x, hxm, rfl, hcase⟩ := m_pick_spec hp
  have hst : (os.map (m_v ad)) = (((os.take (m_d (m_hd ds) 0)).reverse).map (m_v ad)).reverse ++ .ref (ad a) :: os1.map (m_v ad) := by
    rw [m_stk ad os (m_d (m_hd ds) 0), hd]; rfl
  have hroom : 2 * (F0 m pc ls (os.map (m_v ad))).monitorRoom + ((os1.map (m_v ad)).map fun v => v.category).sum ≤ 8 := lv_room (by rw [m_cat_map]; exact hct)
  have hlen : ((((os.take (m_d (m_hd ds) 0)).reverse).map (m_v ad))).length = m_d (m_hd ds) 0 := by
    rw [List.length_map, List.length_reverse]; exact m_take_len hd
  have hpre : ∀ {C : String}, (∃ cellB : Cell, H[ad a]? = some cellB ∧ cellB.vm.isStatics = false ∧ s.vm.findClass C = some cellB.cls) → PreV s H C (ad a) (va_Pc ((Value.ref a :: (os.take (m_d (m_hd ds) 0)).reverse).map (m_v ad)) (m_Pre D dA ad B h)) (((os.take (m_d (m_hd ds) 0)).reverse).map (m_v ad)) := fun hc => ⟨m_blind, hc, m_pre_of hF hE hT hN _⟩
  have hrecv : ∀ {C : String}, m_cn (m_d x 0) = some C → ∃ cellB : Cell, H[ad a]? = some cellB ∧ cellB.vm.isStatics = false ∧ s.vm.findClass C = some cellB.cls := by
    intro C hC
    rcases hcase with ⟨ci, nn, rs, hi, hlt, hci⟩ | ⟨h3, h4, h5⟩
    · exact (m_recvO hF hN hi hlt (by rw [← hci]; exact hC)).1
    · rw [h3] at hC
      cases hC
      exact m_recvT hT hN h4 h5
  have S : CallFix p m c cc nL s args mTT own := ⟨hx, hb, hml, hown, hts⟩
  unfold m_ckV at hck
  split at hck
  · have h3 := List.all_eq_true.mp hck x hxm
    simp only [Bool.and_eq_true] at h3
    obtain ⟨hok, h3⟩ := h3
    obtain ⟨g1, g2, g3, g4, g5⟩ := m_okk_spec hok hts
    split at h3
    · cases h3
    · rename_i C hC
      simp only [Bool.and_eq_true] at h3
      obtain ⟨⟨⟨w1, w2⟩, w3⟩, w4⟩ := h3
      obtain ⟨b1, b2, b3, b4, b5, b6⟩ := m_callB (mc := h1.1.length - h.1.length) (ms := m_sz h1 - m_sz h) hF hok hDp hd'
      refine m_after (a := (Value.ref (ad a) :: ((os.take (m_d (m_hd ds) 0)).reverse).map (m_v ad)).toArray) hF hN hle hnr ?_ kk
      exact va_runV (C := C) (n := m_d (m_hd ds) 0) (rest := os1.map (m_v ad)) S hM ⟨⟨b1, b2, b3, b4, b5, b6, g1, g2, ⟨g3, g4⟩, m_na_spec w4, hts _ (m_w_in w1)⟩, hts _ (m_w_in w2), hts _ (m_w_in w3)⟩ (hpre (hrecv hC)) rfl hlen hN.2.2.2.2.2.2.1 hst hroom hdg (m_cells hN hle hRm)
  · split at hck
    · rename_i o i y r ow nm2 dd z2 b0 m0 r0 q1 q2 q3
      simp only [Bool.and_eq_true, decide_eq_true_eq] at hck
      obtain ⟨⟨⟨⟨⟨⟨⟨⟨⟨⟨rfl, rfl⟩, rfl⟩, rfl⟩, rfl⟩, rfl⟩, w0⟩, n1⟩, n2⟩, w4⟩, hall⟩ := hck
      have h3 := List.all_eq_true.mp hall x hxm
      simp only [Bool.and_eq_true] at h3
      obtain ⟨hok, h3⟩ := h3
      obtain ⟨g1, g2, g3, g4, g5⟩ := m_okk_spec hok hts
      split at h3
      · cases h3
      · rename_i C hC
        simp only [Bool.and_eq_true] at h3
        obtain ⟨w1, w2⟩ := h3
        obtain ⟨b1, b2, b3, b4, b5, b6⟩ := m_callB (mc := h1.1.length - h.1.length) (ms := m_sz h1 - m_sz h) hF hok hDp hd'
        refine m_after (a := (Value.ref (ad a) :: ((os.take (m_d (m_hd ds) 0)).reverse).map (m_v ad)).toArray) hF hN hle hnr ?_ kk
        exact va_runU (x := y) (owner := ow) (C := C) (n := m_d (m_hd ds) 0) (rest := os1.map (m_v ad)) S hM ⟨⟨b1, b2, b3, b4, b5, b6⟩, g1, g2, ⟨n1, n2⟩, m_na_spec w4, hts _ (m_tw_in q1 rfl), hts _ (m_tw_in q2 rfl), va_Decl.of (hts _ (m_w_in w0)) (hts _ (m_tw_in q3 rfl)), hts _ (m_w_in w1), hts _ (m_w_in w2)⟩ (hpre (hrecv hC)) rfl hlen hN.2.2.2.2.2.2.1 hst hroom hdg (m_cells hN hle hRm)
    · cases hck
end MC
end
section
/-! CALLS, THE OTHER KINDS; branches, switches; blocks; methods -/
section MC2
variable {p : Program} {l : Launch} {e : Env} {R : Room} {s : State} {m : MethodId} {args : Array Value} {below : List Frame} {meth : Method} {c : Code} {Q : State → Prop} {cc : ByteArray} {own nm : String} {nL : Nat} {D : va_G} {dA : Nat → ClassId} {ad : Nat → Nat} {A : Nat → Prop} {B N0 S0 : Nat} {pc n d : Nat} {ds : List (List Nat)} {lo lo' : mL} {os os' : List Value} {h h1 : mH} {w : Option Value} {k : Nat} {H : Heap} {locs : List Loc} {cells slots : Nat} {ls : Array Slot}
theorem m_ok_static {cal : mK} {z : Nat} (hF : m_Fx p s m args meth c cc own nm nL D dA ad A B) (hE : m_Ex s) (hT : m_TX ad A s s.heap) (hDp : m_Dp R d) (hcal : m_Cal l D dA ad B cal d) (hdg : decode cc pc = .ok (.invokestatic z, 3)) (hck : m_ckS own z ds = true) (hn : Nat.ble 995 (m_d (m_hd ds) 1) = false) (hr : cal (m_d (m_hd ds) 1) (os.take (m_d (m_hd ds) 0)).reverse h = some (w, h1)) (hlen0 : m_d (m_hd ds) 0 ≤ os.length) (hct : m_cat (os.drop (m_d (m_hd ds) 0)) ≤ 8) (hRm : m_Rm R N0 S0 h1) (kk : m_W p l e R s m args below meth c Q nL D dA ad A B N0 S0 (pc + 3) lo (w.toList ++ os.drop (m_d (m_hd ds) 0)) h1) : m_W p l e R s m args below meth c Q nL D dA ad A B N0 S0 pc lo os h := by
  intro H locs cells slots ls hN
  obtain ⟨hle, hnr, hm⟩ := hcal _ _ _ _ _ hr
  obtain ⟨d', hd', hM⟩ := hm hRm.2.2
  obtain ⟨hx, hb, hml, hown, hts, hK, hA, hnm, hB⟩ := id hF
  have hst : (os.map (m_v ad)) = (((os.take (m_d (m_hd ds) 0)).reverse).map (m_v ad)).reverse ++ (os.drop (m_d (m_hd ds) 0)).map (m_v ad) := m_stk ad os _
  have hroom : 2 * (F0 m pc ls (os.map (m_v ad))).monitorRoom + (((os.drop (m_d (m_hd ds) 0)).map (m_v ad)).map fun v => v.category).sum ≤ 8 := lv_room (by rw [m_cat_map]; exact hct)
  have hlen : ((((os.take (m_d (m_hd ds) 0)).reverse).map (m_v ad))).length = m_d (m_hd ds) 0 := by
    rw [List.length_map, List.length_reverse, List.length_take]; omega
  have hpre : PreS s H (va_Pc (((os.take (m_d (m_hd ds) 0)).reverse).map (m_v ad)) (m_Pre D dA ad B h)) (((os.take (m_d (m_hd ds) 0)).reverse).map (m_v ad)) := ⟨m_blind, m_pre_of hF hE hT hN _⟩
  have S : CallFix p m c cc nL s args mTT own := ⟨hx, hb, hml, hown, hts⟩
  have hlt : m_d (m_hd ds) 1 < 995 := by
    rcases Nat.lt_or_ge (m_d (m_hd ds) 1) 995 with q | q
    · exact q
    · rw [Nat.ble_eq_true_of_le q] at hn; cases hn
  have hbq : ∀ j, 995 ≤ j → Nat.beq (m_d (m_hd ds) 1) j = false := fun j hj => by
    cases hb : Nat.beq (m_d (m_hd ds) 1) j with
    | false => rfl
    | true => have := Nat.eq_of_beq_eq_true hb; omega
  unfold m_ckS at hck
  rw [hbq 998 (by omega), hbq 995 (by omega), hbq 996 (by omega), hbq 997 (by omega), cond_false, cond_false, cond_false, cond_false] at hck
  simp only [Bool.and_eq_true] at hck
  obtain ⟨⟨⟨hok, w1⟩, w2⟩, h3⟩ := hck
  obtain ⟨g1, g2, g3, g4, g5⟩ := m_okk_spec hok hts
  obtain ⟨b1, b2, b3, b4, b5, b6⟩ := m_callB (mc := h1.1.length - h.1.length) (ms := m_sz h1 - m_sz h) hF hok hDp hd'
  refine m_after (a := (((os.take (m_d (m_hd ds) 0)).reverse).map (m_v ad)).toArray) hF hN hle hnr ?_ kk
  split at h3
  · exact va_runS (n := m_d (m_hd ds) 0) (rest := (os.drop (m_d (m_hd ds) 0)).map (m_v ad)) S hM ⟨⟨b1, b2, b3, b4, b5, b6, g1, g2, ⟨g3, g4⟩, m_na_spec w2, hts _ (m_w_in h3)⟩, hts _ (m_w_in w1)⟩ hpre rfl hlen hN.2.2.2.2.2.2.1 hst hroom hdg (m_cells hN hle hRm)
  · split at h3
    · cases h3
    · rename_i q hq
      simp only [Bool.and_eq_true, decide_eq_true_eq] at h3
      obtain ⟨⟨e1, e2⟩, e3⟩ := h3
      have hz := hE.2.2.2 q (List.mem_of_getElem? hq)
      rw [e1, e2, e3] at hz
      exact va_runSN (n := m_d (m_hd ds) 0) (rest := (os.drop (m_d (m_hd ds) 0)).map (m_v ad)) S hM ⟨⟨⟨b1, b2, b3, b4, b5, b6⟩, g1, g2, ⟨g3, g4⟩, m_na_spec w2, va_Nw.use rfl hz⟩, hts _ (m_w_in w1), trivial⟩ hpre rfl hlen hN.2.2.2.2.2.2.1 hst hroom hdg (m_cells hN hle hRm)
/-- super.m(..) of a method that the superclass may have inherited -/
theorem m_runSU {x y : MethodName} {bytes : ByteArray} {maxL mc ms index : Nat} {ret : Option FieldType} {ws : List Jvm.Cond} {rm : Room} {Pc : Array Value → State → Prop} {Qc : Array Value → State → Outcome → State → Prop} {free : Addr → Prop} {Ts : List Jvm.Cond} {C : String} {cC : ClassId} {b : Addr} {As rest : List Value} {g : JFrame}
    (hat : ClassAt s C cC) (S : CallFix p m c cc nL s args Ts own) (hM : Met l y ws rm Pc Qc mc ms free)
    (cw : rm.cells = mc ∧ rm.slots = ms ∧ rm.frames + 1 ≤ R.frames ∧ 8 + (maxL + 11) + rm.locals ≤ R.locals ∧ (∀ w ∈ ws, ∀ (a' : Array Value) (U : State), s.WarmedH U.vm → w.before a' U = true) ∧ Cond.code y bytes maxL ret ∈ ws) (hxn : x.name = y.name) (hxd : x.desc = y.desc)
    (hlink : (Cond.methodLink own index x).before args s = true) (hsame : (Cond.sameMethod x.cls y.cls x.name x.desc).before args s = true) (hsup : (Cond.superclass own x.cls).before args s = true) (hsup2 : x.cls = y.cls ∨ (Cond.superclass x.cls y.cls).before args s = true) (hinst : (Cond.instanceMethod y).before args s = true) (hini : (Cond.initialized y.cls).before args s = true) (hcode : (Cond.code y bytes maxL ret).before args s = true) (hno : y.name ≠ "<init>") (hlen : ∀ sig, parseMethodDescriptor y.desc = some sig → n = sig.parameters.length) (hp : PreV s H C b Pc As)
    (hg : g.method = m) (hn : As.length = n) (hsize : g.locals.size = nL) (hstack : g.stack = As.reverse ++ .ref b :: rest) (hW : 2 * g.monitorRoom + (rest.map fun v => v.category).sum ≤ 8) (hdg : decode cc g.pc = .ok (.invokespecial index, 3)) (hf : cells + mc ≤ R.cells ∧ slots + ms ≤ R.slots) :
    va_Run p l e R s m args below meth c H locs cells slots mc ms g rest (Qc (Value.ref b :: As).toArray) (free) := by
  obtain ⟨hrc, hrs, hfr, hlo, hws, hcw⟩ := cw
  have hK : Back l R p e below s args y 3 8 (PreOf R mc ms Pc) (PostOf Qc mc ms free) := back_of (bytes := bytes) (maxL := maxL) (ret := ret) hM hp.1 hrc hrs hfr hlo hws hcw (fun a' U hW => word_at hW (Or.inl (by first | rfl | simp [Cond.onTables, Cond.keeps, Cond.steady])) hini)
  obtain ⟨hx, hb, hml, ho, -⟩ := S
  obtain ⟨-, ⟨cellB, hcB, hoB, hclB⟩, hPc⟩ := hp
  obtain ⟨hfc, kB, hkB, -⟩ := hat
  cases hfc.symm.trans hclB
  obtain ⟨mk, methM, hnamed, hmethM, hstM, habM⟩ := Cond.instanceMethod_spec hinst
  obtain ⟨methM', cM, hmethM', -, -, -, -, -, -, hsigM⟩ := Cond.code_spec hnamed hcode
  cases hmethM.symm.trans hmethM'
  obtain ⟨ps, dk, kp, hps, hdk, hkp, hsuper, -, -, hnid⟩ := Cond.superclass_spec ho hsup
  have hnm : s.methodNamed? ⟨y.cls, x.name, x.desc⟩ = some mk := by rw [hxn, hxd]; exact hnamed
  have hmk := findClass_of_methodNamed hnamed
  have hsub : s.vm.isSubclass ps mk.cls = true := by
    rcases hsup2 with hq | hq
    · have : ps = mk.cls := Option.some.inj (hps.symm.trans (by rw [hq]; exact hmk))
      rw [this]; simp [Vm.isSubclass, Vm.isSubclassAux]
    · obtain ⟨p2, k2, kp2, hp2, hk2, hkp2, hs2, -, -, -⟩ := Cond.superclass_spec hps hq
      have e2 : p2 = mk.cls := Option.some.inj (hp2.symm.trans hmk)
      have hpos : 0 < s.vm.classes.size := Nat.lt_of_le_of_lt (Nat.zero_le _) (Array.getElem?_eq_some_iff.mp hk2).1
      obtain ⟨z, hz⟩ : ∃ z, s.vm.classes.size = z + 1 := ⟨s.vm.classes.size - 1, by omega⟩
      unfold Vm.isSubclass
      rw [hz]
      unfold Vm.isSubclassAux
      rw [hk2]
      simp only [hs2]
      unfold Vm.isSubclassAux
      simp [e2]
  intro T hT X
  obtain ⟨vm₁, X₁, hstep₁⟩ := X.invokespecialUp hx ho hlink hsame hnm hmethM hstM habM (by rw [hxn]; exact hno) hdk hnid hps hsuper hsub (a := b) (cell := cellB) (by rw [hT]; exact hcB)
    (fun z h => by rw [h] at hoB; cases hoB) hkB (g := g) hg (argsL := As) (rest := rest) (hn.trans (hlen _ hsigM)) hstack (by rw [hb]; exact hdg)
  obtain ⟨v, BB, X', ⟨g', mk', t, L, e1, e2, hq, h1, hL, h2, h3⟩, hsteps⟩ := hK m meth c ⟨T.setVm vm₁, locs, cells, slots⟩ { g with stack := rest } (.invokespecial index) mk (Value.ref b :: As).toArray X₁ hg (hsize.trans hml.symm) (by rw [hb]; exact hdg) hW (X₁.named hnamed) ⟨hf.1, hf.2, hPc (T.setVm vm₁) hT X₁.warmed⟩
  obtain ⟨U', l2, c2, s2⟩ := BB
  dsimp only [Pt.U, Pt.locs, Pt.cells, Pt.slots] at X' e1 e2 h1 h2 h3 hsteps
  subst h1; subst h2; subst h3
  exact ⟨v, (T.setVm vm₁).calling g' mk' (Value.ref b :: As).toArray, t, U', L, hT, X', hL, e1, e2, hq, fun target h => hstep₁ _ (by rw [doInvoke_state]; exact hsteps.trans h)⟩
theorem m_ok_objInit {z a : Nat} {os1 : List Value} (hF : m_Fx p s m args meth c cc own nm nL D dA ad A B) (hDp : m_Dp R d) (hdg : decode cc pc = .ok (.invokespecial z, 3)) (hck : m_ckI own z ds = true) (hn : Nat.beq (m_d (m_hd ds) 1) 999 = true) (hd : os.drop (m_d (m_hd ds) 0) = .ref a :: os1) (hct : m_cat os1 ≤ 8) (kk : m_W p l e R s m args below meth c Q nL D dA ad A B N0 S0 (pc + 3) lo os1 h) : m_W p l e R s m args below meth c Q nL D dA ad A B N0 S0 pc lo os h := by
  intro H locs cells slots ls hN
  obtain ⟨hx, hb, hml, hown, hts, hK, hA, hnm, hB⟩ := id hF
  unfold m_ckI at hck
  rw [hn, cond_true] at hck
  simp only [Bool.and_eq_true, decide_eq_true_eq] at hck
  obtain ⟨⟨⟨w1, w2⟩, w3⟩, w4⟩ := hck
  rw [w4, List.drop_zero] at hd
  subst hd
  have hroom : 2 * (F0 m pc ls ((Value.ref a :: os1).map (m_v ad))).monitorRoom + ((os1.map (m_v ad)).map fun v => v.category).sum ≤ 8 := lv_room (by rw [m_cat_map]; exact hct)
  refine W.objInit hx hb hown (hts _ (m_w_in w1)) (hts _ (m_w_in w2)) (hts _ (m_w_in w3)) rfl (hN.2.2.2.2.2.2.1.trans hml.symm) rfl hdg (by have := hDp.1; omega) (by have := hDp.2; omega) (kk H locs cells slots ls hN)
theorem m_ok_special {cal : mK} {z a : Nat} {os1 : List Value} (hF : m_Fx p s m args meth c cc own nm nL D dA ad A B) (hE : m_Ex s) (hT : m_TX ad A s s.heap) (hDp : m_Dp R d) (hcal : m_Cal l D dA ad B cal d) (hdg : decode cc pc = .ok (.invokespecial z, 3)) (hck : m_ckI own z ds = true) (hn : Nat.beq (m_d (m_hd ds) 1) 999 = false) (hd : os.drop (m_d (m_hd ds) 0) = .ref a :: os1) (hct : m_cat os1 ≤ 8) (hr : cal (m_d (m_hd ds) 1) (.ref a :: (os.take (m_d (m_hd ds) 0)).reverse) h = some (w, h1)) (ha : ∃ (ci nn : Nat) (rs : List (Option Nat)), h.1[a]? = some (ci, nn, rs) ∧ ci < 13) (hRm : m_Rm R N0 S0 h1) (kk : m_W p l e R s m args below meth c Q nL D dA ad A B N0 S0 (pc + 3) lo (w.toList ++ os1) h1) : m_W p l e R s m args below meth c Q nL D dA ad A B N0 S0 pc lo os h := by
  intro H locs cells slots ls hN
  obtain ⟨hle, hnr, hm⟩ := hcal _ _ _ _ _ hr
  obtain ⟨d', hd', hM⟩ := hm hRm.2.2
  obtain ⟨hx, hb, hml, hown, hts, hK, hA, hnm, hB⟩ := id hF
  have hst : (os.map (m_v ad)) = (((os.take (m_d (m_hd ds) 0)).reverse).map (m_v ad)).reverse ++ .ref (ad a) :: os1.map (m_v ad) := by
    rw [m_stk ad os (m_d (m_hd ds) 0), hd]; rfl
  have hroom : 2 * (F0 m pc ls (os.map (m_v ad))).monitorRoom + ((os1.map (m_v ad)).map fun v => v.category).sum ≤ 8 := lv_room (by rw [m_cat_map]; exact hct)
  have hlen : ((((os.take (m_d (m_hd ds) 0)).reverse).map (m_v ad))).length = m_d (m_hd ds) 0 := by
    rw [List.length_map, List.length_reverse]; exact m_take_len hd
  have hpre0 : FrameBlind (va_Pc ((Value.ref a :: (os.take (m_d (m_hd ds) 0)).reverse).map (m_v ad)) (m_Pre D dA ad B h)) ∧ ∀ U : State, U.heap = H → s.WarmedH U.vm → va_Pc ((Value.ref a :: (os.take (m_d (m_hd ds) 0)).reverse).map (m_v ad)) (m_Pre D dA ad B h) (Value.ref (ad a) :: ((os.take (m_d (m_hd ds) 0)).reverse).map (m_v ad)).toArray U := ⟨m_blind, m_pre_of hF hE hT hN _⟩
  have S : CallFix p m c cc nL s args mTT own := ⟨hx, hb, hml, hown, hts⟩
  unfold m_ckI at hck
  rw [hn, cond_false] at hck
  simp only [Bool.and_eq_true] at hck
  obtain ⟨⟨⟨hok, w1⟩, w2⟩, h3⟩ := hck
  obtain ⟨g1, g2, g3, g4, g5⟩ := m_okk_spec hok hts
  obtain ⟨b1, b2, b3, b4, b5, b6⟩ := m_callB (mc := h1.1.length - h.1.length) (ms := m_sz h1 - m_sz h) hF hok hDp hd'
  refine m_after (a := (Value.ref (ad a) :: ((os.take (m_d (m_hd ds) 0)).reverse).map (m_v ad)).toArray) hF hN hle hnr ?_ kk
  split at h3
  · simp only [Bool.and_eq_true, decide_eq_true_eq] at h3
    obtain ⟨⟨w3, e1⟩, e2⟩ := h3
    rw [e2] at g1 b6
    exact va_runI (n := m_d (m_hd ds) 0) (rest := os1.map (m_v ad)) S hM ⟨⟨b1, b2, b3, b4, b5, b6, g1, g2, ⟨g3, g4⟩, m_na_spec w2, hts _ (m_w_in w3)⟩, e1, hts _ (m_w_in w1)⟩ hpre0 rfl hlen hN.2.2.2.2.2.2.1 hst hroom hdg (m_cells hN hle hRm)
  · simp only [Bool.and_eq_true, decide_eq_true_eq] at h3
    obtain ⟨⟨e1, e2⟩, h3⟩ := h3
    split at h3
    · cases h3
    · rename_i q hq
      simp only [Bool.and_eq_true, decide_eq_true_eq] at h3
      obtain ⟨⟨f1, f2⟩, f3⟩ := h3
      have hz := hE.2.2.2 q (List.mem_of_getElem? hq)
      rw [f1, f2, f3] at hz
      rw [e2] at g1 b6
      exact va_runIN (n := m_d (m_hd ds) 0) (rest := os1.map (m_v ad)) S hM ⟨⟨⟨b1, b2, b3, b4, b5, b6⟩, g1, g2, ⟨g3, g4⟩, m_na_spec w2, va_Nw.use rfl hz⟩, e1, hts _ (m_w_in w1)⟩ hpre0 rfl hlen hN.2.2.2.2.2.2.1 hst hroom hdg (m_cells hN hle hRm)
  · simp only [Bool.and_eq_true, decide_eq_true_eq] at h3
    obtain ⟨hno, h3⟩ := h3
    split at h3
    · rename_i o i x hq
      simp only [Bool.and_eq_true, decide_eq_true_eq] at h3
      obtain ⟨⟨⟨⟨⟨⟨rfl, rfl⟩, e1⟩, e2⟩, w3⟩, w4⟩, h4⟩ := h3
      obtain ⟨ci, nn, rs, hi, hlt⟩ := ha
      obtain ⟨q, hq2⟩ : ∃ q, m_cl[ci]? = some q := ⟨_, List.getElem?_eq_getElem (show ci < m_cl.length from hlt)⟩
      have hcn : m_cn ci = some q.1 := by
        unfold m_cn
        have : Nat.beq ci 300 = false := by
          cases hb : Nat.beq ci 300 with
          | false => rfl
          | true => have := Nat.eq_of_beq_eq_true hb; omega
        rw [this, cond_false, hq2]; rfl
      obtain ⟨hrc, cC, hat⟩ := m_recvO hF hN hi (by omega) hcn
      refine m_runSU (x := x) (n := m_d (m_hd ds) 0) (rest := os1.map (m_v ad)) hat S hM ⟨b1, b2, b3, b4, b5, b6⟩ e1 e2 (hts _ (m_tw_in hq rfl)) (hts _ (m_w_in w3)) (hts _ (m_w_in w4)) ?_ (hts _ (m_w_in w1)) g2 g1 hno (m_na_spec w2) ⟨hpre0.1, hrc, hpre0.2⟩ rfl hlen hN.2.2.2.2.2.2.1 hst hroom hdg (m_cells hN hle hRm)
      split at h4
      · simp only [decide_eq_true_eq] at h4
        exact Or.inl h4
      · exact Or.inr (hts _ (m_w_in h4))
    · cases h3
theorem m_cpy_spec {a b : Nat} {sp dp x : Int32} (hg : m_cpy h a sp b dp x = some h1) : ∃ (N M : Nat) (rs rs' : List (Option Nat)), h.1[a]? = some (100, N, rs) ∧ h.1[b]? = some (100, M, rs') ∧ ¬ sp < 0 ∧ ¬ dp < 0 ∧ ¬ x < 0 ∧ sp.toNatClampNeg + x.toNatClampNeg ≤ N ∧ dp.toNatClampNeg + x.toNatClampNeg ≤ M ∧ h1 = (h.1, m_row h.2 b (va_cpy (h.2 a) (h.2 b) sp.toNatClampNeg dp.toNatClampNeg x.toNatClampNeg)) := by
  unfold m_cpy at hg
  split at hg
  · rename_i c1 N rs d1 M rs' h1 h2
    cases hb : (Nat.beq c1 100 && Nat.beq d1 100) with
    | false => rw [hb] at hg; cases hg
    | true =>
      rw [hb, cond_true] at hg
      simp only [Bool.and_eq_true] at hb
      have e1 := Nat.eq_of_beq_eq_true hb.1
      have e2 := Nat.eq_of_beq_eq_true hb.2
      subst e1; subst e2
      split at hg
      · cases hg
      · rename_i hn
        split at hg
        · rename_i hq
          cases hg
          exact ⟨N, M, rs, rs', h1, h2, fun q => hn (Or.inl q), fun q => hn (Or.inr (Or.inl q)), fun q => hn (Or.inr (Or.inr q)), hq.1, hq.2, rfl⟩
        · cases hg
  · cases hg
theorem m_nat0 {z : Int32} (hz : ¬ z < 0) : z.toInt = (z.toNatClampNeg : Int) := by
  have hz0 : (0 : Int) ≤ z.toInt := by
    have := Int32.not_lt.mp hz
    simpa using Int32.le_iff_toInt_le.mp this
  show z.toInt = ((z.toInt.toNat : Nat) : Int)
  omega
theorem m_ok_copy {z a b : Nat} {sp dp x : Int32} {os1 : List Value} (hF : m_Fx p s m args meth c cc own nm nL D dA ad A B) (hDp : m_Dp R d) (hdg : decode cc pc = .ok (.invokestatic z, 3)) (hck : m_ckS own z ds = true) (hn : Nat.beq (m_d (m_hd ds) 1) 998 = true) (hct : m_cat os1 ≤ 8) (hg : m_cpy h a sp b dp x = some h1) (kk : m_W p l e R s m args below meth c Q nL D dA ad A B N0 S0 (pc + 3) lo os1 h1) : m_W p l e R s m args below meth c Q nL D dA ad A B N0 S0 pc lo (.int x :: .int dp :: .ref b :: .int sp :: .ref a :: os1) h := by
  intro H locs cells slots ls hN
  obtain ⟨hx, hb, hml, hown, hts, hK, hA, hnm, hB⟩ := id hF
  obtain ⟨N, M, rs, rs', ha0, hb0, q1, q2, q3, q4, q5, rfl⟩ := m_cpy_spec hg
  unfold m_ckS at hck
  rw [hn, cond_true] at hck
  simp only [Bool.and_eq_true] at hck
  obtain ⟨⟨⟨w1, w2⟩, w3⟩, w4⟩ := hck
  have hea := m_ws_get (dA := dA) (ad := ad) ha0
  have heb := m_ws_get (dA := dA) (ad := ad) hb0
  rw [m_cel_a dA ad (h.2 a) (by omega) (by omega)] at hea
  rw [m_cel_a dA ad (h.2 b) (by omega) (by omega)] at heb
  intro T hT X
  have hc0 : H[ad a]? = some (vp_cell (dA 100) (N, .inl (h.2 a))) := hN.1 a _ hea
  have hc1 : H[ad b]? = some (vp_cell (dA 100) (M, .inl (h.2 b))) := hN.1 b _ heb
  obtain ⟨-, k0, hk0, cm0, hkk0⟩ := (hK.2 0 _ rfl).1 N (fun j => .int (h.2 a j))
  obtain ⟨-, k1, hk1, cm1, hkk1⟩ := (hK.2 0 _ rfl).1 M (fun j => .int (h.2 b j))
  have hW8 : ((os1.map (m_v ad)).map fun v => v.category).sum ≤ 8 := by rw [m_cat_map]; exact hct
  have hfr := hDp.1
  have hlo := hDp.2
  have hnw : nativeFrameWords "java/lang/System" "arraycopy" 5 + 11 ≤ 32 := by decide
  obtain ⟨vm', X', step⟩ := X.arraycopy hx hown (hts _ (m_w_in w1)) (hts _ (m_w_in w2)) (hts _ (m_w_in w3)) (hts _ (m_w_in w4)) (src := ad a) (dst := ad b) (cs := vp_cell (dA 100) (N, .inl (h.2 a))) (cd := vp_cell (dA 100) (M, .inl (h.2 b))) (srcPos := sp) (destPos := dp) (n := x) (by rw [hT]; exact hc0) (by rw [hT]; exact hc1)
    (fun _ h => by cases h) (fun _ h => by cases h) (fun h => by cases h) (fun h => by cases h) hk0 hk1 hkk0 hkk1 (by simp [refKind]) q1 q2 q3
    (by rw [m_nat0 q1, m_nat0 q3]; show ¬ _ > ((arrV (dA 100) N (fun j => .int (h.2 a j))).slots.size : Int); rw [arrV_size]; omega)
    (by rw [m_nat0 q2, m_nat0 q3]; show ¬ _ > ((arrV (dA 100) M (fun j => .int (h.2 b j))).slots.size : Int); rw [arrV_size]; omega)
    (fun vm₁ _ i hi => by
      have e : (vp_cell (dA 100) (N, .inl (h.2 a))).slots.getD (sp.toNatClampNeg + i) .null = .int (h.2 a (sp.toNatClampNeg + i)) := by
        show (arrV (dA 100) N (fun j => .int (h.2 a j))).slots.getD _ _ = _
        rw [Array.getD_eq_getD_getElem?, arrV_read _ _ (by omega)]
        rfl
      refine ⟨?_, ?_⟩
      · rw [e]
        rfl
      · rw [e]
        exact trivial)
    (g := F0 m pc ls (.int x :: .int dp :: .ref (ad b) :: .int sp :: .ref (ad a) :: os1.map (m_v ad))) rfl (by rw [hml]; exact hN.2.2.2.2.2.2.1) (rest := os1.map (m_v ad)) rfl (by rw [hb]; exact hdg) (by omega) (by show 2 * 0 + _ + _ ≤ _; omega)
  have e1 : copied (vp_cell (dA 100) (N, .inl (h.2 a))) (vp_cell (dA 100) (M, .inl (h.2 b))) sp dp x = vp_cell (dA 100) (M, .inl (va_cpy (h.2 a) (h.2 b) sp.toNatClampNeg dp.toNatClampNeg x.toNatClampNeg)) := va_copied (fun z => .int z) (dA 100) (dA 100) (h.2 a) (h.2 b) q4
  rw [e1] at X' step
  have hl : ad b < H.size := (Array.getElem?_eq_some_iff.mp hc1).1
  have hheap : ((T.setVm vm').setCell (ad b) (vp_cell (dA 100) (M, .inl (va_cpy (h.2 a) (h.2 b) sp.toNatClampNeg dp.toNatClampNeg x.toNatClampNeg)))).heap = H.setIfInBounds (ad b) (vp_cell (dA 100) (M, .inl (va_cpy (h.2 a) (h.2 b) sp.toNatClampNeg dp.toNatClampNeg x.toNatClampNeg))) := by rw [← hT]; rfl
  have oq : ∀ q : Nat, q ≠ ad b → (H.setIfInBounds (ad b) (vp_cell (dA 100) (M, .inl (va_cpy (h.2 a) (h.2 b) sp.toNatClampNeg dp.toNatClampNeg x.toNatClampNeg))))[q]? = H[q]? := fun q hq => by simp [Array.getElem?_setIfInBounds, Ne.symm hq]
  have hP := hN.1.set hN.2.1 heb (e := .inl (dA 100, M, .inl (va_cpy (h.2 a) (h.2 b) sp.toNatClampNeg dp.toNatClampNeg x.toNatClampNeg))) (show (H.setIfInBounds (ad b) _)[ad b]? = some _ by simp [Array.getElem?_setIfInBounds, hl]) oq
  have hD := hN.2.1.set heb (e := .inl (dA 100, M, .inl (va_cpy (h.2 a) (h.2 b) sp.toNatClampNeg dp.toNatClampNeg x.toNatClampNeg)))
  rw [← m_cel_a dA ad _ (rs := rs') (by omega) (by omega), m_ws_set _ hb0, m_set_self hb0] at hP hD
  have hbD := hN.2.1.2 b _ heb
  obtain ⟨t, a1, b1⟩ := kk _ _ cells slots ls ⟨hP, hD, ⟨by simp; exact hN.2.2.1.1, fun q g1 g2 => by
      rw [oq q (fun e => g2 (by rw [e]; exact hbD))]
      exact hN.2.2.1.2.1 q g1 g2, fun q hq => by
      rcases List.mem_append.mp hq with h | h
      · exact hN.2.2.1.2.2 q h
      · obtain ⟨z, -, hz⟩ := List.mem_map.mp h
        rw [← hz]
        exact hbD⟩, by simp; exact hN.2.2.2.1, hN.2.2.2.2.1, hN.2.2.2.2.2.1, hN.2.2.2.2.2.2⟩ _ hheap X'
  exact ⟨t, step t a1, b1⟩
theorem m_spc_le {os1 : List Value} (hs : m_spc k os h = some (os1, h1)) : m_le h h1 := by
  unfold m_spc at hs
  cases b8 : Nat.beq k 998 with
  | true =>
    rw [b8, cond_true] at hs
    split at hs
    · cases hc : Nat.ble (m_cat _) 8 with
      | false => rw [hc, cond_false] at hs; cases hs
      | true =>
        rw [hc, cond_true] at hs
        split at hs
        · rename_i h2 hg
          cases hs
          obtain ⟨N, M, rs, rs', -, -, -, -, -, -, -, rfl⟩ := m_cpy_spec hg
          exact ⟨Nat.le_refl _, Nat.le_refl _⟩
        · cases hs
    · cases hs
  | false =>
    rw [b8, cond_false] at hs
    cases b5 : Nat.beq k 995 with
    | true =>
      rw [b5, cond_true] at hs
      split at hs
      · cases hc : Nat.ble (m_cat _) 8 with
        | false => rw [hc, cond_false] at hs; cases hs
        | true => rw [hc, cond_true] at hs; cases hs; exact m_le.rf
      · cases hs
    | false =>
      rw [b5, cond_false] at hs
      cases b6 : Nat.beq k 996 with
      | true =>
        rw [b6, cond_true] at hs
        split at hs
        · cases hc : Nat.ble (m_cat _) 8 with
          | false => rw [hc, cond_false] at hs; cases hs
          | true => rw [hc, cond_true] at hs; cases hs; exact m_le.rf
        · cases hs
      | false =>
        rw [b6, cond_false] at hs
        cases b7 : Nat.beq k 997 with
        | true =>
          rw [b7, cond_true] at hs
          split at hs
          · cases hc : Nat.ble (m_cat _) 8 with
            | false => rw [hc, cond_false] at hs; cases hs
            | true => rw [hc, cond_true] at hs; cases hs; exact m_le.rf
          · cases hs
        | false => rw [b7, cond_false] at hs; cases hs
theorem m_ok_spc {z : Nat} {os1 : List Value} (hF : m_Fx p s m args meth c cc own nm nL D dA ad A B) (hDp : m_Dp R d) (hRm : m_Rm R N0 S0 h) (hdg : decode cc pc = .ok (.invokestatic z, 3)) (hck : m_ckS own z ds = true) (hs : m_spc (m_d (m_hd ds) 1) os h = some (os1, h1)) (kk : m_W p l e R s m args below meth c Q nL D dA ad A B N0 S0 (pc + 3) lo os1 h1) : m_W p l e R s m args below meth c Q nL D dA ad A B N0 S0 pc lo os h := by
  have hfr := hDp.1
  have hlo := hDp.2
  unfold m_spc at hs
  cases b8 : Nat.beq (m_d (m_hd ds) 1) 998 with
  | true =>
    rw [b8, cond_true] at hs
    split at hs
    · cases hc : Nat.ble (m_cat _) 8 with
      | false => rw [hc, cond_false] at hs; cases hs
      | true =>
        rw [hc, cond_true] at hs
        split at hs
        · rename_i h2 hg
          cases hs
          exact m_ok_copy hF hDp hdg hck b8 (Nat.le_of_ble_eq_true hc) hg kk
        · cases hs
    · cases hs
  | false =>
    rw [b8, cond_false] at hs
    unfold m_ckS at hck
    rw [b8, cond_false] at hck
    obtain ⟨hx, hb, hml, hown, hts, hK, hA, hnm, hB⟩ := hF
    cases b5 : Nat.beq (m_d (m_hd ds) 1) 995 with
    | true =>
      rw [b5, cond_true] at hs hck
      simp only [Bool.and_eq_true] at hck
      obtain ⟨⟨⟨w1, w2⟩, w3⟩, w4⟩ := hck
      split at hs
      · cases hc : Nat.ble (m_cat _) 8 with
        | false => rw [hc, cond_false] at hs; cases hs
        | true =>
          rw [hc, cond_true] at hs
          cases hs
          intro H locs cells slots ls hN
          have g1 := hN.2.2.2.2.1
          have g2 := hN.2.2.2.2.2.1
          have g3 := hRm.1
          have g4 := hRm.2.1
          have h8 := Nat.le_of_ble_eq_true hc
          exact va_mmax hx hb (hml.trans hN.2.2.2.2.2.2.1.symm) hown (hts _ (m_w_in w1)) (hts _ (m_w_in w2)) (hts _ (m_w_in w3)) (hts _ (m_w_in w4)) (by omega) (by rw [m_cat_map]; omega) (by omega) (by omega) hdg (kk H locs cells slots ls hN)
      · cases hs
    | false =>
      rw [b5, cond_false] at hs hck
      cases b6 : Nat.beq (m_d (m_hd ds) 1) 996 with
      | true =>
        rw [b6, cond_true] at hs hck
        simp only [Bool.and_eq_true] at hck
        obtain ⟨⟨⟨w1, w2⟩, w3⟩, w4⟩ := hck
        split at hs
        · cases hc : Nat.ble (m_cat _) 8 with
          | false => rw [hc, cond_false] at hs; cases hs
          | true =>
            rw [hc, cond_true] at hs
            cases hs
            intro H locs cells slots ls hN
            have g1 := hN.2.2.2.2.1
            have g2 := hN.2.2.2.2.2.1
            have g3 := hRm.1
            have g4 := hRm.2.1
            have h8 := Nat.le_of_ble_eq_true hc
            exact va_mmin hx hb (hml.trans hN.2.2.2.2.2.2.1.symm) hown (hts _ (m_w_in w1)) (hts _ (m_w_in w2)) (hts _ (m_w_in w3)) (hts _ (m_w_in w4)) (by omega) (by rw [m_cat_map]; omega) (by omega) (by omega) hdg (kk H locs cells slots ls hN)
        · cases hs
      | false =>
        rw [b6, cond_false] at hs hck
        cases b7 : Nat.beq (m_d (m_hd ds) 1) 997 with
        | true =>
          rw [b7, cond_true] at hs hck
          simp only [Bool.and_eq_true] at hck
          obtain ⟨⟨⟨w1, w2⟩, w3⟩, w4⟩ := hck
          split at hs
          · cases hc : Nat.ble (m_cat _) 8 with
            | false => rw [hc, cond_false] at hs; cases hs
            | true =>
              rw [hc, cond_true] at hs
              cases hs
              intro H locs cells slots ls hN
              have g1 := hN.2.2.2.2.1
              have g2 := hN.2.2.2.2.2.1
              have g3 := hRm.1
              have g4 := hRm.2.1
              have h8 := Nat.le_of_ble_eq_true hc
              exact va_mabs hx hb (hml.trans hN.2.2.2.2.2.2.1.symm) hown (hts _ (m_w_in w1)) (hts _ (m_w_in w2)) (hts _ (m_w_in w3)) (hts _ (m_w_in w4)) (by omega) (by rw [m_cat_map]; omega) (by omega) (by omega) hdg (kk H locs cells slots ls hN)
          · cases hs
        | false => rw [b7, cond_false] at hs; cases hs
/-! branches -/
def m_tg (pc : Nat) (off : Int) (t : Nat) : Bool := decide ((pc : Int) + off = (t : Int))
theorem m_ok_if {i : Jvm.ClassFile.Cond} {o : Int} {x : Int32} {t : Nat} {os1 : List Value} (hF : m_Fx p s m args meth c cc own nm nL D dA ad A B) (hdg : decode cc pc = .ok (.ifCond i o, 3)) (ht : (pc : Int) + o = (t : Int)) {α : Type} {a b out : α} (hab : m_br i x 0 a b = out) (k1 : a = out → m_W p l e R s m args below meth c Q nL D dA ad A B N0 S0 t lo os1 h) (k2 : b = out → m_W p l e R s m args below meth c Q nL D dA ad A B N0 S0 (pc + 3) lo os1 h) : m_W p l e R s m args below meth c Q nL D dA ad A B N0 S0 pc lo (.int x :: os1) h := by
  intro H locs cells slots ls hN
  obtain ⟨hx, hb, hml, hown, hts, hK, hA, hnm, hB⟩ := hF
  cases i <;> simp only [m_br] at hab
  · exact lv_if_eq hx hb hdg ht (fun q => k1 (by rw [if_pos q] at hab; exact hab) H locs cells slots ls hN) (fun q => k2 (by rw [if_neg q] at hab; exact hab) H locs cells slots ls hN)
  · exact lv_if_ne hx hb hdg ht (fun q => k1 (by rw [if_neg q] at hab; exact hab) H locs cells slots ls hN) (fun q => k2 (by rw [if_pos q] at hab; exact hab) H locs cells slots ls hN)
  · exact lv_if_lt hx hb hdg ht (fun q => k1 (by rw [if_pos q] at hab; exact hab) H locs cells slots ls hN) (fun q => k2 (by rw [if_neg q] at hab; exact hab) H locs cells slots ls hN)
  · exact lv_if_ge hx hb hdg ht (fun q => k1 (by rw [if_neg (Int32.not_lt.mpr q)] at hab; exact hab) H locs cells slots ls hN) (fun q => k2 (by rw [if_pos (Int32.not_le.mp q)] at hab; exact hab) H locs cells slots ls hN)
  · exact lv_if_gt hx hb hdg ht (fun q => k1 (by rw [if_pos q] at hab; exact hab) H locs cells slots ls hN) (fun q => k2 (by rw [if_neg q] at hab; exact hab) H locs cells slots ls hN)
  · exact lv_if_le hx hb hdg ht (fun q => k1 (by rw [if_neg (Int32.not_lt.mpr q)] at hab; exact hab) H locs cells slots ls hN) (fun q => k2 (by rw [if_pos (Int32.not_le.mp q)] at hab; exact hab) H locs cells slots ls hN)
theorem m_ok_icmp {i : Jvm.ClassFile.Cond} {o : Int} {x y : Int32} {t : Nat} {os1 : List Value} (hF : m_Fx p s m args meth c cc own nm nL D dA ad A B) (hdg : decode cc pc = .ok (.if_icmp i o, 3)) (ht : (pc : Int) + o = (t : Int)) {α : Type} {a b out : α} (hab : m_br i x y a b = out) (k1 : a = out → m_W p l e R s m args below meth c Q nL D dA ad A B N0 S0 t lo os1 h) (k2 : b = out → m_W p l e R s m args below meth c Q nL D dA ad A B N0 S0 (pc + 3) lo os1 h) : m_W p l e R s m args below meth c Q nL D dA ad A B N0 S0 pc lo (.int y :: .int x :: os1) h := by
  intro H locs cells slots ls hN
  obtain ⟨hx, hb, hml, hown, hts, hK, hA, hnm, hB⟩ := hF
  cases i <;> simp only [m_br] at hab
  · exact lv_icmp_eq hx hb hdg ht (fun q => k1 (by rw [if_pos q] at hab; exact hab) H locs cells slots ls hN) (fun q => k2 (by rw [if_neg q] at hab; exact hab) H locs cells slots ls hN)
  · exact lv_icmp_ne hx hb hdg ht (fun q => k1 (by rw [if_neg q] at hab; exact hab) H locs cells slots ls hN) (fun q => k2 (by rw [if_pos q] at hab; exact hab) H locs cells slots ls hN)
  · exact lv_icmp_lt hx hb hdg ht (fun q => k1 (by rw [if_pos q] at hab; exact hab) H locs cells slots ls hN) (fun q => k2 (by rw [if_neg q] at hab; exact hab) H locs cells slots ls hN)
  · exact lv_icmp_ge hx hb hdg ht (fun q => k1 (by rw [if_neg (Int32.not_lt.mpr q)] at hab; exact hab) H locs cells slots ls hN) (fun q => k2 (by rw [if_pos (Int32.not_le.mp q)] at hab; exact hab) H locs cells slots ls hN)
  · exact lv_icmp_gt hx hb hdg ht (fun q => k1 (by rw [if_pos q] at hab; exact hab) H locs cells slots ls hN) (fun q => k2 (by rw [if_neg q] at hab; exact hab) H locs cells slots ls hN)
  · exact lv_icmp_le hx hb hdg ht (fun q => k1 (by rw [if_neg (Int32.not_lt.mpr q)] at hab; exact hab) H locs cells slots ls hN) (fun q => k2 (by rw [if_pos (Int32.not_le.mp q)] at hab; exact hab) H locs cells slots ls hN)
/-- a switch's rows and the program's -/
def m_ckT (pc : Nat) : Int → List Int → List (List Nat) → Bool
  | _, [], [] => true
  | lo, o :: offs, [k, t] :: l => decide ((Int32.ofNat k).toInt = lo) && m_tg pc o t && m_ckT pc (lo + 1) offs l
  | _, _, _ => false
def m_ckL (pc : Nat) : List (Int × Int) → List (List Nat) → Bool
  | [], [] => true
  | (a, o) :: ps, [k, t] :: l => decide ((Int32.ofNat k).toInt = a) && m_tg pc o t && m_ckL pc ps l
  | _, _ => false
theorem m_case_T (x : Int32) (dflt : Nat) : ∀ (offs : List Int) (l : List (List Nat)) (lo : Int), m_ckT pc lo offs l = true → (m_case x l dflt = dflt ∧ (x.toInt < lo ∨ lo + offs.length ≤ x.toInt)) ∨ ∃ (j : Nat) (o : Int), offs[j]? = some o ∧ x.toInt = lo + j ∧ (pc : Int) + o = (m_case x l dflt : Int)
  | [], [], lo, _ => Or.inl ⟨rfl, by simp; omega⟩
  | o :: offs, [k, t] :: l, lo, h => by
    simp only [m_ckT, m_tg, Bool.and_eq_true, decide_eq_true_eq] at h
    obtain ⟨⟨h1, h2⟩, h3⟩ := h
    by_cases hx : x = Int32.ofNat k
    · refine Or.inr ⟨0, o, rfl, by rw [hx, h1]; simp, ?_⟩
      rw [show m_case x ([k, t] :: l) dflt = t by rw [m_case, if_pos hx]]
      exact h2
    · have e : m_case x ([k, t] :: l) dflt = m_case x l dflt := by rw [m_case, if_neg hx]
      have hne : x.toInt ≠ lo := fun q => hx (Int32.toInt_inj.mp (q.trans h1.symm))
      rw [e]
      rcases m_case_T x dflt offs l (lo + 1) h3 with ⟨g1, g2⟩ | ⟨j, o2, g1, g2, g3⟩
      · exact Or.inl ⟨g1, by simp only [List.length_cons]; omega⟩
      · exact Or.inr ⟨j + 1, o2, by simpa using g1, by rw [g2]; omega, g3⟩
  | [], _ :: _, lo, h => by simp [m_ckT] at h
  | o :: offs, [], lo, h => by simp [m_ckT] at h
  | o :: offs, [] :: l, lo, h => by simp [m_ckT] at h
  | o :: offs, [k] :: l, lo, h => by simp [m_ckT] at h
  | o :: offs, (k :: t :: u :: v) :: l, lo, h => by simp [m_ckT] at h
theorem m_case_L (x : Int32) (dflt : Nat) (d0 : Int) (hd0 : (pc : Int) + d0 = (dflt : Int)) : ∀ (ps : List (Int × Int)) (l : List (List Nat)), m_ckL pc ps l = true → (pc : Int) + Op.lookupswitch.offset ps d0 x.toInt = (m_case x l dflt : Int)
  | [], [], _ => by
    rw [show m_case x [] dflt = dflt from rfl, ← hd0]
    first | rfl | simp [Op.lookupswitch.offset]
  | (a, o) :: ps, [k, t] :: l, h => by
    simp only [m_ckL, m_tg, Bool.and_eq_true, decide_eq_true_eq] at h
    obtain ⟨⟨h1, h2⟩, h3⟩ := h
    rw [Op.lookupswitch.offset_cons]
    by_cases hx : x = Int32.ofNat k
    · rw [if_pos (by rw [hx, h1]), m_case, if_pos hx]
      exact h2
    · rw [if_neg (fun q => hx (Int32.toInt_inj.mp (by rw [h1]; exact q.symm))), m_case, if_neg hx]
      exact m_case_L x dflt d0 hd0 ps l h3
  | [], _ :: _, h => by simp [m_ckL] at h
  | o :: offs, [], h => by simp [m_ckL] at h
  | o :: offs, [] :: l, h => by simp [m_ckL] at h
  | o :: offs, [k] :: l, h => by simp [m_ckL] at h
  | o :: offs, (k :: t :: u :: v) :: l, h => by simp [m_ckL] at h
theorem m_ok_table {df lw hg : Int} {offs : Array Int} {x : Int32} {t : Nat} {os1 : List Value} (hF : m_Fx p s m args meth c cc own nm nL D dA ad A B) (hdg : decode cc pc = .ok (.tableswitch df lw hg offs, n)) (hd : (pc : Int) + df = (t : Int)) {l0 : List (List Nat)} (hk : m_ckT pc lw offs.toList l0 = true) (hh : hg = lw + (offs.toList.length : Int) - 1) (kk : m_W p l e R s m args below meth c Q nL D dA ad A B N0 S0 (m_case x l0 t) lo os1 h) : m_W p l e R s m args below meth c Q nL D dA ad A B N0 S0 pc lo (.int x :: os1) h := by
  intro H locs cells slots ls hN
  obtain ⟨hx, hb, hml, hown, hts, hK, hA, hnm, hB⟩ := hF
  rcases m_case_T x t offs.toList l0 lw hk with ⟨g1, g2⟩ | ⟨j, o, g1, g2, g3⟩
  · refine lv_tableOut hx hb hdg (by omega) (by rw [hd]) ?_
    rw [g1] at kk
    exact kk H locs cells slots ls hN
  · have hj := (List.getElem?_eq_some_iff.mp g1).1
    refine lv_tableIn hx hb hdg (by omega) (by omega) (off := o) ?_ g3 (kk H locs cells slots ls hN)
    rw [g2, show (lw + (j : Int) - lw).toNat = j by omega, ← Array.getElem?_toList]
    exact g1
theorem m_ok_lookup {df : Int} {ps : Array (Int × Int)} {x : Int32} {t : Nat} {os1 : List Value} (hF : m_Fx p s m args meth c cc own nm nL D dA ad A B) (hdg : decode cc pc = .ok (.lookupswitch df ps, n)) (hd : (pc : Int) + df = (t : Int)) {l0 : List (List Nat)} (hk : m_ckL pc ps.toList l0 = true) (hso : (ps.toList.zip (ps.toList.drop 1)).all (fun (a, next) => a.1 < next.1) = true) (kk : m_W p l e R s m args below meth c Q nL D dA ad A B N0 S0 (m_case x l0 t) lo os1 h) : m_W p l e R s m args below meth c Q nL D dA ad A B N0 S0 pc lo (.int x :: os1) h := by
  intro H locs cells slots ls hN
  obtain ⟨hx, hb, hml, hown, hts, hK, hA, hnm, hB⟩ := hF
  exact lv_lookup hx hb hdg hso rfl (m_case_L x t df hd ps.toList l0 hk) (kk H locs cells slots ls hN)
end MC2
end
section
/-! BLOCKS, METHODS -/
/-- what a program decides of an instruction -/
def m_ckO (own nm : String) (nL : Nat) (rt : Option FieldType) (pc : Nat) (i : Instr) (n : Nat) (v : Int32 × Int64) (ds : List (List Nat)) : Bool :=
  match i with
  | .goto o => decide (n = 3) && m_tg pc o (m_d (m_hd ds) 0)
  | .ifCond _ o => decide (n = 3) && m_tg pc o (m_d (m_hd ds) 0)
  | .if_icmp _ o => decide (n = 3) && m_tg pc o (m_d (m_hd ds) 0)
  | .tableswitch df lw hg offs => m_tg pc df (m_d (m_hd ds) 0) && m_ckT pc lw offs.toList (ds.drop 1) && decide (hg = lw + (offs.toList.length : Int) - 1)
  | .lookupswitch df ps => m_tg pc df (m_d (m_hd ds) 0) && m_ckL pc ps.toList (ds.drop 1) && (ps.toList.zip (ps.toList.drop 1)).all (fun (a, next) => a.1 < next.1)
  | .ireturn => decide (n = 1) && (decide (rt = some .int) || decide (rt = some .boolean) && Nat.beq (m_d (m_hd ds) 0) 1)
  | .lreturn => decide (n = 1) && decide (rt = some .long)
  | .return_ => decide (n = 1) && decide (rt = none)
  | .invokestatic z => decide (n = 3) && m_ckS own z ds
  | .invokespecial z => decide (n = 3) && m_ckI own z ds
  | .invokevirtual z => decide (n = 3) && m_ckV own z ds
  | i => m_ck own nm nL i n v ds
def m_ckB (own nm : String) (nL : Nat) (rt : Option FieldType) (cc : ByteArray) : List mO → Nat → Bool
  | [], _ => true
  | (i, n, v, ds) :: r, pc => decide (decode cc pc = .ok (i, n)) && m_ckO own nm nL rt pc i n v ds && m_ckB own nm nL rt cc r (pc + n)
def m_oh : mG → mH
  | .inl r => r.2
  | .inr q => q.2.2.2
def m_calM (cal : mK) : Prop := ∀ k as h w h', cal k as h = some (w, h') → m_le h h'
theorem m_B_dflt (sc : mS) (cal : mK) (i : Instr) (n : Nat) (v : Int32 × Int64) (ds : List (List Nat)) (r : List mO) (pc : Nat) (lo : mL) (os : List Value) (h : mH) (out : mG)
    (hi : (∀ o, i ≠ .goto o) ∧ (∀ c o, i ≠ .ifCond c o) ∧ (∀ c o, i ≠ .if_icmp c o) ∧ (∀ a b c d, i ≠ .tableswitch a b c d) ∧ (∀ a b, i ≠ .lookupswitch a b) ∧ i ≠ .ireturn ∧ i ≠ .lreturn ∧ i ≠ .return_ ∧ (∀ z, i ≠ .invokestatic z) ∧ (∀ z, i ≠ .invokespecial z) ∧ ∀ z, i ≠ .invokevirtual z)
    (hr : m_B sc cal ((i, n, v, ds) :: r) pc lo os h = some out) : (∃ lo' os' h', m_1 sc i v ds lo os h = some (lo', os', h') ∧ m_B sc cal r (pc + n) lo' os' h' = some out) ∧ ∀ own nm nL rt, m_ckO own nm nL rt pc i n v ds = m_ck own nm nL i n v ds := by
  obtain ⟨h1, h2, h3, h4, h5, h6, h7, h8, h9, h10, h11⟩ := hi
  cases i
  case goto o => exact absurd rfl (h1 o)
  case ifCond c o => exact absurd rfl (h2 c o)
  case if_icmp c o => exact absurd rfl (h3 c o)
  case tableswitch a b c d => exact absurd rfl (h4 a b c d)
  case lookupswitch a b => exact absurd rfl (h5 a b)
  case ireturn => exact absurd rfl h6
  case lreturn => exact absurd rfl h7
  case return_ => exact absurd rfl h8
  case invokestatic z => exact absurd rfl (h9 z)
  case invokespecial z => exact absurd rfl (h10 z)
  case invokevirtual z => exact absurd rfl (h11 z)
  all_goals
    refine ⟨?_, fun _ _ _ _ => rfl⟩
    simp only [m_B] at hr
    split at hr
    · rename_i lo1 os1 h1 hm
      exact ⟨lo1, os1, h1, hm, hr⟩
    · cases hr
theorem m_br_or {α : Type} {i : Jvm.ClassFile.Cond} {x y : Int32} {a b : α} {P : α → Prop} (h1 : P a) (h2 : P b) : P (m_br i x y a b) := by
  cases i <;> simp only [m_br] <;> split <;> assumption
/-- heaps grow along a block -/
theorem m_B_le {sc : mS} {cal : mK} (hcal : m_calM cal) : ∀ (ops : List mO) (pc : Nat) (lo : mL) (os : List Value) (h : mH) (out : mG), m_B sc cal ops pc lo os h = some out → m_le h (m_oh out)
  | [], pc, lo, os, h, out, hr => by simp only [m_B] at hr; cases hr; exact m_le.rf
  | (i, n, v, ds) :: r, pc, lo, os, h, out, hr => by
    have ih := m_B_le (sc := sc) hcal r
    by_cases hi : (∀ o, i ≠ .goto o) ∧ (∀ c o, i ≠ .ifCond c o) ∧ (∀ c o, i ≠ .if_icmp c o) ∧ (∀ a b c d, i ≠ .tableswitch a b c d) ∧ (∀ a b, i ≠ .lookupswitch a b) ∧ i ≠ .ireturn ∧ i ≠ .lreturn ∧ i ≠ .return_ ∧ (∀ z, i ≠ .invokestatic z) ∧ (∀ z, i ≠ .invokespecial z) ∧ ∀ z, i ≠ .invokevirtual z
    · obtain ⟨⟨lo1, os1, h1, hm, hr1⟩, -⟩ := m_B_dflt sc cal i n v ds r pc lo os h out hi hr
      exact (m_le_1 hm).tr (ih _ _ _ _ _ hr1)
    · cases i
      case goto o => simp only [m_B] at hr; cases hr; exact m_le.rf
      case ifCond c o =>
        simp only [m_B] at hr
        split at hr
        · refine (m_br_or (P := fun z => z = some out → m_le h (m_oh out)) ?_ ?_) hr
          · intro q; cases q; exact m_le.rf
          · intro q; exact ih _ _ _ _ _ q
        · cases hr
      case if_icmp c o =>
        simp only [m_B] at hr
        split at hr
        · refine (m_br_or (P := fun z => z = some out → m_le h (m_oh out)) ?_ ?_) hr
          · intro q; cases q; exact m_le.rf
          · intro q; exact ih _ _ _ _ _ q
        · cases hr
      case tableswitch a b c d =>
        simp only [m_B] at hr
        split at hr
        · cases hr; exact m_le.rf
        · cases hr
      case lookupswitch a b =>
        simp only [m_B] at hr
        split at hr
        · cases hr; exact m_le.rf
        · cases hr
      case ireturn =>
        simp only [m_B] at hr
        split at hr
        · cases hb : Nat.beq (m_d (m_hd ds) 0) 1 with
          | true =>
            rw [hb, cond_true] at hr
            split at hr
            · cases hr; exact m_le.rf
            · cases hr
          | false => rw [hb, cond_false] at hr; cases hr; exact m_le.rf
        · cases hr
      case lreturn =>
        simp only [m_B] at hr
        split at hr
        · cases hr; exact m_le.rf
        · cases hr
      case return_ =>
        simp only [m_B] at hr
        split at hr
        · cases hr; exact m_le.rf
        · cases hr
      case invokestatic z =>
        simp only [m_B] at hr
        cases hb : Nat.ble 995 (m_d (m_hd ds) 1) with
        | true =>
          rw [hb, cond_true] at hr
          split at hr
          · rename_i os2 h2 hg
            exact (m_spc_le hg).tr (ih _ _ _ _ _ hr)
          · cases hr
        | false =>
          rw [hb, cond_false] at hr
          split at hr
          · rename_i w h2 hq
            cases hc : (Nat.ble (m_d (m_hd ds) 0) os.length && Nat.ble (m_cat (os.drop (m_d (m_hd ds) 0))) 8) with
            | false => rw [hc, cond_false] at hr; cases hr
            | true => rw [hc, cond_true] at hr; exact (hcal _ _ _ _ _ hq).tr (ih _ _ _ _ _ hr)
          · cases hr
      case invokespecial z =>
        simp only [m_B] at hr
        split at hr
        · rename_i a os' hd
          cases hc : Nat.ble (m_cat os') 8 with
          | false => rw [hc, cond_false] at hr; cases hr
          | true =>
            rw [hc, cond_true] at hr
            cases hb : Nat.beq (m_d (m_hd ds) 1) 999 with
            | true => rw [hb, cond_true] at hr; exact ih _ _ _ _ _ hr
            | false =>
              rw [hb, cond_false] at hr
              cases ho : m_isO h a with
              | false => rw [ho, cond_false] at hr; cases hr
              | true =>
                rw [ho, cond_true] at hr
                split at hr
                · rename_i w h2 hq
                  exact (hcal _ _ _ _ _ hq).tr (ih _ _ _ _ _ hr)
                · cases hr
        · cases hr
      case invokevirtual z =>
        simp only [m_B] at hr
        split at hr
        · rename_i a os' hd
          cases hc : Nat.ble (m_cat os') 8 with
          | false => rw [hc, cond_false] at hr; cases hr
          | true =>
            rw [hc, cond_true] at hr
            split at hr
            · split at hr
              · rename_i w h2 hq
                exact (hcal _ _ _ _ _ hq).tr (ih _ _ _ _ _ hr)
              · cases hr
            · cases hr
        · cases hr
      all_goals exact absurd ⟨by simp, by simp, by simp, by simp, by simp, by simp, by simp, by simp, by simp, by simp, by simp⟩ hi
/-- how a method ends -/
def m_rok (rt : Option FieldType) (i : Instr) (r : Option Value) : Prop := (i = .ireturn ∧ rt = some .int ∧ ∃ x, r = some (.int x)) ∨ (i = .ireturn ∧ rt = some .boolean ∧ ∃ x, r = some (.int x) ∧ (x = 0 ∨ x = 1)) ∨ (i = .lreturn ∧ rt = some .long ∧ ∃ x, r = some (.long x)) ∨ (i = .return_ ∧ rt = none ∧ r = none)
section MB
variable {p : Program} {l : Launch} {e : Env} {R : Room} {s : State} {m : MethodId} {args : Array Value} {below : List Frame} {meth : Method} {c : Code} {Q : State → Prop} {cc : ByteArray} {own nm : String} {nL : Nat} {D : va_G} {dA : Nat → ClassId} {ad : Nat → Nat} {A : Nat → Prop} {B N0 S0 : Nat} {sc : mS} {d : Nat} {rt : Option FieldType} {cal : mK}
theorem m_Rm_le {h h' : mH} (hle : m_le h h') (hR : m_Rm R N0 S0 h') : m_Rm R N0 S0 h := ⟨Nat.le_trans hle.1 hR.1, Nat.le_trans hle.2 hR.2.1, Nat.le_trans hle.1 hR.2.2⟩
theorem m_B_ok (hF : m_Fx p s m args meth c cc own nm nL D dA ad A B) (hSc : m_Sc s ad A sc) (hE : m_Ex s) (hT : m_TX ad A s s.heap) (hDp : m_Dp R d) (hcal : m_Cal l D dA ad B cal d) : ∀ (ops : List mO) (pc : Nat) (lo : mL) (os : List Value) (h : mH) (out : mG), m_ckB own nm nL rt cc ops pc = true → m_B sc cal ops pc lo os h = some out → m_Rm R N0 S0 (m_oh out) →
    (∀ r h', out = .inl (r, h') → ∀ (i : Instr) (pc' : Nat) (lo' : mL), decode cc pc' = .ok (i, 1) → m_rok rt i r → m_W p l e R s m args below meth c Q nL D dA ad A B N0 S0 pc' lo' r.toList h') →
    (∀ pc' lo' os' h', out = .inr (pc', lo', os', h') → m_W p l e R s m args below meth c Q nL D dA ad A B N0 S0 pc' lo' os' h') →
    m_W p l e R s m args below meth c Q nL D dA ad A B N0 S0 pc lo os h
  | [], pc, lo, os, h, out, hck, hr, hRm, k1, k2 => by
    simp only [m_B] at hr
    cases hr
    exact k2 _ _ _ _ rfl
  | (i, n, v, ds) :: r, pc, lo, os, h, out, hck, hr, hRm, k1, k2 => by
    have ih := fun pc lo os h => m_B_ok hF hSc hE hT hDp hcal r pc lo os h out
    have hM : m_calM cal := fun k as h w h' hq => (hcal k as h w h' hq).1
    simp only [m_ckB, Bool.and_eq_true, decide_eq_true_eq] at hck
    obtain ⟨⟨hdg, hck⟩, hckr⟩ := hck
    by_cases hi : (∀ o, i ≠ .goto o) ∧ (∀ c o, i ≠ .ifCond c o) ∧ (∀ c o, i ≠ .if_icmp c o) ∧ (∀ a b c d, i ≠ .tableswitch a b c d) ∧ (∀ a b, i ≠ .lookupswitch a b) ∧ i ≠ .ireturn ∧ i ≠ .lreturn ∧ i ≠ .return_ ∧ (∀ z, i ≠ .invokestatic z) ∧ (∀ z, i ≠ .invokespecial z) ∧ ∀ z, i ≠ .invokevirtual z
    · obtain ⟨⟨lo1, os1, h1, hm, hr1⟩, hk1⟩ := m_B_dflt sc cal i n v ds r pc lo os h out hi hr
      rw [hk1] at hck
      exact m_ok_1 hF hSc hE hT.1 (m_Rm_le (m_B_le hM r _ _ _ _ _ hr1) hRm) hdg hck hm (ih _ _ _ _ hckr hr1 hRm k1 k2)
    · cases i
      case goto o =>
        simp only [m_ckO, m_tg, Bool.and_eq_true, decide_eq_true_eq] at hck
        obtain ⟨rfl, ht⟩ := hck
        simp only [m_B] at hr
        cases hr
        intro H locs cells slots ls hN
        exact lv_goto hF.1 hF.2.1 hdg ht (k2 _ _ _ _ rfl H locs cells slots ls hN)
      case ifCond c o =>
        simp only [m_ckO, m_tg, Bool.and_eq_true, decide_eq_true_eq] at hck
        obtain ⟨rfl, ht⟩ := hck
        simp only [m_B] at hr
        split at hr
        · exact m_ok_if hF hdg ht hr (fun q => by cases q; exact k2 _ _ _ _ rfl) (fun q => ih _ _ _ _ hckr q hRm k1 k2)
        · cases hr
      case if_icmp c o =>
        simp only [m_ckO, m_tg, Bool.and_eq_true, decide_eq_true_eq] at hck
        obtain ⟨rfl, ht⟩ := hck
        simp only [m_B] at hr
        split at hr
        · exact m_ok_icmp hF hdg ht hr (fun q => by cases q; exact k2 _ _ _ _ rfl) (fun q => ih _ _ _ _ hckr q hRm k1 k2)
        · cases hr
      case tableswitch df lw hg offs =>
        simp only [m_ckO, m_tg, Bool.and_eq_true, decide_eq_true_eq] at hck
        obtain ⟨⟨ht, h2⟩, h3⟩ := hck
        simp only [m_B] at hr
        split at hr
        · cases hr; exact m_ok_table hF hdg ht h2 h3 (k2 _ _ _ _ rfl)
        · cases hr
      case lookupswitch df ps =>
        simp only [m_ckO, m_tg, Bool.and_eq_true, decide_eq_true_eq] at hck
        obtain ⟨⟨ht, h2⟩, h3⟩ := hck
        simp only [m_B] at hr
        split at hr
        · cases hr; exact m_ok_lookup hF hdg ht h2 h3 (k2 _ _ _ _ rfl)
        · cases hr
      case ireturn =>
        simp only [m_ckO, Bool.and_eq_true, decide_eq_true_eq, Bool.or_eq_true] at hck
        obtain ⟨rfl, hrt⟩ := hck
        simp only [m_B] at hr
        split at hr
        · rename_i x
          rcases hrt with hrt | ⟨hrt, hb⟩
          · cases hb : Nat.beq (m_d (m_hd ds) 0) 1 with
            | true =>
              rw [hb, cond_true] at hr
              split at hr
              · cases hr; exact k1 _ _ rfl _ pc lo hdg (Or.inl ⟨rfl, hrt, x, rfl⟩)
              · cases hr
            | false => rw [hb, cond_false] at hr; cases hr; exact k1 _ _ rfl _ pc lo hdg (Or.inl ⟨rfl, hrt, x, rfl⟩)
          · rw [hb, cond_true] at hr
            split at hr
            · rename_i hx; cases hr; exact k1 _ _ rfl _ pc lo hdg (Or.inr (Or.inl ⟨rfl, hrt, x, rfl, hx⟩))
            · cases hr
        · cases hr
      case lreturn =>
        simp only [m_ckO, Bool.and_eq_true, decide_eq_true_eq] at hck
        obtain ⟨rfl, hrt⟩ := hck
        simp only [m_B] at hr
        split at hr
        · rename_i x; cases hr; exact k1 _ _ rfl _ pc lo hdg (Or.inr (Or.inr (Or.inl ⟨rfl, hrt, x, rfl⟩)))
        · cases hr
      case return_ =>
        simp only [m_ckO, Bool.and_eq_true, decide_eq_true_eq] at hck
        obtain ⟨rfl, hrt⟩ := hck
        simp only [m_B] at hr
        split at hr
        · cases hr; exact k1 _ _ rfl _ pc lo hdg (Or.inr (Or.inr (Or.inr ⟨rfl, hrt, rfl⟩)))
        · cases hr
      case invokestatic z =>
        simp only [m_ckO, Bool.and_eq_true, decide_eq_true_eq] at hck
        obtain ⟨rfl, hck⟩ := hck
        simp only [m_B] at hr
        cases hb : Nat.ble 995 (m_d (m_hd ds) 1) with
        | true =>
          rw [hb, cond_true] at hr
          split at hr
          · rename_i os2 h2 hg
            have hle2 := m_B_le hM r _ _ _ _ _ hr
            exact m_ok_spc hF hDp (m_Rm_le ((m_spc_le hg).tr hle2) hRm) hdg hck hg (ih _ _ _ _ hckr hr hRm k1 k2)
          · cases hr
        | false =>
          rw [hb, cond_false] at hr
          split at hr
          · rename_i w h2 hq
            cases hc : (Nat.ble (m_d (m_hd ds) 0) os.length && Nat.ble (m_cat (os.drop (m_d (m_hd ds) 0))) 8) with
            | false => rw [hc, cond_false] at hr; cases hr
            | true =>
              rw [hc, cond_true] at hr
              simp only [Bool.and_eq_true] at hc
              exact m_ok_static hF hE hT hDp hcal hdg hck hb hq (Nat.le_of_ble_eq_true hc.1) (Nat.le_of_ble_eq_true hc.2) (m_Rm_le (m_B_le hM r _ _ _ _ _ hr) hRm) (ih _ _ _ _ hckr hr hRm k1 k2)
          · cases hr
      case invokespecial z =>
        simp only [m_ckO, Bool.and_eq_true, decide_eq_true_eq] at hck
        obtain ⟨rfl, hck⟩ := hck
        simp only [m_B] at hr
        split at hr
        · rename_i a os' hd
          cases hc : Nat.ble (m_cat os') 8 with
          | false => rw [hc, cond_false] at hr; cases hr
          | true =>
            rw [hc, cond_true] at hr
            cases hb : Nat.beq (m_d (m_hd ds) 1) 999 with
            | true =>
              rw [hb, cond_true] at hr
              exact m_ok_objInit hF hDp hdg hck hb hd (Nat.le_of_ble_eq_true hc) (ih _ _ _ _ hckr hr hRm k1 k2)
            | false =>
              rw [hb, cond_false] at hr
              cases ho : m_isO h a with
              | false => rw [ho, cond_false] at hr; cases hr
              | true =>
                rw [ho, cond_true] at hr
                split at hr
                · rename_i w h2 hq
                  refine m_ok_special hF hE hT hDp hcal hdg hck hb hd (Nat.le_of_ble_eq_true hc) hq ?_ (m_Rm_le (m_B_le hM r _ _ _ _ _ hr) hRm) (ih _ _ _ _ hckr hr hRm k1 k2)
                  unfold m_isO at ho
                  split at ho
                  · rename_i ci nn rs hi2
                    exact ⟨ci, nn, rs, hi2, Nat.blt_eq.mp ho⟩
                  · cases ho
                · cases hr
        · cases hr
      case invokevirtual z =>
        simp only [m_ckO, Bool.and_eq_true, decide_eq_true_eq] at hck
        obtain ⟨rfl, hck⟩ := hck
        simp only [m_B] at hr
        split at hr
        · rename_i a os' hd
          cases hc : Nat.ble (m_cat os') 8 with
          | false => rw [hc, cond_false] at hr; cases hr
          | true =>
            rw [hc, cond_true] at hr
            split at hr
            · rename_i k hp
              split at hr
              · rename_i w h2 hq
                exact m_ok_virtual hF hE hT hDp hcal hdg hck hd (Nat.le_of_ble_eq_true hc) hp hq (m_Rm_le (m_B_le hM r _ _ _ _ _ hr) hRm) (ih _ _ _ _ hckr hr hRm k1 k2)
              · cases hr
            · cases hr
        · cases hr
      all_goals exact absurd ⟨by simp, by simp, by simp, by simp, by simp, by simp, by simp, by simp, by simp, by simp, by simp⟩ hi
end MB
end
section
/-! THE TEXT CONSTANTS' OWN METHODS -/
abbrev jL : MethodName := ⟨"java/lang/String", "length", "()I"⟩
abbrev jC : MethodName := ⟨"java/lang/String", "charAt", "(I)C"⟩
abbrev jO : MethodName := ⟨"java/lang/String", "coder", "()B"⟩
abbrev jI : MethodName := ⟨"java/lang/String", "isLatin1", "()Z"⟩
abbrev jA : MethodName := ⟨"java/lang/StringLatin1", "charAt", "([BI)C"⟩
abbrev jK : MethodName := ⟨"java/lang/String", "checkIndex", "(II)V"⟩
abbrev jP : MethodName := ⟨"jdk/internal/util/Preconditions", "checkIndex", "(IILjava/util/function/BiFunction;)I"⟩
def j_ws (y : MethodName) (bs : ByteArray) (mx : Nat) (rt : Option FieldType) : List Cond := Cond.code y bs mx rt :: mTT
def j_M (l : Launch) (y : MethodName) (bs : ByteArray) (mx : Nat) (rt : Option FieldType) (d : Nat) (as : List Value) (P : State → Prop) (r : Option Value) : Prop :=
  Met l y (j_ws y bs mx rt) (m_rm d 0 0) (va_Pc as P) (fun _ st oc t => oc = .returned r ∧ t.heap = st.heap) 0 0 (fun _ => False)
theorem j_good {y : MethodName} {bs : ByteArray} {mx : Nat} {rt : Option FieldType} (h : Cond.code y bs mx rt ∈ mTT) : GoodIn mTT (j_ws y bs mx rt) := by
  intro w hw
  rcases List.mem_cons.mp hw with rfl | hw
  · exact ⟨h, good_of_word (m_goodTT _ h)⟩
  · exact ⟨hw, good_of_word (m_goodTT _ hw)⟩
section MJ
variable {p : Program} {l : Launch} {e : Env} {R : Room} {s : State} {m : MethodId} {args : Array Value} {below : List Frame} {meth : Method} {c : Code} {H : Heap} {locs : List Loc} {cells slots : Nat} {Q : State → Prop} {cc : ByteArray} {pc index nL d : Nat} {ls : Array Slot} {rest as : List Value} {own C : String} {y : MethodName} {bs : ByteArray} {mx : Nat} {rt : Option FieldType} {P : State → Prop} {r : Option Value} {b : Nat}
theorem j_after {st0 : List Value} (hr : va_Run p l e R s m args below meth c H locs cells slots 0 0 (F0 m pc ls st0) rest (fun st oc t => oc = .returned r ∧ t.heap = st.heap) (fun _ => False)) (kk : W p l e R s m args below meth c H locs cells slots Q (F0 m (pc + 3) ls (r.toList ++ rest))) : W p l e R s m args below meth c H locs cells slots Q (F0 m pc ls st0) := by
  intro T hT X
  obtain ⟨v, st₀, t, T', L, h0, X', hL, e1, e2, ⟨hv, hh⟩, st⟩ := hr T hT X
  have hvw : v = r := by simpa using hv
  subst hvw
  have hL0 : L = [] := by
    cases L with
    | nil => rfl
    | cons q L => exact absurd (hL q (List.mem_cons_self)) (by simp)
  subst hL0
  rw [List.append_nil] at X'
  obtain ⟨t2, a1, b1⟩ := kk T' (by rw [e1, hh, h0]) X'
  exact ⟨t2, st t2 a1, b1⟩
theorem j_static (S : CallFix p m c cc nL s args mTT own) (hM : j_M l y bs mx rt d as P r) (hR : d + 1 + 1 ≤ R.frames ∧ 8 + (mx + 11) + 40 * (d + 1) ≤ R.locals) (w0 : Cond.code y bs mx rt ∈ mTT) (w1 : Cond.methodLink own index y ∈ mTT) (w2 : Cond.static y ∈ mTT) (w3 : Cond.initialized y.cls ∈ mTT) (n1 : y.cls ≠ "java/lang/invoke/MethodHandle") (n2 : y.cls ≠ "java/lang/invoke/VarHandle") (hna : m_na y as.length = true) (hbl : FrameBlind (va_Pc as P)) (hP : ∀ U : State, U.heap = H → s.WarmedH U.vm → P U) (hsize : ls.size = nL) (hcat : (rest.map fun v => v.category).sum ≤ 8) (hdg : decode cc pc = .ok (.invokestatic index, 3)) (hc : cells ≤ R.cells ∧ slots ≤ R.slots) (kk : W p l e R s m args below meth c H locs cells slots Q (F0 m (pc + 3) ls (r.toList ++ rest))) {st0 : List Value} (hst : st0 = as.reverse ++ rest) : W p l e R s m args below meth c H locs cells slots Q (F0 m pc ls st0) := by
  have hts := S.2.2.2.2
  exact j_after (va_runS (n := as.length) (rest := rest) S hM ⟨⟨rfl, rfl, hR.1, hR.2, pay_in hts (j_good w0), List.mem_cons_self, hts _ w0, hts _ w3, ⟨n1, n2⟩, m_na_spec hna, hts _ w1⟩, hts _ w2⟩ ⟨hbl, fun U hU hW => ⟨rfl, hP U hU hW⟩⟩ rfl rfl hsize hst (lv_room hcat) hdg hc) kk
theorem j_virt (S : CallFix p m c cc nL s args mTT own) (hM : j_M l y bs mx rt d (.ref b :: as) P r) (hR : d + 1 + 1 ≤ R.frames ∧ 8 + (mx + 11) + 40 * (d + 1) ≤ R.locals) (w0 : Cond.code y bs mx rt ∈ mTT) (w1 : Cond.methodLink own index y ∈ mTT) (w2 : Cond.instanceMethod y ∈ mTT) (w4 : Cond.selects C y y ∈ mTT) (w3 : Cond.initialized y.cls ∈ mTT) (n1 : y.cls ≠ "java/lang/invoke/MethodHandle") (n2 : y.cls ≠ "java/lang/invoke/VarHandle") (hna : m_na y as.length = true) (hbl : FrameBlind (va_Pc (.ref b :: as) P)) (hrec : ∃ cellB : Cell, H[b]? = some cellB ∧ cellB.vm.isStatics = false ∧ s.vm.findClass C = some cellB.cls) (hP : ∀ U : State, U.heap = H → s.WarmedH U.vm → P U) (hsize : ls.size = nL) (hcat : (rest.map fun v => v.category).sum ≤ 8) (hdg : decode cc pc = .ok (.invokevirtual index, 3)) (hc : cells ≤ R.cells ∧ slots ≤ R.slots) (kk : W p l e R s m args below meth c H locs cells slots Q (F0 m (pc + 3) ls (r.toList ++ rest))) {st0 : List Value} (hst : st0 = as.reverse ++ .ref b :: rest) : W p l e R s m args below meth c H locs cells slots Q (F0 m pc ls st0) := by
  have hts := S.2.2.2.2
  exact j_after (va_runV (C := C) (n := as.length) (rest := rest) S hM ⟨⟨rfl, rfl, hR.1, hR.2, pay_in hts (j_good w0), List.mem_cons_self, hts _ w0, hts _ w3, ⟨n1, n2⟩, m_na_spec hna, hts _ w1⟩, hts _ w2, hts _ w4⟩ ⟨hbl, hrec, fun U hU hW => ⟨rfl, hP U hU hW⟩⟩ rfl rfl hsize hst (lv_room hcat) hdg hc) kk
end MJ
/-- the index is looked at -/
theorem j_P (l : Launch) {i n : Int32} (v : Value) (hv : v.category = 1) (hi : ¬ i < 0) (hin : i < n) : j_M l jP prog_22_method_11_code 3 (some .int) 0 [.int i, .int n, v] (fun _ => True) (some (.int i)) := by
  refine Met.ofW (cc := prog_22_method_11_code) (maxL := 3) (ret := some .int) (by decide +kernel) rfl ?_
  intro p e s m args below meth c s₁ Bd hml hpre
  obtain ⟨rfl, -⟩ := hpre
  have hx := Bd.exec
  have hb := Bd.bytes
  have hrt := Bd.returns
  have hlocks := Bd.notSynchronized
  rw [lg_entry_eq]
  have hE := lv_entry [.int i, .int n, v] (n := 3) (by cases v <;> simp [lg_sl, Value.category] at hv ⊢)
  generalize ((lg_sl [.int i, .int n, v] ++ List.replicate (3 - (lg_sl [.int i, .int n, v]).length) Slot.unset).toArray) = ls at hE
  have h0 := lv_at hE 0 rfl
  have h1 := lv_at hE 1 rfl
  refine lv_iload_n (k := 0) hx hb (by decide +kernel) rfl h0 ?_
  refine lv_if_lt (off := 8) (tgt := 9) hx hb (by decide +kernel) rfl (fun h => absurd h hi) fun _ => ?_
  refine lv_iload_n (k := 0) hx hb (by decide +kernel) rfl h0 ?_
  refine lv_iload_n (k := 1) hx hb (by decide +kernel) rfl h1 ?_
  refine lv_icmp_lt (off := 10) (tgt := 16) hx hb (by decide +kernel) rfl (fun _ => ?_) fun h => absurd hin h
  refine lv_iload_n (k := 0) hx hb (by decide +kernel) rfl h0 ?_
  exact W.iret hx hb hrt (fun t ht hW => ⟨rfl, ht⟩) (fun q h => by cases h) (by decide +kernel) hlocks
theorem j_own {l : Launch} {y : MethodName} {ws : List Cond} {rm : Room} {bs : ByteArray} {mx : Nat} {rt : Option FieldType} {p : Program} {e : Env} {s : State} {m : MethodId} {args : Array Value} {below : List Frame} {meth : Method} {c : Code} {s₁ : State} (Bd : BodyLoose p l y (headSpec (Cond.code y bs mx rt :: mTT) rm) bs mx rt e s m args below meth c s₁) (hml : c.maxLocals = mx) : CallFix p m c bs mx s args mTT y.cls :=
  ⟨Bd.exec, Bd.bytes, hml, findClass_of_methodNamed Bd.named, fun w hw => atoms_spec (ws := Cond.code y bs mx rt :: mTT) Bd.pre w (List.mem_cons_of_mem _ hw)⟩
/-- the field SIOOBE_FORMATTER -/
def j_Z (v : Value) (A : Nat → Prop) (U : State) : Prop := va_Z "jdk/internal/util/Preconditions" "SIOOBE_FORMATTER" "Ljava/util/function/BiFunction;" v A U U.heap
theorem j_Z.warm {v : Value} {A : Nat → Prop} {s U : State} (h : j_Z v A s) (hU : U.heap = s.heap) (hW : s.WarmedH U.vm) : j_Z v A U := by
  unfold j_Z at h ⊢
  rw [hU]
  exact h.moved hW.alike
theorem j_K (l : Launch) {A : Nat → Prop} {i n : Int32} (v : Value) (hv : v.category = 1) (hi : ¬ i < 0) (hin : i < n) : j_M l jK prog_17_method_155_code 2 none 1 [.int i, .int n] (j_Z v A) none := by
  refine Met.ofW (cc := prog_17_method_155_code) (maxL := 2) (ret := none) (by decide +kernel) rfl ?_
  intro p e s m args below meth c s₁ Bd hml hpre
  obtain ⟨rfl, hZ⟩ := hpre
  have S := j_own (ws := mTT) Bd hml
  obtain ⟨hx, hb, -, hown, hts⟩ := id S
  have hrt := Bd.returns
  have hlocks := Bd.notSynchronized
  rw [lg_entry_eq]
  have hE := lv_entry [.int i, .int n] (n := 2) (by simp [lg_sl, Value.category])
  generalize ((lg_sl [.int i, .int n] ++ List.replicate (2 - (lg_sl [.int i, .int n]).length) Slot.unset).toArray) = ls at hE
  have h0 := lv_at hE 0 rfl
  have h1 := lv_at hE 1 rfl
  refine lv_iload_n (k := 0) hx hb (by decide +kernel) rfl h0 ?_
  refine lv_iload_n (k := 1) hx hb (by decide +kernel) rfl h1 ?_
  refine va_gets (index := 1053) (ref := "jdk/internal/util/Preconditions") hx hb hZ va_S.rf hown (hts _ (m_w_in (q := 3050) (by decide +kernel))) (fun _ h => h) (by decide +kernel) ?_
  refine j_static (index := 1059) (d := 0) S (j_P l v hv hi hin) ⟨by decide, by decide⟩ (m_w_in (q := 3054) (by decide +kernel)) (m_w_in (q := 3052) (by decide +kernel)) (m_w_in (q := 3053) (by decide +kernel)) (m_w_in (q := 1016) (by decide +kernel)) (by decide) (by decide) (show m_na jP 3 = true by decide +kernel) (fun _ _ _ _ h => h) (fun _ _ _ => trivial) hE.1 (rest := []) (by decide) (by decide +kernel) ⟨Nat.zero_le _, Nat.zero_le _⟩ ?_ rfl
  refine lv_pop hx hb (by decide +kernel) rfl ?_
  exact W.vret hx hb hrt (fun t ht hW => ⟨rfl, ht⟩) (fun q h => by cases h) (by decide +kernel) hlocks
/-- a byte of the text -/
def j_T (v : Value) (A : Nat → Prop) (t N : Nat) (f : Nat → Value) (U : State) : Prop := va_T .byte t N f A U U.heap ∧ j_Z v A U
theorem j_A (l : Launch) {A : Nat → Prop} {t N : Nat} {f : Nat → Value} {i x : Int32} (v : Value) (hv : v.category = 1) (hin : vp_in i N) (hi2 : i < Int32.ofNat N) (hf : f i.toNatClampNeg = .int x) (hx1 : ((x &&& 255).toUInt32 % 65536).toInt32 = x) (hx2 : narrow .char (.int x) = .int x) : j_M l jA prog_18_method_2_code 2 (some .char) 2 [.ref t, .int i] (j_T v A t N f) (some (.int x)) := by
  refine Met.ofW (cc := prog_18_method_2_code) (maxL := 2) (ret := some .char) (by decide +kernel) rfl ?_
  intro p e s m args below meth c s₁ Bd hml hpre
  obtain ⟨rfl, hT, hZ⟩ := hpre
  have S := j_own (ws := mTT) Bd hml
  obtain ⟨hx, hb, -, hown, hts⟩ := id S
  have hrt := Bd.returns
  have hlocks := Bd.notSynchronized
  rw [lg_entry_eq]
  have hE := lv_entry [.ref t, .int i] (n := 2) (by simp [lg_sl, Value.category])
  generalize ((lg_sl [.ref t, .int i] ++ List.replicate (2 - (lg_sl [.ref t, .int i]).length) Slot.unset).toArray) = ls at hE
  have h0 := lv_at hE 0 rfl
  have h1 := lv_at hE 1 rfl
  refine lv_iload_n (k := 1) hx hb (by decide +kernel) rfl h1 ?_
  refine lv_aload_n (k := 0) hx hb (by decide +kernel) rfl h0 ?_
  refine va_tlen hx hb hT va_S.rf rfl (by decide +kernel) ?_
  refine j_static (index := 9) (d := 1) S (j_K l (A := A) v hv (fun q => hin (Or.inl q)) hi2) ⟨by decide, by decide⟩ (m_w_in (q := 3049) (by decide +kernel)) (m_w_in (q := 3047) (by decide +kernel)) (m_w_in (q := 3048) (by decide +kernel)) (m_w_in (q := 1014) (by decide +kernel)) (by decide) (by decide) (show m_na jK 2 = true by decide +kernel) (fun a U g mk h => ⟨h.1, va_Z.moved (u := U) (Vm.Alike.refl U.vm) h.2⟩) (fun U hU hW => hZ.warm hU hW) hE.1 (rest := []) (by decide) (by decide +kernel) ⟨Nat.zero_le _, Nat.zero_le _⟩ ?_ rfl
  refine lv_aload_n (k := 0) hx hb (by decide +kernel) rfl h0 ?_
  refine lv_iload_n (k := 1) hx hb (by decide +kernel) rfl h1 ?_
  refine va_tb hx hb hT va_S.rf hin hf (by decide +kernel) ?_
  refine lv_sipush (n := 255) (v := 255) hx hb (by decide +kernel) (by decide +kernel) ?_
  refine lv_iand hx hb (by decide +kernel) ?_
  refine lv_i2c (v := x) hx hb (by decide +kernel) hx1 ?_
  exact W.zret (ty := .char) hx hb hrt hx2 (fun t ht hW => ⟨rfl, ht⟩) (fun q h => by cases h) (by decide +kernel) hlocks
/-- a text constant's fields -/
def j_S (A : Nat → Prop) (a : Nat) (U : State) : Prop := va_OF "java/lang/String" "coder" "B" (.int 0) a A U U.heap ∧ va_Z "java/lang/String" "COMPACT_STRINGS" "Z" (.int 1) A U U.heap
theorem j_S.warm {A : Nat → Prop} {a : Nat} {s U : State} (h : j_S A a s) (hU : U.heap = s.heap) (hW : s.WarmedH U.vm) : j_S A a U := by
  unfold j_S at h ⊢
  rw [hU]
  exact ⟨va_OF.moved hW.alike h.1, h.2.moved hW.alike⟩
theorem j_S.blind {A : Nat → Prop} {a : Nat} {as : List Value} : FrameBlind (va_Pc as (j_S A a)) := fun a U g mk h => ⟨h.1, va_OF.moved (u := U) (Vm.Alike.refl U.vm) h.2.1, va_Z.moved (u := U) (Vm.Alike.refl U.vm) h.2.2⟩
theorem j_O (l : Launch) {A : Nat → Prop} {a : Nat} : j_M l jO prog_17_method_152_code 1 (some .byte) 0 [.ref a] (j_S A a) (some (.int 0)) := by
  refine Met.ofW (cc := prog_17_method_152_code) (maxL := 1) (ret := some .byte) (by decide +kernel) rfl ?_
  intro p e s m args below meth c s₁ Bd hml hpre
  obtain ⟨rfl, hC, hZ⟩ := hpre
  have S := j_own (ws := mTT) Bd hml
  obtain ⟨hx, hb, -, hown, hts⟩ := id S
  have hrt := Bd.returns
  have hlocks := Bd.notSynchronized
  rw [lg_entry_eq]
  have hE := lv_entry [.ref a] (n := 1) (by simp [lg_sl, Value.category])
  generalize ((lg_sl [.ref a] ++ List.replicate (1 - (lg_sl [.ref a]).length) Slot.unset).toArray) = ls at hE
  have h0 := lv_at hE 0 rfl
  refine va_gets (index := 38) (ref := "java/lang/String") hx hb hZ va_S.rf hown (hts _ (m_w_in (q := 3034) (by decide +kernel))) (fun _ h => h) (by decide +kernel) ?_
  refine lv_if_eq (off := 10) (tgt := 13) hx hb (by decide +kernel) rfl (fun h => absurd h (by decide)) fun _ => ?_
  refine lv_aload_n (k := 0) hx hb (by decide +kernel) rfl h0 ?_
  refine vk_getf (index := 15) (ref := "java/lang/String") hx hb hC va_S.rf hown (hts _ (m_w_in (q := 7226) (by decide +kernel))) (fun _ h => h) (by decide +kernel) ?_
  refine lv_goto (off := 4) (tgt := 14) hx hb (by decide +kernel) rfl ?_
  exact W.zret (ty := .byte) hx hb hrt (by decide +kernel) (fun t ht hW => ⟨rfl, ht⟩) (fun q h => by cases h) (by decide +kernel) hlocks
theorem j_I (l : Launch) {A : Nat → Prop} {a : Nat} : j_M l jI prog_17_method_154_code 1 (some .boolean) 0 [.ref a] (j_S A a) (some (.int 1)) := by
  refine Met.ofW (cc := prog_17_method_154_code) (maxL := 1) (ret := some .boolean) (by decide +kernel) rfl ?_
  intro p e s m args below meth c s₁ Bd hml hpre
  obtain ⟨rfl, hC, hZ⟩ := hpre
  have S := j_own (ws := mTT) Bd hml
  obtain ⟨hx, hb, -, hown, hts⟩ := id S
  have hrt := Bd.returns
  have hlocks := Bd.notSynchronized
  rw [lg_entry_eq]
  have hE := lv_entry [.ref a] (n := 1) (by simp [lg_sl, Value.category])
  generalize ((lg_sl [.ref a] ++ List.replicate (1 - (lg_sl [.ref a]).length) Slot.unset).toArray) = ls at hE
  have h0 := lv_at hE 0 rfl
  refine va_gets (index := 38) (ref := "java/lang/String") hx hb hZ va_S.rf hown (hts _ (m_w_in (q := 3034) (by decide +kernel))) (fun _ h => h) (by decide +kernel) ?_
  refine lv_if_eq (off := 14) (tgt := 17) hx hb (by decide +kernel) rfl (fun h => absurd h (by decide)) fun _ => ?_
  refine lv_aload_n (k := 0) hx hb (by decide +kernel) rfl h0 ?_
  refine vk_getf (index := 15) (ref := "java/lang/String") hx hb hC va_S.rf hown (hts _ (m_w_in (q := 7226) (by decide +kernel))) (fun _ h => h) (by decide +kernel) ?_
  refine lv_if_ne (off := 7) (tgt := 17) hx hb (by decide +kernel) rfl (fun h => absurd rfl h) fun _ => ?_
  refine lv_iconst (n := 1) (v := 1) hx hb (by decide +kernel) (by decide) ?_
  refine lv_goto (off := 4) (tgt := 18) hx hb (by decide +kernel) rfl ?_
  exact W.zret (ty := .boolean) hx hb hrt (by decide +kernel) (fun t ht hW => ⟨rfl, ht⟩) (fun q h => by cases h) (by decide +kernel) hlocks
theorem j_lt {j : Int32} {N : Nat} (h1 : ¬ j < 0) (h2 : j.toNatClampNeg < N) (hN : N < 2 ^ 31) : j < Int32.ofNat N := by
  have e0 : j.toNatClampNeg = j.toInt.toNat := rfl
  have h3 : (0 : Int) ≤ j.toInt := by
    have := Int32.not_lt.mp h1
    simpa using Int32.le_iff_toInt_le.mp this
  rw [Int32.lt_iff_toInt_lt, Int32.toInt_ofNat_of_lt hN]
  omega
theorem j_txt : ∀ q ∈ m_txt, q.length < 100 ∧ ∀ x ∈ q, ((x &&& 255).toUInt32 % 65536).toInt32 = x ∧ narrow .char (.int x) = .int x := by decide +kernel
/-- what holds of a text constant where the machine's contracts are called -/
theorem j_pre {D : va_G} {dA : Nat → ClassId} {ad : Nat → Nat} {B : Nat} {h : mH} {a : Nat} {q : List Int32} {U : State} (ha : m_str0 ≤ a) (hq : m_txt[a - m_str0]? = some q) (hv : m_Pre D dA ad B h U) :
    j_S (m_Fr dA ad B h) (ad a) U ∧ (∃ cellB : Cell, U.heap[ad a]? = some cellB ∧ cellB.vm.isStatics = false ∧ U.vm.findClass "java/lang/String" = some cellB.cls) ∧ ∃ t v, v.category = 1 ∧ va_OF "java/lang/String" "value" "[B" (.ref t) (ad a) (m_Fr dA ad B h) U U.heap ∧ j_T v (m_Fr dA ad B h) t q.length (fun j => .int (q.getD j 0)) U := by
  obtain ⟨hsz, hP, hK, hD0, hE, -, ⟨adV, hS⟩, hZ, v, hv1, hv2⟩ := hv
  have hi : a - m_str0 < 6 := (List.getElem?_eq_some_iff.mp hq).1
  have e : ad (m_str0 + (a - m_str0)) = ad a := by rw [show m_str0 + (a - m_str0) = a by omega]
  obtain ⟨h1, h2, h3, h4⟩ := hS.1 (a - m_str0) hi
  have e1 : m_tln.getD (a - m_str0) 0 = q.length := by
    rw [List.getD_eq_getElem?_getD, m_tln, List.getElem?_map, hq]
    rfl
  have e2 : m_txt.getD (a - m_str0) [] = q := by
    rw [List.getD_eq_getElem?_getD, hq]
    rfl
  have h5 := vk_recv hS hi va_S.rf
  simp only at h1 h2 h3 h4 h5
  rw [e] at h1 h2 h3 h5
  rw [e1, e2] at h4
  exact ⟨⟨h2, hZ⟩, h5, adV (a - m_str0), v, hv1, h3, h4, hv2⟩
theorem j_end {D : va_G} {dA : Nat → ClassId} {ad : Nat → Nat} {B : Nat} {h : mH} {s t : State} {a : Array Value} {r : Option Value} (hv : m_Pre D dA ad B h s) (ht : t.heap = s.heap) : m_Q D dA ad B h r h a s (.returned r) t := by
  obtain ⟨hsz, hP, hK, hD0, hE, hT⟩ := hv
  refine ⟨⟨rfl, by rw [ht]; exact hsz, by rw [ht]; exact hP, hD0.self⟩, va_S.rf.F ht⟩
theorem m_len_met (l : Launch) (D : va_G) (dA : Nat → ClassId) (ad : Nat → Nat) (B : Nat) {a : Nat} {q : List Int32} {h : mH} (ha : m_str0 ≤ a) (hq : m_txt[a - m_str0]? = some q) : m_Met l D dA ad B 4 900 [.ref a] h (some (.int (Int32.ofNat q.length))) h := by
  unfold m_Met
  rw [Nat.sub_self, Nat.sub_self]
  show Met l jL (j_ws jL prog_17_method_54_code 1 (some .int)) (m_rm 4 0 0) (va_Pc [.ref (ad a)] (m_Pre D dA ad B h)) (m_Q D dA ad B h (some (.int (Int32.ofNat q.length))) h) 0 0 (m_Fr dA ad B h)
  refine Met.ofW (cc := prog_17_method_54_code) (maxL := 1) (ret := some .int) (by decide +kernel) rfl ?_
  intro p e s m args below meth c s₁ Bd hml hpre
  obtain ⟨rfl, hv⟩ := hpre
  obtain ⟨g1, g2, t, v, hv1, g3, g4⟩ := j_pre ha hq hv
  have S := j_own (ws := mTT) Bd hml
  obtain ⟨hx, hb, -, hown, hts⟩ := id S
  have hrt := Bd.returns
  have hlocks := Bd.notSynchronized
  rw [lg_entry_eq]
  have hE := lv_entry [.ref (ad a)] (n := 1) (by simp [lg_sl, Value.category])
  generalize ((lg_sl [.ref (ad a)] ++ List.replicate (1 - (lg_sl [.ref (ad a)]).length) Slot.unset).toArray) = ls at hE
  have h0 := lv_at hE 0 rfl
  refine lv_aload_n (k := 0) hx hb (by decide +kernel) rfl h0 ?_
  refine vk_getf (index := 9) (ref := "java/lang/String") hx hb g3 va_S.rf hown (hts _ (m_w_in (q := 7225) (by decide +kernel))) (fun _ h => h) (by decide +kernel) ?_
  refine va_tlen hx hb g4.1 va_S.rf rfl (by decide +kernel) ?_
  refine lv_aload_n (k := 0) hx hb (by decide +kernel) rfl h0 ?_
  refine j_virt (index := 335) (C := "java/lang/String") (d := 0) (as := []) S (j_O l (A := m_Fr dA ad B h)) ⟨by decide, by decide⟩ (m_w_in (q := 3033) (by decide +kernel)) (m_w_in (q := 3030) (by decide +kernel)) (m_w_in (q := 3031) (by decide +kernel)) (m_w_in (q := 3032) (by decide +kernel)) (m_w_in (q := 1014) (by decide +kernel)) (by decide) (by decide) (show m_na jO 0 = true by decide +kernel) j_S.blind g2 (fun U hU hW => g1.warm hU hW) hE.1 (rest := [.int (Int32.ofNat q.length)]) (by simp [Value.category]) (by decide +kernel) ⟨Nat.zero_le _, Nat.zero_le _⟩ ?_ rfl
  refine lv_ishr hx hb (by decide +kernel) ?_
  have e9 : Int32.ofNat q.length >>> (0 &&& 31) = Int32.ofNat q.length := by simp
  rw [e9]
  exact W.iret hx hb hrt (fun t ht hW => j_end hv ht) (fun q h => by cases h) (by decide +kernel) hlocks
theorem m_char_met (l : Launch) (D : va_G) (dA : Nat → ClassId) (ad : Nat → Nat) (B : Nat) {a : Nat} {j : Int32} {q : List Int32} {h : mH} (ha : m_str0 ≤ a) (hq : m_txt[a - m_str0]? = some q) (hj : ¬ (j < 0 ∨ q.length ≤ j.toNatClampNeg)) : m_Met l D dA ad B 4 901 [.ref a, .int j] h (some (.int ((q[j.toNatClampNeg]?).getD 0))) h := by
  unfold m_Met
  rw [Nat.sub_self, Nat.sub_self]
  show Met l jC (j_ws jC prog_17_method_56_code 2 (some .char)) (m_rm 4 0 0) (va_Pc [.ref (ad a), .int j] (m_Pre D dA ad B h)) (m_Q D dA ad B h (some (.int ((q[j.toNatClampNeg]?).getD 0))) h) 0 0 (m_Fr dA ad B h)
  refine Met.ofW (cc := prog_17_method_56_code) (maxL := 2) (ret := some .char) (by decide +kernel) rfl ?_
  intro p e s m args below meth c s₁ Bd hml hpre
  obtain ⟨rfl, hv⟩ := hpre
  obtain ⟨g1, g2, t, v, hv1, g3, g4⟩ := j_pre ha hq hv
  have S := j_own (ws := mTT) Bd hml
  obtain ⟨hx, hb, -, hown, hts⟩ := id S
  have hrt := Bd.returns
  have hlocks := Bd.notSynchronized
  rw [lg_entry_eq]
  have hE := lv_entry [.ref (ad a), .int j] (n := 2) (by simp [lg_sl, Value.category])
  generalize ((lg_sl [.ref (ad a), .int j] ++ List.replicate (2 - (lg_sl [.ref (ad a), .int j]).length) Slot.unset).toArray) = ls at hE
  have h0 := lv_at hE 0 rfl
  have h1 := lv_at hE 1 rfl
  have hlt : j.toNatClampNeg < q.length := Nat.not_le.mp fun z => hj (Or.inr z)
  obtain ⟨hq1, hq2⟩ := j_txt q (List.mem_of_getElem? hq)
  have hget : q[j.toNatClampNeg]? = some q[j.toNatClampNeg] := List.getElem?_eq_getElem hlt
  obtain ⟨x1, x2⟩ := hq2 _ (List.getElem_mem hlt)
  rw [hget]
  generalize hxx : q[j.toNatClampNeg] = x at x1 x2 hget
  have hf : (fun i => Value.int (q.getD i 0)) j.toNatClampNeg = .int x := by
    show Value.int (q.getD j.toNatClampNeg 0) = _
    rw [List.getD_eq_getElem?_getD, hget]
    rfl
  refine lv_aload_n (k := 0) hx hb (by decide +kernel) rfl h0 ?_
  refine j_virt (index := 492) (C := "java/lang/String") (d := 0) (as := []) S (j_I l (A := m_Fr dA ad B h)) ⟨by decide, by decide⟩ (m_w_in (q := 3043) (by decide +kernel)) (m_w_in (q := 3040) (by decide +kernel)) (m_w_in (q := 3041) (by decide +kernel)) (m_w_in (q := 3042) (by decide +kernel)) (m_w_in (q := 1014) (by decide +kernel)) (by decide) (by decide) (show m_na jI 0 = true by decide +kernel) j_S.blind g2 (fun U hU hW => g1.warm hU hW) hE.1 (rest := []) (by decide) (by decide +kernel) ⟨Nat.zero_le _, Nat.zero_le _⟩ ?_ rfl
  refine lv_if_eq (off := 12) (tgt := 16) hx hb (by decide +kernel) rfl (fun h => absurd h (by decide)) fun _ => ?_
  refine lv_aload_n (k := 0) hx hb (by decide +kernel) rfl h0 ?_
  refine vk_getf (index := 9) (ref := "java/lang/String") hx hb g3 va_S.rf hown (hts _ (m_w_in (q := 7225) (by decide +kernel))) (fun _ h => h) (by decide +kernel) ?_
  refine lv_iload_n (k := 1) hx hb (by decide +kernel) rfl h1 ?_
  refine j_static (index := 495) (d := 2) S (j_A l v hv1 hj (j_lt (fun z => hj (Or.inl z)) hlt (by omega)) hf x1 x2) ⟨by decide, by decide⟩ (m_w_in (q := 3046) (by decide +kernel)) (m_w_in (q := 3044) (by decide +kernel)) (m_w_in (q := 3045) (by decide +kernel)) (m_w_in (q := 1015) (by decide +kernel)) (by decide) (by decide) (show m_na jA 2 = true by decide +kernel) (fun a U g mk h => ⟨h.1, va_T.moved (u := U) (Vm.Alike.refl U.vm) h.2.1, va_Z.moved (u := U) (Vm.Alike.refl U.vm) h.2.2⟩) (fun U hU hW => ⟨by rw [hU]; exact va_T.moved hW.alike g4.1, g4.2.warm hU hW⟩) hE.1 (rest := []) (by decide) (by decide +kernel) ⟨Nat.zero_le _, Nat.zero_le _⟩ ?_ rfl
  exact W.zret (ty := .char) hx hb hrt x2 (fun t ht hW => j_end hv ht) (fun q h => by cases h) (by decide +kernel) hlocks
/-- a text constant's length() and charAt() -/
theorem m_bi_met (l : Launch) (D : va_G) (dA : Nat → ClassId) (ad : Nat → Nat) (B : Nat) {k : Nat} {as : List Value} {h h' : mH} {r : Option Value} (hr : m_bi k as h = some (r, h')) : m_Met l D dA ad B 4 k as h r h' := by
  unfold m_bi at hr
  cases h9 : Nat.beq k 900 with
  | true =>
    obtain rfl := Nat.eq_of_beq_eq_true h9
    rw [h9, cond_true] at hr
    split at hr
    · rename_i a
      cases hb : Nat.ble m_str0 a with
      | false => rw [hb, cond_false] at hr; cases hr
      | true =>
        rw [hb, cond_true] at hr
        split at hr
        · rename_i q hq
          cases hr
          exact m_len_met l D dA ad B (Nat.le_of_ble_eq_true hb) hq
        · cases hr
    · cases hr
  | false =>
    rw [h9, cond_false] at hr
    cases h8 : Nat.beq k 901 with
    | false => rw [h8, cond_false] at hr; cases hr
    | true =>
      obtain rfl := Nat.eq_of_beq_eq_true h8
      rw [h8, cond_true] at hr
      split at hr
      · rename_i a j
        cases hb : Nat.ble m_str0 a with
        | false => rw [hb, cond_false] at hr; cases hr
        | true =>
          rw [hb, cond_true] at hr
          split at hr
          · rename_i q hq
            split at hr
            · cases hr
            · rename_i hj
              cases hr
              exact m_char_met l D dA ad B (Nat.le_of_ble_eq_true hb) hq hj
          · cases hr
      · cases hr
end
section
/-! METHODS: what a run says is what the JVM does -/
/-- what a program decides of a method -/
def m_ckM (k : Nat) : Bool := plainName (m_y k).cls && (mBl k).all fun e => m_ckB (m_y k).cls (m_y k).name (m_mx k) (m_rt k) (m_by k) e.2 e.1
theorem m_look_ck (own nm : String) (nL : Nat) (rt : Option FieldType) (cc : ByteArray) (pc : Nat) : ∀ l : List (Nat × List mO), (l.all fun e => m_ckB own nm nL rt cc e.2 e.1) = true → m_ckB own nm nL rt cc (m_look pc l) pc = true
  | [], _ => rfl
  | (h, b) :: r, hl => by
    simp only [List.all_cons, Bool.and_eq_true] at hl
    unfold m_look
    cases hb : Nat.beq h pc with
    | true => rw [cond_true, ← Nat.eq_of_beq_eq_true hb]; exact hl.1
    | false => rw [cond_false]; exact m_look_ck own nm nL rt cc pc r hl.2
def m_noPut (ops : List mO) : Bool := ops.all fun q => match q.1 with
  | .putfield _ => false
  | _ => true
theorem m_ckO_nm {own nm nm' : String} {nL : Nat} {rt : Option FieldType} {pc : Nat} {i : Instr} {n : Nat} {v : Int32 × Int64} {ds : List (List Nat)} (hi : ∀ z, i ≠ .putfield z) : m_ckO own nm nL rt pc i n v ds = m_ckO own nm' nL rt pc i n v ds := by
  cases i
  case putfield z => exact absurd rfl (hi z)
  all_goals rfl
theorem m_ckB_nm {own nm nm' : String} {nL : Nat} {rt : Option FieldType} {cc : ByteArray} : ∀ (ops : List mO) (pc : Nat), m_noPut ops = true → m_ckB own nm nL rt cc ops pc = true → m_ckB own nm' nL rt cc ops pc = true
  | [], pc, _, _ => rfl
  | (i, n, v, ds) :: r, pc, hn, h => by
    simp only [m_noPut, List.all_cons, Bool.and_eq_true] at hn
    simp only [m_ckB, Bool.and_eq_true] at h ⊢
    refine ⟨⟨h.1.1, ?_⟩, m_ckB_nm r _ hn.2 h.2⟩
    rw [m_ckO_nm (nm' := nm) (fun z hz => by rw [hz] at hn; exact Bool.noConfusion hn.1)]
    exact h.1.2
theorem m_look_np (pc : Nat) : ∀ l : List (Nat × List mO), (l.all fun e => m_noPut e.2) = true → m_noPut (m_look pc l) = true
  | [], _ => rfl
  | (h, b) :: r, hl => by
    simp only [List.all_cons, Bool.and_eq_true] at hl
    unfold m_look
    cases hb : Nat.beq h pc with
    | true => exact hl.1
    | false => rw [cond_false]; exact m_look_np pc r hl.2
/-- the answers of the methods that a run calls -/
def m_cal (f d : Nat) : mK := fun k' as h' => match d with
  | 0 => none
  | d' + 1 => bif Nat.ble 900 k' then (bif Nat.ble 4 d' then m_bi k' as h' else none) else bif Nat.blt k' 268 && Nat.ble (m_lay as).length (mX k') then m_run mP mX f none d' k' 0 (m_lo (mX k') as) [] h' else none
theorem m_run_s (f : Nat) (sc : mS) (d k pc : Nat) (lo : mL) (os : List Value) (h : mH) : m_run mP mX (f + 1) sc d k pc lo os h = match m_B sc (m_cal f d) (mP k pc) pc lo os h with
    | some (.inl r) => bif m_isN r.1 then some r else none
    | some (.inr (pc', lo', os', h')) => m_run mP mX f sc d k pc' lo' os' h'
    | none => none := rfl
theorem m_isN_nr {r : Option Value} (h : m_isN r = true) : m_nr r := by
  intro ad
  unfold m_isN at h
  split at h
  · rfl
  · rfl
  · rfl
  · cases h
theorem m_bi_same {k : Nat} {as : List Value} {h h' : mH} {r : Option Value} (hr : m_bi k as h = some (r, h')) : h' = h ∧ m_nr r := by
  unfold m_bi at hr
  cases h9 : Nat.beq k 900 with
  | true =>
    rw [h9, cond_true] at hr
    split at hr
    · rename_i a
      cases hb : Nat.ble m_str0 a with
      | false => rw [hb, cond_false] at hr; cases hr
      | true =>
        rw [hb, cond_true] at hr
        split at hr
        · cases hr; exact ⟨rfl, m_isN_nr rfl⟩
        · cases hr
    · cases hr
  | false =>
    rw [h9, cond_false] at hr
    cases h8 : Nat.beq k 901 with
    | false => rw [h8, cond_false] at hr; cases hr
    | true =>
      rw [h8, cond_true] at hr
      split at hr
      · rename_i a j
        cases hb : Nat.ble m_str0 a with
        | false => rw [hb, cond_false] at hr; cases hr
        | true =>
          rw [hb, cond_true] at hr
          split at hr
          · split at hr
            · cases hr
            · cases hr; exact ⟨rfl, m_isN_nr rfl⟩
          · cases hr
      · cases hr
theorem m_run_le : ∀ (f : Nat) (sc : mS) (d k pc : Nat) (lo : mL) (os : List Value) (h : mH) (r : Option Value) (h' : mH), m_run mP mX f sc d k pc lo os h = some (r, h') → m_le h h' ∧ m_nr r
  | 0, sc, d, k, pc, lo, os, h, r, h', hr => by cases hr
  | f + 1, sc, d, k, pc, lo, os, h, r, h', hr => by
    have hM : m_calM (m_cal f d) := by
      intro k' as h1 w h2 hq
      unfold m_cal at hq
      split at hq
      · cases hq
      · rename_i d'
        cases hb : Nat.ble 900 k' with
        | true =>
          rw [hb, cond_true] at hq
          cases h4 : Nat.ble 4 d' with
          | false => rw [h4, cond_false] at hq; cases hq
          | true => rw [h4, cond_true] at hq; rw [(m_bi_same hq).1]; exact m_le.rf
        | false =>
          rw [hb, cond_false] at hq
          cases h5 : (Nat.blt k' 268 && Nat.ble (m_lay as).length (mX k')) with
          | false => rw [h5, cond_false] at hq; cases hq
          | true => rw [h5, cond_true] at hq; exact (m_run_le f _ _ _ _ _ _ _ _ _ hq).1
    rw [m_run_s] at hr
    split at hr
    · rename_i r1 hB
      cases hn : m_isN r1.1 with
      | false => rw [hn, cond_false] at hr; cases hr
      | true =>
        rw [hn, cond_true] at hr
        cases hr
        exact ⟨m_B_le hM _ _ _ _ _ _ hB, m_isN_nr hn⟩
    · rename_i pc' lo' os' h1 hB
      obtain ⟨g1, g2⟩ := m_run_le f _ _ _ _ _ _ _ _ _ hr
      exact ⟨(m_B_le hM _ _ _ _ _ _ hB).tr g1, g2⟩
    · cases hr
/-- the contracts of all methods, as far as so much time shows -/
def m_All (l : Launch) (D : va_G) (dA : Nat → ClassId) (ad : Nat → Nat) (B f : Nat) : Prop := ∀ (d k : Nat) (as : List Value) (h : mH) (r : Option Value) (h' : mH), m_run mP mX f none d k 0 (m_lo (mX k) as) [] h = some (r, h') → k < 268 → (m_lay as).length ≤ mX k → h'.1.length ≤ m_str0 → m_Met l D dA ad B d k as h r h'
theorem m_cal_ok {l : Launch} {D : va_G} {dA : Nat → ClassId} {ad : Nat → Nat} {B f d : Nat} (hAll : m_All l D dA ad B f) : m_Cal l D dA ad B (m_cal f d) d := by
  intro k as h w h' hq
  unfold m_cal at hq
  split at hq
  · cases hq
  · rename_i d'
    cases hb : Nat.ble 900 k with
    | true =>
      rw [hb, cond_true] at hq
      cases h4 : Nat.ble 4 d' with
      | false => rw [h4, cond_false] at hq; cases hq
      | true =>
        rw [h4, cond_true] at hq
        obtain ⟨e1, e2⟩ := m_bi_same hq
        refine ⟨by rw [e1]; exact m_le.rf, e2, fun _ => ⟨4, by have := Nat.le_of_ble_eq_true h4; omega, m_bi_met l D dA ad B hq⟩⟩
    | false =>
      rw [hb, cond_false] at hq
      cases h5 : (Nat.blt k 268 && Nat.ble (m_lay as).length (mX k)) with
      | false => rw [h5, cond_false] at hq; cases hq
      | true =>
        rw [h5, cond_true] at hq
        obtain ⟨g1, g2⟩ := m_run_le _ _ _ _ _ _ _ _ _ _ hq
        simp only [Bool.and_eq_true] at h5
        exact ⟨g1, g2, fun hl => ⟨d', Nat.lt_succ_self _, hAll d' k as h w h' hq (Nat.blt_eq.mp h5.1) (Nat.le_of_ble_eq_true h5.2) hl⟩⟩
section MM2
variable {p : Program} {l : Launch} {e : Env} {R : Room} {s : State} {m : MethodId} {args : Array Value} {below : List Frame} {meth : Method} {c : Code} {Q : State → Prop} {D : va_G} {dA : Nat → ClassId} {ad : Nat → Nat} {A : Nat → Prop} {B N0 S0 : Nat}
/-- a frame, from the block that begins at pc to its method's end -/
theorem m_go (hE : m_Ex s) (hT : m_TX ad A s s.heap) {sc : mS} (hSc : m_Sc s ad A sc) {d k : Nat} (hDp : m_Dp R d) {nL : Nat} {cc : ByteArray} {own nm : String} (hckp : ∀ pc, m_ckB own nm nL (m_rt k) cc (mP k pc) pc = true) (hF : m_Fx p s m args meth c cc own nm nL D dA ad A B) {r : Option Value} {h' : mH} (hRm : m_Rm R N0 S0 h')
    (kend : ∀ (i : Instr) (pc' : Nat) (lo' : mL), decode cc pc' = .ok (i, 1) → m_rok (m_rt k) i r → m_W p l e R s m args below meth c Q nL D dA ad A B N0 S0 pc' lo' r.toList h') :
    ∀ (f : Nat), (∀ g, g < f → m_All l D dA ad B g) → ∀ (pc : Nat) (lo : mL) (os : List Value) (h : mH), m_run mP mX f sc d k pc lo os h = some (r, h') → m_W p l e R s m args below meth c Q nL D dA ad A B N0 S0 pc lo os h
  | 0, _, pc, lo, os, h, hr => by cases hr
  | f + 1, hAll, pc, lo, os, h, hr => by
    have hcal := m_cal_ok (d := d) (hAll f (Nat.lt_succ_self f))
    have hM : m_calM (m_cal f d) := fun k as h w h' hq => (hcal k as h w h' hq).1
    rw [m_run_s] at hr
    split at hr
    · rename_i r1 hB
      cases hn : m_isN r1.1 with
      | false => rw [hn, cond_false] at hr; cases hr
      | true =>
        rw [hn, cond_true] at hr
        cases hr
        exact m_B_ok hF hSc hE hT hDp hcal _ pc lo os h _ (hckp pc) hB hRm (fun r2 h2 hq i pc' lo' hd ho => by cases hq; exact kend i pc' lo' hd ho) (fun _ _ _ _ hq => by cases hq)
    · rename_i pc' lo' os' h1 hB
      exact m_B_ok hF hSc hE hT hDp hcal _ pc lo os h _ (hckp pc) hB (m_Rm_le (m_run_le _ _ _ _ _ _ _ _ _ _ hr).1 hRm) (fun _ _ hq => by cases hq) (fun pc2 lo2 os2 h2 hq => by
        cases hq
        exact m_go hE hT hSc hDp hckp hF hRm kend f (fun g hg => hAll g (Nat.lt_succ_of_lt hg)) _ _ _ _ hr)
    · cases hr
end MM2
theorem m_X_eq : ∀ k, k < 268 → mX k = m_mx k := by decide +kernel
/-- every method by its contract -/
theorem m_all (hck : ∀ k, k < 268 → m_ckM k = true) (l : Launch) (D : va_G) (dA : Nat → ClassId) (ad : Nat → Nat) (B : Nat) (hB : ∀ i, i < m_str0 → ad i = B + i) : ∀ f : Nat, m_All l D dA ad B f := by
  intro f
  induction f using Nat.strongRecOn with
  | ind f ih =>
  intro d k as h r h' hr hk hly hlen
  have hmk := hck k hk
  have hmk2 : ((mBl k).all fun e => m_ckB (m_y k).cls (m_y k).name (m_mx k) (m_rt k) (m_by k) e.2 e.1) = true := by
    simp only [m_ckM, Bool.and_eq_true] at hmk
    exact hmk.2
  obtain ⟨hle, hnr⟩ := m_run_le _ _ _ _ _ _ _ _ _ _ hr
  refine Met.ofW (cc := m_by k) (maxL := m_mx k) (ret := m_rt k) (by simp only [m_ckM, Bool.and_eq_true] at hmk; exact hmk.1) rfl ?_
  intro p e s m args below meth c s₁ Bd hml hv
  obtain ⟨rfl, hsz, hP, hK, hD0, hE, hT⟩ := hv
  have hx := Bd.exec
  have hb := Bd.bytes
  have hrt := Bd.returns
  have hlocks := Bd.notSynchronized
  have hts : ∀ w ∈ mTT, w.before (as.map (m_v ad)).toArray s = true := fun w hw => atoms_spec (ws := m_mws k) Bd.pre w (List.mem_cons_of_mem _ hw)
  have hown : s.vm.findClass (m_y k).cls = some m.cls := findClass_of_methodNamed Bd.named
  have hnm : meth.name = (m_y k).name := (name_of_methodNamed Bd.named Bd.method).1
  have hA : ∀ q, s.heap.size ≤ q → m_Fr dA ad B h q := fun q hq => Or.inr (by rw [hsz] at hq; exact hq)
  have hF : m_Fx p s m (as.map (m_v ad)).toArray meth c (m_by k) (m_y k).cls (m_y k).name (m_mx k) D dA ad (m_Fr dA ad B h) B := ⟨hx, hb, hml, hown, hts, hK, hA, hnm, hB⟩
  rw [lg_entry_eq]
  have hmx := m_X_eq k hk
  rw [hmx] at hly
  · refine m_go (N0 := h.1.length) (S0 := m_sz h) (R := m_rm d (h'.1.length - h.1.length) (m_sz h' - m_sz h)) hE hT (sc := none) (fun _ _ q => by cases q) (d := d) ⟨Nat.le_refl _, Nat.le_refl _⟩ (fun pc => m_look_ck _ _ _ _ _ pc _ hmk2) hF (r := r) (h' := h') ⟨?_, ?_, hlen⟩ ?_ f (fun g hg => ih g hg) 0 (m_lo (mX k) as) [] h hr s.heap [] 0 0 _ ⟨hP, hD0.self, va_S.rf, hsz, Nat.zero_add _, Nat.zero_add _, by rw [hmx]; exact m_LS.entry ad as hly⟩
    · have := hle.1
      show h'.1.length ≤ h.1.length + (h'.1.length - h.1.length)
      omega
    · have := hle.2
      show m_sz h' ≤ m_sz h + (m_sz h' - m_sz h)
      omega
    · intro i pc' lo' hd ho H locs cells slots ls hN
      obtain ⟨gP, gD, gS, gZ, gC, gL, gl⟩ := hN
      have ec : h'.1.length - h.1.length = cells := by omega
      have es : m_sz h' - m_sz h = slots := by omega
      rw [ec, es]
      have hq : ∀ (r' : Option Value) (t : State), r' = r → t.heap = H → s.WarmedH t.vm → m_Q D dA ad B h r h' (as.map (m_v ad)).toArray s (.returned r') t := fun r' t hr' ht hW => ⟨⟨by rw [hr'], by rw [ht]; exact gZ, by rw [ht]; exact gP, gD⟩, gS.F ht⟩
      rcases ho with ⟨rfl, hr1, x, rfl⟩ | ⟨rfl, hr1, x, rfl, hx01⟩ | ⟨rfl, hr1, x, rfl⟩ | ⟨rfl, hr1, rfl⟩
      · exact W.iret hx hb (hrt.trans hr1) (fun t ht hW => hq _ t rfl ht hW) gS.2.2 hd hlocks
      · exact W.zret (ty := .boolean) hx hb (hrt.trans hr1) (by rcases hx01 with rfl | rfl <;> decide +kernel) (fun t ht hW => hq _ t rfl ht hW) gS.2.2 hd hlocks
      · exact W.lret hx hb (hrt.trans hr1) (fun t ht hW => hq _ t rfl ht hW) gS.2.2 hd hlocks
      · exact W.vret hx hb (hrt.trans hr1) (fun t ht hW => hq _ t rfl ht hW) gS.2.2 hd hlocks
end
section
/-! THE CODE IS WHAT ITS BLOCKS SAY: by program, methods 0 to 89 -/
set_option maxRecDepth 100000 in
theorem m_ck_0 : ∀ k, k < 10 → 0 ≤ k → m_ckM k = true := by decide +kernel
set_option maxRecDepth 100000 in
theorem m_ck_10 : ∀ k, k < 20 → 10 ≤ k → m_ckM k = true := by decide +kernel
set_option maxRecDepth 100000 in
theorem m_ck_20 : ∀ k, k < 30 → 20 ≤ k → m_ckM k = true := by decide +kernel
set_option maxRecDepth 100000 in
theorem m_ck_30 : ∀ k, k < 40 → 30 ≤ k → m_ckM k = true := by decide +kernel
set_option maxRecDepth 100000 in
theorem m_ck_40 : ∀ k, k < 50 → 40 ≤ k → m_ckM k = true := by decide +kernel
set_option maxRecDepth 100000 in
theorem m_ck_50 : ∀ k, k < 60 → 50 ≤ k → m_ckM k = true := by decide +kernel
set_option maxRecDepth 100000 in
theorem m_ck_60 : ∀ k, k < 70 → 60 ≤ k → m_ckM k = true := by decide +kernel
set_option maxRecDepth 100000 in
theorem m_ck_70 : ∀ k, k < 80 → 70 ≤ k → m_ckM k = true := by decide +kernel
set_option maxRecDepth 100000 in
theorem m_ck_80 : ∀ k, k < 90 → 80 ≤ k → m_ckM k = true := by decide +kernel
end
section
/-! THE CODE IS WHAT ITS BLOCKS SAY: by program, methods 90 to 179 -/
set_option maxRecDepth 100000 in
theorem m_ck_90 : ∀ k, k < 100 → 90 ≤ k → m_ckM k = true := by decide +kernel
set_option maxRecDepth 100000 in
theorem m_ck_100 : ∀ k, k < 110 → 100 ≤ k → m_ckM k = true := by decide +kernel
set_option maxRecDepth 100000 in
theorem m_ck_110 : ∀ k, k < 120 → 110 ≤ k → m_ckM k = true := by decide +kernel
set_option maxRecDepth 100000 in
theorem m_ck_120 : ∀ k, k < 130 → 120 ≤ k → m_ckM k = true := by decide +kernel
set_option maxRecDepth 100000 in
theorem m_ck_130 : ∀ k, k < 140 → 130 ≤ k → m_ckM k = true := by decide +kernel
set_option maxRecDepth 100000 in
theorem m_ck_140 : ∀ k, k < 150 → 140 ≤ k → m_ckM k = true := by decide +kernel
set_option maxRecDepth 100000 in
theorem m_ck_150 : ∀ k, k < 160 → 150 ≤ k → m_ckM k = true := by decide +kernel
set_option maxRecDepth 100000 in
theorem m_ck_160 : ∀ k, k < 170 → 160 ≤ k → m_ckM k = true := by decide +kernel
set_option maxRecDepth 100000 in
theorem m_ck_170 : ∀ k, k < 180 → 170 ≤ k → m_ckM k = true := by decide +kernel
end
section
/-! THE CODE IS WHAT ITS BLOCKS SAY: by program, methods 180 to 267 -/
set_option maxRecDepth 100000 in
theorem m_ck_180 : ∀ k, k < 190 → 180 ≤ k → m_ckM k = true := by decide +kernel
set_option maxRecDepth 100000 in
theorem m_ck_190 : ∀ k, k < 200 → 190 ≤ k → m_ckM k = true := by decide +kernel
set_option maxRecDepth 100000 in
theorem m_ck_200 : ∀ k, k < 210 → 200 ≤ k → m_ckM k = true := by decide +kernel
set_option maxRecDepth 100000 in
theorem m_ck_210 : ∀ k, k < 220 → 210 ≤ k → m_ckM k = true := by decide +kernel
set_option maxRecDepth 100000 in
theorem m_ck_220 : ∀ k, k < 230 → 220 ≤ k → m_ckM k = true := by decide +kernel
set_option maxRecDepth 100000 in
theorem m_ck_230 : ∀ k, k < 240 → 230 ≤ k → m_ckM k = true := by decide +kernel
set_option maxRecDepth 100000 in
theorem m_ck_240 : ∀ k, k < 250 → 240 ≤ k → m_ckM k = true := by decide +kernel
set_option maxRecDepth 100000 in
theorem m_ck_250 : ∀ k, k < 260 → 250 ≤ k → m_ckM k = true := by decide +kernel
set_option maxRecDepth 100000 in
theorem m_ck_260 : ∀ k, k < 268 → 260 ≤ k → m_ckM k = true := by decide +kernel
end
section
/-! .. and the law -/
theorem m_all_chunks {α : Type} (p : α → Bool) (l : List α) (n m : Nat) (hn : 0 < n) (hl : l.length ≤ m * n) (h : ∀ i, i < m → ((l.drop (i * n)).take n).all p = true) : l.all p = true := by
  rw [List.all_eq_true]
  intro x hx
  obtain ⟨j, hj⟩ := List.getElem?_of_mem hx
  have hjl := (List.getElem?_eq_some_iff.mp hj).1
  have hd := Nat.div_add_mod j n
  have hm := Nat.mod_lt j hn
  have hi : j / n < m := by
    rw [Nat.div_lt_iff_lt_mul hn]
    omega
  refine List.all_eq_true.mp (h (j / n) hi) x (List.mem_of_getElem? (i := j % n) ?_)
  rw [List.getElem?_take_of_lt hm, List.getElem?_drop, Nat.mul_comm (j / n) n, hd]
  exact hj
set_option maxRecDepth 100000 in
theorem m_ckl_0 : (((mBl 268).drop (0 * 20)).take 20).all (fun e => m_ckB (m_y 268).cls (m_y 268).name (m_mx 268) (m_rt 268) (m_by 268) e.2 e.1) = true := by decide +kernel
set_option maxRecDepth 100000 in
theorem m_ckl_1 : (((mBl 268).drop (1 * 20)).take 20).all (fun e => m_ckB (m_y 268).cls (m_y 268).name (m_mx 268) (m_rt 268) (m_by 268) e.2 e.1) = true := by decide +kernel
set_option maxRecDepth 100000 in
theorem m_ckl_2 : (((mBl 268).drop (2 * 20)).take 20).all (fun e => m_ckB (m_y 268).cls (m_y 268).name (m_mx 268) (m_rt 268) (m_by 268) e.2 e.1) = true := by decide +kernel
set_option maxRecDepth 100000 in
theorem m_ckl_3 : (((mBl 268).drop (3 * 20)).take 20).all (fun e => m_ckB (m_y 268).cls (m_y 268).name (m_mx 268) (m_rt 268) (m_by 268) e.2 e.1) = true := by decide +kernel
set_option maxRecDepth 100000 in
theorem m_ckl_4 : (((mBl 268).drop (4 * 20)).take 20).all (fun e => m_ckB (m_y 268).cls (m_y 268).name (m_mx 268) (m_rt 268) (m_by 268) e.2 e.1) = true := by decide +kernel
set_option maxRecDepth 100000 in
theorem m_ckl_5 : (((mBl 268).drop (5 * 20)).take 20).all (fun e => m_ckB (m_y 268).cls (m_y 268).name (m_mx 268) (m_rt 268) (m_by 268) e.2 e.1) = true := by decide +kernel
set_option maxRecDepth 100000 in
theorem m_ckl_6 : (((mBl 268).drop (6 * 20)).take 20).all (fun e => m_ckB (m_y 268).cls (m_y 268).name (m_mx 268) (m_rt 268) (m_by 268) e.2 e.1) = true := by decide +kernel
set_option maxRecDepth 100000 in
theorem m_ckl_7 : (((mBl 268).drop (7 * 20)).take 20).all (fun e => m_ckB (m_y 268).cls (m_y 268).name (m_mx 268) (m_rt 268) (m_by 268) e.2 e.1) = true := by decide +kernel
set_option maxRecDepth 100000 in
theorem m_ckl_8 : (((mBl 268).drop (8 * 20)).take 20).all (fun e => m_ckB (m_y 268).cls (m_y 268).name (m_mx 268) (m_rt 268) (m_by 268) e.2 e.1) = true := by decide +kernel
theorem m_ckM_law : m_ckM 268 = true := by
  unfold m_ckM
  rw [Bool.and_eq_true]
  refine ⟨by decide +kernel, m_all_chunks _ _ 20 9 (by omega) (by decide +kernel) (fun i hi => ?_)⟩
  match i, hi with
  | 0, _ => exact m_ckl_0
  | 1, _ => exact m_ckl_1
  | 2, _ => exact m_ckl_2
  | 3, _ => exact m_ckl_3
  | 4, _ => exact m_ckl_4
  | 5, _ => exact m_ckl_5
  | 6, _ => exact m_ckl_6
  | 7, _ => exact m_ckl_7
  | 8, _ => exact m_ckl_8
  | n + 9, h => omega
theorem m_ck_all : ∀ k, k < 269 → m_ckM k = true := by
  intro k hk
  rcases Nat.lt_or_ge k 268 with h268 | h268
  · have h0 : 0 ≤ k := Nat.zero_le _
    rcases Nat.lt_or_ge k 10 with h10 | h10
    · exact m_ck_0 k h10 (Nat.zero_le _)
    rcases Nat.lt_or_ge k 20 with h20 | h20
    · exact m_ck_10 k h20 h10
    rcases Nat.lt_or_ge k 30 with h30 | h30
    · exact m_ck_20 k h30 h20
    rcases Nat.lt_or_ge k 40 with h40 | h40
    · exact m_ck_30 k h40 h30
    rcases Nat.lt_or_ge k 50 with h50 | h50
    · exact m_ck_40 k h50 h40
    rcases Nat.lt_or_ge k 60 with h60 | h60
    · exact m_ck_50 k h60 h50
    rcases Nat.lt_or_ge k 70 with h70 | h70
    · exact m_ck_60 k h70 h60
    rcases Nat.lt_or_ge k 80 with h80 | h80
    · exact m_ck_70 k h80 h70
    rcases Nat.lt_or_ge k 90 with h90 | h90
    · exact m_ck_80 k h90 h80
    rcases Nat.lt_or_ge k 100 with h100 | h100
    · exact m_ck_90 k h100 h90
    rcases Nat.lt_or_ge k 110 with h110 | h110
    · exact m_ck_100 k h110 h100
    rcases Nat.lt_or_ge k 120 with h120 | h120
    · exact m_ck_110 k h120 h110
    rcases Nat.lt_or_ge k 130 with h130 | h130
    · exact m_ck_120 k h130 h120
    rcases Nat.lt_or_ge k 140 with h140 | h140
    · exact m_ck_130 k h140 h130
    rcases Nat.lt_or_ge k 150 with h150 | h150
    · exact m_ck_140 k h150 h140
    rcases Nat.lt_or_ge k 160 with h160 | h160
    · exact m_ck_150 k h160 h150
    rcases Nat.lt_or_ge k 170 with h170 | h170
    · exact m_ck_160 k h170 h160
    rcases Nat.lt_or_ge k 180 with h180 | h180
    · exact m_ck_170 k h180 h170
    rcases Nat.lt_or_ge k 190 with h190 | h190
    · exact m_ck_180 k h190 h180
    rcases Nat.lt_or_ge k 200 with h200 | h200
    · exact m_ck_190 k h200 h190
    rcases Nat.lt_or_ge k 210 with h210 | h210
    · exact m_ck_200 k h210 h200
    rcases Nat.lt_or_ge k 220 with h220 | h220
    · exact m_ck_210 k h220 h210
    rcases Nat.lt_or_ge k 230 with h230 | h230
    · exact m_ck_220 k h230 h220
    rcases Nat.lt_or_ge k 240 with h240 | h240
    · exact m_ck_230 k h240 h230
    rcases Nat.lt_or_ge k 250 with h250 | h250
    · exact m_ck_240 k h250 h240
    rcases Nat.lt_or_ge k 260 with h260 | h260
    · exact m_ck_250 k h260 h250
    exact m_ck_260 k h268 h260
  · rw [show k = 268 by omega]
    exact m_ckM_law
end
section
/-! WHAT A RUN SAYS WITH TIME ENOUGH: m_ev, and its equation -/
theorem m_br_b (i : Jvm.ClassFile.Cond) (x y : Int32) : ∃ t : Bool, ∀ (a b : Option mG), m_br i x y a b = bif t then a else b := by
  cases i
  · by_cases q : x = y
    · exact ⟨true, fun a b => by simp only [m_br, if_pos q]; rfl⟩
    · exact ⟨false, fun a b => by simp only [m_br, if_neg q]; rfl⟩
  · by_cases q : x = y
    · exact ⟨false, fun a b => by simp only [m_br, if_pos q]; rfl⟩
    · exact ⟨true, fun a b => by simp only [m_br, if_neg q]; rfl⟩
  · by_cases q : x < y
    · exact ⟨true, fun a b => by simp only [m_br, if_pos q]; rfl⟩
    · exact ⟨false, fun a b => by simp only [m_br, if_neg q]; rfl⟩
  · by_cases q : x < y
    · exact ⟨false, fun a b => by simp only [m_br, if_pos q]; rfl⟩
    · exact ⟨true, fun a b => by simp only [m_br, if_neg q]; rfl⟩
  · by_cases q : y < x
    · exact ⟨true, fun a b => by simp only [m_br, if_pos q]; rfl⟩
    · exact ⟨false, fun a b => by simp only [m_br, if_neg q]; rfl⟩
  · by_cases q : y < x
    · exact ⟨false, fun a b => by simp only [m_br, if_pos q]; rfl⟩
    · exact ⟨true, fun a b => by simp only [m_br, if_neg q]; rfl⟩
theorem m_B_simple (sc : mS) (cal : mK) (i : Instr) (n : Nat) (v : Int32 × Int64) (ds : List (List Nat)) (r : List mO) (pc : Nat) (lo : mL) (os : List Value) (h : mH)
    (hi : (∀ o, i ≠ .goto o) ∧ (∀ c o, i ≠ .ifCond c o) ∧ (∀ c o, i ≠ .if_icmp c o) ∧ (∀ a b c d, i ≠ .tableswitch a b c d) ∧ (∀ a b, i ≠ .lookupswitch a b) ∧ i ≠ .ireturn ∧ i ≠ .lreturn ∧ i ≠ .return_ ∧ (∀ z, i ≠ .invokestatic z) ∧ (∀ z, i ≠ .invokespecial z) ∧ ∀ z, i ≠ .invokevirtual z) :
    m_B sc cal ((i, n, v, ds) :: r) pc lo os h = match m_1 sc i v ds lo os h with
      | some (lo, os, h) => m_B sc cal r (pc + n) lo os h
      | none => none := by
  obtain ⟨h1, h2, h3, h4, h5, h6, h7, h8, h9, h10, h11⟩ := hi
  cases i
  case goto o => exact absurd rfl (h1 o)
  case ifCond c o => exact absurd rfl (h2 c o)
  case if_icmp c o => exact absurd rfl (h3 c o)
  case tableswitch a b c d => exact absurd rfl (h4 a b c d)
  case lookupswitch a b => exact absurd rfl (h5 a b)
  case ireturn => exact absurd rfl h6
  case lreturn => exact absurd rfl h7
  case return_ => exact absurd rfl h8
  case invokestatic z => exact absurd rfl (h9 z)
  case invokespecial z => exact absurd rfl (h10 z)
  case invokevirtual z => exact absurd rfl (h11 z)
  all_goals rfl
/-- calls that say more say more of a block -/
theorem m_B_mono {sc : mS} {ca cb : mK} (hab : ∀ k as h r, ca k as h = some r → cb k as h = some r) : ∀ (ops : List mO) (pc : Nat) (lo : mL) (os : List Value) (h : mH) (out : mG), m_B sc ca ops pc lo os h = some out → m_B sc cb ops pc lo os h = some out
  | [], pc, lo, os, h, out, hr => hr
  | (i, n, v, ds) :: r, pc, lo, os, h, out, hr => by
    have ih := m_B_mono (sc := sc) hab r
    by_cases hi : (∀ o, i ≠ .goto o) ∧ (∀ c o, i ≠ .ifCond c o) ∧ (∀ c o, i ≠ .if_icmp c o) ∧ (∀ a b c d, i ≠ .tableswitch a b c d) ∧ (∀ a b, i ≠ .lookupswitch a b) ∧ i ≠ .ireturn ∧ i ≠ .lreturn ∧ i ≠ .return_ ∧ (∀ z, i ≠ .invokestatic z) ∧ (∀ z, i ≠ .invokespecial z) ∧ ∀ z, i ≠ .invokevirtual z
    · rw [m_B_simple _ _ _ _ _ _ _ _ _ _ _ hi] at hr ⊢
      split at hr
      · exact ih _ _ _ _ _ hr
      · cases hr
    · cases i
      case goto o => exact hr
      case ifCond c o =>
        simp only [m_B] at hr ⊢
        split at hr
        · rename_i x os1
          obtain ⟨t, ht⟩ := m_br_b c x 0
          rw [ht] at hr ⊢
          cases t
          · rw [cond_false] at hr ⊢; exact ih _ _ _ _ _ hr
          · exact hr
        · cases hr
      case if_icmp c o =>
        simp only [m_B] at hr ⊢
        split at hr
        · rename_i y x os1
          obtain ⟨t, ht⟩ := m_br_b c x y
          rw [ht] at hr ⊢
          cases t
          · rw [cond_false] at hr ⊢; exact ih _ _ _ _ _ hr
          · exact hr
        · cases hr
      case tableswitch a b c d => exact hr
      case lookupswitch a b => exact hr
      case ireturn => exact hr
      case lreturn => exact hr
      case return_ => exact hr
      case invokestatic z =>
        simp only [m_B] at hr ⊢
        cases hb : Nat.ble 995 (m_d (m_hd ds) 1) with
        | true =>
          rw [hb, cond_true] at hr
          rw [cond_true]
          split at hr
          · exact ih _ _ _ _ _ hr
          · cases hr
        | false =>
          rw [hb, cond_false] at hr
          rw [cond_false]
          split at hr
          · rename_i w h2 hq
            rw [hab _ _ _ _ hq]
            cases hc : (Nat.ble (m_d (m_hd ds) 0) os.length && Nat.ble (m_cat (os.drop (m_d (m_hd ds) 0))) 8) with
            | false => rw [hc, cond_false] at hr; cases hr
            | true =>
              rw [hc, cond_true] at hr
              exact ih _ _ _ _ _ hr
          · cases hr
      case invokespecial z =>
        simp only [m_B] at hr ⊢
        split at hr
        · rename_i a os' hd
          cases hc : Nat.ble (m_cat os') 8 with
          | false => rw [hc, cond_false] at hr; cases hr
          | true =>
            rw [hc, cond_true] at hr
            rw [cond_true]
            cases hb : Nat.beq (m_d (m_hd ds) 1) 999 with
            | true => rw [hb, cond_true] at hr; rw [cond_true]; exact ih _ _ _ _ _ hr
            | false =>
              rw [hb, cond_false] at hr
              rw [cond_false]
              cases ho : m_isO h a with
              | false => rw [ho, cond_false] at hr; cases hr
              | true =>
                rw [ho, cond_true] at hr
                rw [cond_true]
                split at hr
                · rename_i w h2 hq
                  rw [hab _ _ _ _ hq]
                  exact ih _ _ _ _ _ hr
                · cases hr
        · cases hr
      case invokevirtual z =>
        simp only [m_B] at hr ⊢
        split at hr
        · rename_i a os' hd
          cases hc : Nat.ble (m_cat os') 8 with
          | false => rw [hc, cond_false] at hr; cases hr
          | true =>
            rw [hc, cond_true] at hr
            rw [cond_true]
            split at hr
            · split at hr
              · rename_i w h2 hq
                rw [hab _ _ _ _ hq]
                exact ih _ _ _ _ _ hr
              · cases hr
            · cases hr
        · cases hr
      all_goals exact absurd ⟨by simp, by simp, by simp, by simp, by simp, by simp, by simp, by simp, by simp, by simp, by simp⟩ hi
/-- a block under calls in the limit has been run with time enough -/
theorem m_B_cont {sc : mS} {ci : mK} {c : Nat → mK} (hm : ∀ f g, f ≤ g → ∀ k as h r, c f k as h = some r → c g k as h = some r) (hc : ∀ k as h r, ci k as h = some r → ∃ f, c f k as h = some r) : ∀ (ops : List mO) (pc : Nat) (lo : mL) (os : List Value) (h : mH) (out : mG), m_B sc ci ops pc lo os h = some out → ∃ f, m_B sc (c f) ops pc lo os h = some out
  | [], pc, lo, os, h, out, hr => ⟨0, hr⟩
  | (i, n, v, ds) :: r, pc, lo, os, h, out, hr => by
    have ih := m_B_cont (sc := sc) hm hc r
    by_cases hi : (∀ o, i ≠ .goto o) ∧ (∀ c o, i ≠ .ifCond c o) ∧ (∀ c o, i ≠ .if_icmp c o) ∧ (∀ a b c d, i ≠ .tableswitch a b c d) ∧ (∀ a b, i ≠ .lookupswitch a b) ∧ i ≠ .ireturn ∧ i ≠ .lreturn ∧ i ≠ .return_ ∧ (∀ z, i ≠ .invokestatic z) ∧ (∀ z, i ≠ .invokespecial z) ∧ ∀ z, i ≠ .invokevirtual z
    · rw [m_B_simple _ _ _ _ _ _ _ _ _ _ _ hi] at hr
      split at hr
      · rename_i lo1 os1 h1 hm1
        obtain ⟨f, hf⟩ := ih _ _ _ _ _ hr
        refine ⟨f, ?_⟩
        rw [m_B_simple _ _ _ _ _ _ _ _ _ _ _ hi, hm1]
        exact hf
      · cases hr
    · cases i
      case goto o => exact ⟨0, hr⟩
      case ifCond cc o =>
        simp only [m_B] at hr ⊢
        split at hr
        · rename_i x os1
          obtain ⟨t, ht⟩ := m_br_b cc x 0
          rw [ht] at hr
          cases t
          · rw [cond_false] at hr
            obtain ⟨f, hf⟩ := ih _ _ _ _ _ hr
            exact ⟨f, by rw [ht, cond_false]; exact hf⟩
          · exact ⟨0, by rw [ht]; exact hr⟩
        · cases hr
      case if_icmp cc o =>
        simp only [m_B] at hr ⊢
        split at hr
        · rename_i y x os1
          obtain ⟨t, ht⟩ := m_br_b cc x y
          rw [ht] at hr
          cases t
          · rw [cond_false] at hr
            obtain ⟨f, hf⟩ := ih _ _ _ _ _ hr
            exact ⟨f, by rw [ht, cond_false]; exact hf⟩
          · exact ⟨0, by rw [ht]; exact hr⟩
        · cases hr
      case tableswitch a b c d => exact ⟨0, hr⟩
      case lookupswitch a b => exact ⟨0, hr⟩
      case ireturn => exact ⟨0, hr⟩
      case lreturn => exact ⟨0, hr⟩
      case return_ => exact ⟨0, hr⟩
      case invokestatic z =>
        simp only [m_B] at hr ⊢
        cases hb : Nat.ble 995 (m_d (m_hd ds) 1) with
        | true =>
          rw [hb, cond_true] at hr
          split at hr
          · rename_i os2 h2 hs
            obtain ⟨f, hf⟩ := ih _ _ _ _ _ hr
            exact ⟨f, by rw [cond_true]; exact hf⟩
          · cases hr
        | false =>
          rw [hb, cond_false] at hr
          split at hr
          · rename_i w h2 hq
            cases hcc : (Nat.ble (m_d (m_hd ds) 0) os.length && Nat.ble (m_cat (os.drop (m_d (m_hd ds) 0))) 8) with
            | false => rw [hcc, cond_false] at hr; cases hr
            | true =>
              rw [hcc, cond_true] at hr
              obtain ⟨f1, hf1⟩ := hc _ _ _ _ hq
              obtain ⟨f2, hf2⟩ := ih _ _ _ _ _ hr
              refine ⟨max f1 f2, ?_⟩
              rw [cond_false, hm f1 _ (Nat.le_max_left _ _) _ _ _ _ hf1]
              exact m_B_mono (fun k as h r => hm f2 _ (Nat.le_max_right _ _) k as h r) _ _ _ _ _ _ hf2
          · cases hr
      case invokespecial z =>
        simp only [m_B] at hr ⊢
        split at hr
        · rename_i a os' hd
          cases hcc : Nat.ble (m_cat os') 8 with
          | false => rw [hcc, cond_false] at hr; cases hr
          | true =>
            rw [hcc, cond_true] at hr
            cases hb : Nat.beq (m_d (m_hd ds) 1) 999 with
            | true =>
              rw [hb, cond_true] at hr
              obtain ⟨f, hf⟩ := ih _ _ _ _ _ hr
              exact ⟨f, by rw [cond_true, cond_true]; exact hf⟩
            | false =>
              rw [hb, cond_false] at hr
              cases ho : m_isO h a with
              | false => rw [ho, cond_false] at hr; cases hr
              | true =>
                rw [ho, cond_true] at hr
                split at hr
                · rename_i w h2 hq
                  obtain ⟨f1, hf1⟩ := hc _ _ _ _ hq
                  obtain ⟨f2, hf2⟩ := ih _ _ _ _ _ hr
                  refine ⟨max f1 f2, ?_⟩
                  rw [cond_true, cond_false, cond_true, hm f1 _ (Nat.le_max_left _ _) _ _ _ _ hf1]
                  exact m_B_mono (fun k as h r => hm f2 _ (Nat.le_max_right _ _) k as h r) _ _ _ _ _ _ hf2
                · cases hr
        · cases hr
      case invokevirtual z =>
        simp only [m_B] at hr ⊢
        split at hr
        · rename_i a os' hd
          cases hcc : Nat.ble (m_cat os') 8 with
          | false => rw [hcc, cond_false] at hr; cases hr
          | true =>
            rw [hcc, cond_true] at hr
            split at hr
            · rename_i k hp
              split at hr
              · rename_i w h2 hq
                obtain ⟨f1, hf1⟩ := hc _ _ _ _ hq
                obtain ⟨f2, hf2⟩ := ih _ _ _ _ _ hr
                refine ⟨max f1 f2, ?_⟩
                rw [cond_true]
                rw [hm f1 _ (Nat.le_max_left _ _) _ _ _ _ hf1]
                exact m_B_mono (fun k as h r => hm f2 _ (Nat.le_max_right _ _) k as h r) _ _ _ _ _ _ hf2
              · cases hr
            · cases hr
        · cases hr
      all_goals exact absurd ⟨by simp, by simp, by simp, by simp, by simp, by simp, by simp, by simp, by simp, by simp, by simp⟩ hi
theorem m_run_mono : ∀ (f : Nat) (sc : mS) (d k pc : Nat) (lo : mL) (os : List Value) (h : mH) (r : mF), m_run mP mX f sc d k pc lo os h = some r → m_run mP mX (f + 1) sc d k pc lo os h = some r
  | 0, sc, d, k, pc, lo, os, h, r, hr => by cases hr
  | f + 1, sc, d, k, pc, lo, os, h, r, hr => by
    have hab : ∀ k as h r, m_cal f d k as h = some r → m_cal (f + 1) d k as h = some r := by
      intro k as h r hq
      unfold m_cal at hq ⊢
      split at hq
      · cases hq
      · rename_i d'
        cases hb : Nat.ble 900 k with
        | true => rw [hb, cond_true] at hq; rw [cond_true]; exact hq
        | false =>
          rw [hb, cond_false] at hq
          rw [cond_false]
          cases h5 : (Nat.blt k 268 && Nat.ble (m_lay as).length (mX k)) with
          | false => rw [h5, cond_false] at hq; cases hq
          | true => rw [h5, cond_true] at hq; rw [cond_true]; exact m_run_mono f _ _ _ _ _ _ _ _ hq
    rw [m_run_s] at hr ⊢
    split at hr
    · rename_i r1 hB
      rw [m_B_mono hab _ _ _ _ _ _ hB]
      exact hr
    · rename_i pc' lo' os' h1 hB
      rw [m_B_mono hab _ _ _ _ _ _ hB]
      exact m_run_mono f _ _ _ _ _ _ _ _ hr
    · cases hr
theorem m_run_le2 {f g : Nat} (hfg : f ≤ g) {sc : mS} {d k pc : Nat} {lo : mL} {os : List Value} {h : mH} {r : mF} (hr : m_run mP mX f sc d k pc lo os h = some r) : m_run mP mX g sc d k pc lo os h = some r := by
  induction hfg with
  | refl => exact hr
  | step _ ih => exact m_run_mono _ _ _ _ _ _ _ _ _ ih
/-- a run with time enough -/
noncomputable def m_ev (sc : mS) (d k pc : Nat) (lo : mL) (os : List Value) (h : mH) : Option mF :=
  @dite _ (∃ r, ∃ f, m_run mP mX f sc d k pc lo os h = some r) (Classical.propDecidable _) (fun H => some (Classical.choose H)) (fun _ => none)
theorem m_ev_of {f : Nat} {sc : mS} {d k pc : Nat} {lo : mL} {os : List Value} {h : mH} {r : mF} (hr : m_run mP mX f sc d k pc lo os h = some r) : m_ev sc d k pc lo os h = some r := by
  have H : ∃ r, ∃ f, m_run mP mX f sc d k pc lo os h = some r := ⟨r, f, hr⟩
  unfold m_ev
  rw [dif_pos H]
  obtain ⟨g, hg⟩ := Classical.choose_spec H
  have h1 := m_run_le2 (Nat.le_max_left f g) hr
  have h2 := m_run_le2 (Nat.le_max_right f g) hg
  rw [h1] at h2
  exact h2.symm
theorem m_ev_run {sc : mS} {d k pc : Nat} {lo : mL} {os : List Value} {h : mH} {r : mF} (hr : m_ev sc d k pc lo os h = some r) : ∃ f, m_run mP mX f sc d k pc lo os h = some r := by
  unfold m_ev at hr
  split at hr
  · rename_i H
    cases hr
    exact Classical.choose_spec H
  · cases hr
/-- a call with time enough -/
noncomputable def m_evc (d : Nat) : mK := fun k' as h' => match d with
  | 0 => none
  | d' + 1 => bif Nat.ble 900 k' then (bif Nat.ble 4 d' then m_bi k' as h' else none) else bif Nat.blt k' 268 && Nat.ble (m_lay as).length (mX k') then m_ev none d' k' 0 (m_lo (mX k') as) [] h' else none
theorem m_evc_cal {d k : Nat} {as : List Value} {h : mH} {r : mF} (hq : m_evc d k as h = some r) : ∃ f, m_cal f d k as h = some r := by
  unfold m_evc at hq
  split at hq
  · cases hq
  · rename_i d'
    cases hb : Nat.ble 900 k with
    | true =>
      rw [hb, cond_true] at hq
      refine ⟨0, ?_⟩
      unfold m_cal
      simp only [hb, cond_true]
      exact hq
    | false =>
      rw [hb, cond_false] at hq
      cases h5 : (Nat.blt k 268 && Nat.ble (m_lay as).length (mX k)) with
      | false => rw [h5, cond_false] at hq; cases hq
      | true =>
        rw [h5, cond_true] at hq
        obtain ⟨f, hf⟩ := m_ev_run hq
        refine ⟨f, ?_⟩
        unfold m_cal
        simp only [hb, cond_false, h5, cond_true]
        exact hf
theorem m_cal_mono {d f g : Nat} (hfg : f ≤ g) (k : Nat) (as : List Value) (h : mH) (r : mF) (hq : m_cal f d k as h = some r) : m_cal g d k as h = some r := by
  unfold m_cal at hq ⊢
  split at hq
  · cases hq
  · rename_i d'
    cases hb : Nat.ble 900 k with
    | true => rw [hb, cond_true] at hq; rw [cond_true]; exact hq
    | false =>
      rw [hb, cond_false] at hq
      rw [cond_false]
      cases h5 : (Nat.blt k 268 && Nat.ble (m_lay as).length (mX k)) with
      | false => rw [h5, cond_false] at hq; cases hq
      | true => rw [h5, cond_true] at hq; rw [cond_true]; exact m_run_le2 hfg hq
/-- one block, then what comes behind it -/
theorem m_ev_goto {sc : mS} {d k pc : Nat} {lo : mL} {os : List Value} {h : mH} {pc' : Nat} {lo' : mL} {os' : List Value} {h' : mH} {r : mF} (hB : m_B sc (m_evc d) (mP k pc) pc lo os h = some (.inr (pc', lo', os', h'))) (hr : m_ev sc d k pc' lo' os' h' = some r) : m_ev sc d k pc lo os h = some r := by
  obtain ⟨f1, hf1⟩ := m_B_cont (c := fun f => m_cal f d) (fun f g hfg k as h r => m_cal_mono hfg k as h r) (fun k as h r => m_evc_cal) _ _ _ _ _ _ hB
  obtain ⟨f2, hf2⟩ := m_ev_run hr
  refine m_ev_of (f := max f1 f2 + 1) ?_
  rw [m_run_s, m_B_mono (fun k as h r => m_cal_mono (Nat.le_max_left f1 f2) k as h r) _ _ _ _ _ _ hf1]
  exact m_run_le2 (Nat.le_max_right f1 f2) hf2
theorem m_ev_ret {sc : mS} {d k pc : Nat} {lo : mL} {os : List Value} {h : mH} {r : mF} (hB : m_B sc (m_evc d) (mP k pc) pc lo os h = some (.inl r)) (hn : m_isN r.1 = true) : m_ev sc d k pc lo os h = some r := by
  obtain ⟨f1, hf1⟩ := m_B_cont (c := fun f => m_cal f d) (fun f g hfg k as h r => m_cal_mono hfg k as h r) (fun k as h r => m_evc_cal) _ _ _ _ _ _ hB
  refine m_ev_of (f := f1 + 1) ?_
  rw [m_run_s, hf1]
  show (bif m_isN r.1 then some r else none) = _
  rw [hn]
  rfl
theorem m_evc_s {d k : Nat} {as : List Value} {h : mH} {r : mF} (hk : Nat.blt k 268 = true) (hl : Nat.ble (m_lay as).length (mX k) = true) (hr : m_ev none d k 0 (m_lo (mX k) as) [] h = some r) : m_evc (d + 1) k as h = some r := by
  unfold m_evc
  have h9 : Nat.ble 900 k = false := by
    cases hb : Nat.ble 900 k with
    | false => rfl
    | true => have := Nat.le_of_ble_eq_true hb; have := Nat.blt_eq.mp hk; omega
  simp only [h9, cond_false, hk, hl, Bool.and_self, cond_true]
  exact hr
end
section
/-! THE MACHINE BY CONTINUATIONS: the same, in a form that computes well -/
def m_ob {α β : Type} (o : Option α) (f : α → Option β) : Option β := match o with
  | some x => f x
  | none => none
def m_bd (o : Option mF) (f : Option Value → mH → Option mF) : Option mF := match o with
  | some (w, h) => f w h
  | none => none
def m_getK {α : Type} (h : mH) (i k : Nat) (cs : List Nat) (K : Value → Option α) : Option α :=
  match h.1[i]? with
  | none => none
  | some (c, n, rs) => bif cs.elem c && Nat.blt k n then (bif m_num (m_ty c k) then K (.int (h.2 i k)) else K (va_rf (m_ri rs k))) else none
def m_putK {α : Type} (h : mH) (i k : Nat) (cs : List Nat) (v : Value) (K : mH → Option α) : Option α :=
  match h.1[i]? with
  | none => none
  | some (c, n, rs) => bif cs.elem c && Nat.blt k n then
      (match v with
      | .int x => bif m_num (m_ty c k) then (bif m_isZ (m_ty c k) then (if x = 0 ∨ x = 1 then K (h.1, m_up h.2 i k x) else none) else K (h.1, m_up h.2 i k x)) else none
      | .ref a => bif m_isR (m_ty c k) && Nat.blt k rs.length then K (h.1.set i (c, n, rs.set k (some a)), h.2) else none
      | _ => none) else none
def m_aldK {α : Type} (sc : mS) (h : mH) (ks : List Nat) (i : Nat) (j : Int32) (K : Int32 → Option α) : Option α :=
  match h.1[i]? with
  | some (c, n, _) => bif ks.elem c then m_ob (m_ix j n) (fun q => K (h.2 i q)) else none
  | none => match sc with
    | none => none
    | some (L, xs) => bif Nat.beq i m_scr0 && ks.elem 100 then m_ob (m_ix j L) (fun q => K (xs q)) else none
def m_astK {α : Type} (h : mH) (ks : List Nat) (i : Nat) (j x : Int32) (K : mH → Option α) : Option α :=
  match h.1[i]? with
  | some (c, n, _) => bif ks.elem c then m_ob (m_ix j n) (fun q => K (h.1, m_up h.2 i q (bif Nat.beq c 101 then vp_nar .byte x else bif Nat.beq c 102 then vp_nar .boolean x else x))) else none
  | none => none
def m_aqK {α : Type} (h : mH) (i : Nat) (j : Int32) (K : Value → Option α) : Option α :=
  match h.1[i]? with
  | some (c, n, rs) => bif Nat.beq c 104 || Nat.beq c 105 then m_ob (m_ix j n) (fun q => K (va_rf (m_ri rs q))) else none
  | none => none
def m_1K {α : Type} (sc : mS) (i : Instr) (v : Int32 × Int64) (ds : List (List Nat)) (lo : mL) (os : List Value) (h : mH) (K : mL → List Value → mH → Option α) : Option α :=
  match i with
  | .iconst _ => K lo (.int v.1 :: os) h
  | .bipush _ => K lo (.int v.1 :: os) h
  | .sipush _ => K lo (.int v.1 :: os) h
  | .lconst _ => K lo (.long v.2 :: os) h
  | .ldc _ => match m_hd ds with
    | [0, _] => K lo (.int v.1 :: os) h
    | [1, j] => K lo (.ref (m_str0 + j) :: os) h
    | _ => none
  | .ldc_w _ => K lo (.int v.1 :: os) h
  | .ldc2_w _ => K lo (.long v.2 :: os) h
  | .iload n => match m_ld lo n with
    | some (.int x) => K lo (.int x :: os) h
    | _ => none
  | .iload_n n => match m_ld lo n.1 with
    | some (.int x) => K lo (.int x :: os) h
    | _ => none
  | .lload n => match m_ld lo n with
    | some (.long x) => K lo (.long x :: os) h
    | _ => none
  | .lload_n n => match m_ld lo n.1 with
    | some (.long x) => K lo (.long x :: os) h
    | _ => none
  | .aload n => match m_ld lo n with
    | some (.ref x) => K lo (.ref x :: os) h
    | _ => none
  | .aload_n n => match m_ld lo n.1 with
    | some (.ref x) => K lo (.ref x :: os) h
    | _ => none
  | .istore n => match os with
    | .int x :: os => K (m_st1 lo n (.int x)) os h
    | _ => none
  | .istore_n n => match os with
    | .int x :: os => K (m_st1 lo n.1 (.int x)) os h
    | _ => none
  | .lstore n => match os with
    | .long x :: os => K (m_st2 lo n (.long x)) os h
    | _ => none
  | .lstore_n n => match os with
    | .long x :: os => K (m_st2 lo n.1 (.long x)) os h
    | _ => none
  | .astore n => match os with
    | .ref x :: os => K (m_st1 lo n (.ref x)) os h
    | _ => none
  | .astore_n n => match os with
    | .ref x :: os => K (m_st1 lo n.1 (.ref x)) os h
    | _ => none
  | .iinc n _ => match m_ld lo n with
    | some (.int x) => K (m_st1 lo n (.int (x + v.1))) os h
    | _ => none
  | .iadd => match os with
    | .int y :: .int x :: os => K lo (.int (x + y) :: os) h
    | _ => none
  | .isub => match os with
    | .int y :: .int x :: os => K lo (.int (x - y) :: os) h
    | _ => none
  | .imul => match os with
    | .int y :: .int x :: os => K lo (.int (x * y) :: os) h
    | _ => none
  | .idiv => match os with
    | .int y :: .int x :: os => if y = 0 then none else K lo (.int (x / y) :: os) h
    | _ => none
  | .irem => match os with
    | .int y :: .int x :: os => if y = 0 then none else K lo (.int (x - x / y * y) :: os) h
    | _ => none
  | .iand => match os with
    | .int y :: .int x :: os => K lo (.int (x &&& y) :: os) h
    | _ => none
  | .ior => match os with
    | .int y :: .int x :: os => K lo (.int (x ||| y) :: os) h
    | _ => none
  | .ixor => match os with
    | .int y :: .int x :: os => K lo (.int (x ^^^ y) :: os) h
    | _ => none
  | .ishl => match os with
    | .int y :: .int x :: os => K lo (.int (x <<< (y &&& 31)) :: os) h
    | _ => none
  | .ishr => match os with
    | .int y :: .int x :: os => K lo (.int (x >>> (y &&& 31)) :: os) h
    | _ => none
  | .iushr => match os with
    | .int y :: .int x :: os => K lo (.int (x.toUInt32 >>> (y.toUInt32 &&& Int32.toUInt32 31)).toInt32 :: os) h
    | _ => none
  | .ladd => match os with
    | .long y :: .long x :: os => K lo (.long (x + y) :: os) h
    | _ => none
  | .lmul => match os with
    | .long y :: .long x :: os => K lo (.long (x * y) :: os) h
    | _ => none
  | .land => match os with
    | .long y :: .long x :: os => K lo (.long (x &&& y) :: os) h
    | _ => none
  | .lor => match os with
    | .long y :: .long x :: os => K lo (.long (x ||| y) :: os) h
    | _ => none
  | .lshl => match os with
    | .int y :: .long x :: os => K lo (.long (x <<< (y.toInt64 &&& 63)) :: os) h
    | _ => none
  | .lshr => match os with
    | .int y :: .long x :: os => K lo (.long (x >>> (y.toInt64 &&& 63)) :: os) h
    | _ => none
  | .lushr => match os with
    | .int y :: .long x :: os => K lo (.long (x.toUInt64 >>> (y.toInt64.toUInt64 &&& Int64.toUInt64 63)).toInt64 :: os) h
    | _ => none
  | .lcmp => match os with
    | .long y :: .long x :: os => K lo (.int (lg_cmp x y) :: os) h
    | _ => none
  | .i2l => match os with
    | .int x :: os => K lo (.long x.toInt64 :: os) h
    | _ => none
  | .l2i => match os with
    | .long x :: os => K lo (.int x.toInt32 :: os) h
    | _ => none
  | .i2b => match os with
    | .int x :: os => K lo (.int x.toInt8.toInt32 :: os) h
    | _ => none
  | .i2s => match os with
    | .int x :: os => K lo (.int x.toInt16.toInt32 :: os) h
    | _ => none
  | .dup => match os with
    | .int x :: os => K lo (.int x :: .int x :: os) h
    | .ref x :: os => K lo (.ref x :: .ref x :: os) h
    | _ => none
  | .dup_x1 => match os with
    | .int x :: .ref y :: os => K lo (.int x :: .ref y :: .int x :: os) h
    | _ => none
  | .dup2 => match os with
    | .int x :: .ref y :: os => K lo (.int x :: .ref y :: .int x :: .ref y :: os) h
    | _ => none
  | .pop => match os with
    | .int _ :: os => K lo (os) h
    | _ => none
  | .getfield _ => match os with
    | .ref a :: os => m_getK h a (m_d (m_hd ds) 0) ((ds[1]?).getD []) (fun w => K lo (w :: os) h)
    | _ => none
  | .putfield _ => match os with
    | w :: .ref a :: os => m_putK h a (m_d (m_hd ds) 0) ((ds[1]?).getD []) w (fun h => K lo os h)
    | _ => none
  | .iaload => match os with
    | .int j :: .ref a :: os => m_aldK sc h [100] a j (fun w => K lo (.int w :: os) h)
    | _ => none
  | .baload => match os with
    | .int j :: .ref a :: os => m_aldK sc h [101, 102] a j (fun w => K lo (.int w :: os) h)
    | _ => none
  | .aaload => match os with
    | .int j :: .ref a :: os => m_aqK h a j (fun w => K lo (w :: os) h)
    | _ => none
  | .iastore => match os with
    | .int x :: .int j :: .ref a :: os => m_astK h [100] a j x (fun h => K lo os h)
    | _ => none
  | .bastore => match os with
    | .int x :: .int j :: .ref a :: os => m_astK h [101, 102] a j x (fun h => K lo os h)
    | _ => none
  | .aastore => match os with
    | .ref x :: .int j :: .ref a :: os => match m_aqs h a j x with
      | some h => K lo (os) h
      | none => none
    | _ => none
  | .arraylength => match os with
    | .ref a :: os => match m_len sc h a with
      | some w => K lo (.int w :: os) h
      | none => none
    | _ => none
  | .new _ => K lo (.ref h.1.length :: os) (m_new h (m_d (m_hd ds) 0, m_d (m_hd ds) 1, List.replicate (m_d (m_hd ds) 1) none))
  | .newarray t => match os with
    | .int n :: os => if n < 0 ∨ 100000 ≤ n.toNatClampNeg then none else K lo (.ref h.1.length :: os) (m_new h (m_aty t, n.toNatClampNeg, []))
    | _ => none
  | .anewarray _ => match os with
    | .int n :: os => if n < 0 ∨ 100000 ≤ n.toNatClampNeg then none else K lo (.ref h.1.length :: os) (m_new h (105, n.toNatClampNeg, List.replicate n.toNatClampNeg none))
    | _ => none
  | .multianewarray _ _ => match os with
    | .int k :: .int n :: os => if n < 0 ∨ k < 0 ∨ 100000 ≤ n.toNatClampNeg ∨ 100000 ≤ k.toNatClampNeg then none else K lo (.ref h.1.length :: os) (m_mul h n.toNatClampNeg k.toNatClampNeg)
    | _ => none
  | _ => none
def m_BK (sc : mS) (cal : mK) (F : mG → Option mF) : List mO → Nat → mL → List Value → mH → Option mF
  | [], pc, lo, os, h => F (.inr (pc, lo, os, h))
  | (i, n, v, ds) :: r, pc, lo, os, h =>
    match i with
    | .goto _ => F (.inr (m_d (m_hd ds) 0, lo, os, h))
    | .ifCond c _ => match os with
      | .int x :: os => m_br c x 0 (F (.inr (m_d (m_hd ds) 0, lo, os, h))) (m_BK sc cal F r (pc + n) lo os h)
      | _ => none
    | .if_icmp c _ => match os with
      | .int y :: .int x :: os => m_br c x y (F (.inr (m_d (m_hd ds) 0, lo, os, h))) (m_BK sc cal F r (pc + n) lo os h)
      | _ => none
    | .tableswitch _ _ _ _ => match os with
      | .int x :: os => F (.inr (m_case x (ds.drop 1) (m_d (m_hd ds) 0), lo, os, h))
      | _ => none
    | .lookupswitch _ _ => match os with
      | .int x :: os => F (.inr (m_case x (ds.drop 1) (m_d (m_hd ds) 0), lo, os, h))
      | _ => none
    | .ireturn => match os with
      | [.int x] => bif Nat.beq (m_d (m_hd ds) 0) 1 then (if x = 0 ∨ x = 1 then F (.inl (some (.int x), h)) else none) else F (.inl (some (.int x), h))
      | _ => none
    | .lreturn => match os with
      | [.long x] => F (.inl (some (.long x), h))
      | _ => none
    | .return_ => match os with
      | [] => F (.inl (none, h))
      | _ => none
    | .invokestatic _ => bif Nat.ble 995 (m_d (m_hd ds) 1) then
        (match m_spc (m_d (m_hd ds) 1) os h with
        | some (os, h) => m_BK sc cal F r (pc + n) lo os h
        | none => none) else
        m_bd (cal (m_d (m_hd ds) 1) (os.take (m_d (m_hd ds) 0)).reverse h) (fun w h => bif Nat.ble (m_d (m_hd ds) 0) os.length && Nat.ble (m_cat (os.drop (m_d (m_hd ds) 0))) 8 then m_BK sc cal F r (pc + n) lo (w.toList ++ os.drop (m_d (m_hd ds) 0)) h else none)
    | .invokespecial _ => match os.drop (m_d (m_hd ds) 0) with
      | .ref a :: os' => bif Nat.ble (m_cat os') 8 then
          (bif Nat.beq (m_d (m_hd ds) 1) 999 then m_BK sc cal F r (pc + n) lo os' h else
          bif m_isO h a then m_bd (cal (m_d (m_hd ds) 1) (.ref a :: (os.take (m_d (m_hd ds) 0)).reverse) h) (fun w h => m_BK sc cal F r (pc + n) lo (w.toList ++ os') h) else none) else none
      | _ => none
    | .invokevirtual _ => match os.drop (m_d (m_hd ds) 0) with
      | .ref a :: os' => bif Nat.ble (m_cat os') 8 then
          (match m_pick h a (ds.drop 1) with
          | some k => m_bd (cal k (.ref a :: (os.take (m_d (m_hd ds) 0)).reverse) h) (fun w h => m_BK sc cal F r (pc + n) lo (w.toList ++ os') h)
          | none => none) else none
      | _ => none
    | i => m_1K sc i v ds lo os h (fun lo os h => m_BK sc cal F r (pc + n) lo os h)
def m_o3 {α : Type} (o : Option (mL × List Value × mH)) (K : mL → List Value → mH → Option α) : Option α := match o with
  | some (lo, os, h) => K lo os h
  | none => none
theorem m_getK_eq {α : Type} (h : mH) (i k : Nat) (cs : List Nat) (K : Value → Option α) : m_getK h i k cs K = match m_get h i k cs with
    | some w => K w
    | none => none := by
  unfold m_getK m_get
  cases h.1[i]? with
  | none => rfl
  | some q =>
    obtain ⟨c, n, rs⟩ := q
    show (bif _ then _ else _) = match (bif _ then _ else _) with | some w => K w | none => none
    cases (cs.elem c && Nat.blt k n) with
    | false => rfl
    | true => cases m_num (m_ty c k) <;> rfl
theorem m_putK_eq {α : Type} (h : mH) (i k : Nat) (cs : List Nat) (v : Value) (K : mH → Option α) : m_putK h i k cs v K = match m_put h i k cs v with
    | some w => K w
    | none => none := by
  unfold m_putK m_put
  cases h.1[i]? with
  | none => rfl
  | some q =>
    obtain ⟨c, n, rs⟩ := q
    show (bif _ then _ else _) = match (bif _ then _ else _) with | some w => K w | none => none
    cases (cs.elem c && Nat.blt k n) with
    | false => rfl
    | true =>
      cases v
      case int x =>
        show (bif _ then (bif _ then (if _ then _ else _) else _) else _) = match (bif _ then (bif _ then (if _ then _ else _) else _) else _) with | some w => K w | none => none
        cases m_num (m_ty c k) with
        | false => rfl
        | true =>
          cases m_isZ (m_ty c k) with
          | false => rfl
          | true =>
            show (if _ then _ else _) = match (if _ then _ else _) with | some w => K w | none => none
            by_cases hx : x = 0 ∨ x = 1
            · rw [if_pos hx, if_pos hx]
            · rw [if_neg hx, if_neg hx]
      case ref a =>
        show (bif _ then _ else _) = match (bif _ then _ else _) with | some w => K w | none => none
        cases (m_isR (m_ty c k) && Nat.blt k rs.length) <;> rfl
      all_goals rfl
theorem m_aldK_eq {α : Type} (sc : mS) (h : mH) (ks : List Nat) (i : Nat) (j : Int32) (K : Int32 → Option α) : m_aldK sc h ks i j K = match m_ald sc h ks i j with
    | some w => K w
    | none => none := by
  unfold m_aldK m_ald
  cases h.1[i]? with
  | none =>
    cases sc with
    | none => rfl
    | some q =>
      obtain ⟨L, xs⟩ := q
      show (bif _ then m_ob _ _ else _) = match (bif _ then _ else _) with | some w => K w | none => none
      cases (Nat.beq i m_scr0 && ks.elem 100) with
      | false => rfl
      | true => cases m_ix j L <;> rfl
  | some q =>
    obtain ⟨c, n, rs⟩ := q
    show (bif _ then m_ob _ _ else _) = match (bif _ then _ else _) with | some w => K w | none => none
    cases ks.elem c with
    | false => rfl
    | true => cases m_ix j n <;> rfl
theorem m_astK_eq {α : Type} (h : mH) (ks : List Nat) (i : Nat) (j x : Int32) (K : mH → Option α) : m_astK h ks i j x K = match m_ast h ks i j x with
    | some w => K w
    | none => none := by
  unfold m_astK m_ast
  cases h.1[i]? with
  | none => rfl
  | some q =>
    obtain ⟨c, n, rs⟩ := q
    show (bif _ then m_ob _ _ else _) = match (bif _ then _ else _) with | some w => K w | none => none
    cases ks.elem c with
    | false => rfl
    | true => cases m_ix j n <;> rfl
theorem m_aqK_eq {α : Type} (h : mH) (i : Nat) (j : Int32) (K : Value → Option α) : m_aqK h i j K = match m_aq h i j with
    | some w => K w
    | none => none := by
  unfold m_aqK m_aq
  cases h.1[i]? with
  | none => rfl
  | some q =>
    obtain ⟨c, n, rs⟩ := q
    show (bif _ then m_ob _ _ else _) = match (bif _ then _ else _) with | some w => K w | none => none
    cases (Nat.beq c 104 || Nat.beq c 105) with
    | false => rfl
    | true => cases m_ix j n <;> rfl
theorem m_1K_eq {α : Type} (sc : mS) (i : Instr) (v : Int32 × Int64) (ds : List (List Nat)) (lo : mL) (os : List Value) (h : mH) (K : mL → List Value → mH → Option α) : m_1K sc i v ds lo os h K = match m_1 sc i v ds lo os h with
    | some (lo, os, h) => K lo os h
    | none => none := by
  cases i
  case getfield z => rcases os with _ | ⟨w1, os⟩ <;> first | rfl | (cases w1 <;> first | rfl | (simp only [m_1K, m_1, m_getK_eq]; split <;> rename_i hq <;> rw [hq]))
  case putfield z =>
    rcases os with _ | ⟨w2, os⟩
    · rfl
    · rcases os with _ | ⟨w1, os⟩
      · rfl
      · cases w1
        case ref a =>
          simp only [m_1K, m_1, m_putK_eq]
          split <;> rename_i hq <;> rw [hq]
        all_goals rfl
  case iaload => rcases os with _ | ⟨w2, os⟩ <;> first | rfl | (cases w2 <;> first | rfl | (rcases os with _ | ⟨w1, os⟩ <;> first | rfl | (cases w1 <;> first | rfl | (simp only [m_1K, m_1, m_aldK_eq]; split <;> rename_i hq <;> rw [hq]))))
  case baload => rcases os with _ | ⟨w2, os⟩ <;> first | rfl | (cases w2 <;> first | rfl | (rcases os with _ | ⟨w1, os⟩ <;> first | rfl | (cases w1 <;> first | rfl | (simp only [m_1K, m_1, m_aldK_eq]; split <;> rename_i hq <;> rw [hq]))))
  case aaload => rcases os with _ | ⟨w2, os⟩ <;> first | rfl | (cases w2 <;> first | rfl | (rcases os with _ | ⟨w1, os⟩ <;> first | rfl | (cases w1 <;> first | rfl | (simp only [m_1K, m_1, m_aqK_eq]; split <;> rename_i hq <;> rw [hq]))))
  case iastore => rcases os with _ | ⟨w3, os⟩ <;> first | rfl | (cases w3 <;> first | rfl | (rcases os with _ | ⟨w2, os⟩ <;> first | rfl | (cases w2 <;> first | rfl | (rcases os with _ | ⟨w1, os⟩ <;> first | rfl | (cases w1 <;> first | rfl | (simp only [m_1K, m_1, m_astK_eq]; split <;> rename_i hq <;> rw [hq]))))))
  case bastore => rcases os with _ | ⟨w3, os⟩ <;> first | rfl | (cases w3 <;> first | rfl | (rcases os with _ | ⟨w2, os⟩ <;> first | rfl | (cases w2 <;> first | rfl | (rcases os with _ | ⟨w1, os⟩ <;> first | rfl | (cases w1 <;> first | rfl | (simp only [m_1K, m_1, m_astK_eq]; split <;> rename_i hq <;> rw [hq]))))))
  case aastore => rcases os with _ | ⟨w3, os⟩ <;> first | rfl | (cases w3 <;> first | rfl | (rcases os with _ | ⟨w2, os⟩ <;> first | rfl | (cases w2 <;> first | rfl | (rcases os with _ | ⟨w1, os⟩ <;> first | rfl | (cases w1 <;> first | rfl | (simp only [m_1K, m_1]; split <;> rename_i hq <;> simp only [hq]))))))
  case arraylength => rcases os with _ | ⟨w1, os⟩ <;> first | rfl | (cases w1 <;> first | rfl | (simp only [m_1K, m_1]; split <;> rename_i hq <;> simp only [hq]))
  case iload z =>
    simp only [m_1K, m_1]
    rcases m_ld lo z with _ | w
    · rfl
    · cases w <;> rfl
  case iload_n z =>
    simp only [m_1K, m_1]
    rcases m_ld lo z.1 with _ | w
    · rfl
    · cases w <;> rfl
  case lload z =>
    simp only [m_1K, m_1]
    rcases m_ld lo z with _ | w
    · rfl
    · cases w <;> rfl
  case lload_n z =>
    simp only [m_1K, m_1]
    rcases m_ld lo z.1 with _ | w
    · rfl
    · cases w <;> rfl
  case aload z =>
    simp only [m_1K, m_1]
    rcases m_ld lo z with _ | w
    · rfl
    · cases w <;> rfl
  case aload_n z =>
    simp only [m_1K, m_1]
    rcases m_ld lo z.1 with _ | w
    · rfl
    · cases w <;> rfl
  case iinc z y =>
    simp only [m_1K, m_1]
    rcases m_ld lo z with _ | w
    · rfl
    · cases w <;> rfl
  case idiv => rcases os with _ | ⟨w2, os⟩ <;> first | rfl | (cases w2 <;> first | rfl | (rcases os with _ | ⟨w1, os⟩ <;> first | rfl | (cases w1 <;> first | rfl | (simp only [m_1K, m_1]; split <;> rfl))))
  case irem => rcases os with _ | ⟨w2, os⟩ <;> first | rfl | (cases w2 <;> first | rfl | (rcases os with _ | ⟨w1, os⟩ <;> first | rfl | (cases w1 <;> first | rfl | (simp only [m_1K, m_1]; split <;> rfl))))
  case newarray z => rcases os with _ | ⟨w1, os⟩ <;> first | rfl | (cases w1 <;> first | rfl | (simp only [m_1K, m_1]; split <;> rfl))
  case anewarray z => rcases os with _ | ⟨w1, os⟩ <;> first | rfl | (cases w1 <;> first | rfl | (simp only [m_1K, m_1]; split <;> rfl))
  case multianewarray z y => rcases os with _ | ⟨w2, os⟩ <;> first | rfl | (cases w2 <;> first | rfl | (rcases os with _ | ⟨w1, os⟩ <;> first | rfl | (cases w1 <;> first | rfl | (simp only [m_1K, m_1]; split <;> rfl))))
  case ldc z =>
    simp only [m_1K, m_1]
    rcases m_hd ds with _ | ⟨a, _ | ⟨b, _ | ⟨c, l⟩⟩⟩
    · rfl
    · rcases a with _ | _ | a <;> rfl
    · rcases a with _ | _ | a <;> rfl
    · rcases a with _ | _ | a <;> rfl
  all_goals first | rfl | (rcases os with _ | ⟨w2, os⟩ <;> first | rfl | (cases w2 <;> first | rfl | (rcases os with _ | ⟨w1, os⟩ <;> first | rfl | (cases w1 <;> first | rfl | (fail)))))
theorem m_br_map {i : Jvm.ClassFile.Cond} {x y : Int32} (F : mG → Option mF) (a b : Option mG) : m_ob (m_br i x y a b) F = m_br i x y (m_ob a F) (m_ob b F) := by
  cases i <;> simp only [m_br] <;> split <;> rfl
theorem m_BK_eq (sc : mS) (cal : mK) (F : mG → Option mF) : ∀ (ops : List mO) (pc : Nat) (lo : mL) (os : List Value) (h : mH), m_BK sc cal F ops pc lo os h = m_ob (m_B sc cal ops pc lo os h) F
  | [], pc, lo, os, h => rfl
  | (i, n, v, ds) :: r, pc, lo, os, h => by
    have ih := m_BK_eq sc cal F r
    by_cases hi : (∀ o, i ≠ .goto o) ∧ (∀ c o, i ≠ .ifCond c o) ∧ (∀ c o, i ≠ .if_icmp c o) ∧ (∀ a b c d, i ≠ .tableswitch a b c d) ∧ (∀ a b, i ≠ .lookupswitch a b) ∧ i ≠ .ireturn ∧ i ≠ .lreturn ∧ i ≠ .return_ ∧ (∀ z, i ≠ .invokestatic z) ∧ (∀ z, i ≠ .invokespecial z) ∧ ∀ z, i ≠ .invokevirtual z
    · have e : m_BK sc cal F ((i, n, v, ds) :: r) pc lo os h = m_1K sc i v ds lo os h (fun lo os h => m_BK sc cal F r (pc + n) lo os h) := by
        obtain ⟨h1, h2, h3, h4, h5, h6, h7, h8, h9, h10, h11⟩ := hi
        cases i
        case goto o => exact absurd rfl (h1 o)
        case ifCond c o => exact absurd rfl (h2 c o)
        case if_icmp c o => exact absurd rfl (h3 c o)
        case tableswitch a b c d => exact absurd rfl (h4 a b c d)
        case lookupswitch a b => exact absurd rfl (h5 a b)
        case ireturn => exact absurd rfl h6
        case lreturn => exact absurd rfl h7
        case return_ => exact absurd rfl h8
        case invokestatic z => exact absurd rfl (h9 z)
        case invokespecial z => exact absurd rfl (h10 z)
        case invokevirtual z => exact absurd rfl (h11 z)
        all_goals rfl
      rw [e, m_1K_eq, m_B_simple _ _ _ _ _ _ _ _ _ _ _ hi]
      cases m_1 sc i v ds lo os h with
      | none => rfl
      | some q => exact ih _ _ _ _
    · cases i
      case goto o => rfl
      case ifCond c o => rcases os with _ | ⟨w1, os⟩ <;> first | rfl | (cases w1 <;> first | rfl | (simp only [m_BK, m_B]; rw [m_br_map, ← ih]; rfl))
      case if_icmp c o => rcases os with _ | ⟨w2, os⟩ <;> first | rfl | (cases w2 <;> first | rfl | (rcases os with _ | ⟨w1, os⟩ <;> first | rfl | (cases w1 <;> first | rfl | (simp only [m_BK, m_B]; rw [m_br_map, ← ih]; rfl))))
      case tableswitch a b c d => rcases os with _ | ⟨w1, os⟩ <;> first | rfl | (cases w1 <;> first | rfl | (rfl))
      case lookupswitch a b => rcases os with _ | ⟨w1, os⟩ <;> first | rfl | (cases w1 <;> first | rfl | (rfl))
      case ireturn =>
        rcases os with _ | ⟨w1, os⟩
        · rfl
        · cases w1
          case int x =>
            rcases os with _ | ⟨w2, os⟩
            · simp only [m_BK, m_B]
              cases Nat.beq (m_d (m_hd ds) 0) 1 with
              | true =>
                rw [cond_true, cond_true]
                split <;> rfl
              | false => rfl
            · rfl
          all_goals rfl
      case lreturn =>
        rcases os with _ | ⟨w1, os⟩
        · rfl
        · cases w1
          case long x => rcases os with _ | ⟨w2, os⟩ <;> rfl
          all_goals rfl
      case return_ => rcases os with _ | ⟨w2, os⟩ <;> rfl
      case invokestatic z =>
        simp only [m_BK, m_B]
        cases Nat.ble 995 (m_d (m_hd ds) 1) with
        | true =>
          rw [cond_true, cond_true]
          cases m_spc (m_d (m_hd ds) 1) os h with
          | none => rfl
          | some q => exact ih _ _ _ _
        | false =>
          rw [cond_false, cond_false]
          cases cal (m_d (m_hd ds) 1) (os.take (m_d (m_hd ds) 0)).reverse h with
          | none => rfl
          | some q =>
            obtain ⟨w, h2⟩ := q
            show (bif _ then _ else _) = m_ob (bif _ then _ else _) F
            cases (Nat.ble (m_d (m_hd ds) 0) os.length && Nat.ble (m_cat (os.drop (m_d (m_hd ds) 0))) 8) with
            | false => rfl
            | true => exact ih _ _ _ _
      case invokespecial z =>
        simp only [m_BK, m_B]
        rcases os.drop (m_d (m_hd ds) 0) with _ | ⟨w1, os'⟩
        · rfl
        · cases w1
          case ref a =>
            show (bif _ then _ else _) = m_ob (bif _ then _ else _) F
            cases Nat.ble (m_cat os') 8 with
            | false => rfl
            | true =>
              rw [cond_true, cond_true]
              cases Nat.beq (m_d (m_hd ds) 1) 999 with
              | true => exact ih _ _ _ _
              | false =>
                rw [cond_false, cond_false]
                cases m_isO h a with
                | false => rfl
                | true =>
                  rw [cond_true, cond_true]
                  cases cal (m_d (m_hd ds) 1) (.ref a :: (os.take (m_d (m_hd ds) 0)).reverse) h with
                  | none => rfl
                  | some q => exact ih _ _ _ _
          all_goals rfl
      case invokevirtual z =>
        simp only [m_BK, m_B]
        rcases os.drop (m_d (m_hd ds) 0) with _ | ⟨w1, os'⟩
        · rfl
        · cases w1
          case ref a =>
            show (bif _ then _ else _) = m_ob (bif _ then _ else _) F
            cases Nat.ble (m_cat os') 8 with
            | false => rfl
            | true =>
              rw [cond_true, cond_true]
              cases m_pick h a (ds.drop 1) with
              | none => rfl
              | some k =>
                show m_bd (cal k _ h) _ = m_ob (match cal k _ h with | some (w, h) => _ | none => _) F
                cases cal k (.ref a :: (os.take (m_d (m_hd ds) 0)).reverse) h with
                | none => rfl
                | some q => exact ih _ _ _ _
          all_goals rfl
      all_goals exact absurd ⟨by simp, by simp, by simp, by simp, by simp, by simp, by simp, by simp, by simp, by simp, by simp⟩ hi
/-- what a block hands on -/
noncomputable def m_lf (sc : mS) (d k : Nat) : mG → Option mF
  | .inl r => bif m_isN r.1 then some r else none
  | .inr (pc, lo, os, h) => m_ev sc d k pc lo os h
/-- ONE BLOCK OF A RUN, by continuations -/
theorem m_ev_K (sc : mS) (d k pc : Nat) (lo : mL) (os : List Value) (h : mH) : m_ev sc d k pc lo os h = m_BK sc (m_evc d) (m_lf sc d k) (mP k pc) pc lo os h := by
  rw [m_BK_eq]
  have hcc : ∀ f k as h r, m_cal f d k as h = some r → m_evc d k as h = some r := by
    intro f k as h r hq
    unfold m_cal at hq
    unfold m_evc
    split at hq
    · cases hq
    · rename_i d'
      cases hb : Nat.ble 900 k with
      | true => rw [hb, cond_true] at hq; simp only [hb, cond_true]; exact hq
      | false =>
        rw [hb, cond_false] at hq
        simp only [hb, cond_false]
        cases h5 : (Nat.blt k 268 && Nat.ble (m_lay as).length (mX k)) with
        | false => rw [h5, cond_false] at hq; cases hq
        | true => rw [h5, cond_true] at hq; rw [cond_true]; exact m_ev_of hq
  cases hB : m_B sc (m_evc d) (mP k pc) pc lo os h with
  | none =>
    cases hr : m_ev sc d k pc lo os h with
    | none => rfl
    | some r =>
      obtain ⟨f, hf⟩ := m_ev_run hr
      cases f with
      | zero => cases hf
      | succ f =>
        rw [m_run_s] at hf
        split at hf
        · rename_i r1 hB1; rw [m_B_mono (hcc f) _ _ _ _ _ _ hB1] at hB; cases hB
        · rename_i hB1; rw [m_B_mono (hcc f) _ _ _ _ _ _ hB1] at hB; cases hB
        · cases hf
  | some out =>
    cases out with
    | inl r =>
      show _ = bif m_isN r.1 then some r else none
      cases hn : m_isN r.1 with
      | true => rw [cond_true]; exact m_ev_ret hB hn
      | false =>
        rw [cond_false]
        cases hr : m_ev sc d k pc lo os h with
        | none => rfl
        | some r' =>
          obtain ⟨f, hf⟩ := m_ev_run hr
          cases f with
          | zero => cases hf
          | succ f =>
            rw [m_run_s] at hf
            split at hf
            · rename_i r1 hB1
              have h2 := m_B_mono (hcc f) _ _ _ _ _ _ hB1
              rw [hB] at h2
              cases h2
              rw [hn] at hf
              cases hf
            · rename_i hB1
              have h2 := m_B_mono (hcc f) _ _ _ _ _ _ hB1
              rw [hB] at h2
              cases h2
            · cases hf
    | inr q =>
      obtain ⟨pc', lo', os', h'⟩ := q
      show _ = m_ev sc d k pc' lo' os' h'
      cases hr : m_ev sc d k pc' lo' os' h' with
      | some r => exact m_ev_goto hB hr
      | none =>
        cases hr2 : m_ev sc d k pc lo os h with
        | none => rfl
        | some r' =>
          obtain ⟨f, hf⟩ := m_ev_run hr2
          cases f with
          | zero => cases hf
          | succ f =>
            rw [m_run_s] at hf
            split at hf
            · rename_i r1 hB1
              have h2 := m_B_mono (hcc f) _ _ _ _ _ _ hB1
              rw [hB] at h2
              cases h2
            · rename_i hB1
              have h2 := m_B_mono (hcc f) _ _ _ _ _ _ hB1
              rw [hB] at h2
              cases h2
              rw [m_ev_of hf] at hr
              cases hr
            · cases hf
end
section
/-- a row copied from its beginning -/
def m_cpR (st : Nat → Nat → Int32) (a b n : Nat) : Nat → Nat → Int32 := m_row st b (va_cpy (st a) (st b) 0 0 n)
/-! THE HEAP'S SHAPES, after the constructors; ONE LEMMA A BLOCK (printed by program) -/
def SH : List mR := [(11, 18, [some 1, some 18, none, some 35, some 44, some 49, some 54, some 55, none, some 56, some 66, some 67, some 68, some 73, some 74, some 75, some 76, some 78]),
  (9, 15, [none, some 2, some 3, some 4, some 5, some 6, some 7, none, some 8, none, some 9, none, some 15, some 16, some 17]),
  (100, 9, []),
  (100, 9, []),
  (100, 9, []),
  (100, 9, []),
  (100, 9, []),
  (100, 9, []),
  (100, 7, []),
  (5, 7, [none, some 10, some 11, some 12, some 13, none, some 14]),
  (100, 8, []),
  (100, 8, []),
  (100, 8, []),
  (100, 8, []),
  (100, 200, []),
  (100, 6, []),
  (100, 6, []),
  (100, 6, []),
  (9, 15, [none, some 19, some 20, some 21, some 22, some 23, some 24, none, some 25, none, some 26, none, some 32, some 33, some 34]),
  (100, 9, []),
  (100, 9, []),
  (100, 9, []),
  (100, 9, []),
  (100, 9, []),
  (100, 9, []),
  (100, 7, []),
  (5, 7, [none, some 27, some 28, some 29, some 30, none, some 31]),
  (100, 8, []),
  (100, 8, []),
  (100, 8, []),
  (100, 8, []),
  (100, 200, []),
  (100, 6, []),
  (100, 6, []),
  (100, 6, []),
  (6, 13, [none, some 36, some 37, none, none, none, none, none, none, none, none, some 43, none]),
  (101, 200, []),
  (5, 7, [none, some 38, some 39, some 40, some 41, none, some 42]),
  (100, 8, []),
  (100, 8, []),
  (100, 8, []),
  (100, 8, []),
  (100, 200, []),
  (100, 200, []),
  (0, 8, [some 1, some 45, some 46, none, none, none, some 47, some 48]),
  (100, 9, []),
  (102, 9, []),
  (100, 9, []),
  (100, 9, []),
  (0, 8, [some 1, some 50, some 51, none, none, none, some 52, some 53]),
  (100, 9, []),
  (102, 9, []),
  (100, 9, []),
  (100, 9, []),
  (102, 7, []),
  (100, 7, []),
  (104, 9, [some 57, some 58, some 59, some 60, some 61, some 62, some 63, some 64, some 65]),
  (100, 3, []),
  (100, 3, []),
  (100, 3, []),
  (100, 3, []),
  (100, 3, []),
  (100, 3, []),
  (100, 3, []),
  (100, 3, []),
  (100, 3, []),
  (100, 4, []),
  (100, 4, []),
  (104, 4, [some 69, some 70, some 71, some 72]),
  (100, 40, []),
  (100, 40, []),
  (100, 40, []),
  (100, 40, []),
  (100, 4, []),
  (100, 4, []),
  (100, 4, []),
  (8, 3, [none, some 77, none]),
  (100, 30, []),
  (105, 6, [some 79, some 80, some 81, some 82, some 83, some 84]),
  (10, 3, [some 76, none, none]),
  (3, 3, [some 76, none, none]),
  (4, 3, [some 76, none, none]),
  (1, 3, [some 76, none, none]),
  (2, 3, [some 76, none, none]),
  (7, 3, [some 76, none, none]),
  (12, 36, [some 86, some 87, some 88, none, some 89, none, none, some 90, some 91, some 92, none, none, none, none, some 93, none, some 94, none, none, none, none, none, none, none, some 95, some 96, some 97, some 98, some 99, some 100, some 101, none, none, none, none, none]),
  (100, 310, []),
  (100, 310, []),
  (100, 310, []),
  (100, 200, []),
  (100, 9, []),
  (100, 9, []),
  (100, 9, []),
  (100, 27, []),
  (100, 200, []),
  (100, 4, []),
  (100, 4, []),
  (100, 160, []),
  (100, 4, []),
  (100, 4, []),
  (100, 4, []),
  (100, 30, [])]
end
section
/-! THE CLAIM OUT OF ONE WALK OF THE LAW'S BODY. Your part is whole_start (and what it stands on); all else here is the same for every law, but numbers. -/
def R_law : String := "ShoutedHourLaw"
def lw_P (b : Addr) (xs : List Int32) (args : Array Value) (s : State) : Prop := args = #[.ref b] ∧ s.IntsAt b xs ∧ xs.length ≤ 2560 ∧ (Jvm.Cond.and given_1 narrow_1).before args s = true
def lw_Q (_ : Array Value) (s : State) (o : Outcome) (t : State) : Prop := o = .returned (some (.int 1)) ∧ Framed s o t [] 600000 7302250
def lw_Z (below : List Frame) (a : Array Value) (s : State) : State → Prop := fun t => ∃ o, t.status = .running ∧ Ended t below o ∧ lw_Q a s o t
/-- the law's own end, with 1 on the stack, nothing written that was there before, its room as the claim has it -/
theorem lw_ret {p : Program} {l : Launch} {e : Env} {s : State} {m : MethodId} {below : List Frame} {meth : Method} {c : Code} {b : Nat} (hx : p.tables.exec = Jvm.exec) (hb : c.code = code) (hr : meth.sig.returnType = ret) (hlocks : meth.locks = false) {pc : Nat} {H : Heap} {ls : Array Slot} (hdg : decode code pc = .ok (.ireturn, 1)) : W p l e room_1 s m #[Value.ref b] below meth c H [] 600000 7302250 (lw_Z below #[Value.ref b] s) (F0 m pc ls [.int 1]) := by
  intro T hT X
  obtain ⟨fs, hret, hrun, hended, hW, hframe⟩ := X.leave (v := some (.int 1)) (hlocks := hlocks) (fun h => by rw [hr] at h; cases h)
  have hmeth' : T.vm.method? m = some meth := X.method'
  refine ⟨T.setFrames fs, ?_, .returned (some (.int 1)), hrun, hended, rfl, ⟨_, rfl⟩, hW, hframe⟩
  jvm_step X.here [X.here.top, hx, hb, hdg, hmeth', hr, ret, narrow_b1]
  (try refine ⟨rfl, ?_⟩); (try refine ⟨rfl, ?_⟩)
  first | (intro acts; rw [hret _ acts rfl rfl rfl]) | rw [hret _ _ rfl rfl rfl]
  exact Steps.refl _
/-- what holds at the law's entry: the machine, the code, the tables' words (any of lw_tbl by 'hts w (by decide +kernel)'), the script of L ints xs at the cell b, what the Statement gives of the start (any of its parts by flat_of_before) -/
def lw_At (p : Program) (s : State) (m : MethodId) (meth : Method) (c : Code) (b L : Nat) (xs : Nat → Int32) : Prop :=
  p.tables.exec = Jvm.exec ∧ c.code = code ∧ meth.sig.returnType = ret ∧ c.maxLocals = 4 ∧ s.vm.findClass R_law = some m.cls ∧ (∀ w ∈ lw_tbl, w.before #[Value.ref b] s = true) ∧ va_X b L xs s s.heap ∧ b < s.heap.size ∧ meth.locks = false ∧ (Jvm.Cond.and given_1 narrow_1).before #[Value.ref b] s = true
end
section
/-! THE START: from the law's entry to the machine of worlds -/
/-- the answer of the law, by the machine alone -/
def m_LawOk : Prop := ∀ (L : Nat) (xs : Nat → Int32), L ≤ 2560 → ∃ h' : mH, m_ev (some (L, xs)) 2047 268 0 (m_lo 4 [.ref m_scr0]) [] ([], fun _ _ => 0) = some (some (.int 1), h') ∧ h'.1.length ≤ 600000 ∧ m_sz h' ≤ 7302250
theorem m_inst : ∀ (c : Nat) (C : String) (T : u_T) (N : Nat), m_cl[c]? = some (C, T, N) → Cond.instantiable C N ∈ mTT
  | 0, _, _, _, h => by cases h; decide +kernel
  | 1, _, _, _, h => by cases h; decide +kernel
  | 2, _, _, _, h => by cases h; decide +kernel
  | 3, _, _, _, h => by cases h; decide +kernel
  | 4, _, _, _, h => by cases h; decide +kernel
  | 5, _, _, _, h => by cases h; decide +kernel
  | 6, _, _, _, h => by cases h; decide +kernel
  | 7, _, _, _, h => by cases h; decide +kernel
  | 8, _, _, _, h => by cases h; decide +kernel
  | 9, _, _, _, h => by cases h; decide +kernel
  | 10, _, _, _, h => by cases h; decide +kernel
  | 11, _, _, _, h => by cases h; decide +kernel
  | 12, _, _, _, h => by cases h; decide +kernel
  | n + 13, _, _, _, h => by simp [m_cl] at h
/-- classes of objects -/
theorem m_KD {s : State} {args : Array Value} (hts : ∀ w ∈ mTT, w.before args s = true) : ∃ D : va_G, ∀ (c : Nat) (q : vw_C), m_cl[c]? = some q → u_Kn s q.1 q.2.1 q.2.2 (D.1 c) (D.2 c) := by
  have h0 : ∀ c : Nat, ∃ z : ClassId × (Nat → Nat), ∀ q : vw_C, m_cl[c]? = some q → u_Kn s q.1 q.2.1 q.2.2 z.1 z.2 := by
    intro c
    cases hq : m_cl[c]? with
    | none => exact ⟨(0, fun _ => 0), fun q h => by cases h⟩
    | some q =>
      obtain ⟨C, T, N⟩ := q
      obtain ⟨hin, -, -⟩ := m_cl_ok c C T N hq
      obtain ⟨cC, iS, h⟩ := u_known hts hin (hts _ (m_inst c C T N hq))
      exact ⟨(cC, iS), fun q hq2 => by cases hq2; exact h⟩
  obtain ⟨f, hf⟩ := Classical.axiomOfChoice h0
  exact ⟨(fun c => (f c).1, fun c => (f c).2), fun c q hq => hf c q hq⟩
/-- classes of arrays of numbers -/
theorem m_KA {s : State} {args : Array Value} {ty : FieldType} (hp : ∀ C, ty ≠ .object C) (hw : (Cond.arrayClass ty).before args s = true) : ∃ cA : ClassId, ArrOfT s cA ty ∧ va_RA s cA ty := by
  obtain ⟨c, k, comp, h1, h2, h3⟩ := Cond.arrayClass_spec hw
  refine ⟨c, fun n z => ⟨fun k h => (by cases h), k, h2, comp, h3⟩, ?_⟩
  cases ty <;> first | exact absurd rfl (hp _) | exact h1
theorem m_KO {s : State} (h : va_AO RX10 s) : ∃ cA : ClassId, ArrOfT s cA (.object RX10) ∧ va_RA s cA (.object RX10) := by
  obtain ⟨comp, c, k, h1, h2, h3, h4, h5⟩ := Cond.arrayOver_spec h
  exact ⟨c, fun n z => ⟨fun k h => (by cases h), k, h3, comp, h4⟩, k, comp, h3, h4, h1, h5⟩
theorem m_KAA {s : State} (h : m_AOA s) : ∃ cA : ClassId, ArrOfT s cA (.array .int) ∧ va_RA s cA (.array .int) := by
  unfold m_AOA Cond.before Cond.holds at h
  simp only [Cond.value, beq_iff_eq] at h
  rw [Option.bind_eq_some_iff] at h
  obtain ⟨comp, h1, h⟩ := h
  rw [Option.bind_eq_some_iff] at h
  obtain ⟨c, h2, h⟩ := h
  rw [Option.map_eq_some_iff] at h
  obtain ⟨k, h3, h4⟩ := h
  cases hk : k.kind with
  | array cm ty =>
    rw [hk] at h4
    simp only [Bool.and_eq_true, decide_eq_true_eq] at h4
    refine ⟨c, fun n z => ⟨fun k h => (by cases h), k, h3, cm, ?_⟩, h4.2⟩
    rw [hk, h4.1]
  | _ => rw [hk] at h4; simp at h4
theorem m_texts {s : State} {b : Nat} (hgv : (Jvm.Cond.and given_1 narrow_1).before #[Value.ref b] s = true) : ∃ adK adV : Nat → Nat, vk_S 6 m_tln m_txt adK adV (fun q => s.heap.size ≤ q) s s.heap ∧ ∀ i : Nat, i < 6 → (Term.string RX6 ((m_sk.map (·.1)).getD i 0)).eval #[Value.ref b] s none [] s = some (.ref (adK i)) := by
  have hs := flat_of_before _ hgv
  refine vk_Sof (args := #[Value.ref b]) (s := s) (A := fun q => s.heap.size ≤ q) (N := 6) (len := m_tln) (byt := m_txt) (tm := fun i => Term.string RX6 ((m_sk.map (·.1)).getD i 0)) (by decide +kernel) ?_ ?_ ?_ ?_ ?_ ?_ (fun a h1 h2 => by omega)
  · exact fun i hi => hs _ ((show ∀ i, i < 6 → Cond.exactly (Term.string RX6 ((m_sk.map (·.1)).getD i 0)) "java/lang/String" ∈ flatC (Jvm.Cond.and given_1 narrow_1) by decide +kernel) i hi)
  · exact fun i hi => hs _ ((show ∀ i, i < 6 → Cond.eq (.field (Term.string RX6 ((m_sk.map (·.1)).getD i 0)) "java/lang/String" "coder" "B") (.int 0) ∈ flatC (Jvm.Cond.and given_1 narrow_1) by decide +kernel) i hi)
  · exact fun i hi => hs _ ((show ∀ i, i < 6 → Cond.arrayOf (.field (Term.string RX6 ((m_sk.map (·.1)).getD i 0)) "java/lang/String" "value" "[B") .byte ∈ flatC (Jvm.Cond.and given_1 narrow_1) by decide +kernel) i hi)
  · exact fun i hi => hs _ ((show ∀ i, i < 6 → Cond.eq (.length (.field (Term.string RX6 ((m_sk.map (·.1)).getD i 0)) "java/lang/String" "value" "[B")) (.int (Int32.ofNat (m_tln.getD i 0))) ∈ flatC (Jvm.Cond.and given_1 narrow_1) by decide +kernel) i hi)
  · exact fun i hi j hj => hs _ ((show ∀ i, i < 6 → ∀ j, j < m_tln.getD i 0 → Cond.eq (.elem (.field (Term.string RX6 ((m_sk.map (·.1)).getD i 0)) "java/lang/String" "value" "[B") (.int (Int32.ofNat j))) (.int ((m_txt.getD i []).getD j 0)) ∈ flatC (Jvm.Cond.and given_1 narrow_1) by decide +kernel) i hi j hj)
  · intro i j hi hj hij
    have h := (show ∀ i, i < 6 → ∀ j, j < 6 → i ≠ j → Cond.not (Cond.eq (Term.string RX6 ((m_sk.map (·.1)).getD i 0)) (Term.string RX6 ((m_sk.map (·.1)).getD j 0))) ∈ flatC (Jvm.Cond.and given_1 narrow_1) ∨ Cond.not (Cond.eq (Term.string RX6 ((m_sk.map (·.1)).getD j 0)) (Term.string RX6 ((m_sk.map (·.1)).getD i 0))) ∈ flatC (Jvm.Cond.and given_1 narrow_1) by decide +kernel) i hi j hj hij
    exact h.imp (fun h => hs _ h) (fun h => hs _ h)
theorem m_law_np : ((mBl 268).all fun e => m_noPut e.2) = true := by decide +kernel
/-- from the entry, for every script of at most 2560 ints, the law comes to its end with true -/
theorem m_start (hLaw : m_LawOk) (hck : ∀ k, k < 269 → m_ckM k = true) {p : Program} {e : Env} {s : State} {m : MethodId} {below : List Frame} {meth : Method} {c : Code} (l : Launch) (hflags : l.flags = flags0) {b L : Nat} {xs : Nat → Int32} (hL : L ≤ 2560) (C0 : lw_At p s m meth c b L xs) : W p l e room_1 s m #[Value.ref b] below meth c s.heap [] 0 0 (lw_Z below #[Value.ref b] s) (entryFrame m ([Value.ref b] : List Value).toArray 4) := by
  obtain ⟨hx, hb, hr, hml, hown, hts, hX, hbl, hlocks, hgv⟩ := C0
  have htT : ∀ w ∈ mTT, w.before #[Value.ref b] s = true := fun w hw => hts w (List.mem_filter.mp hw).1
  have htN : ∀ w : Jvm.Cond, w ∈ lw_tbl → w.onTables = true → va_Nw w s := fun w hw ho => va_Nw.of ho (hts w hw)
  have hs := flat_of_before _ hgv
  obtain ⟨D, hD⟩ := m_KD htT
  have hAO : va_AO RX10 s := va_AO.of (hts (.arrayOver (.object RX10)) (by decide +kernel))
  have hAOA : m_AOA s := hts (.arrayOver (.array .int)) (by decide +kernel)
  obtain ⟨c0, a0⟩ := m_KA (ty := .int) (fun _ h => by cases h) (hts (.arrayClass .int) (by decide +kernel))
  obtain ⟨c1, a1⟩ := m_KA (ty := .byte) (fun _ h => by cases h) (hts (.arrayClass .byte) (by decide +kernel))
  obtain ⟨c2, a2⟩ := m_KA (ty := .boolean) (fun _ h => by cases h) (hts (.arrayClass .boolean) (by decide +kernel))
  obtain ⟨c4, a4⟩ := m_KAA hAOA
  obtain ⟨c5, a5⟩ := m_KO hAO
  obtain ⟨adK, adV, hTS, hTE⟩ := m_texts hgv
  obtain ⟨dA, d0, d1, d2, d4, d5⟩ : ∃ dA : Nat → ClassId, dA 100 = c0 ∧ dA 101 = c1 ∧ dA 102 = c2 ∧ dA 104 = c4 ∧ dA 105 = c5 := ⟨fun i => if i = 100 then c0 else if i = 101 then c1 else if i = 102 then c2 else if i = 104 then c4 else c5, rfl, rfl, rfl, rfl, rfl⟩
  obtain ⟨ad, e1, e2, e3⟩ : ∃ ad : Nat → Nat, (∀ i, i < m_str0 → ad i = s.heap.size + i) ∧ (∀ j, j < 6 → ad (m_str0 + j) = adK j) ∧ ad m_scr0 = b := by
    refine ⟨fun i => if i < m_str0 then s.heap.size + i else if i < m_scr0 then adK (i - m_str0) else b, fun i hi => by simp [hi], fun j hj => ?_, by simp [m_scr0, m_str0]⟩
    have h1 : ¬ m_str0 + j < m_str0 := by omega
    have h2 : m_str0 + j < m_scr0 := by unfold m_str0 m_scr0; omega
    simp [h1, h2]
  have hK : va_K D m_cl (m_tys dA) s := by
    refine ⟨hD, fun k q hq => ?_⟩
    match k, hq with
    | 0, hq => cases hq; rw [d0]; exact a0
    | 1, hq => cases hq; rw [d1]; exact a1
    | 2, hq => cases hq; rw [d2]; exact a2
    | 3, hq => cases hq; rw [d4]; exact a4
    | 4, hq => cases hq; rw [d5]; exact a5
    | k + 5, hq => simp [m_tys] at hq
  have hE : m_Ex s := ⟨hAO, hAOA, fun C hC => htN _ ((show ∀ C ∈ [RX1, RX2, RX3, RX4, RX7], Cond.castable C RX10 ∈ lw_tbl by decide +kernel) C hC) rfl, fun q hq => htN _ ((show ∀ q ∈ m_nest, Cond.methodLinkNest q.1 q.2.1 q.2.2.1 q.2.2.2 ∈ lw_tbl by decide +kernel) q hq) rfl⟩
  have hnA : ∀ a : Nat, a < s.heap.size → ¬ (fun q : Nat => s.heap.size ≤ q) a := fun a h1 h2 => by omega
  have hTx : m_Tx s ad := by
    intro j q hq
    have hj : j < 6 := (List.getElem?_eq_some_iff.mp hq).1
    rw [e2 j hj]
    have h3 := hTE j hj
    have h4 : (m_sk.map (·.1)).getD j 0 = q.1 := by
      rw [List.getD_eq_getElem?_getD, List.getElem?_map, hq]; rfl
    rw [h4] at h3
    refine vk_R.of (hts (.stringRef RX6 q.1 q.2) ?_) h3
    exact (show ∀ q ∈ m_sk, Cond.stringRef RX6 q.1 q.2 ∈ lw_tbl by decide +kernel) q (List.mem_of_getElem? hq)
  have hTX : m_TX ad (fun q => s.heap.size ≤ q) s s.heap := by
    refine ⟨hTx, ⟨adV, ?_⟩, va_Zof (hts (.laysStatic "java/lang/String" "COMPACT_STRINGS" "Z") (by decide +kernel)) (hts (.initialized "java/lang/String") (by decide +kernel)) (va_eqi (hs _ (by decide +kernel))) hnA, ?_⟩
    · obtain ⟨g1, g2⟩ := hTS
      exact ⟨fun i hi => by have := g1 i hi; rw [← e2 i hi] at this; exact this, fun i j hi hj h => g2 i j hi hj (by have h : ad (m_str0 + i) = ad (m_str0 + j) := h; rw [e2 i hi, e2 j hj] at h; exact h)⟩
    · obtain ⟨v, hv, hvr⟩ := Cond.isRef_spec (hs (Cond.isRef (Term.static "jdk/internal/util/Preconditions" "SIOOBE_FORMATTER" "Ljava/util/function/BiFunction;")) (by decide +kernel))
      exact ⟨v, by cases v <;> first | rfl | exact Bool.noConfusion hvr, va_Zof (hts (.laysStatic "jdk/internal/util/Preconditions" "SIOOBE_FORMATTER" "Ljava/util/function/BiFunction;") (by decide +kernel)) (hts (.initialized "jdk/internal/util/Preconditions") (by decide +kernel)) hv hnA⟩
  have hF : m_Fx p s m #[Value.ref b] meth c code (m_y 268).cls meth.name 4 D dA ad (fun q => s.heap.size ≤ q) s.heap.size := ⟨hx, hb, hml, hown, htT, hK, fun _ h => h, rfl, e1⟩
  have hlw : ((mBl 268).all fun e => m_ckB (m_y 268).cls (m_y 268).name 4 (m_rt 268) code e.2 e.1) = true := by
    have h9 := hck 268 (Nat.lt_succ_self _)
    simp only [m_ckM, Bool.and_eq_true] at h9
    exact h9.2
  obtain ⟨h', hrun, hl1, hl2⟩ := hLaw L xs hL
  obtain ⟨f, hf⟩ := m_ev_run hrun
  have hEnt := m_LS.entry ad [.ref m_scr0] (n := 4) (Nat.le_of_ble_eq_true rfl)
  have hvv : ([.ref m_scr0] : List Value).map (m_v ad) = [.ref b] := by
    show [Value.ref (ad m_scr0)] = _
    rw [e3]
  rw [hvv] at hEnt
  rw [lg_entry_eq]
  have hall := m_all (fun k hk => hck k (Nat.lt_succ_of_lt hk)) l D dA ad s.heap.size e1
  refine m_go (N0 := 0) (S0 := 0) (R := room_1) hE hTX (sc := some (L, xs)) (fun L' xs' q => by cases q; rw [e3]; exact ⟨hX, hbl, hnA b hbl, by omega⟩) (d := 2047) ⟨Nat.le_of_ble_eq_true rfl, Nat.le_of_ble_eq_true rfl⟩ (nL := 4) (cc := code) (own := (m_y 268).cls) (nm := meth.name) (fun pc => m_ckB_nm (nm := (m_y 268).name) _ _ (m_look_np pc _ m_law_np) (m_look_ck _ _ _ _ _ pc _ hlw)) hF (r := some (.int 1)) (h' := h') ⟨by show h'.1.length ≤ 0 + 600000; omega, by show m_sz h' ≤ 0 + 7302250; omega, Nat.le_trans hl1 (Nat.le_of_ble_eq_true rfl)⟩ ?_ f (fun g _ => hall g) 0 (m_lo 4 [.ref m_scr0]) [] _ hf s.heap [] 0 0 _ ⟨fun k q h => by simp [m_ws] at h, ⟨fun i j p q h => by simp [m_ws] at h, fun k q h => by simp [m_ws] at h⟩, va_S.rf, rfl, rfl, rfl, hEnt⟩
  intro i pc' lo' hd ho H locs cells slots ls hN
  rcases ho with ⟨rfl, hr1, x, hq⟩ | ⟨rfl, hr1, x, hq, -⟩ | ⟨rfl, hr1, x, hq⟩ | ⟨rfl, hr1, hq⟩
  · cases hq
    have g1 := hN.2.2.2.2.1
    have g2 := hN.2.2.2.2.2.1
    exact va_forget (fun q hq => hN.2.2.1.2.2 q hq) (W.widen (by omega) (by omega) (lw_ret hx hb hr hlocks hd))
  · cases hq
    have g1 := hN.2.2.2.2.1
    have g2 := hN.2.2.2.2.2.1
    exact va_forget (fun q hq => hN.2.2.1.2.2 q hq) (W.widen (by omega) (by omega) (lw_ret hx hb hr hlocks hd))
  · cases hq
  · cases hq
end
