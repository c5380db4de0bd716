-- ===== PART A: goes FIRST, ahead of the names: the tables' words, and 'selects' of the private methods out of them =====
/-- a private method of a class that the tables say can be made, by its rows of tables_1 -/
def lw_okq (q : MethodName × Nat) : Prop := (q.1.cls ≠ "java/lang/invoke/MethodHandle" ∧ q.1.cls ≠ "java/lang/invoke/VarHandle") ∧ Cond.instantiable q.1.cls q.2 ∈ tables_1 ∧ Cond.privateMethod q.1 ∈ tables_1 ∧ Cond.instanceMethod q.1 ∈ tables_1
theorem lw_p0 : lw_okq (⟨"ShoutedHour$RuleBook", "isMet", "(I[I)Z"⟩, 7) := ⟨⟨by decide +kernel, by decide +kernel⟩, List.mem_of_getElem? (i := 37) (by decide +kernel), List.mem_of_getElem? (i := 416) (by decide +kernel), List.mem_of_getElem? (i := 417) (by decide +kernel)⟩
theorem lw_p1 : lw_okq (⟨"ShoutedHour$RuleReader", "readToken", "()V"⟩, 13) := ⟨⟨by decide +kernel, by decide +kernel⟩, List.mem_of_getElem? (i := 138) (by decide +kernel), List.mem_of_getElem? (i := 478) (by decide +kernel), List.mem_of_getElem? (i := 479) (by decide +kernel)⟩
theorem lw_p2 : lw_okq (⟨"ShoutedHour$RuleReader", "isLetter", "(I)Z"⟩, 13) := ⟨⟨by decide +kernel, by decide +kernel⟩, List.mem_of_getElem? (i := 138) (by decide +kernel), List.mem_of_getElem? (i := 482) (by decide +kernel), List.mem_of_getElem? (i := 483) (by decide +kernel)⟩
theorem lw_p3 : lw_okq (⟨"ShoutedHour$RuleReader", "isDigit", "(I)Z"⟩, 13) := ⟨⟨by decide +kernel, by decide +kernel⟩, List.mem_of_getElem? (i := 138) (by decide +kernel), List.mem_of_getElem? (i := 486) (by decide +kernel), List.mem_of_getElem? (i := 487) (by decide +kernel)⟩
theorem lw_p4 : lw_okq (⟨"ShoutedHour$RuleReader", "readNumber", "()V"⟩, 13) := ⟨⟨by decide +kernel, by decide +kernel⟩, List.mem_of_getElem? (i := 138) (by decide +kernel), List.mem_of_getElem? (i := 490) (by decide +kernel), List.mem_of_getElem? (i := 491) (by decide +kernel)⟩
theorem lw_p5 : lw_okq (⟨"ShoutedHour$RuleReader", "takesToken", "()Z"⟩, 13) := ⟨⟨by decide +kernel, by decide +kernel⟩, List.mem_of_getElem? (i := 138) (by decide +kernel), List.mem_of_getElem? (i := 494) (by decide +kernel), List.mem_of_getElem? (i := 495) (by decide +kernel)⟩
theorem lw_p6 : lw_okq (⟨"ShoutedHour$RuleReader", "takesKind", "()Z"⟩, 13) := ⟨⟨by decide +kernel, by decide +kernel⟩, List.mem_of_getElem? (i := 138) (by decide +kernel), List.mem_of_getElem? (i := 498) (by decide +kernel), List.mem_of_getElem? (i := 499) (by decide +kernel)⟩
theorem lw_p7 : lw_okq (⟨"ShoutedHour$RuleReader", "placeIn", "(Ljava/lang/String;)I"⟩, 13) := ⟨⟨by decide +kernel, by decide +kernel⟩, List.mem_of_getElem? (i := 138) (by decide +kernel), List.mem_of_getElem? (i := 503) (by decide +kernel), List.mem_of_getElem? (i := 504) (by decide +kernel)⟩
theorem lw_p8 : lw_okq (⟨"ShoutedHour$RuleReader", "isSpelt", "(Ljava/lang/String;II)Z"⟩, 13) := ⟨⟨by decide +kernel, by decide +kernel⟩, List.mem_of_getElem? (i := 138) (by decide +kernel), List.mem_of_getElem? (i := 555) (by decide +kernel), List.mem_of_getElem? (i := 556) (by decide +kernel)⟩
theorem lw_p9 : lw_okq (⟨"ShoutedHour$RuleReader", "takesIf", "()Z"⟩, 13) := ⟨⟨by decide +kernel, by decide +kernel⟩, List.mem_of_getElem? (i := 138) (by decide +kernel), List.mem_of_getElem? (i := 559) (by decide +kernel), List.mem_of_getElem? (i := 560) (by decide +kernel)⟩
theorem lw_p10 : lw_okq (⟨"ShoutedHour$RuleReader", "goesTo", "(IZ)Z"⟩, 13) := ⟨⟨by decide +kernel, by decide +kernel⟩, List.mem_of_getElem? (i := 138) (by decide +kernel), List.mem_of_getElem? (i := 564) (by decide +kernel), List.mem_of_getElem? (i := 565) (by decide +kernel)⟩
theorem lw_p11 : lw_okq (⟨"ShoutedHour$RuleReader", "takesDeed", "()Z"⟩, 13) := ⟨⟨by decide +kernel, by decide +kernel⟩, List.mem_of_getElem? (i := 138) (by decide +kernel), List.mem_of_getElem? (i := 568) (by decide +kernel), List.mem_of_getElem? (i := 569) (by decide +kernel)⟩
theorem lw_p12 : lw_okq (⟨"ShoutedHour$RuleReader", "addWaiting", "(I)V"⟩, 13) := ⟨⟨by decide +kernel, by decide +kernel⟩, List.mem_of_getElem? (i := 138) (by decide +kernel), List.mem_of_getElem? (i := 573) (by decide +kernel), List.mem_of_getElem? (i := 574) (by decide +kernel)⟩
theorem lw_p13 : lw_okq (⟨"ShoutedHour$RuleReader", "takesNot", "()Z"⟩, 13) := ⟨⟨by decide +kernel, by decide +kernel⟩, List.mem_of_getElem? (i := 138) (by decide +kernel), List.mem_of_getElem? (i := 581) (by decide +kernel), List.mem_of_getElem? (i := 582) (by decide +kernel)⟩
theorem lw_p14 : lw_okq (⟨"ShoutedHour$RuleReader", "await", "(I)V"⟩, 13) := ⟨⟨by decide +kernel, by decide +kernel⟩, List.mem_of_getElem? (i := 138) (by decide +kernel), List.mem_of_getElem? (i := 586) (by decide +kernel), List.mem_of_getElem? (i := 587) (by decide +kernel)⟩
theorem lw_p15 : lw_okq (⟨"ShoutedHour$RuleReader", "takesOpening", "()Z"⟩, 13) := ⟨⟨by decide +kernel, by decide +kernel⟩, List.mem_of_getElem? (i := 138) (by decide +kernel), List.mem_of_getElem? (i := 590) (by decide +kernel), List.mem_of_getElem? (i := 591) (by decide +kernel)⟩
def lw_privs_1 : List (MethodName × Nat) := [(⟨"ShoutedHour$RuleBook", "isMet", "(I[I)Z"⟩, 7), (⟨"ShoutedHour$RuleReader", "readToken", "()V"⟩, 13), (⟨"ShoutedHour$RuleReader", "isLetter", "(I)Z"⟩, 13), (⟨"ShoutedHour$RuleReader", "isDigit", "(I)Z"⟩, 13), (⟨"ShoutedHour$RuleReader", "readNumber", "()V"⟩, 13), (⟨"ShoutedHour$RuleReader", "takesToken", "()Z"⟩, 13), (⟨"ShoutedHour$RuleReader", "takesKind", "()Z"⟩, 13), (⟨"ShoutedHour$RuleReader", "placeIn", "(Ljava/lang/String;)I"⟩, 13), (⟨"ShoutedHour$RuleReader", "isSpelt", "(Ljava/lang/String;II)Z"⟩, 13), (⟨"ShoutedHour$RuleReader", "takesIf", "()Z"⟩, 13), (⟨"ShoutedHour$RuleReader", "goesTo", "(IZ)Z"⟩, 13), (⟨"ShoutedHour$RuleReader", "takesDeed", "()Z"⟩, 13), (⟨"ShoutedHour$RuleReader", "addWaiting", "(I)V"⟩, 13), (⟨"ShoutedHour$RuleReader", "takesNot", "()Z"⟩, 13), (⟨"ShoutedHour$RuleReader", "await", "(I)V"⟩, 13), (⟨"ShoutedHour$RuleReader", "takesOpening", "()Z"⟩, 13)]
theorem lw_r1 : ∀ q ∈ lw_privs_1, lw_okq q := List.forall_mem_cons.mpr ⟨lw_p0, List.forall_mem_cons.mpr ⟨lw_p1, List.forall_mem_cons.mpr ⟨lw_p2, List.forall_mem_cons.mpr ⟨lw_p3, List.forall_mem_cons.mpr ⟨lw_p4, List.forall_mem_cons.mpr ⟨lw_p5, List.forall_mem_cons.mpr ⟨lw_p6, List.forall_mem_cons.mpr ⟨lw_p7, List.forall_mem_cons.mpr ⟨lw_p8, List.forall_mem_cons.mpr ⟨lw_p9, List.forall_mem_cons.mpr ⟨lw_p10, List.forall_mem_cons.mpr ⟨lw_p11, List.forall_mem_cons.mpr ⟨lw_p12, List.forall_mem_cons.mpr ⟨lw_p13, List.forall_mem_cons.mpr ⟨lw_p14, List.forall_mem_cons.mpr ⟨lw_p15, fun _ h => absurd h List.not_mem_nil⟩⟩⟩⟩⟩⟩⟩⟩⟩⟩⟩⟩⟩⟩⟩⟩
theorem lw_p16 : lw_okq (⟨"ShoutedHour$RuleReader", "isSingle", "(C)Z"⟩, 13) := ⟨⟨by decide +kernel, by decide +kernel⟩, List.mem_of_getElem? (i := 138) (by decide +kernel), List.mem_of_getElem? (i := 594) (by decide +kernel), List.mem_of_getElem? (i := 595) (by decide +kernel)⟩
theorem lw_p17 : lw_okq (⟨"ShoutedHour$RuleReader", "takesLeft", "()Z"⟩, 13) := ⟨⟨by decide +kernel, by decide +kernel⟩, List.mem_of_getElem? (i := 138) (by decide +kernel), List.mem_of_getElem? (i := 598) (by decide +kernel), List.mem_of_getElem? (i := 599) (by decide +kernel)⟩
theorem lw_p18 : lw_okq (⟨"ShoutedHour$RuleReader", "operand", "()I"⟩, 13) := ⟨⟨by decide +kernel, by decide +kernel⟩, List.mem_of_getElem? (i := 138) (by decide +kernel), List.mem_of_getElem? (i := 602) (by decide +kernel), List.mem_of_getElem? (i := 603) (by decide +kernel)⟩
theorem lw_p19 : lw_okq (⟨"ShoutedHour$RuleReader", "takesSign", "()Z"⟩, 13) := ⟨⟨by decide +kernel, by decide +kernel⟩, List.mem_of_getElem? (i := 138) (by decide +kernel), List.mem_of_getElem? (i := 607) (by decide +kernel), List.mem_of_getElem? (i := 608) (by decide +kernel)⟩
theorem lw_p20 : lw_okq (⟨"ShoutedHour$RuleReader", "takesRight", "()Z"⟩, 13) := ⟨⟨by decide +kernel, by decide +kernel⟩, List.mem_of_getElem? (i := 138) (by decide +kernel), List.mem_of_getElem? (i := 611) (by decide +kernel), List.mem_of_getElem? (i := 612) (by decide +kernel)⟩
theorem lw_p21 : lw_okq (⟨"ShoutedHour$RuleReader", "takesJoint", "()Z"⟩, 13) := ⟨⟨by decide +kernel, by decide +kernel⟩, List.mem_of_getElem? (i := 138) (by decide +kernel), List.mem_of_getElem? (i := 618) (by decide +kernel), List.mem_of_getElem? (i := 619) (by decide +kernel)⟩
theorem lw_p22 : lw_okq (⟨"ShoutedHour$RuleReader", "takesClosing", "()Z"⟩, 13) := ⟨⟨by decide +kernel, by decide +kernel⟩, List.mem_of_getElem? (i := 138) (by decide +kernel), List.mem_of_getElem? (i := 623) (by decide +kernel), List.mem_of_getElem? (i := 624) (by decide +kernel)⟩
theorem lw_p23 : lw_okq (⟨"ShoutedHour$RuleReader", "takesN", "()Z"⟩, 13) := ⟨⟨by decide +kernel, by decide +kernel⟩, List.mem_of_getElem? (i := 138) (by decide +kernel), List.mem_of_getElem? (i := 627) (by decide +kernel), List.mem_of_getElem? (i := 628) (by decide +kernel)⟩
theorem lw_p24 : lw_okq (⟨"ShoutedHour$RuleReader", "takesSemicolon", "()Z"⟩, 13) := ⟨⟨by decide +kernel, by decide +kernel⟩, List.mem_of_getElem? (i := 138) (by decide +kernel), List.mem_of_getElem? (i := 631) (by decide +kernel), List.mem_of_getElem? (i := 632) (by decide +kernel)⟩
theorem lw_p25 : lw_okq (⟨"ShoutedHour", "isCry", "(II)Z"⟩, 18) := ⟨⟨by decide +kernel, by decide +kernel⟩, List.mem_of_getElem? (i := 23) (by decide +kernel), List.mem_of_getElem? (i := 646) (by decide +kernel), List.mem_of_getElem? (i := 647) (by decide +kernel)⟩
theorem lw_p26 : lw_okq (⟨"ShoutedHour", "cryOneWay", "(IIZ)V"⟩, 18) := ⟨⟨by decide +kernel, by decide +kernel⟩, List.mem_of_getElem? (i := 23) (by decide +kernel), List.mem_of_getElem? (i := 653) (by decide +kernel), List.mem_of_getElem? (i := 654) (by decide +kernel)⟩
theorem lw_p27 : lw_okq (⟨"ShoutedHour$Cry", "beginAt", "(II)V"⟩, 8) := ⟨⟨by decide +kernel, by decide +kernel⟩, List.mem_of_getElem? (i := 190) (by decide +kernel), List.mem_of_getElem? (i := 669) (by decide +kernel), List.mem_of_getElem? (i := 670) (by decide +kernel)⟩
theorem lw_p28 : lw_okq (⟨"ShoutedHour$Cry", "isBeginning", "(I)Z"⟩, 8) := ⟨⟨by decide +kernel, by decide +kernel⟩, List.mem_of_getElem? (i := 190) (by decide +kernel), List.mem_of_getElem? (i := 673) (by decide +kernel), List.mem_of_getElem? (i := 674) (by decide +kernel)⟩
theorem lw_p29 : lw_okq (⟨"ShoutedHour$Cry", "goWest", "(I)V"⟩, 8) := ⟨⟨by decide +kernel, by decide +kernel⟩, List.mem_of_getElem? (i := 190) (by decide +kernel), List.mem_of_getElem? (i := 677) (by decide +kernel), List.mem_of_getElem? (i := 678) (by decide +kernel)⟩
theorem lw_p30 : lw_okq (⟨"ShoutedHour$Cry", "bring", "(III)V"⟩, 8) := ⟨⟨by decide +kernel, by decide +kernel⟩, List.mem_of_getElem? (i := 190) (by decide +kernel), List.mem_of_getElem? (i := 681) (by decide +kernel), List.mem_of_getElem? (i := 682) (by decide +kernel)⟩
theorem lw_p31 : lw_okq (⟨"ShoutedHour$Cry", "goEast", "(I)V"⟩, 8) := ⟨⟨by decide +kernel, by decide +kernel⟩, List.mem_of_getElem? (i := 190) (by decide +kernel), List.mem_of_getElem? (i := 689) (by decide +kernel), List.mem_of_getElem? (i := 690) (by decide +kernel)⟩
def lw_privs_2 : List (MethodName × Nat) := [(⟨"ShoutedHour$RuleReader", "isSingle", "(C)Z"⟩, 13), (⟨"ShoutedHour$RuleReader", "takesLeft", "()Z"⟩, 13), (⟨"ShoutedHour$RuleReader", "operand", "()I"⟩, 13), (⟨"ShoutedHour$RuleReader", "takesSign", "()Z"⟩, 13), (⟨"ShoutedHour$RuleReader", "takesRight", "()Z"⟩, 13), (⟨"ShoutedHour$RuleReader", "takesJoint", "()Z"⟩, 13), (⟨"ShoutedHour$RuleReader", "takesClosing", "()Z"⟩, 13), (⟨"ShoutedHour$RuleReader", "takesN", "()Z"⟩, 13), (⟨"ShoutedHour$RuleReader", "takesSemicolon", "()Z"⟩, 13), (⟨"ShoutedHour", "isCry", "(II)Z"⟩, 18), (⟨"ShoutedHour", "cryOneWay", "(IIZ)V"⟩, 18), (⟨"ShoutedHour$Cry", "beginAt", "(II)V"⟩, 8), (⟨"ShoutedHour$Cry", "isBeginning", "(I)Z"⟩, 8), (⟨"ShoutedHour$Cry", "goWest", "(I)V"⟩, 8), (⟨"ShoutedHour$Cry", "bring", "(III)V"⟩, 8), (⟨"ShoutedHour$Cry", "goEast", "(I)V"⟩, 8)]
theorem lw_r2 : ∀ q ∈ lw_privs_2, lw_okq q := List.forall_mem_cons.mpr ⟨lw_p16, List.forall_mem_cons.mpr ⟨lw_p17, List.forall_mem_cons.mpr ⟨lw_p18, List.forall_mem_cons.mpr ⟨lw_p19, List.forall_mem_cons.mpr ⟨lw_p20, List.forall_mem_cons.mpr ⟨lw_p21, List.forall_mem_cons.mpr ⟨lw_p22, List.forall_mem_cons.mpr ⟨lw_p23, List.forall_mem_cons.mpr ⟨lw_p24, List.forall_mem_cons.mpr ⟨lw_p25, List.forall_mem_cons.mpr ⟨lw_p26, List.forall_mem_cons.mpr ⟨lw_p27, List.forall_mem_cons.mpr ⟨lw_p28, List.forall_mem_cons.mpr ⟨lw_p29, List.forall_mem_cons.mpr ⟨lw_p30, List.forall_mem_cons.mpr ⟨lw_p31, fun _ h => absurd h List.not_mem_nil⟩⟩⟩⟩⟩⟩⟩⟩⟩⟩⟩⟩⟩⟩⟩⟩
theorem lw_p32 : lw_okq (⟨"ShoutedHour", "cryBothWays", "(II)V"⟩, 18) := ⟨⟨by decide +kernel, by decide +kernel⟩, List.mem_of_getElem? (i := 23) (by decide +kernel), List.mem_of_getElem? (i := 720) (by decide +kernel), List.mem_of_getElem? (i := 721) (by decide +kernel)⟩
theorem lw_p33 : lw_okq (⟨"ShoutedHour", "takeUnaddedOffs", "(III)Z"⟩, 18) := ⟨⟨by decide +kernel, by decide +kernel⟩, List.mem_of_getElem? (i := 23) (by decide +kernel), List.mem_of_getElem? (i := 763) (by decide +kernel), List.mem_of_getElem? (i := 764) (by decide +kernel)⟩
theorem lw_p34 : lw_okq (⟨"ShoutedHour", "farthestOverDays", "(I)I"⟩, 18) := ⟨⟨by decide +kernel, by decide +kernel⟩, List.mem_of_getElem? (i := 23) (by decide +kernel), List.mem_of_getElem? (i := 767) (by decide +kernel), List.mem_of_getElem? (i := 768) (by decide +kernel)⟩
theorem lw_p35 : lw_okq (⟨"ShoutedHour", "isSet", "(I)Z"⟩, 18) := ⟨⟨by decide +kernel, by decide +kernel⟩, List.mem_of_getElem? (i := 23) (by decide +kernel), List.mem_of_getElem? (i := 779) (by decide +kernel), List.mem_of_getElem? (i := 780) (by decide +kernel)⟩
theorem lw_p36 : lw_okq (⟨"ShoutedHour", "wrongReports", "()I"⟩, 18) := ⟨⟨by decide +kernel, by decide +kernel⟩, List.mem_of_getElem? (i := 23) (by decide +kernel), List.mem_of_getElem? (i := 873) (by decide +kernel), List.mem_of_getElem? (i := 874) (by decide +kernel)⟩
theorem lw_p37 : lw_okq (⟨"ShoutedHour", "isInRows", "(II)Z"⟩, 18) := ⟨⟨by decide +kernel, by decide +kernel⟩, List.mem_of_getElem? (i := 23) (by decide +kernel), List.mem_of_getElem? (i := 889) (by decide +kernel), List.mem_of_getElem? (i := 890) (by decide +kernel)⟩
theorem lw_p38 : lw_okq (⟨"ShoutedHour", "isRowOfAsked", "(II)Z"⟩, 18) := ⟨⟨by decide +kernel, by decide +kernel⟩, List.mem_of_getElem? (i := 23) (by decide +kernel), List.mem_of_getElem? (i := 901) (by decide +kernel), List.mem_of_getElem? (i := 902) (by decide +kernel)⟩
theorem lw_p39 : lw_okq (⟨"ShoutedHour", "isItem", "(II)Z"⟩, 18) := ⟨⟨by decide +kernel, by decide +kernel⟩, List.mem_of_getElem? (i := 23) (by decide +kernel), List.mem_of_getElem? (i := 919) (by decide +kernel), List.mem_of_getElem? (i := 920) (by decide +kernel)⟩
theorem lw_p40 : lw_okq (⟨"ShoutedHour", "isTowerOnShelf", "(I)Z"⟩, 18) := ⟨⟨by decide +kernel, by decide +kernel⟩, List.mem_of_getElem? (i := 23) (by decide +kernel), List.mem_of_getElem? (i := 946) (by decide +kernel), List.mem_of_getElem? (i := 947) (by decide +kernel)⟩
theorem lw_p41 : lw_okq (⟨"ShoutedHourModel", "isTower", "(I)Z"⟩, 36) := ⟨⟨by decide +kernel, by decide +kernel⟩, List.mem_of_getElem? (i := 1066) (by decide +kernel), List.mem_of_getElem? (i := 1202) (by decide +kernel), List.mem_of_getElem? (i := 1203) (by decide +kernel)⟩
theorem lw_p42 : lw_okq (⟨"ShoutedHourModel", "asks", "(I)V"⟩, 36) := ⟨⟨by decide +kernel, by decide +kernel⟩, List.mem_of_getElem? (i := 1066) (by decide +kernel), List.mem_of_getElem? (i := 1207) (by decide +kernel), List.mem_of_getElem? (i := 1208) (by decide +kernel)⟩
theorem lw_p43 : lw_okq (⟨"ShoutedHourModel", "its", "(II)I"⟩, 36) := ⟨⟨by decide +kernel, by decide +kernel⟩, List.mem_of_getElem? (i := 1066) (by decide +kernel), List.mem_of_getElem? (i := 1211) (by decide +kernel), List.mem_of_getElem? (i := 1212) (by decide +kernel)⟩
theorem lw_p44 : lw_okq (⟨"ShoutedHourModel", "isSo", "(III)Z"⟩, 36) := ⟨⟨by decide +kernel, by decide +kernel⟩, List.mem_of_getElem? (i := 1066) (by decide +kernel), List.mem_of_getElem? (i := 1218) (by decide +kernel), List.mem_of_getElem? (i := 1219) (by decide +kernel)⟩
theorem lw_p45 : lw_okq (⟨"ShoutedHourModel", "fact", "(II)I"⟩, 36) := ⟨⟨by decide +kernel, by decide +kernel⟩, List.mem_of_getElem? (i := 1066) (by decide +kernel), List.mem_of_getElem? (i := 1222) (by decide +kernel), List.mem_of_getElem? (i := 1223) (by decide +kernel)⟩
theorem lw_p46 : lw_okq (⟨"ShoutedHourModel", "quiets", "()V"⟩, 36) := ⟨⟨by decide +kernel, by decide +kernel⟩, List.mem_of_getElem? (i := 1066) (by decide +kernel), List.mem_of_getElem? (i := 1263) (by decide +kernel), List.mem_of_getElem? (i := 1264) (by decide +kernel)⟩
theorem lw_p47 : lw_okq (⟨"ShoutedHourModel", "goes", "(IIZII)V"⟩, 36) := ⟨⟨by decide +kernel, by decide +kernel⟩, List.mem_of_getElem? (i := 1066) (by decide +kernel), List.mem_of_getElem? (i := 1267) (by decide +kernel), List.mem_of_getElem? (i := 1268) (by decide +kernel)⟩
def lw_privs_3 : List (MethodName × Nat) := [(⟨"ShoutedHour", "cryBothWays", "(II)V"⟩, 18), (⟨"ShoutedHour", "takeUnaddedOffs", "(III)Z"⟩, 18), (⟨"ShoutedHour", "farthestOverDays", "(I)I"⟩, 18), (⟨"ShoutedHour", "isSet", "(I)Z"⟩, 18), (⟨"ShoutedHour", "wrongReports", "()I"⟩, 18), (⟨"ShoutedHour", "isInRows", "(II)Z"⟩, 18), (⟨"ShoutedHour", "isRowOfAsked", "(II)Z"⟩, 18), (⟨"ShoutedHour", "isItem", "(II)Z"⟩, 18), (⟨"ShoutedHour", "isTowerOnShelf", "(I)Z"⟩, 18), (⟨"ShoutedHourModel", "isTower", "(I)Z"⟩, 36), (⟨"ShoutedHourModel", "asks", "(I)V"⟩, 36), (⟨"ShoutedHourModel", "its", "(II)I"⟩, 36), (⟨"ShoutedHourModel", "isSo", "(III)Z"⟩, 36), (⟨"ShoutedHourModel", "fact", "(II)I"⟩, 36), (⟨"ShoutedHourModel", "quiets", "()V"⟩, 36), (⟨"ShoutedHourModel", "goes", "(IIZII)V"⟩, 36)]
theorem lw_r3 : ∀ q ∈ lw_privs_3, lw_okq q := List.forall_mem_cons.mpr ⟨lw_p32, List.forall_mem_cons.mpr ⟨lw_p33, List.forall_mem_cons.mpr ⟨lw_p34, List.forall_mem_cons.mpr ⟨lw_p35, List.forall_mem_cons.mpr ⟨lw_p36, List.forall_mem_cons.mpr ⟨lw_p37, List.forall_mem_cons.mpr ⟨lw_p38, List.forall_mem_cons.mpr ⟨lw_p39, List.forall_mem_cons.mpr ⟨lw_p40, List.forall_mem_cons.mpr ⟨lw_p41, List.forall_mem_cons.mpr ⟨lw_p42, List.forall_mem_cons.mpr ⟨lw_p43, List.forall_mem_cons.mpr ⟨lw_p44, List.forall_mem_cons.mpr ⟨lw_p45, List.forall_mem_cons.mpr ⟨lw_p46, List.forall_mem_cons.mpr ⟨lw_p47, fun _ h => absurd h List.not_mem_nil⟩⟩⟩⟩⟩⟩⟩⟩⟩⟩⟩⟩⟩⟩⟩⟩
theorem lw_p48 : lw_okq (⟨"ShoutedHourModel", "comers", "()I"⟩, 36) := ⟨⟨by decide +kernel, by decide +kernel⟩, List.mem_of_getElem? (i := 1066) (by decide +kernel), List.mem_of_getElem? (i := 1275) (by decide +kernel), List.mem_of_getElem? (i := 1276) (by decide +kernel)⟩
theorem lw_p49 : lw_okq (⟨"ShoutedHourModel", "holders", "()I"⟩, 36) := ⟨⟨by decide +kernel, by decide +kernel⟩, List.mem_of_getElem? (i := 1066) (by decide +kernel), List.mem_of_getElem? (i := 1288) (by decide +kernel), List.mem_of_getElem? (i := 1289) (by decide +kernel)⟩
theorem lw_p50 : lw_okq (⟨"ShoutedHourModel", "isAsk", "(III)Z"⟩, 36) := ⟨⟨by decide +kernel, by decide +kernel⟩, List.mem_of_getElem? (i := 1066) (by decide +kernel), List.mem_of_getElem? (i := 1296) (by decide +kernel), List.mem_of_getElem? (i := 1297) (by decide +kernel)⟩
theorem lw_p51 : lw_okq (⟨"ShoutedHourModel", "goesBoth", "(II)V"⟩, 36) := ⟨⟨by decide +kernel, by decide +kernel⟩, List.mem_of_getElem? (i := 1066) (by decide +kernel), List.mem_of_getElem? (i := 1300) (by decide +kernel), List.mem_of_getElem? (i := 1301) (by decide +kernel)⟩
theorem lw_p52 : lw_okq (⟨"ShoutedHourModel", "offOf", "(I)I"⟩, 36) := ⟨⟨by decide +kernel, by decide +kernel⟩, List.mem_of_getElem? (i := 1066) (by decide +kernel), List.mem_of_getElem? (i := 1312) (by decide +kernel), List.mem_of_getElem? (i := 1313) (by decide +kernel)⟩
theorem lw_p53 : lw_okq (⟨"ShoutedHourModel", "farthest", "(III)I"⟩, 36) := ⟨⟨by decide +kernel, by decide +kernel⟩, List.mem_of_getElem? (i := 1066) (by decide +kernel), List.mem_of_getElem? (i := 1332) (by decide +kernel), List.mem_of_getElem? (i := 1333) (by decide +kernel)⟩
theorem lw_p54 : lw_okq (⟨"ShoutedHourModel", "clocked", "(II)I"⟩, 36) := ⟨⟨by decide +kernel, by decide +kernel⟩, List.mem_of_getElem? (i := 1066) (by decide +kernel), List.mem_of_getElem? (i := 1340) (by decide +kernel), List.mem_of_getElem? (i := 1341) (by decide +kernel)⟩
theorem lw_p55 : lw_okq (⟨"ShoutedHourModel", "fromFirst", "(II)V"⟩, 36) := ⟨⟨by decide +kernel, by decide +kernel⟩, List.mem_of_getElem? (i := 1066) (by decide +kernel), List.mem_of_getElem? (i := 1359) (by decide +kernel), List.mem_of_getElem? (i := 1360) (by decide +kernel)⟩
theorem lw_p56 : lw_okq (⟨"ShoutedHourModel", "noonOf", "(I)I"⟩, 36) := ⟨⟨by decide +kernel, by decide +kernel⟩, List.mem_of_getElem? (i := 1066) (by decide +kernel), List.mem_of_getElem? (i := 1363) (by decide +kernel), List.mem_of_getElem? (i := 1364) (by decide +kernel)⟩
theorem lw_p57 : lw_okq (⟨"ShoutedHourModel", "offs", "()I"⟩, 36) := ⟨⟨by decide +kernel, by decide +kernel⟩, List.mem_of_getElem? (i := 1066) (by decide +kernel), List.mem_of_getElem? (i := 1379) (by decide +kernel), List.mem_of_getElem? (i := 1380) (by decide +kernel)⟩
theorem lw_p58 : lw_okq (⟨"ShoutedHourModel", "draws", "(I)V"⟩, 36) := ⟨⟨by decide +kernel, by decide +kernel⟩, List.mem_of_getElem? (i := 1066) (by decide +kernel), List.mem_of_getElem? (i := 1399) (by decide +kernel), List.mem_of_getElem? (i := 1400) (by decide +kernel)⟩
theorem lw_p59 : lw_okq (⟨"ShoutedHourModel", "findFits", "(I)V"⟩, 36) := ⟨⟨by decide +kernel, by decide +kernel⟩, List.mem_of_getElem? (i := 1066) (by decide +kernel), List.mem_of_getElem? (i := 1426) (by decide +kernel), List.mem_of_getElem? (i := 1427) (by decide +kernel)⟩
theorem lw_p60 : lw_okq (⟨"ShoutedHourModel", "isFit", "(I)Z"⟩, 36) := ⟨⟨by decide +kernel, by decide +kernel⟩, List.mem_of_getElem? (i := 1066) (by decide +kernel), List.mem_of_getElem? (i := 1430) (by decide +kernel), List.mem_of_getElem? (i := 1431) (by decide +kernel)⟩
theorem lw_p61 : lw_okq (⟨"ShoutedHourModel", "isRow", "(II)Z"⟩, 36) := ⟨⟨by decide +kernel, by decide +kernel⟩, List.mem_of_getElem? (i := 1066) (by decide +kernel), List.mem_of_getElem? (i := 1446) (by decide +kernel), List.mem_of_getElem? (i := 1447) (by decide +kernel)⟩
theorem lw_p62 : lw_okq (⟨"ShoutedHourModel", "isBrought", "(IZ)Z"⟩, 36) := ⟨⟨by decide +kernel, by decide +kernel⟩, List.mem_of_getElem? (i := 1066) (by decide +kernel), List.mem_of_getElem? (i := 1458) (by decide +kernel), List.mem_of_getElem? (i := 1459) (by decide +kernel)⟩
theorem lw_p63 : lw_okq (⟨"ShoutedHourModel", "puts", "()V"⟩, 36) := ⟨⟨by decide +kernel, by decide +kernel⟩, List.mem_of_getElem? (i := 1066) (by decide +kernel), List.mem_of_getElem? (i := 1472) (by decide +kernel), List.mem_of_getElem? (i := 1473) (by decide +kernel)⟩
def lw_privs_4 : List (MethodName × Nat) := [(⟨"ShoutedHourModel", "comers", "()I"⟩, 36), (⟨"ShoutedHourModel", "holders", "()I"⟩, 36), (⟨"ShoutedHourModel", "isAsk", "(III)Z"⟩, 36), (⟨"ShoutedHourModel", "goesBoth", "(II)V"⟩, 36), (⟨"ShoutedHourModel", "offOf", "(I)I"⟩, 36), (⟨"ShoutedHourModel", "farthest", "(III)I"⟩, 36), (⟨"ShoutedHourModel", "clocked", "(II)I"⟩, 36), (⟨"ShoutedHourModel", "fromFirst", "(II)V"⟩, 36), (⟨"ShoutedHourModel", "noonOf", "(I)I"⟩, 36), (⟨"ShoutedHourModel", "offs", "()I"⟩, 36), (⟨"ShoutedHourModel", "draws", "(I)V"⟩, 36), (⟨"ShoutedHourModel", "findFits", "(I)V"⟩, 36), (⟨"ShoutedHourModel", "isFit", "(I)Z"⟩, 36), (⟨"ShoutedHourModel", "isRow", "(II)Z"⟩, 36), (⟨"ShoutedHourModel", "isBrought", "(IZ)Z"⟩, 36), (⟨"ShoutedHourModel", "puts", "()V"⟩, 36)]
theorem lw_r4 : ∀ q ∈ lw_privs_4, lw_okq q := List.forall_mem_cons.mpr ⟨lw_p48, List.forall_mem_cons.mpr ⟨lw_p49, List.forall_mem_cons.mpr ⟨lw_p50, List.forall_mem_cons.mpr ⟨lw_p51, List.forall_mem_cons.mpr ⟨lw_p52, List.forall_mem_cons.mpr ⟨lw_p53, List.forall_mem_cons.mpr ⟨lw_p54, List.forall_mem_cons.mpr ⟨lw_p55, List.forall_mem_cons.mpr ⟨lw_p56, List.forall_mem_cons.mpr ⟨lw_p57, List.forall_mem_cons.mpr ⟨lw_p58, List.forall_mem_cons.mpr ⟨lw_p59, List.forall_mem_cons.mpr ⟨lw_p60, List.forall_mem_cons.mpr ⟨lw_p61, List.forall_mem_cons.mpr ⟨lw_p62, List.forall_mem_cons.mpr ⟨lw_p63, fun _ h => absurd h List.not_mem_nil⟩⟩⟩⟩⟩⟩⟩⟩⟩⟩⟩⟩⟩⟩⟩⟩
theorem lw_p64 : lw_okq (⟨"ShoutedHourModel", "token", "()V"⟩, 36) := ⟨⟨by decide +kernel, by decide +kernel⟩, List.mem_of_getElem? (i := 1066) (by decide +kernel), List.mem_of_getElem? (i := 1476) (by decide +kernel), List.mem_of_getElem? (i := 1477) (by decide +kernel)⟩
theorem lw_p65 : lw_okq (⟨"ShoutedHourModel", "byteAt", "(I)I"⟩, 36) := ⟨⟨by decide +kernel, by decide +kernel⟩, List.mem_of_getElem? (i := 1066) (by decide +kernel), List.mem_of_getElem? (i := 1480) (by decide +kernel), List.mem_of_getElem? (i := 1481) (by decide +kernel)⟩
theorem lw_p66 : lw_okq (⟨"ShoutedHourModel", "rule", "()V"⟩, 36) := ⟨⟨by decide +kernel, by decide +kernel⟩, List.mem_of_getElem? (i := 1066) (by decide +kernel), List.mem_of_getElem? (i := 1494) (by decide +kernel), List.mem_of_getElem? (i := 1495) (by decide +kernel)⟩
theorem lw_p67 : lw_okq (⟨"ShoutedHourModel", "kindHere", "()I"⟩, 36) := ⟨⟨by decide +kernel, by decide +kernel⟩, List.mem_of_getElem? (i := 1066) (by decide +kernel), List.mem_of_getElem? (i := 1498) (by decide +kernel), List.mem_of_getElem? (i := 1499) (by decide +kernel)⟩
theorem lw_p68 : lw_okq (⟨"ShoutedHourModel", "word", "()J"⟩, 36) := ⟨⟨by decide +kernel, by decide +kernel⟩, List.mem_of_getElem? (i := 1066) (by decide +kernel), List.mem_of_getElem? (i := 1502) (by decide +kernel), List.mem_of_getElem? (i := 1503) (by decide +kernel)⟩
theorem lw_p69 : lw_okq (⟨"ShoutedHourModel", "needs", "(Z)V"⟩, 36) := ⟨⟨by decide +kernel, by decide +kernel⟩, List.mem_of_getElem? (i := 1066) (by decide +kernel), List.mem_of_getElem? (i := 1514) (by decide +kernel), List.mem_of_getElem? (i := 1515) (by decide +kernel)⟩
theorem lw_p70 : lw_okq (⟨"ShoutedHourModel", "condition", "()V"⟩, 36) := ⟨⟨by decide +kernel, by decide +kernel⟩, List.mem_of_getElem? (i := 1066) (by decide +kernel), List.mem_of_getElem? (i := 1519) (by decide +kernel), List.mem_of_getElem? (i := 1520) (by decide +kernel)⟩
theorem lw_p71 : lw_okq (⟨"ShoutedHourModel", "all", "()V"⟩, 36) := ⟨⟨by decide +kernel, by decide +kernel⟩, List.mem_of_getElem? (i := 1066) (by decide +kernel), List.mem_of_getElem? (i := 1523) (by decide +kernel), List.mem_of_getElem? (i := 1524) (by decide +kernel)⟩
theorem lw_p72 : lw_okq (⟨"ShoutedHourModel", "one", "()V"⟩, 36) := ⟨⟨by decide +kernel, by decide +kernel⟩, List.mem_of_getElem? (i := 1066) (by decide +kernel), List.mem_of_getElem? (i := 1527) (by decide +kernel), List.mem_of_getElem? (i := 1528) (by decide +kernel)⟩
theorem lw_p73 : lw_okq (⟨"ShoutedHourModel", "comparison", "()V"⟩, 36) := ⟨⟨by decide +kernel, by decide +kernel⟩, List.mem_of_getElem? (i := 1066) (by decide +kernel), List.mem_of_getElem? (i := 1532) (by decide +kernel), List.mem_of_getElem? (i := 1533) (by decide +kernel)⟩
theorem lw_p74 : lw_okq (⟨"ShoutedHourModel", "valueHere", "()V"⟩, 36) := ⟨⟨by decide +kernel, by decide +kernel⟩, List.mem_of_getElem? (i := 1066) (by decide +kernel), List.mem_of_getElem? (i := 1536) (by decide +kernel), List.mem_of_getElem? (i := 1537) (by decide +kernel)⟩
theorem lw_p75 : lw_okq (⟨"ShoutedHourModel", "factHere", "()I"⟩, 36) := ⟨⟨by decide +kernel, by decide +kernel⟩, List.mem_of_getElem? (i := 1066) (by decide +kernel), List.mem_of_getElem? (i := 1540) (by decide +kernel), List.mem_of_getElem? (i := 1541) (by decide +kernel)⟩
theorem lw_p76 : lw_okq (⟨"ShoutedHourModel", "writes", "(I)V"⟩, 36) := ⟨⟨by decide +kernel, by decide +kernel⟩, List.mem_of_getElem? (i := 1066) (by decide +kernel), List.mem_of_getElem? (i := 1550) (by decide +kernel), List.mem_of_getElem? (i := 1551) (by decide +kernel)⟩
theorem lw_p77 : lw_okq (⟨"ShoutedHourModel", "number", "(I)V"⟩, 36) := ⟨⟨by decide +kernel, by decide +kernel⟩, List.mem_of_getElem? (i := 1066) (by decide +kernel), List.mem_of_getElem? (i := 1554) (by decide +kernel), List.mem_of_getElem? (i := 1555) (by decide +kernel)⟩
theorem lw_p78 : lw_okq (⟨"ShoutedHourModel", "putsBack", "()V"⟩, 36) := ⟨⟨by decide +kernel, by decide +kernel⟩, List.mem_of_getElem? (i := 1066) (by decide +kernel), List.mem_of_getElem? (i := 1563) (by decide +kernel), List.mem_of_getElem? (i := 1564) (by decide +kernel)⟩
theorem lw_p79 : lw_okq (⟨"ShoutedHourModel", "wrong", "(II)I"⟩, 36) := ⟨⟨by decide +kernel, by decide +kernel⟩, List.mem_of_getElem? (i := 1066) (by decide +kernel), List.mem_of_getElem? (i := 1587) (by decide +kernel), List.mem_of_getElem? (i := 1588) (by decide +kernel)⟩
def lw_privs_5 : List (MethodName × Nat) := [(⟨"ShoutedHourModel", "token", "()V"⟩, 36), (⟨"ShoutedHourModel", "byteAt", "(I)I"⟩, 36), (⟨"ShoutedHourModel", "rule", "()V"⟩, 36), (⟨"ShoutedHourModel", "kindHere", "()I"⟩, 36), (⟨"ShoutedHourModel", "word", "()J"⟩, 36), (⟨"ShoutedHourModel", "needs", "(Z)V"⟩, 36), (⟨"ShoutedHourModel", "condition", "()V"⟩, 36), (⟨"ShoutedHourModel", "all", "()V"⟩, 36), (⟨"ShoutedHourModel", "one", "()V"⟩, 36), (⟨"ShoutedHourModel", "comparison", "()V"⟩, 36), (⟨"ShoutedHourModel", "valueHere", "()V"⟩, 36), (⟨"ShoutedHourModel", "factHere", "()I"⟩, 36), (⟨"ShoutedHourModel", "writes", "(I)V"⟩, 36), (⟨"ShoutedHourModel", "number", "(I)V"⟩, 36), (⟨"ShoutedHourModel", "putsBack", "()V"⟩, 36), (⟨"ShoutedHourModel", "wrong", "(II)I"⟩, 36)]
theorem lw_r5 : ∀ q ∈ lw_privs_5, lw_okq q := List.forall_mem_cons.mpr ⟨lw_p64, List.forall_mem_cons.mpr ⟨lw_p65, List.forall_mem_cons.mpr ⟨lw_p66, List.forall_mem_cons.mpr ⟨lw_p67, List.forall_mem_cons.mpr ⟨lw_p68, List.forall_mem_cons.mpr ⟨lw_p69, List.forall_mem_cons.mpr ⟨lw_p70, List.forall_mem_cons.mpr ⟨lw_p71, List.forall_mem_cons.mpr ⟨lw_p72, List.forall_mem_cons.mpr ⟨lw_p73, List.forall_mem_cons.mpr ⟨lw_p74, List.forall_mem_cons.mpr ⟨lw_p75, List.forall_mem_cons.mpr ⟨lw_p76, List.forall_mem_cons.mpr ⟨lw_p77, List.forall_mem_cons.mpr ⟨lw_p78, List.forall_mem_cons.mpr ⟨lw_p79, fun _ h => absurd h List.not_mem_nil⟩⟩⟩⟩⟩⟩⟩⟩⟩⟩⟩⟩⟩⟩⟩⟩
theorem lw_p80 : lw_okq (⟨"ShoutedHourModel", "onShelf", "(I)I"⟩, 36) := ⟨⟨by decide +kernel, by decide +kernel⟩, List.mem_of_getElem? (i := 1066) (by decide +kernel), List.mem_of_getElem? (i := 1606) (by decide +kernel), List.mem_of_getElem? (i := 1607) (by decide +kernel)⟩
theorem lw_p81 : lw_okq (⟨"ShoutedHourModel", "cries", "(I)I"⟩, 36) := ⟨⟨by decide +kernel, by decide +kernel⟩, List.mem_of_getElem? (i := 1066) (by decide +kernel), List.mem_of_getElem? (i := 1614) (by decide +kernel), List.mem_of_getElem? (i := 1615) (by decide +kernel)⟩
theorem lw_p82 : lw_okq (⟨"ShoutedHourModel", "runs", "(I)V"⟩, 36) := ⟨⟨by decide +kernel, by decide +kernel⟩, List.mem_of_getElem? (i := 1066) (by decide +kernel), List.mem_of_getElem? (i := 1618) (by decide +kernel), List.mem_of_getElem? (i := 1619) (by decide +kernel)⟩
theorem lw_p83 : lw_okq (⟨"ShoutedHourModel", "hears", "(I)I"⟩, 36) := ⟨⟨by decide +kernel, by decide +kernel⟩, List.mem_of_getElem? (i := 1066) (by decide +kernel), List.mem_of_getElem? (i := 1622) (by decide +kernel), List.mem_of_getElem? (i := 1623) (by decide +kernel)⟩
theorem lw_p84 : lw_okq (⟨"ShoutedHourModel", "shares", "(I)I"⟩, 36) := ⟨⟨by decide +kernel, by decide +kernel⟩, List.mem_of_getElem? (i := 1066) (by decide +kernel), List.mem_of_getElem? (i := 1626) (by decide +kernel), List.mem_of_getElem? (i := 1627) (by decide +kernel)⟩
theorem lw_p85 : lw_okq (⟨"ShoutedHourModel", "parts", "(I)I"⟩, 36) := ⟨⟨by decide +kernel, by decide +kernel⟩, List.mem_of_getElem? (i := 1066) (by decide +kernel), List.mem_of_getElem? (i := 1630) (by decide +kernel), List.mem_of_getElem? (i := 1631) (by decide +kernel)⟩
theorem lw_p86 : lw_okq (⟨"ShoutedHourModel", "tells", "(I)I"⟩, 36) := ⟨⟨by decide +kernel, by decide +kernel⟩, List.mem_of_getElem? (i := 1066) (by decide +kernel), List.mem_of_getElem? (i := 1634) (by decide +kernel), List.mem_of_getElem? (i := 1635) (by decide +kernel)⟩
theorem lw_p87 : lw_okq (⟨"ShoutedHourModel", "traced", "()I"⟩, 36) := ⟨⟨by decide +kernel, by decide +kernel⟩, List.mem_of_getElem? (i := 1066) (by decide +kernel), List.mem_of_getElem? (i := 1642) (by decide +kernel), List.mem_of_getElem? (i := 1643) (by decide +kernel)⟩
def lw_privs_6 : List (MethodName × Nat) := [(⟨"ShoutedHourModel", "onShelf", "(I)I"⟩, 36), (⟨"ShoutedHourModel", "cries", "(I)I"⟩, 36), (⟨"ShoutedHourModel", "runs", "(I)V"⟩, 36), (⟨"ShoutedHourModel", "hears", "(I)I"⟩, 36), (⟨"ShoutedHourModel", "shares", "(I)I"⟩, 36), (⟨"ShoutedHourModel", "parts", "(I)I"⟩, 36), (⟨"ShoutedHourModel", "tells", "(I)I"⟩, 36), (⟨"ShoutedHourModel", "traced", "()I"⟩, 36)]
theorem lw_r6 : ∀ q ∈ lw_privs_6, lw_okq q := List.forall_mem_cons.mpr ⟨lw_p80, List.forall_mem_cons.mpr ⟨lw_p81, List.forall_mem_cons.mpr ⟨lw_p82, List.forall_mem_cons.mpr ⟨lw_p83, List.forall_mem_cons.mpr ⟨lw_p84, List.forall_mem_cons.mpr ⟨lw_p85, List.forall_mem_cons.mpr ⟨lw_p86, List.forall_mem_cons.mpr ⟨lw_p87, fun _ h => absurd h List.not_mem_nil⟩⟩⟩⟩⟩⟩⟩⟩
def lw_privs : List (MethodName × Nat) := lw_privs_1 ++ (lw_privs_2 ++ (lw_privs_3 ++ (lw_privs_4 ++ (lw_privs_5 ++ (lw_privs_6)))))
def lw_tbl : List Cond := k2_sels lw_privs ++ tables_1
theorem lw_privs_ok : ∀ q ∈ lw_privs, lw_okq q := by
  show ∀ q ∈ lw_privs_1 ++ (lw_privs_2 ++ (lw_privs_3 ++ (lw_privs_4 ++ (lw_privs_5 ++ (lw_privs_6))))), lw_okq q
  exact List.forall_mem_append.mpr ⟨lw_r1, List.forall_mem_append.mpr ⟨lw_r2, List.forall_mem_append.mpr ⟨lw_r3, List.forall_mem_append.mpr ⟨lw_r4, List.forall_mem_append.mpr ⟨lw_r5, lw_r6⟩⟩⟩⟩⟩
-- the names of classes, fields and methods (begun from the printed names)
def RX0 : String := "ShoutedHour$Cry"
def TX0 : u_T := fun k => match k with
  | 0 => ("ShoutedHour$Cry", "valley", "LShoutedHour$Valley;", true)
  | 1 => ("ShoutedHour$Cry", "adds", "[I", true)
  | 2 => ("ShoutedHour$Cry", "isSilent", "[Z", true)
  | 3 => ("ShoutedHour$Cry", "paceWest", "I", false)
  | 4 => ("ShoutedHour$Cry", "paceEast", "I", false)
  | 5 => ("ShoutedHour$Cry", "begins", "I", false)
  | 6 => ("ShoutedHour$Cry", "came", "[I", true)
  | _ => ("ShoutedHour$Cry", "held", "[I", true)
def tyX0 : Nat → FieldType := fun k => match k with
  | 0 => .object "ShoutedHour$Valley"
  | 1 => .array .int
  | 2 => .array .boolean
  | 3 => .int
  | 4 => .int
  | 5 => .int
  | 6 => .array .int
  | _ => .array .int
abbrev wsX00 : List Cond := u_ws RX0 TX0 8
theorem nmX0 : ∀ a, a < 8 → ∀ b, b < 8 → a ≠ b → (TX0 a).2.1 ≠ (TX0 b).2.1 := by decide +kernel
theorem tyX0_ok : ∀ k, k < 8 → parseFieldDescriptor (TX0 k).2.2.1 = some (tyX0 k) := by decide +kernel
abbrev cX0_init : ByteArray := prog_2_method_1_code
def yX0_init : MethodName := ⟨RX0, "<init>", "(LShoutedHour$Valley;)V"⟩
abbrev cX0_takeDay : ByteArray := prog_2_method_2_code
def yX0_takeDay : MethodName := ⟨RX0, "takeDay", "(I)V"⟩
abbrev cX0_goBothWays : ByteArray := prog_2_method_3_code
def yX0_goBothWays : MethodName := ⟨RX0, "goBothWays", "(II)V"⟩
abbrev cX0_goOneWay : ByteArray := prog_2_method_4_code
def yX0_goOneWay : MethodName := ⟨RX0, "goOneWay", "(IIZ)V"⟩
abbrev cX0_farthestByClocks : ByteArray := prog_2_method_5_code
def yX0_farthestByClocks : MethodName := ⟨RX0, "farthestByClocks", "(II)I"⟩
abbrev cX0_beginAt : ByteArray := prog_2_method_6_code
def yX0_beginAt : MethodName := ⟨RX0, "beginAt", "(II)V"⟩
abbrev cX0_goWest : ByteArray := prog_2_method_7_code
def yX0_goWest : MethodName := ⟨RX0, "goWest", "(I)V"⟩
abbrev cX0_goEast : ByteArray := prog_2_method_8_code
def yX0_goEast : MethodName := ⟨RX0, "goEast", "(I)V"⟩
abbrev cX0_isBeginning : ByteArray := prog_2_method_9_code
def yX0_isBeginning : MethodName := ⟨RX0, "isBeginning", "(I)Z"⟩
abbrev cX0_bring : ByteArray := prog_2_method_10_code
def yX0_bring : MethodName := ⟨RX0, "bring", "(III)V"⟩
abbrev cX0_reaches : ByteArray := prog_2_method_11_code
def yX0_reaches : MethodName := ⟨RX0, "reaches", "(I)Z"⟩
abbrev cX0_reached : ByteArray := prog_2_method_12_code
def yX0_reached : MethodName := ⟨RX0, "reached", "()I"⟩
abbrev cX0_offOf : ByteArray := prog_2_method_13_code
def yX0_offOf : MethodName := ⟨RX0, "offOf", "(I)I"⟩
abbrev cX0_distanceOf : ByteArray := prog_2_method_14_code
def yX0_distanceOf : MethodName := ⟨RX0, "distanceOf", "(I)I"⟩
abbrev cX0_sumOfDistances : ByteArray := prog_2_method_15_code
def yX0_sumOfDistances : MethodName := ⟨RX0, "sumOfDistances", "()I"⟩
abbrev cX0_noonOf : ByteArray := prog_2_method_16_code
def yX0_noonOf : MethodName := ⟨RX0, "noonOf", "(I)I"⟩
def RX1 : String := "ShoutedHour$Drunk"
def TX1 : u_T := fun k => match k with
  | 0 => ("ShoutedHour$Watchman", "ran", "LShoutedHour$Trace;", true)
  | 1 => ("ShoutedHour$Watchman", "n", "I", false)
  | _ => ("ShoutedHour$Watchman", "a", "I", false)
def tyX1 : Nat → FieldType := fun k => match k with
  | 0 => .object "ShoutedHour$Trace"
  | 1 => .int
  | _ => .int
abbrev wsX10 : List Cond := u_ws RX1 TX1 3
theorem nmX1 : ∀ a, a < 3 → ∀ b, b < 3 → a ≠ b → (TX1 a).2.1 ≠ (TX1 b).2.1 := by decide +kernel
theorem tyX1_ok : ∀ k, k < 3 → parseFieldDescriptor (TX1 k).2.2.1 = some (tyX1 k) := by decide +kernel
abbrev cX1_init : ByteArray := prog_3_method_1_code
def yX1_init : MethodName := ⟨RX1, "<init>", "(LShoutedHour$Trace;)V"⟩
abbrev cX1_cries : ByteArray := prog_3_method_2_code
def yX1_cries : MethodName := ⟨RX1, "cries", "(I)I"⟩
abbrev cX1_tells : ByteArray := prog_3_method_3_code
def yX1_tells : MethodName := ⟨RX1, "tells", "(I)I"⟩
def RX2 : String := "ShoutedHour$Mender"
def TX2 : u_T := fun k => match k with
  | 0 => ("ShoutedHour$Watchman", "ran", "LShoutedHour$Trace;", true)
  | 1 => ("ShoutedHour$Watchman", "n", "I", false)
  | _ => ("ShoutedHour$Watchman", "a", "I", false)
def tyX2 : Nat → FieldType := fun k => match k with
  | 0 => .object "ShoutedHour$Trace"
  | 1 => .int
  | _ => .int
abbrev wsX20 : List Cond := u_ws RX2 TX2 3
theorem nmX2 : ∀ a, a < 3 → ∀ b, b < 3 → a ≠ b → (TX2 a).2.1 ≠ (TX2 b).2.1 := by decide +kernel
theorem tyX2_ok : ∀ k, k < 3 → parseFieldDescriptor (TX2 k).2.2.1 = some (tyX2 k) := by decide +kernel
abbrev cX2_init : ByteArray := prog_4_method_1_code
def yX2_init : MethodName := ⟨RX2, "<init>", "(LShoutedHour$Trace;)V"⟩
abbrev cX2_shares : ByteArray := prog_4_method_2_code
def yX2_shares : MethodName := ⟨RX2, "shares", "(I)I"⟩
def RX3 : String := "ShoutedHour$Plain"
def TX3 : u_T := fun k => match k with
  | 0 => ("ShoutedHour$Watchman", "ran", "LShoutedHour$Trace;", true)
  | 1 => ("ShoutedHour$Watchman", "n", "I", false)
  | _ => ("ShoutedHour$Watchman", "a", "I", false)
def tyX3 : Nat → FieldType := fun k => match k with
  | 0 => .object "ShoutedHour$Trace"
  | 1 => .int
  | _ => .int
abbrev wsX30 : List Cond := u_ws RX3 TX3 3
theorem nmX3 : ∀ a, a < 3 → ∀ b, b < 3 → a ≠ b → (TX3 a).2.1 ≠ (TX3 b).2.1 := by decide +kernel
theorem tyX3_ok : ∀ k, k < 3 → parseFieldDescriptor (TX3 k).2.2.1 = some (tyX3 k) := by decide +kernel
abbrev cX3_init : ByteArray := prog_5_method_1_code
def yX3_init : MethodName := ⟨RX3, "<init>", "(LShoutedHour$Trace;)V"⟩
abbrev cX3_cries : ByteArray := prog_5_method_2_code
def yX3_cries : MethodName := ⟨RX3, "cries", "(I)I"⟩
def RX4 : String := "ShoutedHour$Proud"
def TX4 : u_T := fun k => match k with
  | 0 => ("ShoutedHour$Watchman", "ran", "LShoutedHour$Trace;", true)
  | 1 => ("ShoutedHour$Watchman", "n", "I", false)
  | _ => ("ShoutedHour$Watchman", "a", "I", false)
def tyX4 : Nat → FieldType := fun k => match k with
  | 0 => .object "ShoutedHour$Trace"
  | 1 => .int
  | _ => .int
abbrev wsX40 : List Cond := u_ws RX4 TX4 3
theorem nmX4 : ∀ a, a < 3 → ∀ b, b < 3 → a ≠ b → (TX4 a).2.1 ≠ (TX4 b).2.1 := by decide +kernel
theorem tyX4_ok : ∀ k, k < 3 → parseFieldDescriptor (TX4 k).2.2.1 = some (tyX4 k) := by decide +kernel
abbrev cX4_init : ByteArray := prog_6_method_1_code
def yX4_init : MethodName := ⟨RX4, "<init>", "(LShoutedHour$Trace;)V"⟩
abbrev cX4_hears : ByteArray := prog_6_method_2_code
def yX4_hears : MethodName := ⟨RX4, "hears", "(I)I"⟩
def RX5 : String := "ShoutedHour$RuleBook"
def TX5 : u_T := fun k => match k with
  | 0 => ("ShoutedHour$RuleBook", "count", "I", false)
  | 1 => ("ShoutedHour$RuleBook", "kind", "[I", true)
  | 2 => ("ShoutedHour$RuleBook", "deed", "[I", true)
  | 3 => ("ShoutedHour$RuleBook", "number", "[I", true)
  | 4 => ("ShoutedHour$RuleBook", "end", "[I", true)
  | 5 => ("ShoutedHour$RuleBook", "stepCount", "I", false)
  | _ => ("ShoutedHour$RuleBook", "steps", "[I", true)
def tyX5 : Nat → FieldType := fun k => match k with
  | 0 => .int
  | 1 => .array .int
  | 2 => .array .int
  | 3 => .array .int
  | 4 => .array .int
  | 5 => .int
  | _ => .array .int
abbrev wsX50 : List Cond := u_ws RX5 TX5 7
theorem nmX5 : ∀ a, a < 7 → ∀ b, b < 7 → a ≠ b → (TX5 a).2.1 ≠ (TX5 b).2.1 := by decide +kernel
theorem tyX5_ok : ∀ k, k < 7 → parseFieldDescriptor (TX5 k).2.2.1 = some (tyX5 k) := by decide +kernel
abbrev cX5_init : ByteArray := prog_7_method_1_code
def yX5_init : MethodName := ⟨RX5, "<init>", "()V"⟩
abbrev cX5_clear : ByteArray := prog_7_method_2_code
def yX5_clear : MethodName := ⟨RX5, "clear", "()V"⟩
abbrev cX5_addStep : ByteArray := prog_7_method_3_code
def yX5_addStep : MethodName := ⟨RX5, "addStep", "(I)V"⟩
abbrev cX5_comparing : ByteArray := prog_7_method_4_code
def yX5_comparing : MethodName := ⟨RX5, "comparing", "(III)I"⟩
abbrev cX5_firstFor : ByteArray := prog_7_method_5_code
def yX5_firstFor : MethodName := ⟨RX5, "firstFor", "(I[I)I"⟩
abbrev cX5_isMet : ByteArray := prog_7_method_6_code
def yX5_isMet : MethodName := ⟨RX5, "isMet", "(I[I)Z"⟩
abbrev cX5_isTrue : ByteArray := prog_7_method_7_code
def yX5_isTrue : MethodName := ⟨RX5, "isTrue", "(I[I)Z"⟩
abbrev cX5_isSilent : ByteArray := prog_7_method_8_code
def yX5_isSilent : MethodName := ⟨RX5, "isSilent", "(I)Z"⟩
abbrev cX5_changed : ByteArray := prog_7_method_9_code
def yX5_changed : MethodName := ⟨RX5, "changed", "(III)I"⟩
abbrev cX5_copyFrom : ByteArray := prog_7_method_10_code
def yX5_copyFrom : MethodName := ⟨RX5, "copyFrom", "(LShoutedHour$RuleBook;)V"⟩
def RX6 : String := "ShoutedHour$RuleReader"
def TX6 : u_T := fun k => match k with
  | 0 => ("ShoutedHour$RuleReader", "bytes", "I", false)
  | 1 => ("ShoutedHour$RuleReader", "tape", "[B", true)
  | 2 => ("ShoutedHour$RuleReader", "draft", "LShoutedHour$RuleBook;", true)
  | 3 => ("ShoutedHour$RuleReader", "token", "I", false)
  | 4 => ("ShoutedHour$RuleReader", "start", "I", false)
  | 5 => ("ShoutedHour$RuleReader", "next", "I", false)
  | 6 => ("ShoutedHour$RuleReader", "value", "I", false)
  | 7 => ("ShoutedHour$RuleReader", "state", "I", false)
  | 8 => ("ShoutedHour$RuleReader", "left", "I", false)
  | 9 => ("ShoutedHour$RuleReader", "sign", "I", false)
  | 10 => ("ShoutedHour$RuleReader", "open", "I", false)
  | 11 => ("ShoutedHour$RuleReader", "waiting", "[I", true)
  | _ => ("ShoutedHour$RuleReader", "waitingCount", "I", false)
def tyX6 : Nat → FieldType := fun k => match k with
  | 0 => .int
  | 1 => .array .byte
  | 2 => .object "ShoutedHour$RuleBook"
  | 3 => .int
  | 4 => .int
  | 5 => .int
  | 6 => .int
  | 7 => .int
  | 8 => .int
  | 9 => .int
  | 10 => .int
  | 11 => .array .int
  | _ => .int
abbrev wsX60 : List Cond := u_ws RX6 TX6 13
theorem nmX6 : ∀ a, a < 13 → ∀ b, b < 13 → a ≠ b → (TX6 a).2.1 ≠ (TX6 b).2.1 := by decide +kernel
theorem tyX6_ok : ∀ k, k < 13 → parseFieldDescriptor (TX6 k).2.2.1 = some (tyX6 k) := by decide +kernel
abbrev cX6_init : ByteArray := prog_8_method_1_code
def yX6_init : MethodName := ⟨RX6, "<init>", "()V"⟩
abbrev cX6_readTape : ByteArray := prog_8_method_2_code
def yX6_readTape : MethodName := ⟨RX6, "readTape", "()I"⟩
abbrev cX6_readToken : ByteArray := prog_8_method_3_code
def yX6_readToken : MethodName := ⟨RX6, "readToken", "()V"⟩
abbrev cX6_readNumber : ByteArray := prog_8_method_4_code
def yX6_readNumber : MethodName := ⟨RX6, "readNumber", "()V"⟩
abbrev cX6_isLetter : ByteArray := prog_8_method_5_code
def yX6_isLetter : MethodName := ⟨RX6, "isLetter", "(I)Z"⟩
abbrev cX6_isDigit : ByteArray := prog_8_method_6_code
def yX6_isDigit : MethodName := ⟨RX6, "isDigit", "(I)Z"⟩
abbrev cX6_takesToken : ByteArray := prog_8_method_7_code
def yX6_takesToken : MethodName := ⟨RX6, "takesToken", "()Z"⟩
abbrev cX6_takesKind : ByteArray := prog_8_method_8_code
def yX6_takesKind : MethodName := ⟨RX6, "takesKind", "()Z"⟩
abbrev cX6_takesIf : ByteArray := prog_8_method_9_code
def yX6_takesIf : MethodName := ⟨RX6, "takesIf", "()Z"⟩
abbrev cX6_takesDeed : ByteArray := prog_8_method_10_code
def yX6_takesDeed : MethodName := ⟨RX6, "takesDeed", "()Z"⟩
abbrev cX6_takesNot : ByteArray := prog_8_method_11_code
def yX6_takesNot : MethodName := ⟨RX6, "takesNot", "()Z"⟩
abbrev cX6_takesOpening : ByteArray := prog_8_method_12_code
def yX6_takesOpening : MethodName := ⟨RX6, "takesOpening", "()Z"⟩
abbrev cX6_takesLeft : ByteArray := prog_8_method_13_code
def yX6_takesLeft : MethodName := ⟨RX6, "takesLeft", "()Z"⟩
abbrev cX6_takesSign : ByteArray := prog_8_method_14_code
def yX6_takesSign : MethodName := ⟨RX6, "takesSign", "()Z"⟩
abbrev cX6_takesRight : ByteArray := prog_8_method_15_code
def yX6_takesRight : MethodName := ⟨RX6, "takesRight", "()Z"⟩
abbrev cX6_takesJoint : ByteArray := prog_8_method_16_code
def yX6_takesJoint : MethodName := ⟨RX6, "takesJoint", "()Z"⟩
abbrev cX6_takesClosing : ByteArray := prog_8_method_17_code
def yX6_takesClosing : MethodName := ⟨RX6, "takesClosing", "()Z"⟩
abbrev cX6_takesN : ByteArray := prog_8_method_18_code
def yX6_takesN : MethodName := ⟨RX6, "takesN", "()Z"⟩
abbrev cX6_takesSemicolon : ByteArray := prog_8_method_19_code
def yX6_takesSemicolon : MethodName := ⟨RX6, "takesSemicolon", "()Z"⟩
abbrev cX6_goesTo : ByteArray := prog_8_method_20_code
def yX6_goesTo : MethodName := ⟨RX6, "goesTo", "(IZ)Z"⟩
abbrev cX6_isSingle : ByteArray := prog_8_method_21_code
def yX6_isSingle : MethodName := ⟨RX6, "isSingle", "(C)Z"⟩
abbrev cX6_operand : ByteArray := prog_8_method_22_code
def yX6_operand : MethodName := ⟨RX6, "operand", "()I"⟩
abbrev cX6_await : ByteArray := prog_8_method_23_code
def yX6_await : MethodName := ⟨RX6, "await", "(I)V"⟩
abbrev cX6_addWaiting : ByteArray := prog_8_method_24_code
def yX6_addWaiting : MethodName := ⟨RX6, "addWaiting", "(I)V"⟩
abbrev cX6_placeIn : ByteArray := prog_8_method_25_code
def yX6_placeIn : MethodName := ⟨RX6, "placeIn", "(Ljava/lang/String;)I"⟩
abbrev cX6_isSpelt : ByteArray := prog_8_method_26_code
def yX6_isSpelt : MethodName := ⟨RX6, "isSpelt", "(Ljava/lang/String;II)Z"⟩
def RX7 : String := "ShoutedHour$Sleeper"
def TX7 : u_T := fun k => match k with
  | 0 => ("ShoutedHour$Watchman", "ran", "LShoutedHour$Trace;", true)
  | 1 => ("ShoutedHour$Watchman", "n", "I", false)
  | _ => ("ShoutedHour$Watchman", "a", "I", false)
def tyX7 : Nat → FieldType := fun k => match k with
  | 0 => .object "ShoutedHour$Trace"
  | 1 => .int
  | _ => .int
abbrev wsX70 : List Cond := u_ws RX7 TX7 3
theorem nmX7 : ∀ a, a < 3 → ∀ b, b < 3 → a ≠ b → (TX7 a).2.1 ≠ (TX7 b).2.1 := by decide +kernel
theorem tyX7_ok : ∀ k, k < 3 → parseFieldDescriptor (TX7 k).2.2.1 = some (tyX7 k) := by decide +kernel
abbrev cX7_init : ByteArray := prog_9_method_1_code
def yX7_init : MethodName := ⟨RX7, "<init>", "(LShoutedHour$Trace;)V"⟩
abbrev cX7_hears : ByteArray := prog_9_method_2_code
def yX7_hears : MethodName := ⟨RX7, "hears", "(I)I"⟩
abbrev cX7_shares : ByteArray := prog_9_method_3_code
def yX7_shares : MethodName := ⟨RX7, "shares", "(I)I"⟩
def RX8 : String := "ShoutedHour$Trace"
def TX8 : u_T := fun k => match k with
  | 0 => ("ShoutedHour$Trace", "count", "I", false)
  | 1 => ("ShoutedHour$Trace", "bodies", "[I", true)
  | _ => ("ShoutedHour$Trace", "isParted", "Z", false)
def tyX8 : Nat → FieldType := fun k => match k with
  | 0 => .int
  | 1 => .array .int
  | _ => .boolean
abbrev wsX80 : List Cond := u_ws RX8 TX8 3
theorem nmX8 : ∀ a, a < 3 → ∀ b, b < 3 → a ≠ b → (TX8 a).2.1 ≠ (TX8 b).2.1 := by decide +kernel
theorem tyX8_ok : ∀ k, k < 3 → parseFieldDescriptor (TX8 k).2.2.1 = some (tyX8 k) := by decide +kernel
abbrev cX8_init : ByteArray := prog_10_method_1_code
def yX8_init : MethodName := ⟨RX8, "<init>", "()V"⟩
abbrev cX8_clear : ByteArray := prog_10_method_2_code
def yX8_clear : MethodName := ⟨RX8, "clear", "()V"⟩
abbrev cX8_begin : ByteArray := prog_10_method_3_code
def yX8_begin : MethodName := ⟨RX8, "begin", "(I)V"⟩
def RX9 : String := "ShoutedHour$Valley"
def TX9 : u_T := fun k => match k with
  | 0 => ("ShoutedHour$Valley", "towers", "I", false)
  | 1 => ("ShoutedHour$Valley", "kind", "[I", true)
  | 2 => ("ShoutedHour$Valley", "add", "[I", true)
  | 3 => ("ShoutedHour$Valley", "delay", "[I", true)
  | 4 => ("ShoutedHour$Valley", "miles", "[I", true)
  | 5 => ("ShoutedHour$Valley", "held", "[I", true)
  | 6 => ("ShoutedHour$Valley", "came", "[I", true)
  | 7 => ("ShoutedHour$Valley", "day", "I", false)
  | 8 => ("ShoutedHour$Valley", "wind", "[I", true)
  | 9 => ("ShoutedHour$Valley", "z", "I", false)
  | 10 => ("ShoutedHour$Valley", "book", "LShoutedHour$RuleBook;", true)
  | 11 => ("ShoutedHour$Valley", "reports", "I", false)
  | 12 => ("ShoutedHour$Valley", "reportTower", "[I", true)
  | 13 => ("ShoutedHour$Valley", "reportHour", "[I", true)
  | _ => ("ShoutedHour$Valley", "facts", "[I", true)
def tyX9 : Nat → FieldType := fun k => match k with
  | 0 => .int
  | 1 => .array .int
  | 2 => .array .int
  | 3 => .array .int
  | 4 => .array .int
  | 5 => .array .int
  | 6 => .array .int
  | 7 => .int
  | 8 => .array .int
  | 9 => .int
  | 10 => .object "ShoutedHour$RuleBook"
  | 11 => .int
  | 12 => .array .int
  | 13 => .array .int
  | _ => .array .int
abbrev wsX90 : List Cond := u_ws RX9 TX9 15
theorem nmX9 : ∀ a, a < 15 → ∀ b, b < 15 → a ≠ b → (TX9 a).2.1 ≠ (TX9 b).2.1 := by decide +kernel
theorem tyX9_ok : ∀ k, k < 15 → parseFieldDescriptor (TX9 k).2.2.1 = some (tyX9 k) := by decide +kernel
abbrev cX9_init : ByteArray := prog_11_method_1_code
def yX9_init : MethodName := ⟨RX9, "<init>", "()V"⟩
abbrev cX9_isTower : ByteArray := prog_11_method_2_code
def yX9_isTower : MethodName := ⟨RX9, "isTower", "(I)Z"⟩
abbrev cX9_holding : ByteArray := prog_11_method_3_code
def yX9_holding : MethodName := ⟨RX9, "holding", "()I"⟩
abbrev cX9_minutesAMile : ByteArray := prog_11_method_4_code
def yX9_minutesAMile : MethodName := ⟨RX9, "minutesAMile", "(IZ)I"⟩
abbrev cX9_ruleFor : ByteArray := prog_11_method_5_code
def yX9_ruleFor : MethodName := ⟨RX9, "ruleFor", "(II)I"⟩
abbrev cX9_addedBy : ByteArray := prog_11_method_6_code
def yX9_addedBy : MethodName := ⟨RX9, "addedBy", "(III)I"⟩
abbrev cX9_copyFrom : ByteArray := prog_11_method_7_code
def yX9_copyFrom : MethodName := ⟨RX9, "copyFrom", "(LShoutedHour$Valley;)V"⟩
def RX10 : String := "ShoutedHour$Watchman"
def TX10 : u_T := fun k => match k with
  | 0 => ("ShoutedHour$Watchman", "ran", "LShoutedHour$Trace;", true)
  | 1 => ("ShoutedHour$Watchman", "n", "I", false)
  | _ => ("ShoutedHour$Watchman", "a", "I", false)
def tyX10 : Nat → FieldType := fun k => match k with
  | 0 => .object "ShoutedHour$Trace"
  | 1 => .int
  | _ => .int
abbrev wsX100 : List Cond := u_ws RX10 TX10 3
theorem nmX10 : ∀ a, a < 3 → ∀ b, b < 3 → a ≠ b → (TX10 a).2.1 ≠ (TX10 b).2.1 := by decide +kernel
theorem tyX10_ok : ∀ k, k < 3 → parseFieldDescriptor (TX10 k).2.2.1 = some (tyX10 k) := by decide +kernel
abbrev cX10_init : ByteArray := prog_12_method_1_code
def yX10_init : MethodName := ⟨RX10, "<init>", "(LShoutedHour$Trace;)V"⟩
abbrev cX10_cries : ByteArray := prog_12_method_2_code
def yX10_cries : MethodName := ⟨RX10, "cries", "(I)I"⟩
abbrev cX10_hears : ByteArray := prog_12_method_3_code
def yX10_hears : MethodName := ⟨RX10, "hears", "(I)I"⟩
abbrev cX10_shares : ByteArray := prog_12_method_4_code
def yX10_shares : MethodName := ⟨RX10, "shares", "(I)I"⟩
abbrev cX10_tells : ByteArray := prog_12_method_5_code
def yX10_tells : MethodName := ⟨RX10, "tells", "(I)I"⟩
def RX11 : String := "ShoutedHour"
def TX11 : u_T := fun k => match k with
  | 0 => ("ShoutedHour", "now", "LShoutedHour$Valley;", true)
  | 1 => ("ShoutedHour", "kept", "LShoutedHour$Valley;", true)
  | 2 => ("ShoutedHour", "isKept", "Z", false)
  | 3 => ("ShoutedHour", "reader", "LShoutedHour$RuleReader;", true)
  | 4 => ("ShoutedHour", "asked", "LShoutedHour$Cry;", true)
  | 5 => ("ShoutedHour", "second", "LShoutedHour$Cry;", true)
  | 6 => ("ShoutedHour", "comesOnDay", "[Z", true)
  | 7 => ("ShoutedHour", "unaddedOff", "[I", true)
  | 8 => ("ShoutedHour", "rowCount", "I", false)
  | 9 => ("ShoutedHour", "rows", "[[I", true)
  | 10 => ("ShoutedHour", "sheetSort", "[I", true)
  | 11 => ("ShoutedHour", "sheetLength", "[I", true)
  | 12 => ("ShoutedHour", "sheetItems", "[[I", true)
  | 13 => ("ShoutedHour", "shelfHolds", "[I", true)
  | 14 => ("ShoutedHour", "shelfThing", "[I", true)
  | 15 => ("ShoutedHour", "shelfLength", "[I", true)
  | 16 => ("ShoutedHour", "ran", "LShoutedHour$Trace;", true)
  | _ => ("ShoutedHour", "things", "[LShoutedHour$Watchman;", true)
def tyX11 : Nat → FieldType := fun k => match k with
  | 0 => .object "ShoutedHour$Valley"
  | 1 => .object "ShoutedHour$Valley"
  | 2 => .boolean
  | 3 => .object "ShoutedHour$RuleReader"
  | 4 => .object "ShoutedHour$Cry"
  | 5 => .object "ShoutedHour$Cry"
  | 6 => .array .boolean
  | 7 => .array .int
  | 8 => .int
  | 9 => .array (.array .int)
  | 10 => .array .int
  | 11 => .array .int
  | 12 => .array (.array .int)
  | 13 => .array .int
  | 14 => .array .int
  | 15 => .array .int
  | 16 => .object "ShoutedHour$Trace"
  | _ => .array (.object "ShoutedHour$Watchman")
abbrev wsX110 : List Cond := u_ws RX11 TX11 18
theorem nmX11 : ∀ a, a < 18 → ∀ b, b < 18 → a ≠ b → (TX11 a).2.1 ≠ (TX11 b).2.1 := by decide +kernel
theorem tyX11_ok : ∀ k, k < 18 → parseFieldDescriptor (TX11 k).2.2.1 = some (tyX11 k) := by decide +kernel
abbrev cX11_init : ByteArray := prog_1_method_1_code
def yX11_init : MethodName := ⟨RX11, "<init>", "()V"⟩
abbrev cX11_tower : ByteArray := prog_1_method_2_code
def yX11_tower : MethodName := ⟨RX11, "tower", "(IIII)I"⟩
abbrev cX11_towerOf : ByteArray := prog_1_method_3_code
def yX11_towerOf : MethodName := ⟨RX11, "towerOf", "(II)I"⟩
abbrev cX11_change : ByteArray := prog_1_method_4_code
def yX11_change : MethodName := ⟨RX11, "change", "(III)I"⟩
abbrev cX11_turn : ByteArray := prog_1_method_5_code
def yX11_turn : MethodName := ⟨RX11, "turn", "(II)I"⟩
abbrev cX11_day : ByteArray := prog_1_method_6_code
def yX11_day : MethodName := ⟨RX11, "day", "(I)I"⟩
abbrev cX11_wind : ByteArray := prog_1_method_7_code
def yX11_wind : MethodName := ⟨RX11, "wind", "(II)I"⟩
abbrev cX11_pace : ByteArray := prog_1_method_8_code
def yX11_pace : MethodName := ⟨RX11, "pace", "(Z)I"⟩
abbrev cX11_isTowerKind : ByteArray := prog_1_method_9_code
def yX11_isTowerKind : MethodName := ⟨RX11, "isTowerKind", "(I)Z"⟩
abbrev cX11_isMeasure : ByteArray := prog_1_method_10_code
def yX11_isMeasure : MethodName := ⟨RX11, "isMeasure", "(II)Z"⟩
abbrev cX11_isDay : ByteArray := prog_1_method_11_code
def yX11_isDay : MethodName := ⟨RX11, "isDay", "(I)Z"⟩
abbrev cX11_isUnder : ByteArray := prog_1_method_12_code
def yX11_isUnder : MethodName := ⟨RX11, "isUnder", "(II)Z"⟩
abbrev cX11_feed : ByteArray := prog_1_method_13_code
def yX11_feed : MethodName := ⟨RX11, "feed", "(JI)I"⟩
abbrev cX11_rules : ByteArray := prog_1_method_14_code
def yX11_rules : MethodName := ⟨RX11, "rules", "()I"⟩
abbrev cX11_cry : ByteArray := prog_1_method_15_code
def yX11_cry : MethodName := ⟨RX11, "cry", "(IIZ)I"⟩
abbrev cX11_shows : ByteArray := prog_1_method_16_code
def yX11_shows : MethodName := ⟨RX11, "shows", "(II)I"⟩
abbrev cX11_hush : ByteArray := prog_1_method_17_code
def yX11_hush : MethodName := ⟨RX11, "hush", "()I"⟩
abbrev cX11_comes : ByteArray := prog_1_method_18_code
def yX11_comes : MethodName := ⟨RX11, "comes", "(III)I"⟩
abbrev cX11_holds : ByteArray := prog_1_method_19_code
def yX11_holds : MethodName := ⟨RX11, "holds", "(III)I"⟩
abbrev cX11_off : ByteArray := prog_1_method_20_code
def yX11_off : MethodName := ⟨RX11, "off", "(III)I"⟩
abbrev cX11_worst : ByteArray := prog_1_method_21_code
def yX11_worst : MethodName := ⟨RX11, "worst", "(II)I"⟩
abbrev cX11_within : ByteArray := prog_1_method_22_code
def yX11_within : MethodName := ⟨RX11, "within", "(III)I"⟩
abbrev cX11_bestAdd : ByteArray := prog_1_method_23_code
def yX11_bestAdd : MethodName := ⟨RX11, "bestAdd", "(III)I"⟩
abbrev cX11_clocks : ByteArray := prog_1_method_24_code
def yX11_clocks : MethodName := ⟨RX11, "clocks", "(II)I"⟩
abbrev cX11_fewest : ByteArray := prog_1_method_25_code
def yX11_fewest : MethodName := ⟨RX11, "fewest", "(II)I"⟩
abbrev cX11_crossed : ByteArray := prog_1_method_26_code
def yX11_crossed : MethodName := ⟨RX11, "crossed", "(II)I"⟩
abbrev cX11_noon : ByteArray := prog_1_method_27_code
def yX11_noon : MethodName := ⟨RX11, "noon", "(II)I"⟩
abbrev cX11_firstNoon : ByteArray := prog_1_method_28_code
def yX11_firstNoon : MethodName := ⟨RX11, "firstNoon", "(I)I"⟩
abbrev cX11_waits : ByteArray := prog_1_method_29_code
def yX11_waits : MethodName := ⟨RX11, "waits", "(III)I"⟩
abbrev cX11_mender : ByteArray := prog_1_method_30_code
def yX11_mender : MethodName := ⟨RX11, "mender", "(II)I"⟩
abbrev cX11_bestDay : ByteArray := prog_1_method_31_code
def yX11_bestDay : MethodName := ⟨RX11, "bestDay", "(III)I"⟩
abbrev cX11_latest : ByteArray := prog_1_method_32_code
def yX11_latest : MethodName := ⟨RX11, "latest", "(III)I"⟩
abbrev cX11_seed : ByteArray := prog_1_method_33_code
def yX11_seed : MethodName := ⟨RX11, "seed", "(I)I"⟩
abbrev cX11_draw : ByteArray := prog_1_method_34_code
def yX11_draw : MethodName := ⟨RX11, "draw", "(I)I"⟩
abbrev cX11_often : ByteArray := prog_1_method_35_code
def yX11_often : MethodName := ⟨RX11, "often", "(IIII)I"⟩
abbrev cX11_lost : ByteArray := prog_1_method_36_code
def yX11_lost : MethodName := ⟨RX11, "lost", "(II)I"⟩
abbrev cX11_isT : ByteArray := prog_1_method_37_code
def yX11_isT : MethodName := ⟨RX11, "isT", "(I)Z"⟩
abbrev cX11_isMinute : ByteArray := prog_1_method_38_code
def yX11_isMinute : MethodName := ⟨RX11, "isMinute", "(I)Z"⟩
abbrev cX11_isBound : ByteArray := prog_1_method_39_code
def yX11_isBound : MethodName := ⟨RX11, "isBound", "(I)Z"⟩
abbrev cX11_isCry : ByteArray := prog_1_method_40_code
def yX11_isCry : MethodName := ⟨RX11, "isCry", "(II)Z"⟩
abbrev cX11_isSet : ByteArray := prog_1_method_41_code
def yX11_isSet : MethodName := ⟨RX11, "isSet", "(I)Z"⟩
abbrev cX11_cryBothWays : ByteArray := prog_1_method_42_code
def yX11_cryBothWays : MethodName := ⟨RX11, "cryBothWays", "(II)V"⟩
abbrev cX11_cryOneWay : ByteArray := prog_1_method_43_code
def yX11_cryOneWay : MethodName := ⟨RX11, "cryOneWay", "(IIZ)V"⟩
abbrev cX11_drawnAfter : ByteArray := prog_1_method_44_code
def yX11_drawnAfter : MethodName := ⟨RX11, "drawnAfter", "(I)I"⟩
abbrev cX11_windDrawn : ByteArray := prog_1_method_45_code
def yX11_windDrawn : MethodName := ⟨RX11, "windDrawn", "(I)I"⟩
abbrev cX11_takeUnaddedOffs : ByteArray := prog_1_method_46_code
def yX11_takeUnaddedOffs : MethodName := ⟨RX11, "takeUnaddedOffs", "(III)Z"⟩
abbrev cX11_farthestOverDays : ByteArray := prog_1_method_47_code
def yX11_farthestOverDays : MethodName := ⟨RX11, "farthestOverDays", "(I)I"⟩
abbrev cX11_report : ByteArray := prog_1_method_48_code
def yX11_report : MethodName := ⟨RX11, "report", "(II)I"⟩
abbrev cX11_forget : ByteArray := prog_1_method_49_code
def yX11_forget : MethodName := ⟨RX11, "forget", "()I"⟩
abbrev cX11_fits : ByteArray := prog_1_method_50_code
def yX11_fits : MethodName := ⟨RX11, "fits", "(II)I"⟩
abbrev cX11_liar : ByteArray := prog_1_method_51_code
def yX11_liar : MethodName := ⟨RX11, "liar", "(I)I"⟩
abbrev cX11_wrongReports : ByteArray := prog_1_method_52_code
def yX11_wrongReports : MethodName := ⟨RX11, "wrongReports", "()I"⟩
abbrev cX11_prove : ByteArray := prog_1_method_53_code
def yX11_prove : MethodName := ⟨RX11, "prove", "(IIZ)I"⟩
abbrev cX11_row : ByteArray := prog_1_method_54_code
def yX11_row : MethodName := ⟨RX11, "row", "(II)I"⟩
abbrev cX11_alterRow : ByteArray := prog_1_method_55_code
def yX11_alterRow : MethodName := ⟨RX11, "alterRow", "(III)I"⟩
abbrev cX11_judge : ByteArray := prog_1_method_56_code
def yX11_judge : MethodName := ⟨RX11, "judge", "(Z)I"⟩
abbrev cX11_isInRows : ByteArray := prog_1_method_57_code
def yX11_isInRows : MethodName := ⟨RX11, "isInRows", "(II)Z"⟩
abbrev cX11_isRowOfAsked : ByteArray := prog_1_method_58_code
def yX11_isRowOfAsked : MethodName := ⟨RX11, "isRowOfAsked", "(II)Z"⟩
abbrev cX11_sheet : ByteArray := prog_1_method_59_code
def yX11_sheet : MethodName := ⟨RX11, "sheet", "(III)I"⟩
abbrev cX11_write : ByteArray := prog_1_method_60_code
def yX11_write : MethodName := ⟨RX11, "write", "(III)I"⟩
abbrev cX11_item : ByteArray := prog_1_method_61_code
def yX11_item : MethodName := ⟨RX11, "item", "(III)I"⟩
abbrev cX11_adds : ByteArray := prog_1_method_62_code
def yX11_adds : MethodName := ⟨RX11, "adds", "(III)I"⟩
abbrev cX11_shelf : ByteArray := prog_1_method_63_code
def yX11_shelf : MethodName := ⟨RX11, "shelf", "(III)I"⟩
abbrev cX11_taken : ByteArray := prog_1_method_64_code
def yX11_taken : MethodName := ⟨RX11, "taken", "(II)I"⟩
abbrev cX11_act : ByteArray := prog_1_method_65_code
def yX11_act : MethodName := ⟨RX11, "act", "(III)I"⟩
abbrev cX11_trace : ByteArray := prog_1_method_66_code
def yX11_trace : MethodName := ⟨RX11, "trace", "(I)I"⟩
abbrev cX11_many : ByteArray := prog_1_method_67_code
def yX11_many : MethodName := ⟨RX11, "many", "(I)I"⟩
abbrev cX11_isSheet : ByteArray := prog_1_method_68_code
def yX11_isSheet : MethodName := ⟨RX11, "isSheet", "(I)Z"⟩
abbrev cX11_isSort : ByteArray := prog_1_method_69_code
def yX11_isSort : MethodName := ⟨RX11, "isSort", "(I)Z"⟩
abbrev cX11_isItem : ByteArray := prog_1_method_70_code
def yX11_isItem : MethodName := ⟨RX11, "isItem", "(II)Z"⟩
abbrev cX11_narrowed : ByteArray := prog_1_method_71_code
def yX11_narrowed : MethodName := ⟨RX11, "narrowed", "(II)I"⟩
abbrev cX11_isShelf : ByteArray := prog_1_method_72_code
def yX11_isShelf : MethodName := ⟨RX11, "isShelf", "(I)Z"⟩
abbrev cX11_isTowerOnShelf : ByteArray := prog_1_method_73_code
def yX11_isTowerOnShelf : MethodName := ⟨RX11, "isTowerOnShelf", "(I)Z"⟩
abbrev cX11_keep : ByteArray := prog_1_method_74_code
def yX11_keep : MethodName := ⟨RX11, "keep", "()I"⟩
abbrev cX11_again : ByteArray := prog_1_method_75_code
def yX11_again : MethodName := ⟨RX11, "again", "()I"⟩
def RX12 : String := "ShoutedHourModel"
def TX12 : u_T := fun k => match k with
  | 0 => ("ShoutedHourModel", "s", "[I", true)
  | 1 => ("ShoutedHourModel", "kept", "[I", true)
  | 2 => ("ShoutedHourModel", "other", "[I", true)
  | 3 => ("ShoutedHourModel", "isKept", "Z", false)
  | 4 => ("ShoutedHourModel", "stack", "[I", true)
  | 5 => ("ShoutedHourModel", "addsNow", "I", false)
  | 6 => ("ShoutedHourModel", "isSilent", "Z", false)
  | 7 => ("ShoutedHourModel", "came", "[I", true)
  | 8 => ("ShoutedHourModel", "hours", "[I", true)
  | 9 => ("ShoutedHourModel", "first", "[I", true)
  | 10 => ("ShoutedHourModel", "fitMany", "I", false)
  | 11 => ("ShoutedHourModel", "fitFirst", "I", false)
  | 12 => ("ShoutedHourModel", "fitLast", "I", false)
  | 13 => ("ShoutedHourModel", "fitBut", "I", false)
  | 14 => ("ShoutedHourModel", "rows", "[I", true)
  | 15 => ("ShoutedHourModel", "rowMany", "I", false)
  | 16 => ("ShoutedHourModel", "tape", "[I", true)
  | 17 => ("ShoutedHourModel", "taped", "I", false)
  | 18 => ("ShoutedHourModel", "from", "I", false)
  | 19 => ("ShoutedHourModel", "to", "I", false)
  | 20 => ("ShoutedHourModel", "value", "I", false)
  | 21 => ("ShoutedHourModel", "open", "I", false)
  | 22 => ("ShoutedHourModel", "coded", "I", false)
  | 23 => ("ShoutedHourModel", "isWrong", "Z", false)
  | 24 => ("ShoutedHourModel", "sortOf", "[I", true)
  | 25 => ("ShoutedHourModel", "sizeOf", "[I", true)
  | 26 => ("ShoutedHourModel", "items", "[I", true)
  | 27 => ("ShoutedHourModel", "holdsWhat", "[I", true)
  | 28 => ("ShoutedHourModel", "holdsNumber", "[I", true)
  | 29 => ("ShoutedHourModel", "holdsSort", "[I", true)
  | 30 => ("ShoutedHourModel", "ran", "[I", true)
  | 31 => ("ShoutedHourModel", "bodies", "I", false)
  | 32 => ("ShoutedHourModel", "acting", "I", false)
  | 33 => ("ShoutedHourModel", "about", "I", false)
  | 34 => ("ShoutedHourModel", "kindActing", "I", false)
  | _ => ("ShoutedHourModel", "isParted", "Z", false)
def tyX12 : Nat → FieldType := fun k => match k with
  | 0 => .array .int
  | 1 => .array .int
  | 2 => .array .int
  | 3 => .boolean
  | 4 => .array .int
  | 5 => .int
  | 6 => .boolean
  | 7 => .array .int
  | 8 => .array .int
  | 9 => .array .int
  | 10 => .int
  | 11 => .int
  | 12 => .int
  | 13 => .int
  | 14 => .array .int
  | 15 => .int
  | 16 => .array .int
  | 17 => .int
  | 18 => .int
  | 19 => .int
  | 20 => .int
  | 21 => .int
  | 22 => .int
  | 23 => .boolean
  | 24 => .array .int
  | 25 => .array .int
  | 26 => .array .int
  | 27 => .array .int
  | 28 => .array .int
  | 29 => .array .int
  | 30 => .array .int
  | 31 => .int
  | 32 => .int
  | 33 => .int
  | 34 => .int
  | _ => .boolean
abbrev wsX120 : List Cond := u_ws RX12 TX12 36
theorem nmX12 : ∀ a, a < 36 → ∀ b, b < 36 → a ≠ b → (TX12 a).2.1 ≠ (TX12 b).2.1 := by decide +kernel
theorem tyX12_ok : ∀ k, k < 36 → parseFieldDescriptor (TX12 k).2.2.1 = some (tyX12 k) := by decide +kernel
abbrev cX12_init : ByteArray := prog_14_method_1_code
def yX12_init : MethodName := ⟨RX12, "<init>", "()V"⟩
abbrev cX12_in : ByteArray := prog_14_method_2_code
def yX12_in : MethodName := ⟨RX12, "in", "(JJJ)Z"⟩
abbrev cX12_isTower : ByteArray := prog_14_method_3_code
def yX12_isTower : MethodName := ⟨RX12, "isTower", "(I)Z"⟩
abbrev cX12_isDay : ByteArray := prog_14_method_4_code
def yX12_isDay : MethodName := ⟨RX12, "isDay", "(I)Z"⟩
abbrev cX12_isTime : ByteArray := prog_14_method_5_code
def yX12_isTime : MethodName := ⟨RX12, "isTime", "(I)Z"⟩
abbrev cX12_has : ByteArray := prog_14_method_6_code
def yX12_has : MethodName := ⟨RX12, "has", "(II)Z"⟩
abbrev cX12_size : ByteArray := prog_14_method_7_code
def yX12_size : MethodName := ⟨RX12, "size", "(I)I"⟩
abbrev cX12_puts : ByteArray := prog_14_method_8_code
def yX12_puts : MethodName := ⟨RX12, "puts", "()V"⟩
abbrev cX12_putsBack : ByteArray := prog_14_method_9_code
def yX12_putsBack : MethodName := ⟨RX12, "putsBack", "()V"⟩
abbrev cX12_at : ByteArray := prog_14_method_10_code
def yX12_at : MethodName := ⟨RX12, "at", "(II)I"⟩
abbrev cX12_its : ByteArray := prog_14_method_11_code
def yX12_its : MethodName := ⟨RX12, "its", "(II)I"⟩
abbrev cX12_isPart : ByteArray := prog_14_method_12_code
def yX12_isPart : MethodName := ⟨RX12, "isPart", "(II)Z"⟩
abbrev cX12_tower : ByteArray := prog_14_method_13_code
def yX12_tower : MethodName := ⟨RX12, "tower", "(IIII)I"⟩
abbrev cX12_isUnder : ByteArray := prog_14_method_14_code
def yX12_isUnder : MethodName := ⟨RX12, "isUnder", "(II)Z"⟩
abbrev cX12_fact : ByteArray := prog_14_method_15_code
def yX12_fact : MethodName := ⟨RX12, "fact", "(II)I"⟩
abbrev cX12_isHolding : ByteArray := prog_14_method_16_code
def yX12_isHolding : MethodName := ⟨RX12, "isHolding", "(III)Z"⟩
abbrev cX12_isSo : ByteArray := prog_14_method_17_code
def yX12_isSo : MethodName := ⟨RX12, "isSo", "(III)Z"⟩
abbrev cX12_asks : ByteArray := prog_14_method_18_code
def yX12_asks : MethodName := ⟨RX12, "asks", "(I)V"⟩
abbrev cX12_towerOf : ByteArray := prog_14_method_19_code
def yX12_towerOf : MethodName := ⟨RX12, "towerOf", "(II)I"⟩
abbrev cX12_change : ByteArray := prog_14_method_20_code
def yX12_change : MethodName := ⟨RX12, "change", "(III)I"⟩
abbrev cX12_turn : ByteArray := prog_14_method_21_code
def yX12_turn : MethodName := ⟨RX12, "turn", "(II)I"⟩
abbrev cX12_day : ByteArray := prog_14_method_22_code
def yX12_day : MethodName := ⟨RX12, "day", "(I)I"⟩
abbrev cX12_wind : ByteArray := prog_14_method_23_code
def yX12_wind : MethodName := ⟨RX12, "wind", "(II)I"⟩
abbrev cX12_pace : ByteArray := prog_14_method_24_code
def yX12_pace : MethodName := ⟨RX12, "pace", "(Z)I"⟩
abbrev cX12_quiets : ByteArray := prog_14_method_25_code
def yX12_quiets : MethodName := ⟨RX12, "quiets", "()V"⟩
abbrev cX12_goes : ByteArray := prog_14_method_26_code
def yX12_goes : MethodName := ⟨RX12, "goes", "(IIZII)V"⟩
abbrev cX12_goesBoth : ByteArray := prog_14_method_27_code
def yX12_goesBoth : MethodName := ⟨RX12, "goesBoth", "(II)V"⟩
abbrev cX12_comers : ByteArray := prog_14_method_28_code
def yX12_comers : MethodName := ⟨RX12, "comers", "()I"⟩
abbrev cX12_offOf : ByteArray := prog_14_method_29_code
def yX12_offOf : MethodName := ⟨RX12, "offOf", "(I)I"⟩
abbrev cX12_cry : ByteArray := prog_14_method_30_code
def yX12_cry : MethodName := ⟨RX12, "cry", "(IIZ)I"⟩
abbrev cX12_shows : ByteArray := prog_14_method_31_code
def yX12_shows : MethodName := ⟨RX12, "shows", "(II)I"⟩
abbrev cX12_holders : ByteArray := prog_14_method_32_code
def yX12_holders : MethodName := ⟨RX12, "holders", "()I"⟩
abbrev cX12_hush : ByteArray := prog_14_method_33_code
def yX12_hush : MethodName := ⟨RX12, "hush", "()I"⟩
abbrev cX12_isAsk : ByteArray := prog_14_method_34_code
def yX12_isAsk : MethodName := ⟨RX12, "isAsk", "(III)Z"⟩
abbrev cX12_comes : ByteArray := prog_14_method_35_code
def yX12_comes : MethodName := ⟨RX12, "comes", "(III)I"⟩
abbrev cX12_holds : ByteArray := prog_14_method_36_code
def yX12_holds : MethodName := ⟨RX12, "holds", "(III)I"⟩
abbrev cX12_off : ByteArray := prog_14_method_37_code
def yX12_off : MethodName := ⟨RX12, "off", "(III)I"⟩
abbrev cX12_worst : ByteArray := prog_14_method_38_code
def yX12_worst : MethodName := ⟨RX12, "worst", "(II)I"⟩
abbrev cX12_within : ByteArray := prog_14_method_39_code
def yX12_within : MethodName := ⟨RX12, "within", "(III)I"⟩
abbrev cX12_farthest : ByteArray := prog_14_method_40_code
def yX12_farthest : MethodName := ⟨RX12, "farthest", "(III)I"⟩
abbrev cX12_bestAdd : ByteArray := prog_14_method_41_code
def yX12_bestAdd : MethodName := ⟨RX12, "bestAdd", "(III)I"⟩
abbrev cX12_clocked : ByteArray := prog_14_method_42_code
def yX12_clocked : MethodName := ⟨RX12, "clocked", "(II)I"⟩
abbrev cX12_clocks : ByteArray := prog_14_method_43_code
def yX12_clocks : MethodName := ⟨RX12, "clocks", "(II)I"⟩
abbrev cX12_ones : ByteArray := prog_14_method_44_code
def yX12_ones : MethodName := ⟨RX12, "ones", "(I)I"⟩
abbrev cX12_fewest : ByteArray := prog_14_method_45_code
def yX12_fewest : MethodName := ⟨RX12, "fewest", "(II)I"⟩
abbrev cX12_crossed : ByteArray := prog_14_method_46_code
def yX12_crossed : MethodName := ⟨RX12, "crossed", "(II)I"⟩
abbrev cX12_fromFirst : ByteArray := prog_14_method_47_code
def yX12_fromFirst : MethodName := ⟨RX12, "fromFirst", "(II)V"⟩
abbrev cX12_noonOf : ByteArray := prog_14_method_48_code
def yX12_noonOf : MethodName := ⟨RX12, "noonOf", "(I)I"⟩
abbrev cX12_noon : ByteArray := prog_14_method_49_code
def yX12_noon : MethodName := ⟨RX12, "noon", "(II)I"⟩
abbrev cX12_firstNoon : ByteArray := prog_14_method_50_code
def yX12_firstNoon : MethodName := ⟨RX12, "firstNoon", "(I)I"⟩
abbrev cX12_waits : ByteArray := prog_14_method_51_code
def yX12_waits : MethodName := ⟨RX12, "waits", "(III)I"⟩
abbrev cX12_offs : ByteArray := prog_14_method_52_code
def yX12_offs : MethodName := ⟨RX12, "offs", "()I"⟩
abbrev cX12_mender : ByteArray := prog_14_method_53_code
def yX12_mender : MethodName := ⟨RX12, "mender", "(II)I"⟩
abbrev cX12_bestDay : ByteArray := prog_14_method_54_code
def yX12_bestDay : MethodName := ⟨RX12, "bestDay", "(III)I"⟩
abbrev cX12_latest : ByteArray := prog_14_method_55_code
def yX12_latest : MethodName := ⟨RX12, "latest", "(III)I"⟩
abbrev cX12_seed : ByteArray := prog_14_method_56_code
def yX12_seed : MethodName := ⟨RX12, "seed", "(I)I"⟩
abbrev cX12_draws : ByteArray := prog_14_method_57_code
def yX12_draws : MethodName := ⟨RX12, "draws", "(I)V"⟩
abbrev cX12_draw : ByteArray := prog_14_method_58_code
def yX12_draw : MethodName := ⟨RX12, "draw", "(I)I"⟩
abbrev cX12_often : ByteArray := prog_14_method_59_code
def yX12_often : MethodName := ⟨RX12, "often", "(IIII)I"⟩
abbrev cX12_lost : ByteArray := prog_14_method_60_code
def yX12_lost : MethodName := ⟨RX12, "lost", "(II)I"⟩
abbrev cX12_report : ByteArray := prog_14_method_61_code
def yX12_report : MethodName := ⟨RX12, "report", "(II)I"⟩
abbrev cX12_forget : ByteArray := prog_14_method_62_code
def yX12_forget : MethodName := ⟨RX12, "forget", "()I"⟩
abbrev cX12_isFit : ByteArray := prog_14_method_63_code
def yX12_isFit : MethodName := ⟨RX12, "isFit", "(I)Z"⟩
abbrev cX12_findFits : ByteArray := prog_14_method_64_code
def yX12_findFits : MethodName := ⟨RX12, "findFits", "(I)V"⟩
abbrev cX12_fits : ByteArray := prog_14_method_65_code
def yX12_fits : MethodName := ⟨RX12, "fits", "(II)I"⟩
abbrev cX12_liar : ByteArray := prog_14_method_66_code
def yX12_liar : MethodName := ⟨RX12, "liar", "(I)I"⟩
abbrev cX12_prove : ByteArray := prog_14_method_67_code
def yX12_prove : MethodName := ⟨RX12, "prove", "(IIZ)I"⟩
abbrev cX12_isRow : ByteArray := prog_14_method_68_code
def yX12_isRow : MethodName := ⟨RX12, "isRow", "(II)Z"⟩
abbrev cX12_row : ByteArray := prog_14_method_69_code
def yX12_row : MethodName := ⟨RX12, "row", "(II)I"⟩
abbrev cX12_alterRow : ByteArray := prog_14_method_70_code
def yX12_alterRow : MethodName := ⟨RX12, "alterRow", "(III)I"⟩
abbrev cX12_isBrought : ByteArray := prog_14_method_71_code
def yX12_isBrought : MethodName := ⟨RX12, "isBrought", "(IZ)Z"⟩
abbrev cX12_judge : ByteArray := prog_14_method_72_code
def yX12_judge : MethodName := ⟨RX12, "judge", "(Z)I"⟩
abbrev cX12_feed : ByteArray := prog_14_method_73_code
def yX12_feed : MethodName := ⟨RX12, "feed", "(JI)I"⟩
abbrev cX12_byteAt : ByteArray := prog_14_method_74_code
def yX12_byteAt : MethodName := ⟨RX12, "byteAt", "(I)I"⟩
abbrev cX12_isLetter : ByteArray := prog_14_method_75_code
def yX12_isLetter : MethodName := ⟨RX12, "isLetter", "(I)Z"⟩
abbrev cX12_isDigit : ByteArray := prog_14_method_76_code
def yX12_isDigit : MethodName := ⟨RX12, "isDigit", "(I)Z"⟩
abbrev cX12_token : ByteArray := prog_14_method_77_code
def yX12_token : MethodName := ⟨RX12, "token", "()V"⟩
abbrev cX12_needs : ByteArray := prog_14_method_78_code
def yX12_needs : MethodName := ⟨RX12, "needs", "(Z)V"⟩
abbrev cX12_word : ByteArray := prog_14_method_79_code
def yX12_word : MethodName := ⟨RX12, "word", "()J"⟩
abbrev cX12_number : ByteArray := prog_14_method_80_code
def yX12_number : MethodName := ⟨RX12, "number", "(I)V"⟩
abbrev cX12_kindHere : ByteArray := prog_14_method_81_code
def yX12_kindHere : MethodName := ⟨RX12, "kindHere", "()I"⟩
abbrev cX12_factHere : ByteArray := prog_14_method_82_code
def yX12_factHere : MethodName := ⟨RX12, "factHere", "()I"⟩
abbrev cX12_writes : ByteArray := prog_14_method_83_code
def yX12_writes : MethodName := ⟨RX12, "writes", "(I)V"⟩
abbrev cX12_valueHere : ByteArray := prog_14_method_84_code
def yX12_valueHere : MethodName := ⟨RX12, "valueHere", "()V"⟩
abbrev cX12_comparison : ByteArray := prog_14_method_85_code
def yX12_comparison : MethodName := ⟨RX12, "comparison", "()V"⟩
abbrev cX12_one : ByteArray := prog_14_method_86_code
def yX12_one : MethodName := ⟨RX12, "one", "()V"⟩
abbrev cX12_all : ByteArray := prog_14_method_87_code
def yX12_all : MethodName := ⟨RX12, "all", "()V"⟩
abbrev cX12_condition : ByteArray := prog_14_method_88_code
def yX12_condition : MethodName := ⟨RX12, "condition", "()V"⟩
abbrev cX12_rule : ByteArray := prog_14_method_89_code
def yX12_rule : MethodName := ⟨RX12, "rule", "()V"⟩
abbrev cX12_rules : ByteArray := prog_14_method_90_code
def yX12_rules : MethodName := ⟨RX12, "rules", "()I"⟩
abbrev cX12_isOne : ByteArray := prog_14_method_91_code
def yX12_isOne : MethodName := ⟨RX12, "isOne", "(I)Z"⟩
abbrev cX12_sheet : ByteArray := prog_14_method_92_code
def yX12_sheet : MethodName := ⟨RX12, "sheet", "(III)I"⟩
abbrev cX12_narrowed : ByteArray := prog_14_method_93_code
def yX12_narrowed : MethodName := ⟨RX12, "narrowed", "(II)I"⟩
abbrev cX12_write : ByteArray := prog_14_method_94_code
def yX12_write : MethodName := ⟨RX12, "write", "(III)I"⟩
abbrev cX12_wrong : ByteArray := prog_14_method_95_code
def yX12_wrong : MethodName := ⟨RX12, "wrong", "(II)I"⟩
abbrev cX12_item : ByteArray := prog_14_method_96_code
def yX12_item : MethodName := ⟨RX12, "item", "(III)I"⟩
abbrev cX12_adds : ByteArray := prog_14_method_97_code
def yX12_adds : MethodName := ⟨RX12, "adds", "(III)I"⟩
abbrev cX12_shelf : ByteArray := prog_14_method_98_code
def yX12_shelf : MethodName := ⟨RX12, "shelf", "(III)I"⟩
abbrev cX12_onShelf : ByteArray := prog_14_method_99_code
def yX12_onShelf : MethodName := ⟨RX12, "onShelf", "(I)I"⟩
abbrev cX12_taken : ByteArray := prog_14_method_100_code
def yX12_taken : MethodName := ⟨RX12, "taken", "(II)I"⟩
abbrev cX12_runs : ByteArray := prog_14_method_101_code
def yX12_runs : MethodName := ⟨RX12, "runs", "(I)V"⟩
abbrev cX12_cries : ByteArray := prog_14_method_102_code
def yX12_cries : MethodName := ⟨RX12, "cries", "(I)I"⟩
abbrev cX12_hears : ByteArray := prog_14_method_103_code
def yX12_hears : MethodName := ⟨RX12, "hears", "(I)I"⟩
abbrev cX12_parts : ByteArray := prog_14_method_104_code
def yX12_parts : MethodName := ⟨RX12, "parts", "(I)I"⟩
abbrev cX12_shares : ByteArray := prog_14_method_105_code
def yX12_shares : MethodName := ⟨RX12, "shares", "(I)I"⟩
abbrev cX12_tells : ByteArray := prog_14_method_106_code
def yX12_tells : MethodName := ⟨RX12, "tells", "(I)I"⟩
abbrev cX12_act : ByteArray := prog_14_method_107_code
def yX12_act : MethodName := ⟨RX12, "act", "(III)I"⟩
abbrev cX12_traced : ByteArray := prog_14_method_108_code
def yX12_traced : MethodName := ⟨RX12, "traced", "()I"⟩
abbrev cX12_trace : ByteArray := prog_14_method_109_code
def yX12_trace : MethodName := ⟨RX12, "trace", "(I)I"⟩
abbrev cX12_many : ByteArray := prog_14_method_110_code
def yX12_many : MethodName := ⟨RX12, "many", "(I)I"⟩
abbrev cX12_keep : ByteArray := prog_14_method_111_code
def yX12_keep : MethodName := ⟨RX12, "keep", "()I"⟩
abbrev cX12_again : ByteArray := prog_14_method_112_code
def yX12_again : MethodName := ⟨RX12, "again", "()I"⟩
def RJ6 : String := "java/lang/Integer"
def TJ6 : u_T := fun k => match k with
  | _ => ("", "", "", false)
def tyJ6 : Nat → FieldType := fun k => match k with
  | _ => .int
abbrev wsJ60 : List Cond := u_ws RJ6 TJ6 0
theorem nmJ6 : ∀ a, a < 0 → ∀ b, b < 0 → a ≠ b → (TJ6 a).2.1 ≠ (TJ6 b).2.1 := by decide +kernel
theorem tyJ6_ok : ∀ k, k < 0 → parseFieldDescriptor (TJ6 k).2.2.1 = some (tyJ6 k) := by decide +kernel
abbrev cJ6_bitCount_0f7a4 : ByteArray := prog_15_method_49_code
def yJ6_bitCount_0f7a4 : MethodName := ⟨RJ6, "bitCount", "(I)I"⟩
def RJ9 : String := "java/lang/Math"
def TJ9 : u_T := fun k => match k with
  | _ => ("", "", "", false)
def tyJ9 : Nat → FieldType := fun k => match k with
  | _ => .int
abbrev wsJ90 : List Cond := u_ws RJ9 TJ9 0
theorem nmJ9 : ∀ a, a < 0 → ∀ b, b < 0 → a ≠ b → (TJ9 a).2.1 ≠ (TJ9 b).2.1 := by decide +kernel
theorem tyJ9_ok : ∀ k, k < 0 → parseFieldDescriptor (TJ9 k).2.2.1 = some (tyJ9 k) := by decide +kernel
abbrev cJ9_abs_0f7a4 : ByteArray := prog_16_method_59_code
def yJ9_abs_0f7a4 : MethodName := ⟨RJ9, "abs", "(I)I"⟩
abbrev cJ9_max_7cf53 : ByteArray := prog_16_method_65_code
def yJ9_max_7cf53 : MethodName := ⟨RJ9, "max", "(II)I"⟩
abbrev cJ9_min_7cf53 : ByteArray := prog_16_method_69_code
def yJ9_min_7cf53 : MethodName := ⟨RJ9, "min", "(II)I"⟩
def RJ0 : String := "java/lang/String"
def TJ0 : u_T := fun k => match k with
  | _ => ("", "", "", false)
def tyJ0 : Nat → FieldType := fun k => match k with
  | _ => .int
abbrev wsJ00 : List Cond := u_ws RJ0 TJ0 0
theorem nmJ0 : ∀ a, a < 0 → ∀ b, b < 0 → a ≠ b → (TJ0 a).2.1 ≠ (TJ0 b).2.1 := by decide +kernel
theorem tyJ0_ok : ∀ k, k < 0 → parseFieldDescriptor (TJ0 k).2.2.1 = some (tyJ0 k) := by decide +kernel
abbrev cJ0_length_8abf5 : ByteArray := prog_17_method_54_code
def yJ0_length_8abf5 : MethodName := ⟨RJ0, "length", "()I"⟩
abbrev cJ0_charAt_5068e : ByteArray := prog_17_method_56_code
def yJ0_charAt_5068e : MethodName := ⟨RJ0, "charAt", "(I)C"⟩
abbrev cJ0_coder_7d493 : ByteArray := prog_17_method_152_code
def yJ0_coder_7d493 : MethodName := ⟨RJ0, "coder", "()B"⟩
abbrev cJ0_isLatin1_aae02 : ByteArray := prog_17_method_154_code
def yJ0_isLatin1_aae02 : MethodName := ⟨RJ0, "isLatin1", "()Z"⟩
abbrev cJ0_checkIndex_df160 : ByteArray := prog_17_method_155_code
def yJ0_checkIndex_df160 : MethodName := ⟨RJ0, "checkIndex", "(II)V"⟩
def RJ1 : String := "java/lang/StringLatin1"
def TJ1 : u_T := fun k => match k with
  | _ => ("", "", "", false)
def tyJ1 : Nat → FieldType := fun k => match k with
  | _ => .int
abbrev wsJ10 : List Cond := u_ws RJ1 TJ1 0
theorem nmJ1 : ∀ a, a < 0 → ∀ b, b < 0 → a ≠ b → (TJ1 a).2.1 ≠ (TJ1 b).2.1 := by decide +kernel
theorem tyJ1_ok : ∀ k, k < 0 → parseFieldDescriptor (TJ1 k).2.2.1 = some (tyJ1 k) := by decide +kernel
abbrev cJ1_charAt_3b067 : ByteArray := prog_18_method_2_code
def yJ1_charAt_3b067 : MethodName := ⟨RJ1, "charAt", "([BI)C"⟩
def RJ2 : String := "java/lang/StringUTF16"
def TJ2 : u_T := fun k => match k with
  | _ => ("", "", "", false)
def tyJ2 : Nat → FieldType := fun k => match k with
  | _ => .int
abbrev wsJ20 : List Cond := u_ws RJ2 TJ2 0
theorem nmJ2 : ∀ a, a < 0 → ∀ b, b < 0 → a ≠ b → (TJ2 a).2.1 ≠ (TJ2 b).2.1 := by decide +kernel
theorem tyJ2_ok : ∀ k, k < 0 → parseFieldDescriptor (TJ2 k).2.2.1 = some (tyJ2 k) := by decide +kernel
abbrev cJ2_getChar_3b067 : ByteArray := prog_19_method_5_code
def yJ2_getChar_3b067 : MethodName := ⟨RJ2, "getChar", "([BI)C"⟩
abbrev cJ2_length_9d52b : ByteArray := prog_19_method_6_code
def yJ2_length_9d52b : MethodName := ⟨RJ2, "length", "([B)I"⟩
abbrev cJ2_charAt_3b067 : ByteArray := prog_19_method_83_code
def yJ2_charAt_3b067 : MethodName := ⟨RJ2, "charAt", "([BI)C"⟩
abbrev cJ2_checkIndex_2214a : ByteArray := prog_19_method_91_code
def yJ2_checkIndex_2214a : MethodName := ⟨RJ2, "checkIndex", "(I[B)V"⟩
def RJ10 : String := "java/lang/System"
def TJ10 : u_T := fun k => match k with
  | _ => ("", "", "", false)
def tyJ10 : Nat → FieldType := fun k => match k with
  | _ => .int
abbrev wsJ100 : List Cond := u_ws RJ10 TJ10 0
theorem nmJ10 : ∀ a, a < 0 → ∀ b, b < 0 → a ≠ b → (TJ10 a).2.1 ≠ (TJ10 b).2.1 := by decide +kernel
theorem tyJ10_ok : ∀ k, k < 0 → parseFieldDescriptor (TJ10 k).2.2.1 = some (tyJ10 k) := by decide +kernel
def RJ7 : String := "java/util/Arrays"
def TJ7 : u_T := fun k => match k with
  | _ => ("", "", "", false)
def tyJ7 : Nat → FieldType := fun k => match k with
  | _ => .int
abbrev wsJ70 : List Cond := u_ws RJ7 TJ7 0
theorem nmJ7 : ∀ a, a < 0 → ∀ b, b < 0 → a ≠ b → (TJ7 a).2.1 ≠ (TJ7 b).2.1 := by decide +kernel
theorem tyJ7_ok : ∀ k, k < 0 → parseFieldDescriptor (TJ7 k).2.2.1 = some (tyJ7 k) := by decide +kernel
abbrev cJ7_fill_53178 : ByteArray := prog_21_method_103_code
def yJ7_fill_53178 : MethodName := ⟨RJ7, "fill", "([II)V"⟩
def RJ3 : String := "jdk/internal/util/Preconditions"
def TJ3 : u_T := fun k => match k with
  | _ => ("", "", "", false)
def tyJ3 : Nat → FieldType := fun k => match k with
  | _ => .int
abbrev wsJ30 : List Cond := u_ws RJ3 TJ3 0
theorem nmJ3 : ∀ a, a < 0 → ∀ b, b < 0 → a ≠ b → (TJ3 a).2.1 ≠ (TJ3 b).2.1 := by decide +kernel
theorem tyJ3_ok : ∀ k, k < 0 → parseFieldDescriptor (TJ3 k).2.2.1 = some (tyJ3 k) := by decide +kernel
abbrev cJ3_checkIndex_8e157 : ByteArray := prog_22_method_11_code
def yJ3_checkIndex_8e157 : MethodName := ⟨RJ3, "checkIndex", "(IILjava/util/function/BiFunction;)I"⟩
def RL : String := "ShoutedHourLaw"
abbrev cL_law : ByteArray := code
def yL_law : MethodName := ⟨RL, "law", "([I)Z"⟩
