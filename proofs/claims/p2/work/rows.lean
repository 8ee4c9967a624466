section
-- ===== PART A: goes FIRST, ahead of the names: the tables' words, and 'selects' of the private methods out of them =====
/-- a private method of a class that the tables say can be made, by its rows of tables_1 -/
def lw_okq (q : MethodName × Nat) : Prop := (q.1.cls ≠ "java/lang/invoke/MethodHandle" ∧ q.1.cls ≠ "java/lang/invoke/VarHandle") ∧ Cond.instantiable q.1.cls q.2 ∈ tables_1 ∧ Cond.privateMethod q.1 ∈ tables_1 ∧ Cond.instanceMethod q.1 ∈ tables_1
theorem lw_p0 : lw_okq (⟨"EnclosedDigits", "make", "(IJJII)I"⟩, 15) := ⟨⟨by decide +kernel, by decide +kernel⟩, List.mem_of_getElem? (i := 13) (by decide +kernel), List.mem_of_getElem? (i := 199) (by decide +kernel), List.mem_of_getElem? (i := 200) (by decide +kernel)⟩
theorem lw_p1 : lw_okq (⟨"EnclosedDigits", "isValue", "(I)Z"⟩, 15) := ⟨⟨by decide +kernel, by decide +kernel⟩, List.mem_of_getElem? (i := 13) (by decide +kernel), List.mem_of_getElem? (i := 291) (by decide +kernel), List.mem_of_getElem? (i := 292) (by decide +kernel)⟩
theorem lw_p2 : lw_okq (⟨"EnclosedDigits$Encloser", "fillRatio", "(LEnclosedDigits$Value;I)V"⟩, 7) := ⟨⟨by decide +kernel, by decide +kernel⟩, List.mem_of_getElem? (i := 23) (by decide +kernel), List.mem_of_getElem? (i := 393) (by decide +kernel), List.mem_of_getElem? (i := 394) (by decide +kernel)⟩
theorem lw_p3 : lw_okq (⟨"EnclosedDigits$Encloser", "divideBothWays", "(LEnclosedDigits$Big;LEnclosedDigits$Big;)V"⟩, 7) := ⟨⟨by decide +kernel, by decide +kernel⟩, List.mem_of_getElem? (i := 23) (by decide +kernel), List.mem_of_getElem? (i := 397) (by decide +kernel), List.mem_of_getElem? (i := 398) (by decide +kernel)⟩
theorem lw_p4 : lw_okq (⟨"EnclosedDigits$Bench", "takeAway", "(I)I"⟩, 5) := ⟨⟨by decide +kernel, by decide +kernel⟩, List.mem_of_getElem? (i := 29) (by decide +kernel), List.mem_of_getElem? (i := 422) (by decide +kernel), List.mem_of_getElem? (i := 423) (by decide +kernel)⟩
theorem lw_p5 : lw_okq (⟨"EnclosedDigits$Bench", "guessLimb", "(II)J"⟩, 5) := ⟨⟨by decide +kernel, by decide +kernel⟩, List.mem_of_getElem? (i := 29) (by decide +kernel), List.mem_of_getElem? (i := 426) (by decide +kernel), List.mem_of_getElem? (i := 427) (by decide +kernel)⟩
theorem lw_p6 : lw_okq (⟨"EnclosedDigits$Bench", "giveBack", "(II)V"⟩, 5) := ⟨⟨by decide +kernel, by decide +kernel⟩, List.mem_of_getElem? (i := 29) (by decide +kernel), List.mem_of_getElem? (i := 431) (by decide +kernel), List.mem_of_getElem? (i := 432) (by decide +kernel)⟩
theorem lw_p7 : lw_okq (⟨"EnclosedDigits$Series", "sumPower", "(JJI)V"⟩, 5) := ⟨⟨by decide +kernel, by decide +kernel⟩, List.mem_of_getElem? (i := 75) (by decide +kernel), List.mem_of_getElem? (i := 448) (by decide +kernel), List.mem_of_getElem? (i := 449) (by decide +kernel)⟩
theorem lw_p8 : lw_okq (⟨"EnclosedDigits$Big", "addLimbs", "(LEnclosedDigits$Big;I)V"⟩, 3) := ⟨⟨by decide +kernel, by decide +kernel⟩, List.mem_of_getElem? (i := 35) (by decide +kernel), List.mem_of_getElem? (i := 457) (by decide +kernel), List.mem_of_getElem? (i := 458) (by decide +kernel)⟩
theorem lw_p9 : lw_okq (⟨"EnclosedDigits$Big", "subtractLimbs", "(LEnclosedDigits$Big;II)V"⟩, 3) := ⟨⟨by decide +kernel, by decide +kernel⟩, List.mem_of_getElem? (i := 35) (by decide +kernel), List.mem_of_getElem? (i := 466) (by decide +kernel), List.mem_of_getElem? (i := 467) (by decide +kernel)⟩
theorem lw_p10 : lw_okq (⟨"EnclosedDigits$Series", "sumTangent", "(JZI)V"⟩, 5) := ⟨⟨by decide +kernel, by decide +kernel⟩, List.mem_of_getElem? (i := 75) (by decide +kernel), List.mem_of_getElem? (i := 475) (by decide +kernel), List.mem_of_getElem? (i := 476) (by decide +kernel)⟩
theorem lw_p11 : lw_okq (⟨"EnclosedDigits$Big", "shiftDown", "(I)Z"⟩, 3) := ⟨⟨by decide +kernel, by decide +kernel⟩, List.mem_of_getElem? (i := 35) (by decide +kernel), List.mem_of_getElem? (i := 491) (by decide +kernel), List.mem_of_getElem? (i := 492) (by decide +kernel)⟩
theorem lw_p12 : lw_okq (⟨"EnclosedDigits$Encloser", "fillRoot", "(LEnclosedDigits$Value;LEnclosedDigits$Value;I)V"⟩, 7) := ⟨⟨by decide +kernel, by decide +kernel⟩, List.mem_of_getElem? (i := 23) (by decide +kernel), List.mem_of_getElem? (i := 505) (by decide +kernel), List.mem_of_getElem? (i := 506) (by decide +kernel)⟩
theorem lw_p13 : lw_okq (⟨"EnclosedDigits$Encloser", "fillCorners", "(LEnclosedDigits$Value;LEnclosedDigits$Value;LEnclosedDigits$Value;I)V"⟩, 7) := ⟨⟨by decide +kernel, by decide +kernel⟩, List.mem_of_getElem? (i := 23) (by decide +kernel), List.mem_of_getElem? (i := 540) (by decide +kernel), List.mem_of_getElem? (i := 541) (by decide +kernel)⟩
theorem lw_p14 : lw_okq (⟨"EnclosedDigits$Encloser", "multiplyBothWays", "(LEnclosedDigits$Big;LEnclosedDigits$Big;I)V"⟩, 7) := ⟨⟨by decide +kernel, by decide +kernel⟩, List.mem_of_getElem? (i := 23) (by decide +kernel), List.mem_of_getElem? (i := 544) (by decide +kernel), List.mem_of_getElem? (i := 545) (by decide +kernel)⟩
theorem lw_p15 : lw_okq (⟨"EnclosedDigits", "digitsAreTold", "(LEnclosedDigits$Value;I)Z"⟩, 15) := ⟨⟨by decide +kernel, by decide +kernel⟩, List.mem_of_getElem? (i := 13) (by decide +kernel), List.mem_of_getElem? (i := 557) (by decide +kernel), List.mem_of_getElem? (i := 558) (by decide +kernel)⟩
def lw_privs_1 : List (MethodName × Nat) := [(⟨"EnclosedDigits", "make", "(IJJII)I"⟩, 15), (⟨"EnclosedDigits", "isValue", "(I)Z"⟩, 15), (⟨"EnclosedDigits$Encloser", "fillRatio", "(LEnclosedDigits$Value;I)V"⟩, 7), (⟨"EnclosedDigits$Encloser", "divideBothWays", "(LEnclosedDigits$Big;LEnclosedDigits$Big;)V"⟩, 7), (⟨"EnclosedDigits$Bench", "takeAway", "(I)I"⟩, 5), (⟨"EnclosedDigits$Bench", "guessLimb", "(II)J"⟩, 5), (⟨"EnclosedDigits$Bench", "giveBack", "(II)V"⟩, 5), (⟨"EnclosedDigits$Series", "sumPower", "(JJI)V"⟩, 5), (⟨"EnclosedDigits$Big", "addLimbs", "(LEnclosedDigits$Big;I)V"⟩, 3), (⟨"EnclosedDigits$Big", "subtractLimbs", "(LEnclosedDigits$Big;II)V"⟩, 3), (⟨"EnclosedDigits$Series", "sumTangent", "(JZI)V"⟩, 5), (⟨"EnclosedDigits$Big", "shiftDown", "(I)Z"⟩, 3), (⟨"EnclosedDigits$Encloser", "fillRoot", "(LEnclosedDigits$Value;LEnclosedDigits$Value;I)V"⟩, 7), (⟨"EnclosedDigits$Encloser", "fillCorners", "(LEnclosedDigits$Value;LEnclosedDigits$Value;LEnclosedDigits$Value;I)V"⟩, 7), (⟨"EnclosedDigits$Encloser", "multiplyBothWays", "(LEnclosedDigits$Big;LEnclosedDigits$Big;I)V"⟩, 7), (⟨"EnclosedDigits", "digitsAreTold", "(LEnclosedDigits$Value;I)Z"⟩, 15)]
theorem lw_r1 : ∀ q ∈ lw_privs_1, lw_okq q := List.forall_mem_cons.mpr ⟨lw_p0, List.forall_mem_cons.mpr ⟨lw_p1, List.forall_mem_cons.mpr ⟨lw_p2, List.forall_mem_cons.mpr ⟨lw_p3, List.forall_mem_cons.mpr ⟨lw_p4, List.forall_mem_cons.mpr ⟨lw_p5, List.forall_mem_cons.mpr ⟨lw_p6, List.forall_mem_cons.mpr ⟨lw_p7, List.forall_mem_cons.mpr ⟨lw_p8, List.forall_mem_cons.mpr ⟨lw_p9, List.forall_mem_cons.mpr ⟨lw_p10, List.forall_mem_cons.mpr ⟨lw_p11, List.forall_mem_cons.mpr ⟨lw_p12, List.forall_mem_cons.mpr ⟨lw_p13, List.forall_mem_cons.mpr ⟨lw_p14, List.forall_mem_cons.mpr ⟨lw_p15, fun _ h => absurd h List.not_mem_nil⟩⟩⟩⟩⟩⟩⟩⟩⟩⟩⟩⟩⟩⟩⟩⟩
theorem lw_p16 : lw_okq (⟨"EnclosedDigits", "quotientsAreTold", "(LEnclosedDigits$Value;II)Z"⟩, 15) := ⟨⟨by decide +kernel, by decide +kernel⟩, List.mem_of_getElem? (i := 13) (by decide +kernel), List.mem_of_getElem? (i := 597) (by decide +kernel), List.mem_of_getElem? (i := 598) (by decide +kernel)⟩
theorem lw_p17 : lw_okq (⟨"EnclosedDigits$Fraction", "roundDown", "()V"⟩, 4) := ⟨⟨by decide +kernel, by decide +kernel⟩, List.mem_of_getElem? (i := 126) (by decide +kernel), List.mem_of_getElem? (i := 613) (by decide +kernel), List.mem_of_getElem? (i := 614) (by decide +kernel)⟩
theorem lw_p18 : lw_okq (⟨"EnclosedDigitsModel", "add", "(IJJ)I"⟩, 15) := ⟨⟨by decide +kernel, by decide +kernel⟩, List.mem_of_getElem? (i := 641) (by decide +kernel), List.mem_of_getElem? (i := 699) (by decide +kernel), List.mem_of_getElem? (i := 700) (by decide +kernel)⟩
theorem lw_p19 : lw_okq (⟨"EnclosedDigitsModel", "isValue", "(I)Z"⟩, 15) := ⟨⟨by decide +kernel, by decide +kernel⟩, List.mem_of_getElem? (i := 641) (by decide +kernel), List.mem_of_getElem? (i := 727) (by decide +kernel), List.mem_of_getElem? (i := 728) (by decide +kernel)⟩
theorem lw_p20 : lw_okq (⟨"EnclosedDigitsModel", "isEnclosed", "(II)Z"⟩, 15) := ⟨⟨by decide +kernel, by decide +kernel⟩, List.mem_of_getElem? (i := 641) (by decide +kernel), List.mem_of_getElem? (i := 747) (by decide +kernel), List.mem_of_getElem? (i := 748) (by decide +kernel)⟩
theorem lw_p21 : lw_okq (⟨"EnclosedDigitsModel", "need", "(I)V"⟩, 15) := ⟨⟨by decide +kernel, by decide +kernel⟩, List.mem_of_getElem? (i := 641) (by decide +kernel), List.mem_of_getElem? (i := 751) (by decide +kernel), List.mem_of_getElem? (i := 752) (by decide +kernel)⟩
theorem lw_p22 : lw_okq (⟨"EnclosedDigitsModel", "powerOfTen", "(II)V"⟩, 15) := ⟨⟨by decide +kernel, by decide +kernel⟩, List.mem_of_getElem? (i := 641) (by decide +kernel), List.mem_of_getElem? (i := 755) (by decide +kernel), List.mem_of_getElem? (i := 756) (by decide +kernel)⟩
theorem lw_p23 : lw_okq (⟨"EnclosedDigitsModel", "isBound", "(II)Z"⟩, 15) := ⟨⟨by decide +kernel, by decide +kernel⟩, List.mem_of_getElem? (i := 641) (by decide +kernel), List.mem_of_getElem? (i := 762) (by decide +kernel), List.mem_of_getElem? (i := 763) (by decide +kernel)⟩
theorem lw_p24 : lw_okq (⟨"EnclosedDigitsModel", "setTo", "(IJ)V"⟩, 15) := ⟨⟨by decide +kernel, by decide +kernel⟩, List.mem_of_getElem? (i := 641) (by decide +kernel), List.mem_of_getElem? (i := 766) (by decide +kernel), List.mem_of_getElem? (i := 767) (by decide +kernel)⟩
theorem lw_p25 : lw_okq (⟨"EnclosedDigitsModel", "multiply", "(III)V"⟩, 15) := ⟨⟨by decide +kernel, by decide +kernel⟩, List.mem_of_getElem? (i := 641) (by decide +kernel), List.mem_of_getElem? (i := 771) (by decide +kernel), List.mem_of_getElem? (i := 772) (by decide +kernel)⟩
theorem lw_p26 : lw_okq (⟨"EnclosedDigitsModel", "trim", "(II)V"⟩, 15) := ⟨⟨by decide +kernel, by decide +kernel⟩, List.mem_of_getElem? (i := 641) (by decide +kernel), List.mem_of_getElem? (i := 775) (by decide +kernel), List.mem_of_getElem? (i := 776) (by decide +kernel)⟩
theorem lw_p27 : lw_okq (⟨"EnclosedDigitsModel", "copyTo", "(II)V"⟩, 15) := ⟨⟨by decide +kernel, by decide +kernel⟩, List.mem_of_getElem? (i := 641) (by decide +kernel), List.mem_of_getElem? (i := 779) (by decide +kernel), List.mem_of_getElem? (i := 780) (by decide +kernel)⟩
theorem lw_p28 : lw_okq (⟨"EnclosedDigitsModel", "rounded", "(IIIZ)V"⟩, 15) := ⟨⟨by decide +kernel, by decide +kernel⟩, List.mem_of_getElem? (i := 641) (by decide +kernel), List.mem_of_getElem? (i := 783) (by decide +kernel), List.mem_of_getElem? (i := 784) (by decide +kernel)⟩
theorem lw_p29 : lw_okq (⟨"EnclosedDigitsModel", "divide", "(III)V"⟩, 15) := ⟨⟨by decide +kernel, by decide +kernel⟩, List.mem_of_getElem? (i := 641) (by decide +kernel), List.mem_of_getElem? (i := 787) (by decide +kernel), List.mem_of_getElem? (i := 788) (by decide +kernel)⟩
theorem lw_p30 : lw_okq (⟨"EnclosedDigitsModel", "compareSizes", "(II)I"⟩, 15) := ⟨⟨by decide +kernel, by decide +kernel⟩, List.mem_of_getElem? (i := 641) (by decide +kernel), List.mem_of_getElem? (i := 791) (by decide +kernel), List.mem_of_getElem? (i := 792) (by decide +kernel)⟩
theorem lw_p31 : lw_okq (⟨"EnclosedDigitsModel", "timesSmall", "(IJ)V"⟩, 15) := ⟨⟨by decide +kernel, by decide +kernel⟩, List.mem_of_getElem? (i := 641) (by decide +kernel), List.mem_of_getElem? (i := 796) (by decide +kernel), List.mem_of_getElem? (i := 797) (by decide +kernel)⟩
def lw_privs_2 : List (MethodName × Nat) := [(⟨"EnclosedDigits", "quotientsAreTold", "(LEnclosedDigits$Value;II)Z"⟩, 15), (⟨"EnclosedDigits$Fraction", "roundDown", "()V"⟩, 4), (⟨"EnclosedDigitsModel", "add", "(IJJ)I"⟩, 15), (⟨"EnclosedDigitsModel", "isValue", "(I)Z"⟩, 15), (⟨"EnclosedDigitsModel", "isEnclosed", "(II)Z"⟩, 15), (⟨"EnclosedDigitsModel", "need", "(I)V"⟩, 15), (⟨"EnclosedDigitsModel", "powerOfTen", "(II)V"⟩, 15), (⟨"EnclosedDigitsModel", "isBound", "(II)Z"⟩, 15), (⟨"EnclosedDigitsModel", "setTo", "(IJ)V"⟩, 15), (⟨"EnclosedDigitsModel", "multiply", "(III)V"⟩, 15), (⟨"EnclosedDigitsModel", "trim", "(II)V"⟩, 15), (⟨"EnclosedDigitsModel", "copyTo", "(II)V"⟩, 15), (⟨"EnclosedDigitsModel", "rounded", "(IIIZ)V"⟩, 15), (⟨"EnclosedDigitsModel", "divide", "(III)V"⟩, 15), (⟨"EnclosedDigitsModel", "compareSizes", "(II)I"⟩, 15), (⟨"EnclosedDigitsModel", "timesSmall", "(IJ)V"⟩, 15)]
theorem lw_r2 : ∀ q ∈ lw_privs_2, lw_okq q := List.forall_mem_cons.mpr ⟨lw_p16, List.forall_mem_cons.mpr ⟨lw_p17, List.forall_mem_cons.mpr ⟨lw_p18, List.forall_mem_cons.mpr ⟨lw_p19, List.forall_mem_cons.mpr ⟨lw_p20, List.forall_mem_cons.mpr ⟨lw_p21, List.forall_mem_cons.mpr ⟨lw_p22, List.forall_mem_cons.mpr ⟨lw_p23, List.forall_mem_cons.mpr ⟨lw_p24, List.forall_mem_cons.mpr ⟨lw_p25, List.forall_mem_cons.mpr ⟨lw_p26, List.forall_mem_cons.mpr ⟨lw_p27, List.forall_mem_cons.mpr ⟨lw_p28, List.forall_mem_cons.mpr ⟨lw_p29, List.forall_mem_cons.mpr ⟨lw_p30, List.forall_mem_cons.mpr ⟨lw_p31, fun _ h => absurd h List.not_mem_nil⟩⟩⟩⟩⟩⟩⟩⟩⟩⟩⟩⟩⟩⟩⟩⟩
theorem lw_p32 : lw_okq (⟨"EnclosedDigitsModel", "placeOf", "(IIII)I"⟩, 15) := ⟨⟨by decide +kernel, by decide +kernel⟩, List.mem_of_getElem? (i := 641) (by decide +kernel), List.mem_of_getElem? (i := 800) (by decide +kernel), List.mem_of_getElem? (i := 801) (by decide +kernel)⟩
theorem lw_p33 : lw_okq (⟨"EnclosedDigitsModel", "bySmall", "(IJ)J"⟩, 15) := ⟨⟨by decide +kernel, by decide +kernel⟩, List.mem_of_getElem? (i := 641) (by decide +kernel), List.mem_of_getElem? (i := 804) (by decide +kernel), List.mem_of_getElem? (i := 805) (by decide +kernel)⟩
theorem lw_p34 : lw_okq (⟨"EnclosedDigitsModel", "addTo", "(IIII)V"⟩, 15) := ⟨⟨by decide +kernel, by decide +kernel⟩, List.mem_of_getElem? (i := 641) (by decide +kernel), List.mem_of_getElem? (i := 808) (by decide +kernel), List.mem_of_getElem? (i := 809) (by decide +kernel)⟩
theorem lw_p35 : lw_okq (⟨"EnclosedDigitsModel", "addSizes", "(III)V"⟩, 15) := ⟨⟨by decide +kernel, by decide +kernel⟩, List.mem_of_getElem? (i := 641) (by decide +kernel), List.mem_of_getElem? (i := 812) (by decide +kernel), List.mem_of_getElem? (i := 813) (by decide +kernel)⟩
theorem lw_p36 : lw_okq (⟨"EnclosedDigitsModel", "takeSizes", "(IIII)V"⟩, 15) := ⟨⟨by decide +kernel, by decide +kernel⟩, List.mem_of_getElem? (i := 641) (by decide +kernel), List.mem_of_getElem? (i := 816) (by decide +kernel), List.mem_of_getElem? (i := 817) (by decide +kernel)⟩
theorem lw_p37 : lw_okq (⟨"EnclosedDigitsModel", "findFloor", "(II)V"⟩, 15) := ⟨⟨by decide +kernel, by decide +kernel⟩, List.mem_of_getElem? (i := 641) (by decide +kernel), List.mem_of_getElem? (i := 820) (by decide +kernel), List.mem_of_getElem? (i := 821) (by decide +kernel)⟩
theorem lw_p38 : lw_okq (⟨"EnclosedDigitsModel", "sumOfPower", "(I)J"⟩, 15) := ⟨⟨by decide +kernel, by decide +kernel⟩, List.mem_of_getElem? (i := 641) (by decide +kernel), List.mem_of_getElem? (i := 824) (by decide +kernel), List.mem_of_getElem? (i := 825) (by decide +kernel)⟩
theorem lw_p39 : lw_okq (⟨"EnclosedDigitsModel", "sumOfMembers", "(I)J"⟩, 15) := ⟨⟨by decide +kernel, by decide +kernel⟩, List.mem_of_getElem? (i := 641) (by decide +kernel), List.mem_of_getElem? (i := 830) (by decide +kernel), List.mem_of_getElem? (i := 831) (by decide +kernel)⟩
theorem lw_p40 : lw_okq (⟨"EnclosedDigitsModel", "compareTo", "(II)I"⟩, 15) := ⟨⟨by decide +kernel, by decide +kernel⟩, List.mem_of_getElem? (i := 641) (by decide +kernel), List.mem_of_getElem? (i := 836) (by decide +kernel), List.mem_of_getElem? (i := 837) (by decide +kernel)⟩
theorem lw_p41 : lw_okq (⟨"EnclosedDigitsModel", "isRoot", "(II)Z"⟩, 15) := ⟨⟨by decide +kernel, by decide +kernel⟩, List.mem_of_getElem? (i := 641) (by decide +kernel), List.mem_of_getElem? (i := 840) (by decide +kernel), List.mem_of_getElem? (i := 841) (by decide +kernel)⟩
theorem lw_p42 : lw_okq (⟨"EnclosedDigitsModel", "rootOf", "(II)V"⟩, 15) := ⟨⟨by decide +kernel, by decide +kernel⟩, List.mem_of_getElem? (i := 641) (by decide +kernel), List.mem_of_getElem? (i := 844) (by decide +kernel), List.mem_of_getElem? (i := 845) (by decide +kernel)⟩
theorem lw_p43 : lw_okq (⟨"EnclosedDigitsModel", "digitsOf", "(I)I"⟩, 15) := ⟨⟨by decide +kernel, by decide +kernel⟩, List.mem_of_getElem? (i := 641) (by decide +kernel), List.mem_of_getElem? (i := 848) (by decide +kernel), List.mem_of_getElem? (i := 849) (by decide +kernel)⟩
theorem lw_p44 : lw_okq (⟨"EnclosedDigitsModel", "isJoined", "(IIII)Z"⟩, 15) := ⟨⟨by decide +kernel, by decide +kernel⟩, List.mem_of_getElem? (i := 641) (by decide +kernel), List.mem_of_getElem? (i := 852) (by decide +kernel), List.mem_of_getElem? (i := 853) (by decide +kernel)⟩
theorem lw_p45 : lw_okq (⟨"EnclosedDigitsModel", "digitOf", "(II)I"⟩, 15) := ⟨⟨by decide +kernel, by decide +kernel⟩, List.mem_of_getElem? (i := 641) (by decide +kernel), List.mem_of_getElem? (i := 860) (by decide +kernel), List.mem_of_getElem? (i := 861) (by decide +kernel)⟩
theorem lw_p46 : lw_okq (⟨"EnclosedDigitsModel", "areSame", "(III)Z"⟩, 15) := ⟨⟨by decide +kernel, by decide +kernel⟩, List.mem_of_getElem? (i := 641) (by decide +kernel), List.mem_of_getElem? (i := 884) (by decide +kernel), List.mem_of_getElem? (i := 885) (by decide +kernel)⟩
theorem lw_p47 : lw_okq (⟨"EnclosedDigitsModel", "clipped", "(I)J"⟩, 15) := ⟨⟨by decide +kernel, by decide +kernel⟩, List.mem_of_getElem? (i := 641) (by decide +kernel), List.mem_of_getElem? (i := 888) (by decide +kernel), List.mem_of_getElem? (i := 889) (by decide +kernel)⟩
def lw_privs_3 : List (MethodName × Nat) := [(⟨"EnclosedDigitsModel", "placeOf", "(IIII)I"⟩, 15), (⟨"EnclosedDigitsModel", "bySmall", "(IJ)J"⟩, 15), (⟨"EnclosedDigitsModel", "addTo", "(IIII)V"⟩, 15), (⟨"EnclosedDigitsModel", "addSizes", "(III)V"⟩, 15), (⟨"EnclosedDigitsModel", "takeSizes", "(IIII)V"⟩, 15), (⟨"EnclosedDigitsModel", "findFloor", "(II)V"⟩, 15), (⟨"EnclosedDigitsModel", "sumOfPower", "(I)J"⟩, 15), (⟨"EnclosedDigitsModel", "sumOfMembers", "(I)J"⟩, 15), (⟨"EnclosedDigitsModel", "compareTo", "(II)I"⟩, 15), (⟨"EnclosedDigitsModel", "isRoot", "(II)Z"⟩, 15), (⟨"EnclosedDigitsModel", "rootOf", "(II)V"⟩, 15), (⟨"EnclosedDigitsModel", "digitsOf", "(I)I"⟩, 15), (⟨"EnclosedDigitsModel", "isJoined", "(IIII)Z"⟩, 15), (⟨"EnclosedDigitsModel", "digitOf", "(II)I"⟩, 15), (⟨"EnclosedDigitsModel", "areSame", "(III)Z"⟩, 15), (⟨"EnclosedDigitsModel", "clipped", "(I)J"⟩, 15)]
theorem lw_r3 : ∀ q ∈ lw_privs_3, lw_okq q := List.forall_mem_cons.mpr ⟨lw_p32, List.forall_mem_cons.mpr ⟨lw_p33, List.forall_mem_cons.mpr ⟨lw_p34, List.forall_mem_cons.mpr ⟨lw_p35, List.forall_mem_cons.mpr ⟨lw_p36, List.forall_mem_cons.mpr ⟨lw_p37, List.forall_mem_cons.mpr ⟨lw_p38, List.forall_mem_cons.mpr ⟨lw_p39, List.forall_mem_cons.mpr ⟨lw_p40, List.forall_mem_cons.mpr ⟨lw_p41, List.forall_mem_cons.mpr ⟨lw_p42, List.forall_mem_cons.mpr ⟨lw_p43, List.forall_mem_cons.mpr ⟨lw_p44, List.forall_mem_cons.mpr ⟨lw_p45, List.forall_mem_cons.mpr ⟨lw_p46, List.forall_mem_cons.mpr ⟨lw_p47, fun _ h => absurd h List.not_mem_nil⟩⟩⟩⟩⟩⟩⟩⟩⟩⟩⟩⟩⟩⟩⟩⟩
def lw_privs : List (MethodName × Nat) := lw_privs_1 ++ (lw_privs_2 ++ (lw_privs_3))
def lw_tbl : List Cond := k2_sels lw_privs ++ tables_1
theorem lw_privs_ok : ∀ q ∈ lw_privs, lw_okq q := by
  show ∀ q ∈ lw_privs_1 ++ (lw_privs_2 ++ (lw_privs_3)), lw_okq q
  exact List.forall_mem_append.mpr ⟨lw_r1, List.forall_mem_append.mpr ⟨lw_r2, lw_r3⟩⟩
-- ===== end of PART A; then your names; then what follows =====
end
section
def RX0 : String := "EnclosedDigits$Bench"
def TX0 : u_T := fun k => match k with
  | 0 => ("EnclosedDigits$Bench", "dividend", "LEnclosedDigits$Big;", true)
  | 1 => ("EnclosedDigits$Bench", "divisor", "LEnclosedDigits$Big;", true)
  | 2 => ("EnclosedDigits$Bench", "part", "LEnclosedDigits$Big;", true)
  | 3 => ("EnclosedDigits$Bench", "better", "LEnclosedDigits$Big;", true)
  | _ => ("EnclosedDigits$Bench", "rest", "LEnclosedDigits$Big;", true)
def tyX0 : Nat → FieldType := fun k => match k with
  | 0 => .object "EnclosedDigits$Big"
  | 1 => .object "EnclosedDigits$Big"
  | 2 => .object "EnclosedDigits$Big"
  | 3 => .object "EnclosedDigits$Big"
  | _ => .object "EnclosedDigits$Big"
abbrev wsX00 : List Cond := u_ws RX0 TX0 5
theorem nmX0 : ∀ a, a < 5 → ∀ b, b < 5 → a ≠ b → (TX0 a).2.1 ≠ (TX0 b).2.1 := by decide +kernel
theorem tyX0_ok : ∀ k, k < 5 → parseFieldDescriptor (TX0 k).2.2.1 = some (tyX0 k) := by decide +kernel
abbrev cX0_init : ByteArray := prog_2_method_1_code
def yX0_init : MethodName := ⟨RX0, "<init>", "()V"⟩
abbrev cX0_divide : ByteArray := prog_2_method_2_code
def yX0_divide : MethodName := ⟨RX0, "divide", "(LEnclosedDigits$Big;LEnclosedDigits$Big;LEnclosedDigits$Big;LEnclosedDigits$Big;)V"⟩
abbrev cX0_takeAway : ByteArray := prog_2_method_3_code
def yX0_takeAway : MethodName := ⟨RX0, "takeAway", "(I)I"⟩
abbrev cX0_guessLimb : ByteArray := prog_2_method_4_code
def yX0_guessLimb : MethodName := ⟨RX0, "guessLimb", "(II)J"⟩
abbrev cX0_giveBack : ByteArray := prog_2_method_5_code
def yX0_giveBack : MethodName := ⟨RX0, "giveBack", "(II)V"⟩
abbrev cX0_squareRoot : ByteArray := prog_2_method_6_code
def yX0_squareRoot : MethodName := ⟨RX0, "squareRoot", "(LEnclosedDigits$Big;LEnclosedDigits$Big;)Z"⟩
abbrev cX0_startAbove : ByteArray := prog_2_method_7_code
def yX0_startAbove : MethodName := ⟨RX0, "startAbove", "(LEnclosedDigits$Big;I)J"⟩
def RX1 : String := "EnclosedDigits$Big"
def TX1 : u_T := fun k => match k with
  | 0 => ("EnclosedDigits$Big", "sign", "I", false)
  | 1 => ("EnclosedDigits$Big", "size", "I", false)
  | _ => ("EnclosedDigits$Big", "limbs", "[I", false)
def tyX1 : Nat → FieldType := fun k => match k with
  | 0 => .int
  | 1 => .int
  | _ => .array .int
abbrev wsX10 : List Cond := u_ws RX1 TX1 3
theorem nmX1 : ∀ a, a < 3 → ∀ b, b < 3 → a ≠ b → (TX1 a).2.1 ≠ (TX1 b).2.1 := by decide +kernel
theorem tyX1_ok : ∀ k, k < 3 → parseFieldDescriptor (TX1 k).2.2.1 = some (tyX1 k) := by decide +kernel
abbrev cX1_init : ByteArray := prog_3_method_1_code
def yX1_init : MethodName := ⟨RX1, "<init>", "()V"⟩
abbrev cX1_limbAt : ByteArray := prog_3_method_2_code
def yX1_limbAt : MethodName := ⟨RX1, "limbAt", "(I)I"⟩
abbrev cX1_extend : ByteArray := prog_3_method_3_code
def yX1_extend : MethodName := ⟨RX1, "extend", "(I)V"⟩
abbrev cX1_trim : ByteArray := prog_3_method_4_code
def yX1_trim : MethodName := ⟨RX1, "trim", "(I)V"⟩
abbrev cX1_clear : ByteArray := prog_3_method_5_code
def yX1_clear : MethodName := ⟨RX1, "clear", "()V"⟩
abbrev cX1_copy : ByteArray := prog_3_method_6_code
def yX1_copy : MethodName := ⟨RX1, "copy", "(LEnclosedDigits$Big;)V"⟩
abbrev cX1_setLong : ByteArray := prog_3_method_7_code
def yX1_setLong : MethodName := ⟨RX1, "setLong", "(J)V"⟩
abbrev cX1_clamped : ByteArray := prog_3_method_8_code
def yX1_clamped : MethodName := ⟨RX1, "clamped", "()J"⟩
abbrev cX1_digitCount : ByteArray := prog_3_method_9_code
def yX1_digitCount : MethodName := ⟨RX1, "digitCount", "()I"⟩
abbrev cX1_digitAt : ByteArray := prog_3_method_10_code
def yX1_digitAt : MethodName := ⟨RX1, "digitAt", "(I)I"⟩
abbrev cX1_compareSizes : ByteArray := prog_3_method_11_code
def yX1_compareSizes : MethodName := ⟨RX1, "compareSizes", "(LEnclosedDigits$Big;)I"⟩
abbrev cX1_compare : ByteArray := prog_3_method_12_code
def yX1_compare : MethodName := ⟨RX1, "compare", "(LEnclosedDigits$Big;)I"⟩
abbrev cX1_grow : ByteArray := prog_3_method_13_code
def yX1_grow : MethodName := ⟨RX1, "grow", "(I)V"⟩
abbrev cX1_add : ByteArray := prog_3_method_14_code
def yX1_add : MethodName := ⟨RX1, "add", "(LEnclosedDigits$Big;)V"⟩
abbrev cX1_subtract : ByteArray := prog_3_method_15_code
def yX1_subtract : MethodName := ⟨RX1, "subtract", "(LEnclosedDigits$Big;)V"⟩
abbrev cX1_addLimbs : ByteArray := prog_3_method_16_code
def yX1_addLimbs : MethodName := ⟨RX1, "addLimbs", "(LEnclosedDigits$Big;I)V"⟩
abbrev cX1_subtractLimbs : ByteArray := prog_3_method_17_code
def yX1_subtractLimbs : MethodName := ⟨RX1, "subtractLimbs", "(LEnclosedDigits$Big;II)V"⟩
abbrev cX1_multiplySmall : ByteArray := prog_3_method_18_code
def yX1_multiplySmall : MethodName := ⟨RX1, "multiplySmall", "(J)V"⟩
abbrev cX1_multiplyLimbs : ByteArray := prog_3_method_19_code
def yX1_multiplyLimbs : MethodName := ⟨RX1, "multiplyLimbs", "(J)V"⟩
abbrev cX1_divideSmall : ByteArray := prog_3_method_20_code
def yX1_divideSmall : MethodName := ⟨RX1, "divideSmall", "(J)J"⟩
abbrev cX1_setProduct : ByteArray := prog_3_method_21_code
def yX1_setProduct : MethodName := ⟨RX1, "setProduct", "(LEnclosedDigits$Big;LEnclosedDigits$Big;)V"⟩
abbrev cX1_shiftUp : ByteArray := prog_3_method_22_code
def yX1_shiftUp : MethodName := ⟨RX1, "shiftUp", "(I)V"⟩
abbrev cX1_shrink : ByteArray := prog_3_method_23_code
def yX1_shrink : MethodName := ⟨RX1, "shrink", "(II)V"⟩
abbrev cX1_shiftDown : ByteArray := prog_3_method_24_code
def yX1_shiftDown : MethodName := ⟨RX1, "shiftDown", "(I)Z"⟩
def RX2 : String := "EnclosedDigits$Encloser"
def TX2 : u_T := fun k => match k with
  | 0 => ("EnclosedDigits$Encloser", "bench", "LEnclosedDigits$Bench;", true)
  | 1 => ("EnclosedDigits$Encloser", "series", "LEnclosedDigits$Series;", true)
  | 2 => ("EnclosedDigits$Encloser", "down", "LEnclosedDigits$Big;", true)
  | 3 => ("EnclosedDigits$Encloser", "up", "LEnclosedDigits$Big;", true)
  | 4 => ("EnclosedDigits$Encloser", "over", "LEnclosedDigits$Big;", true)
  | 5 => ("EnclosedDigits$Encloser", "under", "LEnclosedDigits$Big;", true)
  | _ => ("EnclosedDigits$Encloser", "rest", "LEnclosedDigits$Big;", true)
def tyX2 : Nat → FieldType := fun k => match k with
  | 0 => .object "EnclosedDigits$Bench"
  | 1 => .object "EnclosedDigits$Series"
  | 2 => .object "EnclosedDigits$Big"
  | 3 => .object "EnclosedDigits$Big"
  | 4 => .object "EnclosedDigits$Big"
  | 5 => .object "EnclosedDigits$Big"
  | _ => .object "EnclosedDigits$Big"
abbrev wsX20 : List Cond := u_ws RX2 TX2 7
theorem nmX2 : ∀ a, a < 7 → ∀ b, b < 7 → a ≠ b → (TX2 a).2.1 ≠ (TX2 b).2.1 := by decide +kernel
theorem tyX2_ok : ∀ k, k < 7 → parseFieldDescriptor (TX2 k).2.2.1 = some (tyX2 k) := by decide +kernel
abbrev cX2_init : ByteArray := prog_4_method_1_code
def yX2_init : MethodName := ⟨RX2, "<init>", "()V"⟩
abbrev cX2_enclosed : ByteArray := prog_4_method_2_code
def yX2_enclosed : MethodName := ⟨RX2, "enclosed", "([LEnclosedDigits$Value;II)LEnclosedDigits$Value;"⟩
abbrev cX2_neededFor : ByteArray := prog_4_method_3_code
def yX2_neededFor : MethodName := ⟨RX2, "neededFor", "([LEnclosedDigits$Value;II)J"⟩
abbrev cX2_isMarked : ByteArray := prog_4_method_4_code
def yX2_isMarked : MethodName := ⟨RX2, "isMarked", "(JI)Z"⟩
abbrev cX2_partOf : ByteArray := prog_4_method_5_code
def yX2_partOf : MethodName := ⟨RX2, "partOf", "([LEnclosedDigits$Value;II)LEnclosedDigits$Value;"⟩
abbrev cX2_isOpen : ByteArray := prog_4_method_6_code
def yX2_isOpen : MethodName := ⟨RX2, "isOpen", "(LEnclosedDigits$Value;)Z"⟩
abbrev cX2_isExact : ByteArray := prog_4_method_7_code
def yX2_isExact : MethodName := ⟨RX2, "isExact", "(LEnclosedDigits$Value;)Z"⟩
abbrev cX2_isTooLong : ByteArray := prog_4_method_8_code
def yX2_isTooLong : MethodName := ⟨RX2, "isTooLong", "(LEnclosedDigits$Big;)Z"⟩
abbrev cX2_fillWhole : ByteArray := prog_4_method_9_code
def yX2_fillWhole : MethodName := ⟨RX2, "fillWhole", "(LEnclosedDigits$Value;I)V"⟩
abbrev cX2_fillRatio : ByteArray := prog_4_method_10_code
def yX2_fillRatio : MethodName := ⟨RX2, "fillRatio", "(LEnclosedDigits$Value;I)V"⟩
abbrev cX2_fillFromFine : ByteArray := prog_4_method_11_code
def yX2_fillFromFine : MethodName := ⟨RX2, "fillFromFine", "(LEnclosedDigits$Value;I)V"⟩
abbrev cX2_fillSum : ByteArray := prog_4_method_12_code
def yX2_fillSum : MethodName := ⟨RX2, "fillSum", "(LEnclosedDigits$Value;LEnclosedDigits$Value;LEnclosedDigits$Value;)V"⟩
abbrev cX2_fillDifference : ByteArray := prog_4_method_13_code
def yX2_fillDifference : MethodName := ⟨RX2, "fillDifference", "(LEnclosedDigits$Value;LEnclosedDigits$Value;LEnclosedDigits$Value;)V"⟩
abbrev cX2_fillRoot : ByteArray := prog_4_method_14_code
def yX2_fillRoot : MethodName := ⟨RX2, "fillRoot", "(LEnclosedDigits$Value;LEnclosedDigits$Value;I)V"⟩
abbrev cX2_fillCorners : ByteArray := prog_4_method_15_code
def yX2_fillCorners : MethodName := ⟨RX2, "fillCorners", "(LEnclosedDigits$Value;LEnclosedDigits$Value;LEnclosedDigits$Value;I)V"⟩
abbrev cX2_multiplyBothWays : ByteArray := prog_4_method_16_code
def yX2_multiplyBothWays : MethodName := ⟨RX2, "multiplyBothWays", "(LEnclosedDigits$Big;LEnclosedDigits$Big;I)V"⟩
abbrev cX2_divideBothWays : ByteArray := prog_4_method_17_code
def yX2_divideBothWays : MethodName := ⟨RX2, "divideBothWays", "(LEnclosedDigits$Big;LEnclosedDigits$Big;)V"⟩
def RX3 : String := "EnclosedDigits$Fraction"
def TX3 : u_T := fun k => match k with
  | 0 => ("EnclosedDigits$Fraction", "over", "LEnclosedDigits$Big;", false)
  | 1 => ("EnclosedDigits$Fraction", "under", "LEnclosedDigits$Big;", false)
  | 2 => ("EnclosedDigits$Fraction", "rest", "LEnclosedDigits$Big;", false)
  | _ => ("EnclosedDigits$Fraction", "latest", "LEnclosedDigits$Big;", true)
def tyX3 : Nat → FieldType := fun k => match k with
  | 0 => .object "EnclosedDigits$Big"
  | 1 => .object "EnclosedDigits$Big"
  | 2 => .object "EnclosedDigits$Big"
  | _ => .object "EnclosedDigits$Big"
abbrev wsX30 : List Cond := u_ws RX3 TX3 4
theorem nmX3 : ∀ a, a < 4 → ∀ b, b < 4 → a ≠ b → (TX3 a).2.1 ≠ (TX3 b).2.1 := by decide +kernel
theorem tyX3_ok : ∀ k, k < 4 → parseFieldDescriptor (TX3 k).2.2.1 = some (tyX3 k) := by decide +kernel
abbrev cX3_init : ByteArray := prog_5_method_1_code
def yX3_init : MethodName := ⟨RX3, "<init>", "()V"⟩
abbrev cX3_start : ByteArray := prog_5_method_2_code
def yX3_start : MethodName := ⟨RX3, "start", "(LEnclosedDigits$Big;I)V"⟩
abbrev cX3_step : ByteArray := prog_5_method_3_code
def yX3_step : MethodName := ⟨RX3, "step", "(LEnclosedDigits$Bench;)Z"⟩
abbrev cX3_roundDown : ByteArray := prog_5_method_4_code
def yX3_roundDown : MethodName := ⟨RX3, "roundDown", "()V"⟩
def RX4 : String := "EnclosedDigits$Series"
def TX4 : u_T := fun k => match k with
  | 0 => ("EnclosedDigits$Series", "term", "LEnclosedDigits$Big;", true)
  | 1 => ("EnclosedDigits$Series", "part", "LEnclosedDigits$Big;", true)
  | 2 => ("EnclosedDigits$Series", "plus", "LEnclosedDigits$Big;", true)
  | 3 => ("EnclosedDigits$Series", "minus", "LEnclosedDigits$Big;", true)
  | _ => ("EnclosedDigits$Series", "slack", "LEnclosedDigits$Big;", true)
def tyX4 : Nat → FieldType := fun k => match k with
  | 0 => .object "EnclosedDigits$Big"
  | 1 => .object "EnclosedDigits$Big"
  | 2 => .object "EnclosedDigits$Big"
  | 3 => .object "EnclosedDigits$Big"
  | _ => .object "EnclosedDigits$Big"
abbrev wsX40 : List Cond := u_ws RX4 TX4 5
theorem nmX4 : ∀ a, a < 5 → ∀ b, b < 5 → a ≠ b → (TX4 a).2.1 ≠ (TX4 b).2.1 := by decide +kernel
theorem tyX4_ok : ∀ k, k < 5 → parseFieldDescriptor (TX4 k).2.2.1 = some (tyX4 k) := by decide +kernel
abbrev cX4_init : ByteArray := prog_6_method_1_code
def yX4_init : MethodName := ⟨RX4, "<init>", "()V"⟩
abbrev cX4_refine : ByteArray := prog_6_method_2_code
def yX4_refine : MethodName := ⟨RX4, "refine", "(LEnclosedDigits$Value;I)V"⟩
abbrev cX4_sumTangent : ByteArray := prog_6_method_3_code
def yX4_sumTangent : MethodName := ⟨RX4, "sumTangent", "(JZI)V"⟩
abbrev cX4_sumPower : ByteArray := prog_6_method_4_code
def yX4_sumPower : MethodName := ⟨RX4, "sumPower", "(JJI)V"⟩
def RX5 : String := "EnclosedDigits$Value"
def TX5 : u_T := fun k => match k with
  | 0 => ("EnclosedDigits$Value", "kind", "I", false)
  | 1 => ("EnclosedDigits$Value", "a", "J", false)
  | 2 => ("EnclosedDigits$Value", "b", "J", false)
  | 3 => ("EnclosedDigits$Value", "first", "I", false)
  | 4 => ("EnclosedDigits$Value", "second", "I", false)
  | 5 => ("EnclosedDigits$Value", "at", "I", false)
  | 6 => ("EnclosedDigits$Value", "open", "Z", false)
  | 7 => ("EnclosedDigits$Value", "low", "LEnclosedDigits$Big;", true)
  | 8 => ("EnclosedDigits$Value", "high", "LEnclosedDigits$Big;", true)
  | 9 => ("EnclosedDigits$Value", "fineAt", "I", false)
  | _ => ("EnclosedDigits$Value", "fine", "LEnclosedDigits$Big;", true)
def tyX5 : Nat → FieldType := fun k => match k with
  | 0 => .int
  | 1 => .long
  | 2 => .long
  | 3 => .int
  | 4 => .int
  | 5 => .int
  | 6 => .boolean
  | 7 => .object "EnclosedDigits$Big"
  | 8 => .object "EnclosedDigits$Big"
  | 9 => .int
  | _ => .object "EnclosedDigits$Big"
abbrev wsX50 : List Cond := u_ws RX5 TX5 11
theorem nmX5 : ∀ a, a < 11 → ∀ b, b < 11 → a ≠ b → (TX5 a).2.1 ≠ (TX5 b).2.1 := by decide +kernel
theorem tyX5_ok : ∀ k, k < 11 → parseFieldDescriptor (TX5 k).2.2.1 = some (tyX5 k) := by decide +kernel
abbrev cX5_init : ByteArray := prog_7_method_1_code
def yX5_init : MethodName := ⟨RX5, "<init>", "()V"⟩
abbrev cX5_become : ByteArray := prog_7_method_2_code
def yX5_become : MethodName := ⟨RX5, "become", "(IJJ)V"⟩
abbrev cX5_stemFrom : ByteArray := prog_7_method_3_code
def yX5_stemFrom : MethodName := ⟨RX5, "stemFrom", "(II)V"⟩
def RX6 : String := "EnclosedDigits"
def TX6 : u_T := fun k => match k with
  | 0 => ("EnclosedDigits", "slots", "[LEnclosedDigits$Value;", true)
  | 1 => ("EnclosedDigits", "count", "I", false)
  | 2 => ("EnclosedDigits", "encloser", "LEnclosedDigits$Encloser;", true)
  | 3 => ("EnclosedDigits", "shown", "LEnclosedDigits$Big;", true)
  | 4 => ("EnclosedDigits", "shownToo", "LEnclosedDigits$Big;", true)
  | 5 => ("EnclosedDigits", "theDigits", "LEnclosedDigits$Big;", true)
  | 6 => ("EnclosedDigits", "theLength", "I", false)
  | 7 => ("EnclosedDigits", "lowBound", "LEnclosedDigits$Big;", true)
  | 8 => ("EnclosedDigits", "highBound", "LEnclosedDigits$Big;", true)
  | 9 => ("EnclosedDigits", "lowFraction", "LEnclosedDigits$Fraction;", true)
  | 10 => ("EnclosedDigits", "highFraction", "LEnclosedDigits$Fraction;", true)
  | 11 => ("EnclosedDigits", "theQuotients", "[J", true)
  | 12 => ("EnclosedDigits", "foundQuotients", "[J", true)
  | 13 => ("EnclosedDigits", "quotientCount", "I", false)
  | _ => ("EnclosedDigits", "settledAt", "I", false)
def tyX6 : Nat → FieldType := fun k => match k with
  | 0 => .array (.object "EnclosedDigits$Value")
  | 1 => .int
  | 2 => .object "EnclosedDigits$Encloser"
  | 3 => .object "EnclosedDigits$Big"
  | 4 => .object "EnclosedDigits$Big"
  | 5 => .object "EnclosedDigits$Big"
  | 6 => .int
  | 7 => .object "EnclosedDigits$Big"
  | 8 => .object "EnclosedDigits$Big"
  | 9 => .object "EnclosedDigits$Fraction"
  | 10 => .object "EnclosedDigits$Fraction"
  | 11 => .array .long
  | 12 => .array .long
  | 13 => .int
  | _ => .int
abbrev wsX60 : List Cond := u_ws RX6 TX6 15
theorem nmX6 : ∀ a, a < 15 → ∀ b, b < 15 → a ≠ b → (TX6 a).2.1 ≠ (TX6 b).2.1 := by decide +kernel
theorem tyX6_ok : ∀ k, k < 15 → parseFieldDescriptor (TX6 k).2.2.1 = some (tyX6 k) := by decide +kernel
abbrev cX6_init : ByteArray := prog_1_method_1_code
def yX6_init : MethodName := ⟨RX6, "<init>", "()V"⟩
abbrev cX6_whole : ByteArray := prog_1_method_2_code
def yX6_whole : MethodName := ⟨RX6, "whole", "(J)I"⟩
abbrev cX6_ratio : ByteArray := prog_1_method_3_code
def yX6_ratio : MethodName := ⟨RX6, "ratio", "(JJ)I"⟩
abbrev cX6_arctan : ByteArray := prog_1_method_4_code
def yX6_arctan : MethodName := ⟨RX6, "arctan", "(I)I"⟩
abbrev cX6_artanh : ByteArray := prog_1_method_5_code
def yX6_artanh : MethodName := ⟨RX6, "artanh", "(I)I"⟩
abbrev cX6_power : ByteArray := prog_1_method_6_code
def yX6_power : MethodName := ⟨RX6, "power", "(II)I"⟩
abbrev cX6_root : ByteArray := prog_1_method_7_code
def yX6_root : MethodName := ⟨RX6, "root", "(I)I"⟩
abbrev cX6_join : ByteArray := prog_1_method_8_code
def yX6_join : MethodName := ⟨RX6, "join", "(III)I"⟩
abbrev cX6_drop : ByteArray := prog_1_method_9_code
def yX6_drop : MethodName := ⟨RX6, "drop", "(I)I"⟩
abbrev cX6_values : ByteArray := prog_1_method_10_code
def yX6_values : MethodName := ⟨RX6, "values", "()I"⟩
abbrev cX6_digits : ByteArray := prog_1_method_11_code
def yX6_digits : MethodName := ⟨RX6, "digits", "(II)I"⟩
abbrev cX6_digit : ByteArray := prog_1_method_12_code
def yX6_digit : MethodName := ⟨RX6, "digit", "(I)I"⟩
abbrev cX6_length : ByteArray := prog_1_method_13_code
def yX6_length : MethodName := ⟨RX6, "length", "()I"⟩
abbrev cX6_enclose : ByteArray := prog_1_method_14_code
def yX6_enclose : MethodName := ⟨RX6, "enclose", "(II)I"⟩
abbrev cX6_bound : ByteArray := prog_1_method_15_code
def yX6_bound : MethodName := ⟨RX6, "bound", "(II)I"⟩
abbrev cX6_order : ByteArray := prog_1_method_16_code
def yX6_order : MethodName := ⟨RX6, "order", "(II)I"⟩
abbrev cX6_quotients : ByteArray := prog_1_method_17_code
def yX6_quotients : MethodName := ⟨RX6, "quotients", "(II)I"⟩
abbrev cX6_quotient : ByteArray := prog_1_method_18_code
def yX6_quotient : MethodName := ⟨RX6, "quotient", "(I)J"⟩
abbrev cX6_many : ByteArray := prog_1_method_19_code
def yX6_many : MethodName := ⟨RX6, "many", "()I"⟩
abbrev cX6_precision : ByteArray := prog_1_method_20_code
def yX6_precision : MethodName := ⟨RX6, "precision", "()I"⟩
abbrev cX6_isValue : ByteArray := prog_1_method_21_code
def yX6_isValue : MethodName := ⟨RX6, "isValue", "(I)Z"⟩
abbrev cX6_make : ByteArray := prog_1_method_22_code
def yX6_make : MethodName := ⟨RX6, "make", "(IJJII)I"⟩
abbrev cX6_digitsAreTold : ByteArray := prog_1_method_23_code
def yX6_digitsAreTold : MethodName := ⟨RX6, "digitsAreTold", "(LEnclosedDigits$Value;I)Z"⟩
abbrev cX6_sideOf : ByteArray := prog_1_method_24_code
def yX6_sideOf : MethodName := ⟨RX6, "sideOf", "(LEnclosedDigits$Value;LEnclosedDigits$Value;)I"⟩
abbrev cX6_quotientsAreTold : ByteArray := prog_1_method_25_code
def yX6_quotientsAreTold : MethodName := ⟨RX6, "quotientsAreTold", "(LEnclosedDigits$Value;II)Z"⟩
def RX7 : String := "EnclosedDigitsModel"
def TX7 : u_T := fun k => match k with
  | 0 => ("EnclosedDigitsModel", "code", "I", false)
  | 1 => ("EnclosedDigitsModel", "cells", "[I", true)
  | 2 => ("EnclosedDigitsModel", "sizes", "[I", true)
  | 3 => ("EnclosedDigitsModel", "signs", "[I", true)
  | 4 => ("EnclosedDigitsModel", "kinds", "[I", true)
  | 5 => ("EnclosedDigitsModel", "ones", "[J", true)
  | 6 => ("EnclosedDigitsModel", "twos", "[J", true)
  | 7 => ("EnclosedDigitsModel", "isOpen", "[Z", true)
  | 8 => ("EnclosedDigitsModel", "needed", "[Z", true)
  | 9 => ("EnclosedDigitsModel", "count", "I", false)
  | 10 => ("EnclosedDigitsModel", "hasDigits", "Z", false)
  | 11 => ("EnclosedDigitsModel", "parts", "[J", true)
  | 12 => ("EnclosedDigitsModel", "partCount", "I", false)
  | 13 => ("EnclosedDigitsModel", "told", "I", false)
  | _ => ("EnclosedDigitsModel", "found", "[J", true)
def tyX7 : Nat → FieldType := fun k => match k with
  | 0 => .int
  | 1 => .array .int
  | 2 => .array .int
  | 3 => .array .int
  | 4 => .array .int
  | 5 => .array .long
  | 6 => .array .long
  | 7 => .array .boolean
  | 8 => .array .boolean
  | 9 => .int
  | 10 => .boolean
  | 11 => .array .long
  | 12 => .int
  | 13 => .int
  | _ => .array .long
abbrev wsX70 : List Cond := u_ws RX7 TX7 15
theorem nmX7 : ∀ a, a < 15 → ∀ b, b < 15 → a ≠ b → (TX7 a).2.1 ≠ (TX7 b).2.1 := by decide +kernel
theorem tyX7_ok : ∀ k, k < 15 → parseFieldDescriptor (TX7 k).2.2.1 = some (tyX7 k) := by decide +kernel
abbrev cX7_init : ByteArray := prog_9_method_1_code
def yX7_init : MethodName := ⟨RX7, "<init>", "()V"⟩
abbrev cX7_setTo : ByteArray := prog_9_method_3_code
def yX7_setTo : MethodName := ⟨RX7, "setTo", "(IJ)V"⟩
abbrev cX7_copyTo : ByteArray := prog_9_method_4_code
def yX7_copyTo : MethodName := ⟨RX7, "copyTo", "(II)V"⟩
abbrev cX7_trim : ByteArray := prog_9_method_5_code
def yX7_trim : MethodName := ⟨RX7, "trim", "(II)V"⟩
abbrev cX7_compareSizes : ByteArray := prog_9_method_6_code
def yX7_compareSizes : MethodName := ⟨RX7, "compareSizes", "(II)I"⟩
abbrev cX7_compareTo : ByteArray := prog_9_method_7_code
def yX7_compareTo : MethodName := ⟨RX7, "compareTo", "(II)I"⟩
abbrev cX7_addTo : ByteArray := prog_9_method_8_code
def yX7_addTo : MethodName := ⟨RX7, "addTo", "(IIII)V"⟩
abbrev cX7_addSizes : ByteArray := prog_9_method_9_code
def yX7_addSizes : MethodName := ⟨RX7, "addSizes", "(III)V"⟩
abbrev cX7_takeSizes : ByteArray := prog_9_method_10_code
def yX7_takeSizes : MethodName := ⟨RX7, "takeSizes", "(IIII)V"⟩
abbrev cX7_multiply : ByteArray := prog_9_method_11_code
def yX7_multiply : MethodName := ⟨RX7, "multiply", "(III)V"⟩
abbrev cX7_timesSmall : ByteArray := prog_9_method_12_code
def yX7_timesSmall : MethodName := ⟨RX7, "timesSmall", "(IJ)V"⟩
abbrev cX7_bySmall : ByteArray := prog_9_method_13_code
def yX7_bySmall : MethodName := ⟨RX7, "bySmall", "(IJ)J"⟩
abbrev cX7_divide : ByteArray := prog_9_method_14_code
def yX7_divide : MethodName := ⟨RX7, "divide", "(III)V"⟩
abbrev cX7_placeOf : ByteArray := prog_9_method_15_code
def yX7_placeOf : MethodName := ⟨RX7, "placeOf", "(IIII)I"⟩
abbrev cX7_rounded : ByteArray := prog_9_method_16_code
def yX7_rounded : MethodName := ⟨RX7, "rounded", "(IIIZ)V"⟩
abbrev cX7_powerOfTen : ByteArray := prog_9_method_17_code
def yX7_powerOfTen : MethodName := ⟨RX7, "powerOfTen", "(II)V"⟩
abbrev cX7_digitsOf : ByteArray := prog_9_method_18_code
def yX7_digitsOf : MethodName := ⟨RX7, "digitsOf", "(I)I"⟩
abbrev cX7_digitOf : ByteArray := prog_9_method_19_code
def yX7_digitOf : MethodName := ⟨RX7, "digitOf", "(II)I"⟩
abbrev cX7_low : ByteArray := prog_9_method_20_code
def yX7_low : MethodName := ⟨RX7, "low", "(I)I"⟩
abbrev cX7_add : ByteArray := prog_9_method_21_code
def yX7_add : MethodName := ⟨RX7, "add", "(IJJ)I"⟩
abbrev cX7_whole : ByteArray := prog_9_method_22_code
def yX7_whole : MethodName := ⟨RX7, "whole", "(J)I"⟩
abbrev cX7_ratio : ByteArray := prog_9_method_23_code
def yX7_ratio : MethodName := ⟨RX7, "ratio", "(JJ)I"⟩
abbrev cX7_isX : ByteArray := prog_9_method_24_code
def yX7_isX : MethodName := ⟨RX7, "isX", "(I)Z"⟩
abbrev cX7_arctan : ByteArray := prog_9_method_25_code
def yX7_arctan : MethodName := ⟨RX7, "arctan", "(I)I"⟩
abbrev cX7_artanh : ByteArray := prog_9_method_26_code
def yX7_artanh : MethodName := ⟨RX7, "artanh", "(I)I"⟩
abbrev cX7_power : ByteArray := prog_9_method_27_code
def yX7_power : MethodName := ⟨RX7, "power", "(II)I"⟩
abbrev cX7_isValue : ByteArray := prog_9_method_28_code
def yX7_isValue : MethodName := ⟨RX7, "isValue", "(I)Z"⟩
abbrev cX7_root : ByteArray := prog_9_method_29_code
def yX7_root : MethodName := ⟨RX7, "root", "(I)I"⟩
abbrev cX7_join : ByteArray := prog_9_method_30_code
def yX7_join : MethodName := ⟨RX7, "join", "(III)I"⟩
abbrev cX7_drop : ByteArray := prog_9_method_31_code
def yX7_drop : MethodName := ⟨RX7, "drop", "(I)I"⟩
abbrev cX7_values : ByteArray := prog_9_method_32_code
def yX7_values : MethodName := ⟨RX7, "values", "()I"⟩
abbrev cX7_need : ByteArray := prog_9_method_33_code
def yX7_need : MethodName := ⟨RX7, "need", "(I)V"⟩
abbrev cX7_isEnclosed : ByteArray := prog_9_method_34_code
def yX7_isEnclosed : MethodName := ⟨RX7, "isEnclosed", "(II)Z"⟩
abbrev cX7_isBound : ByteArray := prog_9_method_35_code
def yX7_isBound : MethodName := ⟨RX7, "isBound", "(II)Z"⟩
abbrev cX7_isRoot : ByteArray := prog_9_method_36_code
def yX7_isRoot : MethodName := ⟨RX7, "isRoot", "(II)Z"⟩
abbrev cX7_rootOf : ByteArray := prog_9_method_37_code
def yX7_rootOf : MethodName := ⟨RX7, "rootOf", "(II)V"⟩
abbrev cX7_isJoined : ByteArray := prog_9_method_38_code
def yX7_isJoined : MethodName := ⟨RX7, "isJoined", "(IIII)Z"⟩
abbrev cX7_findFloor : ByteArray := prog_9_method_39_code
def yX7_findFloor : MethodName := ⟨RX7, "findFloor", "(II)V"⟩
abbrev cX7_sumOfMembers : ByteArray := prog_9_method_40_code
def yX7_sumOfMembers : MethodName := ⟨RX7, "sumOfMembers", "(I)J"⟩
abbrev cX7_sumOfPower : ByteArray := prog_9_method_41_code
def yX7_sumOfPower : MethodName := ⟨RX7, "sumOfPower", "(I)J"⟩
abbrev cX7_enclose : ByteArray := prog_9_method_42_code
def yX7_enclose : MethodName := ⟨RX7, "enclose", "(II)I"⟩
abbrev cX7_bound : ByteArray := prog_9_method_43_code
def yX7_bound : MethodName := ⟨RX7, "bound", "(II)I"⟩
abbrev cX7_digits : ByteArray := prog_9_method_44_code
def yX7_digits : MethodName := ⟨RX7, "digits", "(II)I"⟩
abbrev cX7_digit : ByteArray := prog_9_method_45_code
def yX7_digit : MethodName := ⟨RX7, "digit", "(I)I"⟩
abbrev cX7_length : ByteArray := prog_9_method_46_code
def yX7_length : MethodName := ⟨RX7, "length", "()I"⟩
abbrev cX7_order : ByteArray := prog_9_method_47_code
def yX7_order : MethodName := ⟨RX7, "order", "(II)I"⟩
abbrev cX7_clipped : ByteArray := prog_9_method_48_code
def yX7_clipped : MethodName := ⟨RX7, "clipped", "(I)J"⟩
abbrev cX7_quotients : ByteArray := prog_9_method_49_code
def yX7_quotients : MethodName := ⟨RX7, "quotients", "(II)I"⟩
abbrev cX7_areSame : ByteArray := prog_9_method_50_code
def yX7_areSame : MethodName := ⟨RX7, "areSame", "(III)Z"⟩
abbrev cX7_quotient : ByteArray := prog_9_method_51_code
def yX7_quotient : MethodName := ⟨RX7, "quotient", "(I)J"⟩
abbrev cX7_many : ByteArray := prog_9_method_52_code
def yX7_many : MethodName := ⟨RX7, "many", "()I"⟩
abbrev cX7_precision : ByteArray := prog_9_method_53_code
def yX7_precision : MethodName := ⟨RX7, "precision", "()I"⟩
def RJx8e188 : String := "java/lang/Cloneable"
def TJx8e188 : u_T := fun k => match k with
  | _ => ("", "", "", false)
def tyJx8e188 : Nat → FieldType := fun k => match k with
  | _ => .int
abbrev wsJx8e1880 : List Cond := u_ws RJx8e188 TJx8e188 0
theorem nmJx8e188 : ∀ a, a < 0 → ∀ b, b < 0 → a ≠ b → (TJx8e188 a).2.1 ≠ (TJx8e188 b).2.1 := by decide +kernel
theorem tyJx8e188_ok : ∀ k, k < 0 → parseFieldDescriptor (TJx8e188 k).2.2.1 = some (tyJx8e188 k) := by decide +kernel
def RJ9 : String := "java/lang/Math"
def TJ9 : u_T := fun k => match k with
  | _ => ("", "", "", false)
def tyJ9 : Nat → FieldType := fun k => match k with
  | _ => .int
abbrev wsJ90 : List Cond := u_ws RJ9 TJ9 0
theorem nmJ9 : ∀ a, a < 0 → ∀ b, b < 0 → a ≠ b → (TJ9 a).2.1 ≠ (TJ9 b).2.1 := by decide +kernel
theorem tyJ9_ok : ∀ k, k < 0 → parseFieldDescriptor (TJ9 k).2.2.1 = some (tyJ9 k) := by decide +kernel
abbrev cJ9_abs_0f7a4 : ByteArray := prog_11_method_59_code
def yJ9_abs_0f7a4 : MethodName := ⟨RJ9, "abs", "(I)I"⟩
abbrev cJ9_abs_067f4 : ByteArray := prog_11_method_61_code
def yJ9_abs_067f4 : MethodName := ⟨RJ9, "abs", "(J)J"⟩
abbrev cJ9_max_7cf53 : ByteArray := prog_11_method_65_code
def yJ9_max_7cf53 : MethodName := ⟨RJ9, "max", "(II)I"⟩
abbrev cJ9_min_7cf53 : ByteArray := prog_11_method_69_code
def yJ9_min_7cf53 : MethodName := ⟨RJ9, "min", "(II)I"⟩
abbrev cJ9_min_f86c9 : ByteArray := prog_11_method_70_code
def yJ9_min_f86c9 : MethodName := ⟨RJ9, "min", "(JJ)J"⟩
def RJ10 : String := "java/lang/System"
def TJ10 : u_T := fun k => match k with
  | _ => ("", "", "", false)
def tyJ10 : Nat → FieldType := fun k => match k with
  | _ => .int
abbrev wsJ100 : List Cond := u_ws RJ10 TJ10 0
theorem nmJ10 : ∀ a, a < 0 → ∀ b, b < 0 → a ≠ b → (TJ10 a).2.1 ≠ (TJ10 b).2.1 := by decide +kernel
theorem tyJ10_ok : ∀ k, k < 0 → parseFieldDescriptor (TJ10 k).2.2.1 = some (tyJ10 k) := by decide +kernel
def RJ7 : String := "java/util/Arrays"
def TJ7 : u_T := fun k => match k with
  | _ => ("", "", "", false)
def tyJ7 : Nat → FieldType := fun k => match k with
  | _ => .int
abbrev wsJ70 : List Cond := u_ws RJ7 TJ7 0
theorem nmJ7 : ∀ a, a < 0 → ∀ b, b < 0 → a ≠ b → (TJ7 a).2.1 ≠ (TJ7 b).2.1 := by decide +kernel
theorem tyJ7_ok : ∀ k, k < 0 → parseFieldDescriptor (TJ7 k).2.2.1 = some (tyJ7 k) := by decide +kernel
abbrev cJ7_rangeCheck_23922 : ByteArray := prog_13_method_30_code
def yJ7_rangeCheck_23922 : MethodName := ⟨RJ7, "rangeCheck", "(III)V"⟩
abbrev cJ7_fill_fda19 : ByteArray := prog_13_method_104_code
def yJ7_fill_fda19 : MethodName := ⟨RJ7, "fill", "([IIII)V"⟩
abbrev cJ7_copyOf_59c91 : ByteArray := prog_13_method_123_code
def yJ7_copyOf_59c91 : MethodName := ⟨RJ7, "copyOf", "([II)[I"⟩
def RL : String := "EnclosedDigitsLaw"
abbrev cL_law : ByteArray := code
def yL_law : MethodName := ⟨RL, "law", "([I)Z"⟩
abbrev vwCl : List vw_C := [(RX0, TX0, 5), (RX1, TX1, 3), (RX2, TX2, 7), (RX3, TX3, 4), (RX4, TX4, 5), (RX5, TX5, 11), (RX6, TX6, 15), (RX7, TX7, 15)]
end
section
/-! A judgement WA of a method's walk, over a store that is a list of cells with the next free address and the slots used: every end of the walk (answer, store) is known ahead of it, so that what a method makes is counted exactly. -/
/-- a method: name, bytes, locals, what it returns, frames and words of locals that it may nest -/
abbrev en_M : Type := MethodName × ByteArray × Nat × Option FieldType × Nat × Nat
/-- a store: the next free address, the slots used so far, the cells -/
abbrev en_S : Type := Nat × Nat × va_W
/-- launch; class numbers; the classes of int[], long[], boolean[], Value[]; the first cell that is ours; TENS; the script, its length, its ints -/
abbrev en_X : Type := Launch × va_G × (ClassId × ClassId × ClassId × ClassId) × Nat × Nat × Nat × Nat × (Nat → Int32)
/-- the words that every warmer state keeps; those of private members among nest mates, which are kept otherwise -/
def en_tbl : List Cond := lw_tbl.filter goodWord
def en_isN : Cond → Bool
  | .methodLinkNest _ _ _ _ => true
  | .fieldLinkNest _ _ _ _ _ _ => true
  | _ => false
def en_nest : List Cond := lw_tbl.filter en_isN
def en_A (X : en_X) : Nat → Prop := fun q => X.2.2.2.1 ≤ q
def en_tys (X : en_X) : List (ClassId × FieldType) := [(X.2.2.1.1, .int), (X.2.2.1.2.1, .long), (X.2.2.1.2.2.1, .boolean), (X.2.2.1.2.2.2, .object RX5)]
def en_tens (j : Nat) : Int32 := Int32.ofNat (10 ^ j)
def en_fix (X : en_X) (U : State) (H : Heap) : Prop :=
  va_K X.2.1 vwCl (en_tys X) U ∧ va_Z RX6 "TENS" "[I" (.ref X.2.2.2.2.1) (en_A X) U H ∧ va_T .int X.2.2.2.2.1 9 (fun j => .int (en_tens j)) (en_A X) U H ∧ va_X X.2.2.2.2.2.1 X.2.2.2.2.2.2.1 X.2.2.2.2.2.2.2 U H ∧ X.2.2.2.2.2.1 < X.2.2.2.1 ∧ va_AO RX5 U ∧ ∀ w ∈ en_nest, va_Nw w U
def en_R (X : en_X) (σ : en_S) (H : Heap) : Prop := H.size = σ.1 ∧ X.2.2.2.1 ≤ σ.1 ∧ va_P X.2.1 vwCl σ.2.2 H ∧ va_D (en_A X) σ.2.2
def en_ws (y : en_M) : List Cond := .code y.1 y.2.1 y.2.2.1 y.2.2.2.1 :: en_tbl
def en_Pc (X : en_X) (av : List Value) (σ : en_S) : Array Value → State → Prop := fun a U => a = av.toArray ∧ en_fix X U U.heap ∧ en_R X σ U.heap
def en_Qc (X : en_X) (r : Option Value) (τ : en_S) : Array Value → State → Outcome → State → Prop := fun _ st o t => o = .returned r ∧ en_R X τ t.heap ∧ va_F (en_A X) st t
def en_rm (y : en_M) (σ τ : en_S) : Room := { frames := y.2.2.2.2.1, cells := τ.1 - σ.1, slots := τ.2.1 - σ.2.1, locals := y.2.2.2.2.2 }
def en_G (X : en_X) (y : en_M) (ρ : en_S) (p : Program) (s : State) (m : MethodId) (args : Array Value) (meth : Method) (c : Code) : Prop :=
  p.tables.exec = Jvm.exec ∧ c.code = y.2.1 ∧ meth.sig.returnType = y.2.2.2.1 ∧ c.maxLocals = y.2.2.1 ∧ s.vm.findClass y.1.cls = some m.cls ∧ (∀ w ∈ en_tbl, w.before args s = true) ∧ en_fix X s s.heap ∧ meth.locks = false ∧ s.heap.size = ρ.1 ∧ meth.name = y.1.name
/-- the method y, entered at the store ρ, now at pc with these locals, this stack, the store σ, comes to an end with an answer and a store of which Q holds -/
def WA (X : en_X) (y : en_M) (ρ : en_S) (pc : Nat) (lv : List (Nat × Value)) (st : List Value) (σ : en_S) (Q : Option Value → en_S → Prop) : Prop :=
  ∃ (r : Option Value) (τ : en_S), Q r τ ∧ σ.1 ≤ τ.1 ∧ σ.2.1 ≤ τ.2.1 ∧
    ∀ (p : Program) (e : Env) (s : State) (m : MethodId) (args : Array Value) (below : List Frame) (meth : Method) (c : Code) (H : Heap) (locs : List Loc) (ls : Array Slot),
      en_G X y ρ p s m args meth c → ρ.1 ≤ σ.1 → ρ.2.1 ≤ σ.2.1 → en_R X σ H → va_S (en_A X) s.heap H locs → lv_has ls y.2.2.1 lv →
      W p X.1 e (en_rm y ρ τ) s m args below meth c H locs (σ.1 - ρ.1) (σ.2.1 - ρ.2.1) (MQ below (en_Qc X r τ) args s (τ.1 - ρ.1) (τ.2.1 - ρ.2.1) (en_A X)) (F0 m pc ls st)
/-- a call of y with these arguments at the store σ ends with an answer and a store of which Q holds -/
def Calls (X : en_X) (y : en_M) (av : List Value) (σ : en_S) (Q : Option Value → en_S → Prop) : Prop :=
  ∃ (r : Option Value) (τ : en_S), Q r τ ∧ σ.1 ≤ τ.1 ∧ σ.2.1 ≤ τ.2.1 ∧ Met X.1 y.1 (en_ws y) (en_rm y σ τ) (en_Pc X av σ) (en_Qc X r τ) (τ.1 - σ.1) (τ.2.1 - σ.2.1) (en_A X)
theorem Calls.mono {X : en_X} {y : en_M} {av : List Value} {σ : en_S} {Q Q' : Option Value → en_S → Prop} (h : Calls X y av σ Q) (k : ∀ r τ, Q r τ → Q' r τ) : Calls X y av σ Q' := by
  obtain ⟨r, τ, hQ, h1, h2, h3⟩ := h
  exact ⟨r, τ, k r τ hQ, h1, h2, h3⟩
theorem WA.mono {X : en_X} {y : en_M} {ρ σ : en_S} {pc : Nat} {lv : List (Nat × Value)} {st : List Value} {Q Q' : Option Value → en_S → Prop} (h : WA X y ρ pc lv st σ Q) (k : ∀ r τ, Q r τ → Q' r τ) : WA X y ρ pc lv st σ Q' := by
  obtain ⟨r, τ, hQ, h1, h2, h3⟩ := h
  exact ⟨r, τ, k r τ hQ, h1, h2, h3⟩
-- locals
def en_lk : List (Nat × Value) → Nat → Option Value
  | [], _ => none
  | q :: l, i => if q.1 = i then some q.2 else en_lk l i
theorem en_lk_ix {lv : List (Nat × Value)} {i : Nat} {v : Value} (h : en_lk lv i = some v) : ∃ j : Nat, lv[j]? = some (i, v) := by
  induction lv with
  | nil => cases h
  | cons q l ih =>
    unfold en_lk at h
    by_cases hq : q.1 = i
    · rw [if_pos hq] at h
      refine ⟨0, ?_⟩
      cases h
      subst hq
      rfl
    · rw [if_neg hq] at h
      obtain ⟨j, hj⟩ := ih h
      exact ⟨j + 1, by simpa using hj⟩
theorem en_lk_at {ls : Array Slot} {n : Nat} {lv : List (Nat × Value)} {i : Nat} {v : Value} (hl : lv_has ls n lv) (h : en_lk lv i = some v) : ls[i]? = some (.val v) := by
  obtain ⟨j, hj⟩ := en_lk_ix h
  exact lv_at hl j hj
def en_s1 (lv : List (Nat × Value)) (i : Nat) (v : Value) : List (Nat × Value) := (i, v) :: lv.filter (fun q => !(q.1 == i) && !(q.1 + 1 == i && q.2.category == 2))
def en_s2 (lv : List (Nat × Value)) (i : Nat) (v : Value) : List (Nat × Value) := (i, v) :: lv.filter (fun q => !(q.1 == i) && (!(q.1 == i + 1) && !(q.1 + 1 == i && q.2.category == 2)))
theorem wa_lv {X : en_X} {y : en_M} {ρ σ : en_S} {pc : Nat} {lv lv' : List (Nat × Value)} {st : List Value} {Q : Option Value → en_S → Prop} (k : WA X y ρ pc lv' st σ Q) (h : lv'.map (fun q => en_lk lv q.1) = lv'.map (fun q => some q.2)) : WA X y ρ pc lv st σ Q := by
  obtain ⟨r, τ, hQ, h1, h2, kk⟩ := k
  refine ⟨r, τ, hQ, h1, h2, fun p e s m args below meth c H locs ls G a1 a2 hR hS hl => kk p e s m args below meth c H locs ls G a1 a2 hR hS ⟨hl.1, hl.2.1, fun q hq => ?_⟩⟩
  have h3 := List.map_inj_left.mp h q hq
  exact en_lk_at hl h3
-- cells
def en_lw : va_W → Nat → Option va_E
  | [], _ => none
  | q :: w, a => if q.1 = a then some q.2 else en_lw w a
def en_pw : va_W → Nat → va_E → va_W
  | [], _, _ => []
  | q :: w, a, e => if q.1 = a then (a, e) :: w else q :: en_pw w a e
def en_ix : va_W → Nat → Nat
  | [], _ => 0
  | q :: w, a => if q.1 = a then 0 else en_ix w a + 1
theorem en_lw_ix {w : va_W} {a : Nat} {e : va_E} (h : en_lw w a = some e) : w[en_ix w a]? = some (a, e) := by
  induction w with
  | nil => cases h
  | cons q l ih =>
    unfold en_lw at h
    unfold en_ix
    by_cases hq : q.1 = a
    · rw [if_pos hq] at h ⊢
      cases h
      subst hq
      rfl
    · rw [if_neg hq] at h ⊢
      simpa using ih h
theorem en_pw_eq (w : va_W) (a : Nat) (e : va_E) : en_pw w a e = w.set (en_ix w a) (a, e) := by
  induction w with
  | nil => rfl
  | cons q l ih =>
    unfold en_pw en_ix
    by_cases hq : q.1 = a
    · rw [if_pos hq, if_pos hq]; rfl
    · rw [if_neg hq, if_neg hq, ih]; rfl
theorem en_lw_same {w : va_W} {a : Nat} {e e0 : va_E} (h : en_lw w a = some e0) : en_lw (en_pw w a e) a = some e := by
  induction w with
  | nil => cases h
  | cons q l ih =>
    unfold en_lw at h
    unfold en_pw
    by_cases hq : q.1 = a
    · rw [if_pos hq]; simp [en_lw]
    · rw [if_neg hq] at h ⊢
      unfold en_lw
      rw [if_neg hq]
      exact ih h
theorem en_lw_ne {w : va_W} {a b : Nat} {e : va_E} (h : b ≠ a) : en_lw (en_pw w a e) b = en_lw w b := by
  induction w with
  | nil => rfl
  | cons q l ih =>
    unfold en_pw
    by_cases hq : q.1 = a
    · rw [if_pos hq]
      unfold en_lw
      rw [if_neg (fun z => h z.symm), if_neg (fun z => h (z.symm.trans hq))]
    · rw [if_neg hq]
      unfold en_lw
      rw [ih]
def look (σ : en_S) (a : Nat) : Option va_E := en_lw σ.2.2 a
def put (σ : en_S) (a : Nat) (e : va_E) : en_S := (σ.1, σ.2.1, en_pw σ.2.2 a e)
def fresh (σ : en_S) (n : Nat) (e : va_E) : en_S := (σ.1 + 1, σ.2.1 + n, (σ.1, e) :: σ.2.2)
theorem look_same {σ : en_S} {a : Nat} {e e0 : va_E} (h : look σ a = some e0) : look (put σ a e) a = some e := en_lw_same h
theorem look_ne {σ : en_S} {a b : Nat} {e : va_E} (h : b ≠ a) : look (put σ a e) b = look σ b := en_lw_ne h
theorem look_fresh {σ : en_S} {n : Nat} {e : va_E} : look (fresh σ n e) σ.1 = some e := by simp [look, fresh, en_lw]
theorem look_old {σ : en_S} {n : Nat} {e : va_E} {b : Nat} (h : b ≠ σ.1) : look (fresh σ n e) b = look σ b := by
  show en_lw ((σ.1, e) :: σ.2.2) b = en_lw σ.2.2 b
  conv => lhs; unfold en_lw
  rw [if_neg (fun z => h z.symm)]
-- the machine's side
section en_mach
variable {p : Program} {l : Launch} {e : Env} {R : Room} {s : State} {m : MethodId} {args : Array Value} {below : List Frame} {meth : Method} {c : Code} {H : Heap} {locs : List Loc} {cells slots : Nat} {Q : State → Prop}
theorem en_bd {g : JFrame} (k : H.size ≤ s.heap.size + cells → W p l e R s m args below meth c H locs cells slots Q g) : W p l e R s m args below meth c H locs cells slots Q g := fun T hT X => k (by rw [← hT]; exact X.heapSize) T hT X
end en_mach
theorem en_Sself {A : Nat → Prop} {H0 H : Heap} {locs : List Loc} (h : va_S A H0 H locs) : va_S A H H locs := ⟨Nat.le_refl _, fun _ _ _ => rfl, h.2.2⟩
theorem en_Strans {A : Nat → Prop} {H0 H H1 : Heap} {locs locs1 : List Loc} (h : va_S A H0 H locs) (g : va_S A H H1 locs1) : va_S A H0 H1 locs1 := ⟨Nat.le_trans h.1 g.1, fun q h1 h2 => (g.2.1 q (Nat.lt_of_lt_of_le h1 h.1) h2).trans (h.2.1 q h1 h2), g.2.2⟩
theorem en_fix.kept {X : en_X} {U : State} {H H1 : Heap} (h : en_fix X U H) (hq : ∀ q : Nat, q < H.size → ¬ en_A X q → H1[q]? = H[q]?) : en_fix X U H1 := by
  obtain ⟨h1, h2, h3, h4, h5, h6⟩ := h
  refine ⟨h1, h2.kept hq, h3.kept hq, h4.kept (hq _ ?_ (Nat.not_le.mpr h5)), h5, h6⟩
  obtain ⟨scr, g, -⟩ := h4
  exact (Array.getElem?_eq_some_iff.mp g).1
theorem en_nw {w : Cond} (h : en_isN w = true) {s U : State} (hW : s.WarmedH U.vm) (hZ : va_Nw w s) : va_Nw w U := by
  cases w with
  | methodLinkNest a i x k => exact va_Nw.warmM hW hZ
  | fieldLinkNest a i b n d k => exact va_Nw.warmF hW hZ
  | _ => cases h
theorem en_nwT {w : Cond} (h : en_isN w = true) : w.onTables = true := by
  cases w with
  | methodLinkNest a i x k => rfl
  | fieldLinkNest a i b n d k => rfl
  | _ => cases h
theorem en_fix.moved {X : en_X} {u U : State} {H : Heap} (hW : u.WarmedH U.vm) (h : en_fix X u H) : en_fix X U H := by
  obtain ⟨h1, h2, h3, h4, h5, h6, h7⟩ := h
  have hvm := hW.alike
  exact ⟨h1.moved hvm, h2.moved hvm, h3.moved hvm, h4.moved hvm, h5, h6.moved hvm, fun w hw => en_nw (List.mem_filter.mp hw).2 hW (h7 w hw)⟩
theorem en_fix.same {X : en_X} {u U : State} {H : Heap} (hvm : u.vm = U.vm) (h : en_fix X u H) : en_fix X U H := by
  obtain ⟨h1, h2, h3, h4, h5, h6, h7⟩ := h
  have hv : u.vm.Alike U.vm := by rw [← hvm]; exact Vm.Alike.refl _
  exact ⟨h1.moved hv, h2.moved hv, h3.moved hv, h4.moved hv, h5, h6.moved hv, fun w hw => va_Nw.same (en_nwT (List.mem_filter.mp hw).2) hvm (h7 w hw)⟩
theorem en_good : ∀ w ∈ en_tbl, goodWord w = true := fun _ h => (List.mem_filter.mp h).2
theorem en_after {X : en_X} {y : en_M} {ρ σ : en_S} {p : Program} {s : State} {m : MethodId} {args : Array Value} {meth : Method} {c : Code} {H H1 : Heap} {locs locs1 : List Loc} {a : Nat} {en : va_E} (G : en_G X y ρ p s m args meth c) (a1 : ρ.1 ≤ σ.1) (hR : en_R X σ H) (hS : va_S (en_A X) s.heap H locs)
    (g1 : va_P X.2.1 vwCl (σ.2.2.set (en_ix σ.2.2 a) (a, en)) H1) (g2 : va_D (en_A X) (σ.2.2.set (en_ix σ.2.2 a) (a, en))) (g3 : va_S (en_A X) H H1 locs1) (hb : H1.size ≤ s.heap.size + (σ.1 - ρ.1)) : en_R X (put σ a en) H1 ∧ va_S (en_A X) s.heap H1 locs1 := by
  obtain ⟨r1, r2, r3, r4⟩ := hR
  have hz : s.heap.size = ρ.1 := G.2.2.2.2.2.2.2.2.1
  refine ⟨⟨?_, r2, ?_, ?_⟩, en_Strans hS g3⟩
  · show H1.size = σ.1
    have := g3.1
    omega
  · show va_P X.2.1 vwCl (en_pw σ.2.2 a en) H1
    rw [en_pw_eq]; exact g1
  · show va_D (en_A X) (en_pw σ.2.2 a en)
    rw [en_pw_eq]; exact g2
theorem en_freshR {X : en_X} {y : en_M} {ρ σ : en_S} {p : Program} {s : State} {m : MethodId} {args : Array Value} {meth : Method} {c : Code} {H H1 : Heap} {locs : List Loc} {n : Nat} {en : va_E} (G : en_G X y ρ p s m args meth c) (hR : en_R X σ H) (hS : va_S (en_A X) s.heap H locs)
    (z1 : H1.size = H.size + 1) (o1 : ∀ q : Nat, q < H.size → H1[q]? = H[q]?) (he : va_at X.2.1 vwCl (H.size, en) H1) : en_R X (fresh σ n en) H1 ∧ va_S (en_A X) s.heap H1 locs := by
  obtain ⟨r1, r2, r3, r4⟩ := hR
  refine ⟨⟨by show H1.size = σ.1 + 1; omega, by show _ ≤ σ.1 + 1; omega, ?_, ?_⟩, ⟨by have := hS.1; omega, fun q h1 h2 => (o1 q (Nat.lt_of_lt_of_le h1 hS.1)).trans (hS.2.1 q h1 h2), hS.2.2⟩⟩
  · intro k q hk
    match k, hk with
    | 0, hk =>
      cases hk
      show va_at X.2.1 vwCl (σ.1, en) H1
      rw [← r1]; exact he
    | k + 1, hk =>
      have hk : σ.2.2[k]? = some q := by simpa [fresh] using hk
      exact (r3 k q hk).kept (o1 _ (r3 k q hk).lt)
  · have h0 : ∀ (k : Nat) (q : Nat × va_E), σ.2.2[k]? = some q → q.1 < σ.1 := fun k q hk => by rw [← r1]; exact (r3 k q hk).lt
    refine ⟨fun i j x z hi hj hxz => ?_, fun k q hk => ?_⟩
    · match i, j, hi, hj with
      | 0, 0, _, _ => rfl
      | 0, j + 1, hi, hj =>
        have hj : σ.2.2[j]? = some z := by simpa [fresh] using hj
        have := h0 j z hj
        cases hi
        have hxz : σ.1 = z.1 := hxz
        omega
      | i + 1, 0, hi, hj =>
        have hi : σ.2.2[i]? = some x := by simpa [fresh] using hi
        have := h0 i x hi
        cases hj
        have hxz : x.1 = σ.1 := hxz
        omega
      | i + 1, j + 1, hi, hj =>
        have hi : σ.2.2[i]? = some x := by simpa [fresh] using hi
        have hj : σ.2.2[j]? = some z := by simpa [fresh] using hj
        rw [r4.1 i j x z hi hj hxz]
    · match k, hk with
      | 0, hk =>
        cases hk
        exact r2
      | k + 1, hk =>
        have hk : σ.2.2[k]? = some q := by simpa [fresh] using hk
        exact r4.2 k q hk
end
section
section en_rows
variable {X : en_X} {y : en_M} {ρ σ : en_S} {pc nx : Nat} {lv : List (Nat × Value)} {st : List Value} {Q : Option Value → en_S → Prop}
theorem wa_iconst {n : Int} (q : decode y.2.1 pc = .ok (.iconst n, 1) ∧ pc + 1 = nx) {v : Int32} (hv : Int32.ofInt n = v) (k : WA X y ρ nx lv (.int v :: st) σ Q) : WA X y ρ pc lv (st) σ Q := by
  obtain ⟨e0, rfl⟩ := q
  obtain ⟨r, τ, hQ, h1, h2, kk⟩ := k
  exact ⟨r, τ, hQ, h1, h2, fun p e s m args below meth c H locs ls G a1 a2 hR hS hl => lv_iconst G.1 G.2.1 e0 hv (kk p e s m args below meth c H locs ls G a1 a2 hR hS hl)⟩
theorem wa_bipush {n : Int} (q : decode y.2.1 pc = .ok (.bipush n, 2) ∧ pc + 2 = nx) {v : Int32} (hv : (Int8.ofInt n).toInt32 = v) (k : WA X y ρ nx lv (.int v :: st) σ Q) : WA X y ρ pc lv (st) σ Q := by
  obtain ⟨e0, rfl⟩ := q
  obtain ⟨r, τ, hQ, h1, h2, kk⟩ := k
  exact ⟨r, τ, hQ, h1, h2, fun p e s m args below meth c H locs ls G a1 a2 hR hS hl => lv_bipush G.1 G.2.1 e0 hv (kk p e s m args below meth c H locs ls G a1 a2 hR hS hl)⟩
theorem wa_sipush {n : Int} (q : decode y.2.1 pc = .ok (.sipush n, 3) ∧ pc + 3 = nx) {v : Int32} (hv : (Int16.ofInt n).toInt32 = v) (k : WA X y ρ nx lv (.int v :: st) σ Q) : WA X y ρ pc lv (st) σ Q := by
  obtain ⟨e0, rfl⟩ := q
  obtain ⟨r, τ, hQ, h1, h2, kk⟩ := k
  exact ⟨r, τ, hQ, h1, h2, fun p e s m args below meth c H locs ls G a1 a2 hR hS hl => lv_sipush G.1 G.2.1 e0 hv (kk p e s m args below meth c H locs ls G a1 a2 hR hS hl)⟩
theorem wa_lconst {n : Fin 2} (q : decode y.2.1 pc = .ok (.lconst n, 1) ∧ pc + 1 = nx) {v : Int64} (hv : Int64.ofNat (n : Nat) = v) (k : WA X y ρ nx lv (.long v :: st) σ Q) : WA X y ρ pc lv (st) σ Q := by
  obtain ⟨e0, rfl⟩ := q
  obtain ⟨r, τ, hQ, h1, h2, kk⟩ := k
  exact ⟨r, τ, hQ, h1, h2, fun p e s m args below meth c H locs ls G a1 a2 hR hS hl => lv_lconst G.1 G.2.1 e0 hv (kk p e s m args below meth c H locs ls G a1 a2 hR hS hl)⟩
theorem wa_null  (q : decode y.2.1 pc = .ok (.aconst_null, 1) ∧ pc + 1 = nx) (k : WA X y ρ nx lv (.null :: st) σ Q) : WA X y ρ pc lv (st) σ Q := by
  obtain ⟨e0, rfl⟩ := q
  obtain ⟨r, τ, hQ, h1, h2, kk⟩ := k
  exact ⟨r, τ, hQ, h1, h2, fun p e s m args below meth c H locs ls G a1 a2 hR hS hl => lv_null G.1 G.2.1 e0 (kk p e s m args below meth c H locs ls G a1 a2 hR hS hl)⟩
theorem wa_ldc {i : Nat} {v : Int32} (q : decode y.2.1 pc = .ok (.ldc i, 2) ∧ pc + 2 = nx) (hc : Cond.constant y.1.cls i v ∈ en_tbl) (k : WA X y ρ nx lv (.int v :: st) σ Q) : WA X y ρ pc lv (st) σ Q := by
  obtain ⟨e0, rfl⟩ := q
  obtain ⟨r, τ, hQ, h1, h2, kk⟩ := k
  exact ⟨r, τ, hQ, h1, h2, fun p e s m args below meth c H locs ls G a1 a2 hR hS hl => lv_ldc G.1 G.2.1 G.2.2.2.2.1 (G.2.2.2.2.2.1 _ hc) e0 (kk p e s m args below meth c H locs ls G a1 a2 hR hS hl)⟩
theorem wa_ldc2 {i : Nat} {v : Int64} (q : decode y.2.1 pc = .ok (.ldc2_w i, 3) ∧ pc + 3 = nx) (hc : Cond.constantLong y.1.cls i v ∈ en_tbl) (k : WA X y ρ nx lv (.long v :: st) σ Q) : WA X y ρ pc lv (st) σ Q := by
  obtain ⟨e0, rfl⟩ := q
  obtain ⟨r, τ, hQ, h1, h2, kk⟩ := k
  exact ⟨r, τ, hQ, h1, h2, fun p e s m args below meth c H locs ls G a1 a2 hR hS hl => lv_ldc2 G.1 G.2.1 G.2.2.2.2.1 (G.2.2.2.2.2.1 _ hc) e0 (kk p e s m args below meth c H locs ls G a1 a2 hR hS hl)⟩
theorem wa_iload_n {i : Fin 4} {x : Int32} (q : decode y.2.1 pc = .ok (.iload_n i, 1) ∧ pc + 1 = nx) (hv : en_lk lv (i : Nat) = some (.int x)) (k : WA X y ρ nx lv (.int x :: st) σ Q) : WA X y ρ pc lv (st) σ Q := by
  obtain ⟨e0, rfl⟩ := q
  obtain ⟨r, τ, hQ, h1, h2, kk⟩ := k
  exact ⟨r, τ, hQ, h1, h2, fun p e s m args below meth c H locs ls G a1 a2 hR hS hl => lv_iload_n G.1 G.2.1 e0 rfl (en_lk_at hl hv) (kk p e s m args below meth c H locs ls G a1 a2 hR hS hl)⟩
theorem wa_iload {i : Nat} {x : Int32} (q : decode y.2.1 pc = .ok (.iload i, 2) ∧ pc + 2 = nx) (hv : en_lk lv i = some (.int x)) (k : WA X y ρ nx lv (.int x :: st) σ Q) : WA X y ρ pc lv (st) σ Q := by
  obtain ⟨e0, rfl⟩ := q
  obtain ⟨r, τ, hQ, h1, h2, kk⟩ := k
  exact ⟨r, τ, hQ, h1, h2, fun p e s m args below meth c H locs ls G a1 a2 hR hS hl => lv_iload G.1 G.2.1 e0 (en_lk_at hl hv) (kk p e s m args below meth c H locs ls G a1 a2 hR hS hl)⟩
theorem wa_lload_n {i : Fin 4} {x : Int64} (q : decode y.2.1 pc = .ok (.lload_n i, 1) ∧ pc + 1 = nx) (hv : en_lk lv (i : Nat) = some (.long x)) (k : WA X y ρ nx lv (.long x :: st) σ Q) : WA X y ρ pc lv (st) σ Q := by
  obtain ⟨e0, rfl⟩ := q
  obtain ⟨r, τ, hQ, h1, h2, kk⟩ := k
  exact ⟨r, τ, hQ, h1, h2, fun p e s m args below meth c H locs ls G a1 a2 hR hS hl => lv_lload_n G.1 G.2.1 e0 rfl (en_lk_at hl hv) (kk p e s m args below meth c H locs ls G a1 a2 hR hS hl)⟩
theorem wa_lload {i : Nat} {x : Int64} (q : decode y.2.1 pc = .ok (.lload i, 2) ∧ pc + 2 = nx) (hv : en_lk lv i = some (.long x)) (k : WA X y ρ nx lv (.long x :: st) σ Q) : WA X y ρ pc lv (st) σ Q := by
  obtain ⟨e0, rfl⟩ := q
  obtain ⟨r, τ, hQ, h1, h2, kk⟩ := k
  exact ⟨r, τ, hQ, h1, h2, fun p e s m args below meth c H locs ls G a1 a2 hR hS hl => lv_lload G.1 G.2.1 e0 (en_lk_at hl hv) (kk p e s m args below meth c H locs ls G a1 a2 hR hS hl)⟩
theorem wa_aload_n {i : Fin 4} {a : Nat} (q : decode y.2.1 pc = .ok (.aload_n i, 1) ∧ pc + 1 = nx) (hv : en_lk lv (i : Nat) = some (.ref a)) (k : WA X y ρ nx lv (.ref a :: st) σ Q) : WA X y ρ pc lv (st) σ Q := by
  obtain ⟨e0, rfl⟩ := q
  obtain ⟨r, τ, hQ, h1, h2, kk⟩ := k
  exact ⟨r, τ, hQ, h1, h2, fun p e s m args below meth c H locs ls G a1 a2 hR hS hl => lv_aload_n G.1 G.2.1 e0 rfl (en_lk_at hl hv) (kk p e s m args below meth c H locs ls G a1 a2 hR hS hl)⟩
theorem wa_aload {i : Nat} {a : Nat} (q : decode y.2.1 pc = .ok (.aload i, 2) ∧ pc + 2 = nx) (hv : en_lk lv i = some (.ref a)) (k : WA X y ρ nx lv (.ref a :: st) σ Q) : WA X y ρ pc lv (st) σ Q := by
  obtain ⟨e0, rfl⟩ := q
  obtain ⟨r, τ, hQ, h1, h2, kk⟩ := k
  exact ⟨r, τ, hQ, h1, h2, fun p e s m args below meth c H locs ls G a1 a2 hR hS hl => lv_aload G.1 G.2.1 e0 (en_lk_at hl hv) (kk p e s m args below meth c H locs ls G a1 a2 hR hS hl)⟩
theorem wa_aload_nN {i : Fin 4} (q : decode y.2.1 pc = .ok (.aload_n i, 1) ∧ pc + 1 = nx) (hv : en_lk lv (i : Nat) = some .null) (k : WA X y ρ nx lv (.null :: st) σ Q) : WA X y ρ pc lv (st) σ Q := by
  obtain ⟨e0, rfl⟩ := q
  obtain ⟨r, τ, hQ, h1, h2, kk⟩ := k
  exact ⟨r, τ, hQ, h1, h2, fun p e s m args below meth c H locs ls G a1 a2 hR hS hl => lv_aload_nN G.1 G.2.1 e0 rfl (en_lk_at hl hv) (kk p e s m args below meth c H locs ls G a1 a2 hR hS hl)⟩
theorem wa_aloadN {i : Nat} (q : decode y.2.1 pc = .ok (.aload i, 2) ∧ pc + 2 = nx) (hv : en_lk lv i = some .null) (k : WA X y ρ nx lv (.null :: st) σ Q) : WA X y ρ pc lv (st) σ Q := by
  obtain ⟨e0, rfl⟩ := q
  obtain ⟨r, τ, hQ, h1, h2, kk⟩ := k
  exact ⟨r, τ, hQ, h1, h2, fun p e s m args below meth c H locs ls G a1 a2 hR hS hl => lv_aloadN G.1 G.2.1 e0 (en_lk_at hl hv) (kk p e s m args below meth c H locs ls G a1 a2 hR hS hl)⟩
theorem wa_istore_n {i : Fin 4} {x : Int32} (q : decode y.2.1 pc = .ok (.istore_n i, 1) ∧ pc + 1 = nx) (hn : (i : Nat) < y.2.2.1) (k : WA X y ρ nx (en_s1 lv (i : Nat) (.int x)) st σ Q) : WA X y ρ pc lv (.int x :: st) σ Q := by
  obtain ⟨e0, rfl⟩ := q
  obtain ⟨r, τ, hQ, h1, h2, kk⟩ := k
  exact ⟨r, τ, hQ, h1, h2, fun p e s m args below meth c H locs ls G a1 a2 hR hS hl => lv_istore_n G.1 G.2.1 e0 rfl hl hn rfl (fun ls' hl' => kk p e s m args below meth c H locs ls' G a1 a2 hR hS hl')⟩
theorem wa_istore {i : Nat} {x : Int32} (q : decode y.2.1 pc = .ok (.istore i, 2) ∧ pc + 2 = nx) (hn : i < y.2.2.1) (k : WA X y ρ nx (en_s1 lv i (.int x)) st σ Q) : WA X y ρ pc lv (.int x :: st) σ Q := by
  obtain ⟨e0, rfl⟩ := q
  obtain ⟨r, τ, hQ, h1, h2, kk⟩ := k
  exact ⟨r, τ, hQ, h1, h2, fun p e s m args below meth c H locs ls G a1 a2 hR hS hl => lv_istore G.1 G.2.1 e0 hl hn rfl (fun ls' hl' => kk p e s m args below meth c H locs ls' G a1 a2 hR hS hl')⟩
theorem wa_lstore_n {i : Fin 4} {x : Int64} (q : decode y.2.1 pc = .ok (.lstore_n i, 1) ∧ pc + 1 = nx) (hn : (i : Nat) + 1 < y.2.2.1) (k : WA X y ρ nx (en_s2 lv (i : Nat) (.long x)) st σ Q) : WA X y ρ pc lv (.long x :: st) σ Q := by
  obtain ⟨e0, rfl⟩ := q
  obtain ⟨r, τ, hQ, h1, h2, kk⟩ := k
  exact ⟨r, τ, hQ, h1, h2, fun p e s m args below meth c H locs ls G a1 a2 hR hS hl => lv_lstore_n G.1 G.2.1 e0 rfl hl hn rfl (fun ls' hl' => kk p e s m args below meth c H locs ls' G a1 a2 hR hS hl')⟩
theorem wa_lstore {i : Nat} {x : Int64} (q : decode y.2.1 pc = .ok (.lstore i, 2) ∧ pc + 2 = nx) (hn : i + 1 < y.2.2.1) (k : WA X y ρ nx (en_s2 lv i (.long x)) st σ Q) : WA X y ρ pc lv (.long x :: st) σ Q := by
  obtain ⟨e0, rfl⟩ := q
  obtain ⟨r, τ, hQ, h1, h2, kk⟩ := k
  exact ⟨r, τ, hQ, h1, h2, fun p e s m args below meth c H locs ls G a1 a2 hR hS hl => lv_lstore G.1 G.2.1 e0 hl hn rfl (fun ls' hl' => kk p e s m args below meth c H locs ls' G a1 a2 hR hS hl')⟩
theorem wa_astore_n {i : Fin 4} {a : Nat} (q : decode y.2.1 pc = .ok (.astore_n i, 1) ∧ pc + 1 = nx) (hn : (i : Nat) < y.2.2.1) (k : WA X y ρ nx (en_s1 lv (i : Nat) (.ref a)) st σ Q) : WA X y ρ pc lv (.ref a :: st) σ Q := by
  obtain ⟨e0, rfl⟩ := q
  obtain ⟨r, τ, hQ, h1, h2, kk⟩ := k
  exact ⟨r, τ, hQ, h1, h2, fun p e s m args below meth c H locs ls G a1 a2 hR hS hl => lv_astore_n G.1 G.2.1 e0 rfl hl hn rfl (fun ls' hl' => kk p e s m args below meth c H locs ls' G a1 a2 hR hS hl')⟩
theorem wa_astore {i : Nat} {a : Nat} (q : decode y.2.1 pc = .ok (.astore i, 2) ∧ pc + 2 = nx) (hn : i < y.2.2.1) (k : WA X y ρ nx (en_s1 lv i (.ref a)) st σ Q) : WA X y ρ pc lv (.ref a :: st) σ Q := by
  obtain ⟨e0, rfl⟩ := q
  obtain ⟨r, τ, hQ, h1, h2, kk⟩ := k
  exact ⟨r, τ, hQ, h1, h2, fun p e s m args below meth c H locs ls G a1 a2 hR hS hl => lv_astore G.1 G.2.1 e0 hl hn rfl (fun ls' hl' => kk p e s m args below meth c H locs ls' G a1 a2 hR hS hl')⟩
theorem wa_astore_nN {i : Fin 4} (q : decode y.2.1 pc = .ok (.astore_n i, 1) ∧ pc + 1 = nx) (hn : (i : Nat) < y.2.2.1) (k : WA X y ρ nx (en_s1 lv (i : Nat) .null) st σ Q) : WA X y ρ pc lv (.null :: st) σ Q := by
  obtain ⟨e0, rfl⟩ := q
  obtain ⟨r, τ, hQ, h1, h2, kk⟩ := k
  exact ⟨r, τ, hQ, h1, h2, fun p e s m args below meth c H locs ls G a1 a2 hR hS hl => lv_astore_nN G.1 G.2.1 e0 rfl hl hn rfl (fun ls' hl' => kk p e s m args below meth c H locs ls' G a1 a2 hR hS hl')⟩
theorem wa_astoreN {i : Nat} (q : decode y.2.1 pc = .ok (.astore i, 2) ∧ pc + 2 = nx) (hn : i < y.2.2.1) (k : WA X y ρ nx (en_s1 lv i .null) st σ Q) : WA X y ρ pc lv (.null :: st) σ Q := by
  obtain ⟨e0, rfl⟩ := q
  obtain ⟨r, τ, hQ, h1, h2, kk⟩ := k
  exact ⟨r, τ, hQ, h1, h2, fun p e s m args below meth c H locs ls G a1 a2 hR hS hl => lv_astoreN G.1 G.2.1 e0 hl hn rfl (fun ls' hl' => kk p e s m args below meth c H locs ls' G a1 a2 hR hS hl')⟩
theorem wa_iinc {i : Nat} {n : Int} {x v : Int32} (q : decode y.2.1 pc = .ok (.iinc i n, 3) ∧ pc + 3 = nx) (hv : en_lk lv i = some (.int x)) (he : x + Int32.ofInt n = v) (hn : i < y.2.2.1) (k : WA X y ρ nx (en_s1 lv i (.int v)) st σ Q) : WA X y ρ pc lv st σ Q := by
  obtain ⟨e0, rfl⟩ := q
  obtain ⟨r, τ, hQ, h1, h2, kk⟩ := k
  obtain ⟨j, hj⟩ := en_lk_ix hv
  exact ⟨r, τ, hQ, h1, h2, fun p e s m args below meth c H locs ls G a1 a2 hR hS hl => lv_iinc G.1 G.2.1 e0 hl hj he hn rfl (fun ls' hl' => kk p e s m args below meth c H locs ls' G a1 a2 hR hS hl')⟩
theorem wa_iadd {x w : Int32} (q : decode y.2.1 pc = .ok (.iadd, 1) ∧ pc + 1 = nx) (k : WA X y ρ nx lv (.int (x + w) :: st) σ Q) : WA X y ρ pc lv (.int w :: .int x :: st) σ Q := by
  obtain ⟨e0, rfl⟩ := q
  obtain ⟨r, τ, hQ, h1, h2, kk⟩ := k
  exact ⟨r, τ, hQ, h1, h2, fun p e s m args below meth c H locs ls G a1 a2 hR hS hl => lv_iadd G.1 G.2.1 e0 (kk p e s m args below meth c H locs ls G a1 a2 hR hS hl)⟩
theorem wa_isub {x w : Int32} (q : decode y.2.1 pc = .ok (.isub, 1) ∧ pc + 1 = nx) (k : WA X y ρ nx lv (.int (x - w) :: st) σ Q) : WA X y ρ pc lv (.int w :: .int x :: st) σ Q := by
  obtain ⟨e0, rfl⟩ := q
  obtain ⟨r, τ, hQ, h1, h2, kk⟩ := k
  exact ⟨r, τ, hQ, h1, h2, fun p e s m args below meth c H locs ls G a1 a2 hR hS hl => lv_isub G.1 G.2.1 e0 (kk p e s m args below meth c H locs ls G a1 a2 hR hS hl)⟩
theorem wa_imul {x w : Int32} (q : decode y.2.1 pc = .ok (.imul, 1) ∧ pc + 1 = nx) (k : WA X y ρ nx lv (.int (x * w) :: st) σ Q) : WA X y ρ pc lv (.int w :: .int x :: st) σ Q := by
  obtain ⟨e0, rfl⟩ := q
  obtain ⟨r, τ, hQ, h1, h2, kk⟩ := k
  exact ⟨r, τ, hQ, h1, h2, fun p e s m args below meth c H locs ls G a1 a2 hR hS hl => lv_imul G.1 G.2.1 e0 (kk p e s m args below meth c H locs ls G a1 a2 hR hS hl)⟩
theorem wa_iand {x w : Int32} (q : decode y.2.1 pc = .ok (.iand, 1) ∧ pc + 1 = nx) (k : WA X y ρ nx lv (.int (x &&& w) :: st) σ Q) : WA X y ρ pc lv (.int w :: .int x :: st) σ Q := by
  obtain ⟨e0, rfl⟩ := q
  obtain ⟨r, τ, hQ, h1, h2, kk⟩ := k
  exact ⟨r, τ, hQ, h1, h2, fun p e s m args below meth c H locs ls G a1 a2 hR hS hl => lv_iand G.1 G.2.1 e0 (kk p e s m args below meth c H locs ls G a1 a2 hR hS hl)⟩
theorem wa_idiv {x w : Int32} (q : decode y.2.1 pc = .ok (.idiv, 1) ∧ pc + 1 = nx) (hne : ¬ w = 0) (k : WA X y ρ nx lv (.int (x / w) :: st) σ Q) : WA X y ρ pc lv (.int w :: .int x :: st) σ Q := by
  obtain ⟨e0, rfl⟩ := q
  obtain ⟨r, τ, hQ, h1, h2, kk⟩ := k
  exact ⟨r, τ, hQ, h1, h2, fun p e s m args below meth c H locs ls G a1 a2 hR hS hl => lv_idiv G.1 G.2.1 e0 hne (kk p e s m args below meth c H locs ls G a1 a2 hR hS hl)⟩
theorem wa_irem {x w : Int32} (q : decode y.2.1 pc = .ok (.irem, 1) ∧ pc + 1 = nx) (hne : ¬ w = 0) (k : WA X y ρ nx lv (.int (x - x / w * w) :: st) σ Q) : WA X y ρ pc lv (.int w :: .int x :: st) σ Q := by
  obtain ⟨e0, rfl⟩ := q
  obtain ⟨r, τ, hQ, h1, h2, kk⟩ := k
  exact ⟨r, τ, hQ, h1, h2, fun p e s m args below meth c H locs ls G a1 a2 hR hS hl => lv_irem G.1 G.2.1 e0 hne (kk p e s m args below meth c H locs ls G a1 a2 hR hS hl)⟩
theorem wa_ineg {x : Int32} (q : decode y.2.1 pc = .ok (.ineg, 1) ∧ pc + 1 = nx) (k : WA X y ρ nx lv (.int (-x) :: st) σ Q) : WA X y ρ pc lv (.int x :: st) σ Q := by
  obtain ⟨e0, rfl⟩ := q
  obtain ⟨r, τ, hQ, h1, h2, kk⟩ := k
  exact ⟨r, τ, hQ, h1, h2, fun p e s m args below meth c H locs ls G a1 a2 hR hS hl => lv_ineg G.1 G.2.1 e0 (kk p e s m args below meth c H locs ls G a1 a2 hR hS hl)⟩
theorem wa_ladd {x w : Int64} (q : decode y.2.1 pc = .ok (.ladd, 1) ∧ pc + 1 = nx) (k : WA X y ρ nx lv (.long (x + w) :: st) σ Q) : WA X y ρ pc lv (.long w :: .long x :: st) σ Q := by
  obtain ⟨e0, rfl⟩ := q
  obtain ⟨r, τ, hQ, h1, h2, kk⟩ := k
  exact ⟨r, τ, hQ, h1, h2, fun p e s m args below meth c H locs ls G a1 a2 hR hS hl => lv_ladd G.1 G.2.1 e0 (kk p e s m args below meth c H locs ls G a1 a2 hR hS hl)⟩
theorem wa_lsub {x w : Int64} (q : decode y.2.1 pc = .ok (.lsub, 1) ∧ pc + 1 = nx) (k : WA X y ρ nx lv (.long (x - w) :: st) σ Q) : WA X y ρ pc lv (.long w :: .long x :: st) σ Q := by
  obtain ⟨e0, rfl⟩ := q
  obtain ⟨r, τ, hQ, h1, h2, kk⟩ := k
  exact ⟨r, τ, hQ, h1, h2, fun p e s m args below meth c H locs ls G a1 a2 hR hS hl => lv_lsub G.1 G.2.1 e0 (kk p e s m args below meth c H locs ls G a1 a2 hR hS hl)⟩
theorem wa_lmul {x w : Int64} (q : decode y.2.1 pc = .ok (.lmul, 1) ∧ pc + 1 = nx) (k : WA X y ρ nx lv (.long (x * w) :: st) σ Q) : WA X y ρ pc lv (.long w :: .long x :: st) σ Q := by
  obtain ⟨e0, rfl⟩ := q
  obtain ⟨r, τ, hQ, h1, h2, kk⟩ := k
  exact ⟨r, τ, hQ, h1, h2, fun p e s m args below meth c H locs ls G a1 a2 hR hS hl => lv_lmul G.1 G.2.1 e0 (kk p e s m args below meth c H locs ls G a1 a2 hR hS hl)⟩
theorem wa_land {x w : Int64} (q : decode y.2.1 pc = .ok (.land, 1) ∧ pc + 1 = nx) (k : WA X y ρ nx lv (.long (x &&& w) :: st) σ Q) : WA X y ρ pc lv (.long w :: .long x :: st) σ Q := by
  obtain ⟨e0, rfl⟩ := q
  obtain ⟨r, τ, hQ, h1, h2, kk⟩ := k
  exact ⟨r, τ, hQ, h1, h2, fun p e s m args below meth c H locs ls G a1 a2 hR hS hl => lv_land G.1 G.2.1 e0 (kk p e s m args below meth c H locs ls G a1 a2 hR hS hl)⟩
theorem wa_lor {x w : Int64} (q : decode y.2.1 pc = .ok (.lor, 1) ∧ pc + 1 = nx) (k : WA X y ρ nx lv (.long (x ||| w) :: st) σ Q) : WA X y ρ pc lv (.long w :: .long x :: st) σ Q := by
  obtain ⟨e0, rfl⟩ := q
  obtain ⟨r, τ, hQ, h1, h2, kk⟩ := k
  exact ⟨r, τ, hQ, h1, h2, fun p e s m args below meth c H locs ls G a1 a2 hR hS hl => lv_lor G.1 G.2.1 e0 (kk p e s m args below meth c H locs ls G a1 a2 hR hS hl)⟩
theorem wa_lxor {x w : Int64} (q : decode y.2.1 pc = .ok (.lxor, 1) ∧ pc + 1 = nx) (k : WA X y ρ nx lv (.long (x ^^^ w) :: st) σ Q) : WA X y ρ pc lv (.long w :: .long x :: st) σ Q := by
  obtain ⟨e0, rfl⟩ := q
  obtain ⟨r, τ, hQ, h1, h2, kk⟩ := k
  exact ⟨r, τ, hQ, h1, h2, fun p e s m args below meth c H locs ls G a1 a2 hR hS hl => lv_lxor G.1 G.2.1 e0 (kk p e s m args below meth c H locs ls G a1 a2 hR hS hl)⟩
theorem wa_ldiv {x w : Int64} (q : decode y.2.1 pc = .ok (.ldiv, 1) ∧ pc + 1 = nx) (hne : ¬ w = 0) (k : WA X y ρ nx lv (.long (x / w) :: st) σ Q) : WA X y ρ pc lv (.long w :: .long x :: st) σ Q := by
  obtain ⟨e0, rfl⟩ := q
  obtain ⟨r, τ, hQ, h1, h2, kk⟩ := k
  exact ⟨r, τ, hQ, h1, h2, fun p e s m args below meth c H locs ls G a1 a2 hR hS hl => lv_ldiv G.1 G.2.1 e0 hne (kk p e s m args below meth c H locs ls G a1 a2 hR hS hl)⟩
theorem wa_lrem {x w : Int64} (q : decode y.2.1 pc = .ok (.lrem, 1) ∧ pc + 1 = nx) (hne : ¬ w = 0) (k : WA X y ρ nx lv (.long (x - x / w * w) :: st) σ Q) : WA X y ρ pc lv (.long w :: .long x :: st) σ Q := by
  obtain ⟨e0, rfl⟩ := q
  obtain ⟨r, τ, hQ, h1, h2, kk⟩ := k
  exact ⟨r, τ, hQ, h1, h2, fun p e s m args below meth c H locs ls G a1 a2 hR hS hl => lv_lrem G.1 G.2.1 e0 hne (kk p e s m args below meth c H locs ls G a1 a2 hR hS hl)⟩
theorem wa_lneg {x : Int64} (q : decode y.2.1 pc = .ok (.lneg, 1) ∧ pc + 1 = nx) (k : WA X y ρ nx lv (.long (-x) :: st) σ Q) : WA X y ρ pc lv (.long x :: st) σ Q := by
  obtain ⟨e0, rfl⟩ := q
  obtain ⟨r, τ, hQ, h1, h2, kk⟩ := k
  exact ⟨r, τ, hQ, h1, h2, fun p e s m args below meth c H locs ls G a1 a2 hR hS hl => lv_lneg G.1 G.2.1 e0 (kk p e s m args below meth c H locs ls G a1 a2 hR hS hl)⟩
theorem wa_ishr {x w : Int32} (q : decode y.2.1 pc = .ok (.ishr, 1) ∧ pc + 1 = nx) (k : WA X y ρ nx lv (.int (x >>> (w &&& 31)) :: st) σ Q) : WA X y ρ pc lv (.int w :: .int x :: st) σ Q := by
  obtain ⟨e0, rfl⟩ := q
  obtain ⟨r, τ, hQ, h1, h2, kk⟩ := k
  exact ⟨r, τ, hQ, h1, h2, fun p e s m args below meth c H locs ls G a1 a2 hR hS hl => lv_ishr G.1 G.2.1 e0 (kk p e s m args below meth c H locs ls G a1 a2 hR hS hl)⟩
theorem wa_lshl {x v : Int64} {w : Int32} (q : decode y.2.1 pc = .ok (.lshl, 1) ∧ pc + 1 = nx) (hv : x <<< (w.toInt64 &&& 63) = v) (k : WA X y ρ nx lv (.long v :: st) σ Q) : WA X y ρ pc lv (.int w :: .long x :: st) σ Q := by
  obtain ⟨e0, rfl⟩ := q
  obtain ⟨r, τ, hQ, h1, h2, kk⟩ := k
  exact ⟨r, τ, hQ, h1, h2, fun p e s m args below meth c H locs ls G a1 a2 hR hS hl => lv_lshl G.1 G.2.1 e0 hv (kk p e s m args below meth c H locs ls G a1 a2 hR hS hl)⟩
theorem wa_lushr {x v : Int64} {w : Int32} (q : decode y.2.1 pc = .ok (.lushr, 1) ∧ pc + 1 = nx) (hv : (x.toUInt64 >>> (w.toInt64.toUInt64 &&& Int64.toUInt64 63)).toInt64 = v) (k : WA X y ρ nx lv (.long v :: st) σ Q) : WA X y ρ pc lv (.int w :: .long x :: st) σ Q := by
  obtain ⟨e0, rfl⟩ := q
  obtain ⟨r, τ, hQ, h1, h2, kk⟩ := k
  exact ⟨r, τ, hQ, h1, h2, fun p e s m args below meth c H locs ls G a1 a2 hR hS hl => lv_lushr G.1 G.2.1 e0 hv (kk p e s m args below meth c H locs ls G a1 a2 hR hS hl)⟩
theorem wa_i2l {x : Int32} {v : Int64} (q : decode y.2.1 pc = .ok (.i2l, 1) ∧ pc + 1 = nx) (hv : x.toInt64 = v) (k : WA X y ρ nx lv (.long v :: st) σ Q) : WA X y ρ pc lv (.int x :: st) σ Q := by
  obtain ⟨e0, rfl⟩ := q
  obtain ⟨r, τ, hQ, h1, h2, kk⟩ := k
  exact ⟨r, τ, hQ, h1, h2, fun p e s m args below meth c H locs ls G a1 a2 hR hS hl => lv_i2l G.1 G.2.1 e0 hv (kk p e s m args below meth c H locs ls G a1 a2 hR hS hl)⟩
theorem wa_l2i {x : Int64} {v : Int32} (q : decode y.2.1 pc = .ok (.l2i, 1) ∧ pc + 1 = nx) (hv : x.toInt32 = v) (k : WA X y ρ nx lv (.int v :: st) σ Q) : WA X y ρ pc lv (.long x :: st) σ Q := by
  obtain ⟨e0, rfl⟩ := q
  obtain ⟨r, τ, hQ, h1, h2, kk⟩ := k
  exact ⟨r, τ, hQ, h1, h2, fun p e s m args below meth c H locs ls G a1 a2 hR hS hl => lv_l2i G.1 G.2.1 e0 hv (kk p e s m args below meth c H locs ls G a1 a2 hR hS hl)⟩
theorem wa_lcmp {x w : Int64} (q : decode y.2.1 pc = .ok (.lcmp, 1) ∧ pc + 1 = nx) (k : WA X y ρ nx lv (.int (lg_cmp x w) :: st) σ Q) : WA X y ρ pc lv (.long w :: .long x :: st) σ Q := by
  obtain ⟨e0, rfl⟩ := q
  obtain ⟨r, τ, hQ, h1, h2, kk⟩ := k
  exact ⟨r, τ, hQ, h1, h2, fun p e s m args below meth c H locs ls G a1 a2 hR hS hl => W.lcmp G.1 G.2.1 e0 (kk p e s m args below meth c H locs ls G a1 a2 hR hS hl)⟩
theorem wa_dup {v : Value} (q : decode y.2.1 pc = .ok (.dup, 1) ∧ pc + 1 = nx) (hc : v.category = 1) (k : WA X y ρ nx lv (v :: v :: st) σ Q) : WA X y ρ pc lv (v :: st) σ Q := by
  obtain ⟨e0, rfl⟩ := q
  obtain ⟨r, τ, hQ, h1, h2, kk⟩ := k
  exact ⟨r, τ, hQ, h1, h2, fun p e s m args below meth c H locs ls G a1 a2 hR hS hl => lv_dup G.1 G.2.1 e0 hc (kk p e s m args below meth c H locs ls G a1 a2 hR hS hl)⟩
theorem wa_pop {v : Value} (q : decode y.2.1 pc = .ok (.pop, 1) ∧ pc + 1 = nx) (hc : v.category = 1) (k : WA X y ρ nx lv (st) σ Q) : WA X y ρ pc lv (v :: st) σ Q := by
  obtain ⟨e0, rfl⟩ := q
  obtain ⟨r, τ, hQ, h1, h2, kk⟩ := k
  exact ⟨r, τ, hQ, h1, h2, fun p e s m args below meth c H locs ls G a1 a2 hR hS hl => lv_pop G.1 G.2.1 e0 hc (kk p e s m args below meth c H locs ls G a1 a2 hR hS hl)⟩
theorem wa_pop2 {v : Value} (q : decode y.2.1 pc = .ok (.pop2, 1) ∧ pc + 1 = nx) (hc : v.category = 2) (k : WA X y ρ nx lv (st) σ Q) : WA X y ρ pc lv (v :: st) σ Q := by
  obtain ⟨e0, rfl⟩ := q
  obtain ⟨r, τ, hQ, h1, h2, kk⟩ := k
  exact ⟨r, τ, hQ, h1, h2, fun p e s m args below meth c H locs ls G a1 a2 hR hS hl => lv_pop2_2 G.1 G.2.1 e0 hc (kk p e s m args below meth c H locs ls G a1 a2 hR hS hl)⟩
theorem wa_dup2 {v w : Value} (q : decode y.2.1 pc = .ok (.dup2, 1) ∧ pc + 1 = nx) (hc : v.category = 1) (hd : w.category = 1) (k : WA X y ρ nx lv (v :: w :: v :: w :: st) σ Q) : WA X y ρ pc lv (v :: w :: st) σ Q := by
  obtain ⟨e0, rfl⟩ := q
  obtain ⟨r, τ, hQ, h1, h2, kk⟩ := k
  exact ⟨r, τ, hQ, h1, h2, fun p e s m args below meth c H locs ls G a1 a2 hR hS hl => lv_dup2_11 G.1 G.2.1 e0 hc hd (kk p e s m args below meth c H locs ls G a1 a2 hR hS hl)⟩
theorem wa_if_eq {x : Int32} {off : Int} {tgt : Nat} (q : decode y.2.1 pc = .ok (.ifCond .eq off, 3) ∧ pc + 3 = nx ∧ (pc : Int) + off = (tgt : Int)) (kt : x = 0 → WA X y ρ tgt lv st σ Q) (kf : ¬ x = 0 → WA X y ρ nx lv st σ Q) : WA X y ρ pc lv (.int x :: st) σ Q := by
  obtain ⟨e0, rfl, e2⟩ := q
  rcases Classical.em (x = 0) with hc | hc
  · obtain ⟨r, τ, hQ, h1, h2, kk⟩ := kt hc
    exact ⟨r, τ, hQ, h1, h2, fun p e s m args below meth c H locs ls G a1 a2 hR hS hl => lv_if_eq G.1 G.2.1 e0 e2 (fun _ => (kk p e s m args below meth c H locs ls G a1 a2 hR hS hl)) (fun z => by first | exact absurd hc z | exact absurd z hc)⟩
  · obtain ⟨r, τ, hQ, h1, h2, kk⟩ := kf (by first | exact hc | exact Int32.not_le.mp hc | exact Int32.not_lt.mp hc | exact Classical.not_not.mp hc)
    exact ⟨r, τ, hQ, h1, h2, fun p e s m args below meth c H locs ls G a1 a2 hR hS hl => lv_if_eq G.1 G.2.1 e0 e2 (fun z => absurd z hc) (fun _ => (kk p e s m args below meth c H locs ls G a1 a2 hR hS hl))⟩
theorem wa_if_ne {x : Int32} {off : Int} {tgt : Nat} (q : decode y.2.1 pc = .ok (.ifCond .ne off, 3) ∧ pc + 3 = nx ∧ (pc : Int) + off = (tgt : Int)) (kt : ¬ x = 0 → WA X y ρ tgt lv st σ Q) (kf : x = 0 → WA X y ρ nx lv st σ Q) : WA X y ρ pc lv (.int x :: st) σ Q := by
  obtain ⟨e0, rfl, e2⟩ := q
  rcases Classical.em (¬ x = 0) with hc | hc
  · obtain ⟨r, τ, hQ, h1, h2, kk⟩ := kt hc
    exact ⟨r, τ, hQ, h1, h2, fun p e s m args below meth c H locs ls G a1 a2 hR hS hl => lv_if_ne G.1 G.2.1 e0 e2 (fun _ => (kk p e s m args below meth c H locs ls G a1 a2 hR hS hl)) (fun z => by first | exact absurd hc z | exact absurd z hc)⟩
  · obtain ⟨r, τ, hQ, h1, h2, kk⟩ := kf (by first | exact hc | exact Int32.not_le.mp hc | exact Int32.not_lt.mp hc | exact Classical.not_not.mp hc)
    exact ⟨r, τ, hQ, h1, h2, fun p e s m args below meth c H locs ls G a1 a2 hR hS hl => lv_if_ne G.1 G.2.1 e0 e2 (fun z => absurd z hc) (fun _ => (kk p e s m args below meth c H locs ls G a1 a2 hR hS hl))⟩
theorem wa_if_lt {x : Int32} {off : Int} {tgt : Nat} (q : decode y.2.1 pc = .ok (.ifCond .lt off, 3) ∧ pc + 3 = nx ∧ (pc : Int) + off = (tgt : Int)) (kt : x < 0 → WA X y ρ tgt lv st σ Q) (kf : ¬ x < 0 → WA X y ρ nx lv st σ Q) : WA X y ρ pc lv (.int x :: st) σ Q := by
  obtain ⟨e0, rfl, e2⟩ := q
  rcases Classical.em (x < 0) with hc | hc
  · obtain ⟨r, τ, hQ, h1, h2, kk⟩ := kt hc
    exact ⟨r, τ, hQ, h1, h2, fun p e s m args below meth c H locs ls G a1 a2 hR hS hl => lv_if_lt G.1 G.2.1 e0 e2 (fun _ => (kk p e s m args below meth c H locs ls G a1 a2 hR hS hl)) (fun z => by first | exact absurd hc z | exact absurd z hc)⟩
  · obtain ⟨r, τ, hQ, h1, h2, kk⟩ := kf (by first | exact hc | exact Int32.not_le.mp hc | exact Int32.not_lt.mp hc | exact Classical.not_not.mp hc)
    exact ⟨r, τ, hQ, h1, h2, fun p e s m args below meth c H locs ls G a1 a2 hR hS hl => lv_if_lt G.1 G.2.1 e0 e2 (fun z => absurd z hc) (fun _ => (kk p e s m args below meth c H locs ls G a1 a2 hR hS hl))⟩
theorem wa_if_ge {x : Int32} {off : Int} {tgt : Nat} (q : decode y.2.1 pc = .ok (.ifCond .ge off, 3) ∧ pc + 3 = nx ∧ (pc : Int) + off = (tgt : Int)) (kt : 0 ≤ x → WA X y ρ tgt lv st σ Q) (kf : ¬ 0 ≤ x → WA X y ρ nx lv st σ Q) : WA X y ρ pc lv (.int x :: st) σ Q := by
  obtain ⟨e0, rfl, e2⟩ := q
  rcases Classical.em (0 ≤ x) with hc | hc
  · obtain ⟨r, τ, hQ, h1, h2, kk⟩ := kt hc
    exact ⟨r, τ, hQ, h1, h2, fun p e s m args below meth c H locs ls G a1 a2 hR hS hl => lv_if_ge G.1 G.2.1 e0 e2 (fun _ => (kk p e s m args below meth c H locs ls G a1 a2 hR hS hl)) (fun z => by first | exact absurd hc z | exact absurd z hc)⟩
  · obtain ⟨r, τ, hQ, h1, h2, kk⟩ := kf (by first | exact hc | exact Int32.not_le.mp hc | exact Int32.not_lt.mp hc | exact Classical.not_not.mp hc)
    exact ⟨r, τ, hQ, h1, h2, fun p e s m args below meth c H locs ls G a1 a2 hR hS hl => lv_if_ge G.1 G.2.1 e0 e2 (fun z => absurd z hc) (fun _ => (kk p e s m args below meth c H locs ls G a1 a2 hR hS hl))⟩
theorem wa_if_gt {x : Int32} {off : Int} {tgt : Nat} (q : decode y.2.1 pc = .ok (.ifCond .gt off, 3) ∧ pc + 3 = nx ∧ (pc : Int) + off = (tgt : Int)) (kt : 0 < x → WA X y ρ tgt lv st σ Q) (kf : ¬ 0 < x → WA X y ρ nx lv st σ Q) : WA X y ρ pc lv (.int x :: st) σ Q := by
  obtain ⟨e0, rfl, e2⟩ := q
  rcases Classical.em (0 < x) with hc | hc
  · obtain ⟨r, τ, hQ, h1, h2, kk⟩ := kt hc
    exact ⟨r, τ, hQ, h1, h2, fun p e s m args below meth c H locs ls G a1 a2 hR hS hl => lv_if_gt G.1 G.2.1 e0 e2 (fun _ => (kk p e s m args below meth c H locs ls G a1 a2 hR hS hl)) (fun z => by first | exact absurd hc z | exact absurd z hc)⟩
  · obtain ⟨r, τ, hQ, h1, h2, kk⟩ := kf (by first | exact hc | exact Int32.not_le.mp hc | exact Int32.not_lt.mp hc | exact Classical.not_not.mp hc)
    exact ⟨r, τ, hQ, h1, h2, fun p e s m args below meth c H locs ls G a1 a2 hR hS hl => lv_if_gt G.1 G.2.1 e0 e2 (fun z => absurd z hc) (fun _ => (kk p e s m args below meth c H locs ls G a1 a2 hR hS hl))⟩
theorem wa_if_le {x : Int32} {off : Int} {tgt : Nat} (q : decode y.2.1 pc = .ok (.ifCond .le off, 3) ∧ pc + 3 = nx ∧ (pc : Int) + off = (tgt : Int)) (kt : x ≤ 0 → WA X y ρ tgt lv st σ Q) (kf : ¬ x ≤ 0 → WA X y ρ nx lv st σ Q) : WA X y ρ pc lv (.int x :: st) σ Q := by
  obtain ⟨e0, rfl, e2⟩ := q
  rcases Classical.em (x ≤ 0) with hc | hc
  · obtain ⟨r, τ, hQ, h1, h2, kk⟩ := kt hc
    exact ⟨r, τ, hQ, h1, h2, fun p e s m args below meth c H locs ls G a1 a2 hR hS hl => lv_if_le G.1 G.2.1 e0 e2 (fun _ => (kk p e s m args below meth c H locs ls G a1 a2 hR hS hl)) (fun z => by first | exact absurd hc z | exact absurd z hc)⟩
  · obtain ⟨r, τ, hQ, h1, h2, kk⟩ := kf (by first | exact hc | exact Int32.not_le.mp hc | exact Int32.not_lt.mp hc | exact Classical.not_not.mp hc)
    exact ⟨r, τ, hQ, h1, h2, fun p e s m args below meth c H locs ls G a1 a2 hR hS hl => lv_if_le G.1 G.2.1 e0 e2 (fun z => absurd z hc) (fun _ => (kk p e s m args below meth c H locs ls G a1 a2 hR hS hl))⟩
theorem wa_icmp_eq {x w : Int32} {off : Int} {tgt : Nat} (q : decode y.2.1 pc = .ok (.if_icmp .eq off, 3) ∧ pc + 3 = nx ∧ (pc : Int) + off = (tgt : Int)) (kt : x = w → WA X y ρ tgt lv st σ Q) (kf : ¬ x = w → WA X y ρ nx lv st σ Q) : WA X y ρ pc lv (.int w :: .int x :: st) σ Q := by
  obtain ⟨e0, rfl, e2⟩ := q
  rcases Classical.em (x = w) with hc | hc
  · obtain ⟨r, τ, hQ, h1, h2, kk⟩ := kt hc
    exact ⟨r, τ, hQ, h1, h2, fun p e s m args below meth c H locs ls G a1 a2 hR hS hl => lv_icmp_eq G.1 G.2.1 e0 e2 (fun _ => (kk p e s m args below meth c H locs ls G a1 a2 hR hS hl)) (fun z => by first | exact absurd hc z | exact absurd z hc)⟩
  · obtain ⟨r, τ, hQ, h1, h2, kk⟩ := kf (by first | exact hc | exact Int32.not_le.mp hc | exact Int32.not_lt.mp hc | exact Classical.not_not.mp hc)
    exact ⟨r, τ, hQ, h1, h2, fun p e s m args below meth c H locs ls G a1 a2 hR hS hl => lv_icmp_eq G.1 G.2.1 e0 e2 (fun z => absurd z hc) (fun _ => (kk p e s m args below meth c H locs ls G a1 a2 hR hS hl))⟩
theorem wa_icmp_ne {x w : Int32} {off : Int} {tgt : Nat} (q : decode y.2.1 pc = .ok (.if_icmp .ne off, 3) ∧ pc + 3 = nx ∧ (pc : Int) + off = (tgt : Int)) (kt : ¬ x = w → WA X y ρ tgt lv st σ Q) (kf : x = w → WA X y ρ nx lv st σ Q) : WA X y ρ pc lv (.int w :: .int x :: st) σ Q := by
  obtain ⟨e0, rfl, e2⟩ := q
  rcases Classical.em (¬ x = w) with hc | hc
  · obtain ⟨r, τ, hQ, h1, h2, kk⟩ := kt hc
    exact ⟨r, τ, hQ, h1, h2, fun p e s m args below meth c H locs ls G a1 a2 hR hS hl => lv_icmp_ne G.1 G.2.1 e0 e2 (fun _ => (kk p e s m args below meth c H locs ls G a1 a2 hR hS hl)) (fun z => by first | exact absurd hc z | exact absurd z hc)⟩
  · obtain ⟨r, τ, hQ, h1, h2, kk⟩ := kf (by first | exact hc | exact Int32.not_le.mp hc | exact Int32.not_lt.mp hc | exact Classical.not_not.mp hc)
    exact ⟨r, τ, hQ, h1, h2, fun p e s m args below meth c H locs ls G a1 a2 hR hS hl => lv_icmp_ne G.1 G.2.1 e0 e2 (fun z => absurd z hc) (fun _ => (kk p e s m args below meth c H locs ls G a1 a2 hR hS hl))⟩
theorem wa_icmp_lt {x w : Int32} {off : Int} {tgt : Nat} (q : decode y.2.1 pc = .ok (.if_icmp .lt off, 3) ∧ pc + 3 = nx ∧ (pc : Int) + off = (tgt : Int)) (kt : x < w → WA X y ρ tgt lv st σ Q) (kf : ¬ x < w → WA X y ρ nx lv st σ Q) : WA X y ρ pc lv (.int w :: .int x :: st) σ Q := by
  obtain ⟨e0, rfl, e2⟩ := q
  rcases Classical.em (x < w) with hc | hc
  · obtain ⟨r, τ, hQ, h1, h2, kk⟩ := kt hc
    exact ⟨r, τ, hQ, h1, h2, fun p e s m args below meth c H locs ls G a1 a2 hR hS hl => lv_icmp_lt G.1 G.2.1 e0 e2 (fun _ => (kk p e s m args below meth c H locs ls G a1 a2 hR hS hl)) (fun z => by first | exact absurd hc z | exact absurd z hc)⟩
  · obtain ⟨r, τ, hQ, h1, h2, kk⟩ := kf (by first | exact hc | exact Int32.not_le.mp hc | exact Int32.not_lt.mp hc | exact Classical.not_not.mp hc)
    exact ⟨r, τ, hQ, h1, h2, fun p e s m args below meth c H locs ls G a1 a2 hR hS hl => lv_icmp_lt G.1 G.2.1 e0 e2 (fun z => absurd z hc) (fun _ => (kk p e s m args below meth c H locs ls G a1 a2 hR hS hl))⟩
theorem wa_icmp_ge {x w : Int32} {off : Int} {tgt : Nat} (q : decode y.2.1 pc = .ok (.if_icmp .ge off, 3) ∧ pc + 3 = nx ∧ (pc : Int) + off = (tgt : Int)) (kt : w ≤ x → WA X y ρ tgt lv st σ Q) (kf : ¬ w ≤ x → WA X y ρ nx lv st σ Q) : WA X y ρ pc lv (.int w :: .int x :: st) σ Q := by
  obtain ⟨e0, rfl, e2⟩ := q
  rcases Classical.em (w ≤ x) with hc | hc
  · obtain ⟨r, τ, hQ, h1, h2, kk⟩ := kt hc
    exact ⟨r, τ, hQ, h1, h2, fun p e s m args below meth c H locs ls G a1 a2 hR hS hl => lv_icmp_ge G.1 G.2.1 e0 e2 (fun _ => (kk p e s m args below meth c H locs ls G a1 a2 hR hS hl)) (fun z => by first | exact absurd hc z | exact absurd z hc)⟩
  · obtain ⟨r, τ, hQ, h1, h2, kk⟩ := kf (by first | exact hc | exact Int32.not_le.mp hc | exact Int32.not_lt.mp hc | exact Classical.not_not.mp hc)
    exact ⟨r, τ, hQ, h1, h2, fun p e s m args below meth c H locs ls G a1 a2 hR hS hl => lv_icmp_ge G.1 G.2.1 e0 e2 (fun z => absurd z hc) (fun _ => (kk p e s m args below meth c H locs ls G a1 a2 hR hS hl))⟩
theorem wa_icmp_gt {x w : Int32} {off : Int} {tgt : Nat} (q : decode y.2.1 pc = .ok (.if_icmp .gt off, 3) ∧ pc + 3 = nx ∧ (pc : Int) + off = (tgt : Int)) (kt : w < x → WA X y ρ tgt lv st σ Q) (kf : ¬ w < x → WA X y ρ nx lv st σ Q) : WA X y ρ pc lv (.int w :: .int x :: st) σ Q := by
  obtain ⟨e0, rfl, e2⟩ := q
  rcases Classical.em (w < x) with hc | hc
  · obtain ⟨r, τ, hQ, h1, h2, kk⟩ := kt hc
    exact ⟨r, τ, hQ, h1, h2, fun p e s m args below meth c H locs ls G a1 a2 hR hS hl => lv_icmp_gt G.1 G.2.1 e0 e2 (fun _ => (kk p e s m args below meth c H locs ls G a1 a2 hR hS hl)) (fun z => by first | exact absurd hc z | exact absurd z hc)⟩
  · obtain ⟨r, τ, hQ, h1, h2, kk⟩ := kf (by first | exact hc | exact Int32.not_le.mp hc | exact Int32.not_lt.mp hc | exact Classical.not_not.mp hc)
    exact ⟨r, τ, hQ, h1, h2, fun p e s m args below meth c H locs ls G a1 a2 hR hS hl => lv_icmp_gt G.1 G.2.1 e0 e2 (fun z => absurd z hc) (fun _ => (kk p e s m args below meth c H locs ls G a1 a2 hR hS hl))⟩
theorem wa_icmp_le {x w : Int32} {off : Int} {tgt : Nat} (q : decode y.2.1 pc = .ok (.if_icmp .le off, 3) ∧ pc + 3 = nx ∧ (pc : Int) + off = (tgt : Int)) (kt : x ≤ w → WA X y ρ tgt lv st σ Q) (kf : ¬ x ≤ w → WA X y ρ nx lv st σ Q) : WA X y ρ pc lv (.int w :: .int x :: st) σ Q := by
  obtain ⟨e0, rfl, e2⟩ := q
  rcases Classical.em (x ≤ w) with hc | hc
  · obtain ⟨r, τ, hQ, h1, h2, kk⟩ := kt hc
    exact ⟨r, τ, hQ, h1, h2, fun p e s m args below meth c H locs ls G a1 a2 hR hS hl => lv_icmp_le G.1 G.2.1 e0 e2 (fun _ => (kk p e s m args below meth c H locs ls G a1 a2 hR hS hl)) (fun z => by first | exact absurd hc z | exact absurd z hc)⟩
  · obtain ⟨r, τ, hQ, h1, h2, kk⟩ := kf (by first | exact hc | exact Int32.not_le.mp hc | exact Int32.not_lt.mp hc | exact Classical.not_not.mp hc)
    exact ⟨r, τ, hQ, h1, h2, fun p e s m args below meth c H locs ls G a1 a2 hR hS hl => lv_icmp_le G.1 G.2.1 e0 e2 (fun z => absurd z hc) (fun _ => (kk p e s m args below meth c H locs ls G a1 a2 hR hS hl))⟩
theorem wa_goto {off : Int} {tgt : Nat} (q : decode y.2.1 pc = .ok (.goto off, 3) ∧ pc + 3 = nx ∧ (pc : Int) + off = (tgt : Int)) (k : WA X y ρ tgt lv st σ Q) : WA X y ρ pc lv st σ Q := by
  obtain ⟨e0, -, e2⟩ := q
  obtain ⟨r, τ, hQ, h1, h2, kk⟩ := k
  exact ⟨r, τ, hQ, h1, h2, fun p e s m args below meth c H locs ls G a1 a2 hR hS hl => lv_goto G.1 G.2.1 e0 e2 (kk p e s m args below meth c H locs ls G a1 a2 hR hS hl)⟩
theorem wa_ifnull {a : Nat} {off : Int} {tgt : Nat} (q : decode y.2.1 pc = .ok (.ifnull off, 3) ∧ pc + 3 = nx ∧ (pc : Int) + off = (tgt : Int)) (k : WA X y ρ nx lv (st) σ Q) : WA X y ρ pc lv (.ref a :: st) σ Q := by
  obtain ⟨e0, rfl, -⟩ := q
  obtain ⟨r, τ, hQ, h1, h2, kk⟩ := k
  exact ⟨r, τ, hQ, h1, h2, fun p e s m args below meth c H locs ls G a1 a2 hR hS hl => lv_ifnull G.1 G.2.1 e0 (kk p e s m args below meth c H locs ls G a1 a2 hR hS hl)⟩
theorem wa_ifnullN {off : Int} {tgt : Nat} (q : decode y.2.1 pc = .ok (.ifnull off, 3) ∧ pc + 3 = nx ∧ (pc : Int) + off = (tgt : Int)) (k : WA X y ρ tgt lv st σ Q) : WA X y ρ pc lv (.null :: st) σ Q := by
  obtain ⟨e0, -, e2⟩ := q
  obtain ⟨r, τ, hQ, h1, h2, kk⟩ := k
  exact ⟨r, τ, hQ, h1, h2, fun p e s m args below meth c H locs ls G a1 a2 hR hS hl => lv_ifnullN G.1 G.2.1 e0 e2 (kk p e s m args below meth c H locs ls G a1 a2 hR hS hl)⟩
theorem wa_ifnonnull {a : Nat} {off : Int} {tgt : Nat} (q : decode y.2.1 pc = .ok (.ifnonnull off, 3) ∧ pc + 3 = nx ∧ (pc : Int) + off = (tgt : Int)) (k : WA X y ρ tgt lv st σ Q) : WA X y ρ pc lv (.ref a :: st) σ Q := by
  obtain ⟨e0, -, e2⟩ := q
  obtain ⟨r, τ, hQ, h1, h2, kk⟩ := k
  exact ⟨r, τ, hQ, h1, h2, fun p e s m args below meth c H locs ls G a1 a2 hR hS hl => lv_ifnonnull G.1 G.2.1 e0 e2 (kk p e s m args below meth c H locs ls G a1 a2 hR hS hl)⟩
theorem wa_ifnonnullN {off : Int} {tgt : Nat} (q : decode y.2.1 pc = .ok (.ifnonnull off, 3) ∧ pc + 3 = nx ∧ (pc : Int) + off = (tgt : Int)) (k : WA X y ρ nx lv (st) σ Q) : WA X y ρ pc lv (.null :: st) σ Q := by
  obtain ⟨e0, rfl, -⟩ := q
  obtain ⟨r, τ, hQ, h1, h2, kk⟩ := k
  exact ⟨r, τ, hQ, h1, h2, fun p e s m args below meth c H locs ls G a1 a2 hR hS hl => lv_ifnonnullN G.1 G.2.1 e0 (kk p e s m args below meth c H locs ls G a1 a2 hR hS hl)⟩
end en_rows
end
section
/-! Rows of WA: fields, arrays, objects made, calls, returns, the entry. -/
/-- entry i of the pool of class own is field k of class number ci -/
def en_F (own : String) (i ci k : Nat) : Prop := ∃ (C : String) (T : u_T) (N : Nat), vwCl[ci]? = some (C, T, N) ∧ k < N ∧ (T k).1 = C ∧ Cond.fieldLink own i C (T k).2.1 (T k).2.2.1 ∈ en_tbl ∧ ∀ w ∈ u_ws C T N, w ∈ en_tbl
def en_Fp (own : String) (i ci k : Nat) (fin : Bool) (ty : FieldType) : Prop := ∃ (C : String) (T : u_T) (N : Nat) (ty0 : Nat → FieldType), vwCl[ci]? = some (C, T, N) ∧ k < N ∧ (T k).1 = C ∧ Cond.fieldLink own i C (T k).2.1 (T k).2.2.1 ∈ en_tbl ∧ (∀ w ∈ u_ws C T N, w ∈ en_tbl) ∧ (∀ k, k < N → parseFieldDescriptor (T k).2.2.1 = some (ty0 k)) ∧ (∀ a, a < N → ∀ b, b < N → a ≠ b → (T a).2.1 ≠ (T b).2.1) ∧ (T k).2.2.2 = fin ∧ parseFieldDescriptor (T k).2.2.1 = some ty
def en_N (own : String) (i ci N : Nat) (fs : List Value) : Prop := ∃ (C : String) (T : u_T) (ty : Nat → FieldType), vwCl[ci]? = some (C, T, N) ∧ Cond.classLink own i C ∈ en_tbl ∧ Cond.instantiable C N ∈ en_tbl ∧ Cond.initialized C ∈ en_tbl ∧ (∀ w ∈ u_ws C T N, w ∈ en_tbl) ∧ (∀ k, k < N → parseFieldDescriptor (T k).2.2.1 = some (ty k)) ∧ ∀ j, j < N → defaultValue (ty j) = vp_V fs j
/-- the words of a call of f out of y, by entry i of the pool, n arguments beside the receiver -/
def en_C (y f : en_M) (i n : Nat) : Prop := (Cond.methodLink y.1.cls i f.1 ∈ en_tbl ∧ Cond.initialized f.1.cls ∈ en_tbl ∧ Cond.code f.1 f.2.1 f.2.2.1 f.2.2.2.1 ∈ en_tbl) ∧ (f.1.cls ≠ "java/lang/invoke/MethodHandle" ∧ f.1.cls ≠ "java/lang/invoke/VarHandle" ∧ (parseMethodDescriptor f.1.desc).map (fun d => d.parameters.length) = some n) ∧ f.2.2.2.2.1 + 1 ≤ y.2.2.2.2.1 ∧ 8 + (f.2.2.1 + 11) + f.2.2.2.2.2 ≤ y.2.2.2.2.2
section en_heap
variable {X : en_X} {y : en_M} {ρ σ : en_S} {pc nx : Nat} {lv : List (Nat × Value)} {st : List Value} {Q : Option Value → en_S → Prop}
theorem wa_getf {i ci k a : Nat} {fs : List Value} {v : Value} (q : decode y.2.1 pc = .ok (.getfield i, 3) ∧ pc + 3 = nx) (f : en_F y.1.cls i ci k) (h : look σ a = some (.inr (ci, fs))) (hv : fs[k]? = some v) (kw : WA X y ρ nx lv (v :: st) σ Q) : WA X y ρ pc lv (.ref a :: st) σ Q := by
  obtain ⟨e0, rfl⟩ := q
  obtain ⟨C, T, N, f1, f2, f3, f4, f5⟩ := f
  obtain ⟨r, τ, hQ, h1, h2, kk⟩ := kw
  refine ⟨r, τ, hQ, h1, h2, fun p e s m args below meth c H locs ls G a1 a2 hR hS hl => ?_⟩
  exact va_get G.1 G.2.1 (G.2.2.2.2.2.1) f5 G.2.2.2.2.1 G.2.2.2.2.2.2.1.1 hR.2.2.1 _ (en_lw_ix h) f1 k f2 (G.2.2.2.2.2.1 _ f4) (fun x hx => by rw [f3] at hx; exact hx) hv e0 (kk p e s m args below meth c H locs ls G a1 a2 hR hS hl)
theorem wa_putf {i ci k a : Nat} {fs : List Value} {v : Value} {ty : FieldType} (q : decode y.2.1 pc = .ok (.putfield i, 3) ∧ pc + 3 = nx) (f : en_Fp y.1.cls i ci k false ty) (h : look σ a = some (.inr (ci, fs))) (hk : k < fs.length) (hn : narrow ty v = v) (hfit : fits ty v = true) (kw : WA X y ρ nx lv st (put σ a (.inr (ci, fs.set k v))) Q) : WA X y ρ pc lv (v :: .ref a :: st) σ Q := by
  obtain ⟨e0, rfl⟩ := q
  obtain ⟨C, T, N, ty0, f1, f2, f3, f4, f5, f6, f7, f8, f9⟩ := f
  obtain ⟨r, τ, hQ, h1, h2, kk⟩ := kw
  refine ⟨r, τ, hQ, h1, h2, fun p e s m args below meth c H locs ls G a1 a2 hR hS hl => ?_⟩
  refine va_put G.1 G.2.1 (G.2.2.2.2.2.1) f5 ty0 f6 f7 G.2.2.2.2.1 G.2.2.2.2.2.2.1.1 hR.2.2.1 hR.2.2.2 (en_Sself hS) _ (en_lw_ix h) f1 k f2 (G.2.2.2.2.2.1 _ f4) (fun x hx => by rw [f3] at hx; exact hx) f8 f9 hn hfit hk e0 (fun H1 locs1 g1 g2 g3 => en_bd fun hb => ?_)
  obtain ⟨R1, S1⟩ := en_after G a1 hR hS g1 g2 g3 hb
  exact kk p e s m args below meth c H1 locs1 ls G a1 a2 R1 S1 hl
theorem wa_putF {i ci k a : Nat} {fs : List Value} {v : Value} {ty : FieldType} (q : decode y.2.1 pc = .ok (.putfield i, 3) ∧ pc + 3 = nx) (f : en_Fp y.1.cls i ci k true ty) (hy : y.1.name = "<init>") (hC : ∀ C T N, vwCl[ci]? = some (C, T, N) → C = y.1.cls) (h : look σ a = some (.inr (ci, fs))) (hk : k < fs.length) (hn : narrow ty v = v) (hfit : fits ty v = true) (kw : WA X y ρ nx lv st (put σ a (.inr (ci, fs.set k v))) Q) : WA X y ρ pc lv (v :: .ref a :: st) σ Q := by
  obtain ⟨e0, rfl⟩ := q
  obtain ⟨C, T, N, ty0, f1, f2, f3, f4, f5, f6, f7, f8, f9⟩ := f
  obtain ⟨r, τ, hQ, h1, h2, kk⟩ := kw
  refine ⟨r, τ, hQ, h1, h2, fun p e s m args below meth c H locs ls G a1 a2 hR hS hl => ?_⟩
  refine va_putF G.1 G.2.1 (G.2.2.2.2.2.1) f5 ty0 f6 f7 G.2.2.2.2.1 G.2.2.2.2.2.2.1.1 hR.2.2.1 hR.2.2.2 (en_Sself hS) _ (en_lw_ix h) f1 k f2 (G.2.2.2.2.2.1 _ f4) (fun x hx => by rw [f3] at hx; exact hx) f8 (G.2.2.2.2.2.2.2.2.2.trans hy) (f3.trans (hC C T N f1)) f9 hn hfit hk e0 (fun H1 locs1 g1 g2 g3 => en_bd fun hb => ?_)
  obtain ⟨R1, S1⟩ := en_after G a1 hR hS g1 g2 g3 hb
  exact kk p e s m args below meth c H1 locs1 ls G a1 a2 R1 S1 hl
-- arrays: loads
theorem wa_iald {a n : Nat} {f : Nat → Int32} {i : Int32} (q : decode y.2.1 pc = .ok (.iaload, 1) ∧ pc + 1 = nx) (h : look σ a = some (.inl (X.2.2.1.1, n, .inl f))) (hi : vp_in i n) (kw : WA X y ρ nx lv (.int (f i.toNatClampNeg) :: st) σ Q) : WA X y ρ pc lv (.int i :: .ref a :: st) σ Q := by
  obtain ⟨e0, rfl⟩ := q
  obtain ⟨r, τ, hQ, h1, h2, kk⟩ := kw
  exact ⟨r, τ, hQ, h1, h2, fun p e s m args below meth c H locs ls G a1 a2 hR hS hl => va_iald G.1 G.2.1 G.2.2.2.2.2.2.1.1 hR.2.2.1 _ 0 (en_lw_ix h) rfl hi e0 (kk p e s m args below meth c H locs ls G a1 a2 hR hS hl)⟩
theorem wa_zald {a n : Nat} {f : Nat → Int32} {i : Int32} (q : decode y.2.1 pc = .ok (.baload, 1) ∧ pc + 1 = nx) (h : look σ a = some (.inl (X.2.2.1.2.2.1, n, .inl f))) (hi : vp_in i n) (kw : WA X y ρ nx lv (.int (f i.toNatClampNeg) :: st) σ Q) : WA X y ρ pc lv (.int i :: .ref a :: st) σ Q := by
  obtain ⟨e0, rfl⟩ := q
  obtain ⟨r, τ, hQ, h1, h2, kk⟩ := kw
  exact ⟨r, τ, hQ, h1, h2, fun p e s m args below meth c H locs ls G a1 a2 hR hS hl => va_zald G.1 G.2.1 G.2.2.2.2.2.2.1.1 hR.2.2.1 _ 2 (en_lw_ix h) rfl hi e0 (kk p e s m args below meth c H locs ls G a1 a2 hR hS hl)⟩
theorem wa_lald {a n : Nat} {f : Nat → Int64} {i : Int32} (q : decode y.2.1 pc = .ok (.laload, 1) ∧ pc + 1 = nx) (h : look σ a = some (.inl (X.2.2.1.2.1, n, .inr (.inl f)))) (hi : vp_in i n) (kw : WA X y ρ nx lv (.long (f i.toNatClampNeg) :: st) σ Q) : WA X y ρ pc lv (.int i :: .ref a :: st) σ Q := by
  obtain ⟨e0, rfl⟩ := q
  obtain ⟨r, τ, hQ, h1, h2, kk⟩ := kw
  exact ⟨r, τ, hQ, h1, h2, fun p e s m args below meth c H locs ls G a1 a2 hR hS hl => va_lald G.1 G.2.1 G.2.2.2.2.2.2.1.1 hR.2.2.1 _ 1 (en_lw_ix h) rfl hi e0 (kk p e s m args below meth c H locs ls G a1 a2 hR hS hl)⟩
theorem wa_aald {a n : Nat} {f : Nat → Option Nat} {i : Int32} (q : decode y.2.1 pc = .ok (.aaload, 1) ∧ pc + 1 = nx) (h : look σ a = some (.inl (X.2.2.1.2.2.2, n, .inr (.inr (.inr (.inr f)))))) (hi : vp_in i n) (kw : WA X y ρ nx lv (va_rf (f i.toNatClampNeg) :: st) σ Q) : WA X y ρ pc lv (.int i :: .ref a :: st) σ Q := by
  obtain ⟨e0, rfl⟩ := q
  obtain ⟨r, τ, hQ, h1, h2, kk⟩ := kw
  exact ⟨r, τ, hQ, h1, h2, fun p e s m args below meth c H locs ls G a1 a2 hR hS hl => va_aldq G.1 G.2.1 G.2.2.2.2.2.2.1.1 hR.2.2.1 _ 3 (en_lw_ix h) rfl hi e0 (kk p e s m args below meth c H locs ls G a1 a2 hR hS hl)⟩
theorem wa_alen {a t0 : Nat} {cA : ClassId} {x : vp_A} {ty : FieldType} (q : decode y.2.1 pc = .ok (.arraylength, 1) ∧ pc + 1 = nx) (h : look σ a = some (.inl (cA, x))) (ht : (en_tys X)[t0]? = some (cA, ty)) (kw : WA X y ρ nx lv (.int (Int32.ofNat x.1) :: st) σ Q) : WA X y ρ pc lv (.ref a :: st) σ Q := by
  obtain ⟨e0, rfl⟩ := q
  obtain ⟨r, τ, hQ, h1, h2, kk⟩ := kw
  exact ⟨r, τ, hQ, h1, h2, fun p e s m args below meth c H locs ls G a1 a2 hR hS hl => va_alen G.1 G.2.1 G.2.2.2.2.2.2.1.1 hR.2.2.1 _ t0 (en_lw_ix h) ht rfl e0 (kk p e s m args below meth c H locs ls G a1 a2 hR hS hl)⟩
-- arrays: stores
theorem wa_iast {a n : Nat} {f : Nat → Int32} {i x : Int32} (q : decode y.2.1 pc = .ok (.iastore, 1) ∧ pc + 1 = nx) (h : look σ a = some (.inl (X.2.2.1.1, n, .inl f))) (hi : vp_in i n) (kw : WA X y ρ nx lv st (put σ a (.inl (X.2.2.1.1, n, .inl (upd f i.toNatClampNeg x)))) Q) : WA X y ρ pc lv (.int x :: .int i :: .ref a :: st) σ Q := by
  obtain ⟨e0, rfl⟩ := q
  obtain ⟨r, τ, hQ, h1, h2, kk⟩ := kw
  refine ⟨r, τ, hQ, h1, h2, fun p e s m args below meth c H locs ls G a1 a2 hR hS hl => ?_⟩
  refine va_iast G.1 G.2.1 G.2.2.2.2.2.2.1.1 hR.2.2.1 hR.2.2.2 (en_Sself hS) _ 0 (en_lw_ix h) rfl hi e0 (fun H1 locs1 g1 g2 g3 => en_bd fun hb => ?_)
  obtain ⟨R1, S1⟩ := en_after G a1 hR hS g1 g2 g3 hb
  exact kk p e s m args below meth c H1 locs1 ls G a1 a2 R1 S1 hl
theorem wa_zast {a n : Nat} {f : Nat → Int32} {i x : Int32} (q : decode y.2.1 pc = .ok (.bastore, 1) ∧ pc + 1 = nx) (h : look σ a = some (.inl (X.2.2.1.2.2.1, n, .inl f))) (hi : vp_in i n) (kw : WA X y ρ nx lv st (put σ a (.inl (X.2.2.1.2.2.1, n, .inl (upd f i.toNatClampNeg (vp_nar .boolean x))))) Q) : WA X y ρ pc lv (.int x :: .int i :: .ref a :: st) σ Q := by
  obtain ⟨e0, rfl⟩ := q
  obtain ⟨r, τ, hQ, h1, h2, kk⟩ := kw
  refine ⟨r, τ, hQ, h1, h2, fun p e s m args below meth c H locs ls G a1 a2 hR hS hl => ?_⟩
  refine va_zast G.1 G.2.1 G.2.2.2.2.2.2.1.1 hR.2.2.1 hR.2.2.2 (en_Sself hS) _ 2 (en_lw_ix h) rfl hi e0 (fun H1 locs1 g1 g2 g3 => en_bd fun hb => ?_)
  obtain ⟨R1, S1⟩ := en_after G a1 hR hS g1 g2 g3 hb
  exact kk p e s m args below meth c H1 locs1 ls G a1 a2 R1 S1 hl
theorem wa_last {a n : Nat} {f : Nat → Int64} {i : Int32} {x : Int64} (q : decode y.2.1 pc = .ok (.lastore, 1) ∧ pc + 1 = nx) (h : look σ a = some (.inl (X.2.2.1.2.1, n, .inr (.inl f)))) (hi : vp_in i n) (kw : WA X y ρ nx lv st (put σ a (.inl (X.2.2.1.2.1, n, .inr (.inl (vp_updL f i.toNatClampNeg x))))) Q) : WA X y ρ pc lv (.long x :: .int i :: .ref a :: st) σ Q := by
  obtain ⟨e0, rfl⟩ := q
  obtain ⟨r, τ, hQ, h1, h2, kk⟩ := kw
  refine ⟨r, τ, hQ, h1, h2, fun p e s m args below meth c H locs ls G a1 a2 hR hS hl => ?_⟩
  refine va_last G.1 G.2.1 G.2.2.2.2.2.2.1.1 hR.2.2.1 hR.2.2.2 (en_Sself hS) _ 1 (en_lw_ix h) rfl hi e0 (fun H1 locs1 g1 g2 g3 => en_bd fun hb => ?_)
  obtain ⟨R1, S1⟩ := en_after G a1 hR hS g1 g2 g3 hb
  exact kk p e s m args below meth c H1 locs1 ls G a1 a2 R1 S1 hl
theorem wa_aast {a n b : Nat} {f : Nat → Option Nat} {i : Int32} {fs : List Value} (q : decode y.2.1 pc = .ok (.aastore, 1) ∧ pc + 1 = nx) (h : look σ a = some (.inl (X.2.2.1.2.2.2, n, .inr (.inr (.inr (.inr f)))))) (hb : look σ b = some (.inr (5, fs))) (hi : vp_in i n) (kw : WA X y ρ nx lv st (put σ a (.inl (X.2.2.1.2.2.2, n, .inr (.inr (.inr (.inr (va_up f i.toNatClampNeg (some b)))))))) Q) : WA X y ρ pc lv (.ref b :: .int i :: .ref a :: st) σ Q := by
  obtain ⟨e0, rfl⟩ := q
  obtain ⟨r, τ, hQ, h1, h2, kk⟩ := kw
  refine ⟨r, τ, hQ, h1, h2, fun p e s m args below meth c H locs ls G a1 a2 hR hS hl => ?_⟩
  refine va_astq G.1 G.2.1 G.2.2.2.2.2.2.1.1 hR.2.2.1 hR.2.2.2 (en_Sself hS) _ 3 _ 5 (r := (RX5, TX5, 11)) (en_lw_ix h) rfl (en_lw_ix hb) rfl hi e0 (fun H1 locs1 g1 g2 g3 => en_bd fun hb => ?_)
  obtain ⟨R1, S1⟩ := en_after G a1 hR hS g1 g2 g3 hb
  exact kk p e s m args below meth c H1 locs1 ls G a1 a2 R1 S1 hl
theorem wa_copyi {i a0 a n0 n1 : Nat} {f g : Nat → Int32} {sp dp n : Int32} (q : decode y.2.1 pc = .ok (.invokestatic i, 3) ∧ pc + 3 = nx) (w : Cond.methodLink y.1.cls i arraycopyName ∈ en_tbl) (hf : 1 ≤ y.2.2.2.2.1) (hw : (st.map fun v => v.category).sum + (nativeFrameWords "java/lang/System" "arraycopy" 5 + 11) ≤ y.2.2.2.2.2)
    (h0 : look σ a0 = some (.inl (X.2.2.1.1, n0, .inl f))) (h1 : look σ a = some (.inl (X.2.2.1.1, n1, .inl g))) (c1 : ¬ sp < 0) (c2 : ¬ dp < 0) (c3 : ¬ n < 0) (c4 : sp.toNatClampNeg + n.toNatClampNeg ≤ n0) (c5 : dp.toNatClampNeg + n.toNatClampNeg ≤ n1)
    (kw : WA X y ρ nx lv st (put σ a (.inl (X.2.2.1.1, n1, .inl (va_cpy f g sp.toNatClampNeg dp.toNatClampNeg n.toNatClampNeg)))) Q) : WA X y ρ pc lv (.int n :: .int dp :: .ref a :: .int sp :: .ref a0 :: st) σ Q := by
  obtain ⟨e0, rfl⟩ := q
  obtain ⟨r, τ, hQ, o1, o2, kk⟩ := kw
  refine ⟨r, τ, hQ, o1, o2, fun p e s m args below meth c H locs ls G a1 a2 hR hS hl => ?_⟩
  refine va_copyi G.1 G.2.1 (G.2.2.2.1.trans hl.1.symm) G.2.2.2.2.1 (G.2.2.2.2.2.1 _ w) (G.2.2.2.2.2.1 _ (by decide +kernel)) (G.2.2.2.2.2.1 _ (by decide +kernel)) (G.2.2.2.2.2.1 _ (by decide +kernel)) G.2.2.2.2.2.2.1.1 hR.2.2.1 hR.2.2.2 (en_Sself hS) _ _ 0 0 (en_lw_ix h0) (en_lw_ix h1) rfl rfl rfl c1 c2 c3 c4 c5 (fun _ _ => rfl) hf hw e0 (fun H1 locs1 g1 g2 g3 => en_bd fun hb => ?_)
  obtain ⟨R1, S1⟩ := en_after G a1 hR hS g1 g2 g3 hb
  exact kk p e s m args below meth c H1 locs1 ls G a1 a2 R1 S1 hl
theorem wa_copyl {i a0 a n0 n1 : Nat} {f g : Nat → Int64} {sp dp n : Int32} (q : decode y.2.1 pc = .ok (.invokestatic i, 3) ∧ pc + 3 = nx) (w : Cond.methodLink y.1.cls i arraycopyName ∈ en_tbl) (hf : 1 ≤ y.2.2.2.2.1) (hw : (st.map fun v => v.category).sum + (nativeFrameWords "java/lang/System" "arraycopy" 5 + 11) ≤ y.2.2.2.2.2)
    (h0 : look σ a0 = some (.inl (X.2.2.1.2.1, n0, .inr (.inl f)))) (h1 : look σ a = some (.inl (X.2.2.1.2.1, n1, .inr (.inl g)))) (c1 : ¬ sp < 0) (c2 : ¬ dp < 0) (c3 : ¬ n < 0) (c4 : sp.toNatClampNeg + n.toNatClampNeg ≤ n0) (c5 : dp.toNatClampNeg + n.toNatClampNeg ≤ n1)
    (kw : WA X y ρ nx lv st (put σ a (.inl (X.2.2.1.2.1, n1, .inr (.inl (va_cpy f g sp.toNatClampNeg dp.toNatClampNeg n.toNatClampNeg))))) Q) : WA X y ρ pc lv (.int n :: .int dp :: .ref a :: .int sp :: .ref a0 :: st) σ Q := by
  obtain ⟨e0, rfl⟩ := q
  obtain ⟨r, τ, hQ, o1, o2, kk⟩ := kw
  refine ⟨r, τ, hQ, o1, o2, fun p e s m args below meth c H locs ls G a1 a2 hR hS hl => ?_⟩
  refine va_copyl G.1 G.2.1 (G.2.2.2.1.trans hl.1.symm) G.2.2.2.2.1 (G.2.2.2.2.2.1 _ w) (G.2.2.2.2.2.1 _ (by decide +kernel)) (G.2.2.2.2.2.1 _ (by decide +kernel)) (G.2.2.2.2.2.1 _ (by decide +kernel)) G.2.2.2.2.2.2.1.1 hR.2.2.1 hR.2.2.2 (en_Sself hS) _ _ 1 1 (en_lw_ix h0) (en_lw_ix h1) rfl rfl rfl c1 c2 c3 c4 c5 (fun _ _ => rfl) hf hw e0 (fun H1 locs1 g1 g2 g3 => en_bd fun hb => ?_)
  obtain ⟨R1, S1⟩ := en_after G a1 hR hS g1 g2 g3 hb
  exact kk p e s m args below meth c H1 locs1 ls G a1 a2 R1 S1 hl
-- what is made
theorem wa_new {i ci N : Nat} {fs : List Value} (q : decode y.2.1 pc = .ok (.new i, 3) ∧ pc + 3 = nx) (f : en_N y.1.cls i ci N fs) (kw : WA X y ρ nx lv (.ref σ.1 :: st) (fresh σ N (.inr (ci, fs))) Q) : WA X y ρ pc lv st σ Q := by
  obtain ⟨e0, rfl⟩ := q
  obtain ⟨C, T, ty, f1, f2, f3, f4, f5, f6, f7⟩ := f
  obtain ⟨r, τ, hQ, h1, h2, kk⟩ := kw
  have h1' : σ.1 + 1 ≤ τ.1 := h1
  have h2' : σ.2.1 + N ≤ τ.2.1 := h2
  refine ⟨r, τ, hQ, by omega, by omega, fun p e s m args below meth c H locs ls G a1 a2 hR hS hl => ?_⟩
  have hKn := G.2.2.2.2.2.2.1.1.1 ci _ f1
  refine W.newcK G.1 G.2.1 G.2.2.2.2.1 (G.2.2.2.2.2.1 _ f2) (G.2.2.2.2.2.1 _ f3) (G.2.2.2.2.2.1 _ f4) rfl e0 (by show σ.1 - ρ.1 + 1 ≤ τ.1 - ρ.1; omega) (by show σ.2.1 - ρ.2.1 + N ≤ τ.2.1 - ρ.2.1; omega) hKn.2.1 hR.1 fun H1 kC hkC g1 z1 o1 => ?_
  rw [← hR.1] at g1 z1 o1
  obtain ⟨R1, S1⟩ := en_freshR (n := N) (en := .inr (ci, fs)) G hR hS z1 o1 ⟨_, f1, (u_born ty G.2.2.2.2.2.1 f5 hKn hkC g1 f6).to f7⟩
  exact W.cs (by show σ.1 - ρ.1 + 1 = σ.1 + 1 - ρ.1; omega) (by show σ.2.1 - ρ.2.1 + N = σ.2.1 + N - ρ.2.1; omega) (kk p e s m args below meth c H1 locs ls G (by show ρ.1 ≤ σ.1 + 1; omega) (by show ρ.2.1 ≤ σ.2.1 + N; omega) R1 S1 hl)
theorem en_newa {atype : ArrayType} {ty : FieldType} {t0 : Nat} {cA : ClassId} {n : Int32} {N : Nat} {a0 : vp_A} (q : decode y.2.1 pc = .ok (.newarray atype, 2) ∧ pc + 2 = nx) (hw : Cond.arrayClass ty ∈ en_tbl) (hty : newarray.typeOf atype = ty) (ht : (en_tys X)[t0]? = some (cA, ty)) (hra : ∀ U cB, va_RA U cB ty → U.vm.findClass ("[" ++ ty.toString) = some cB) (ha : vp_cell cA a0 = arrV cA N (fun _ => defaultValue ty)) (hn : ¬ n < 0) (hN : n.toNatClampNeg = N) (hb : N * componentBytes ty ≤ 536870912)
    (kw : WA X y ρ nx lv (.ref σ.1 :: st) (fresh σ N (.inl (cA, a0))) Q) : WA X y ρ pc lv (.int n :: st) σ Q := by
  obtain ⟨e0, rfl⟩ := q
  obtain ⟨r, τ, hQ, h1, h2, kk⟩ := kw
  have h1' : σ.1 + 1 ≤ τ.1 := h1
  have h2' : σ.2.1 + N ≤ τ.2.1 := h2
  subst hty
  refine ⟨r, τ, hQ, by omega, by omega, fun p e s m args below meth c H locs ls G a1 a2 hR hS hl => ?_⟩
  refine va_newaK G.1 G.2.1 (G.2.2.2.2.2.1 _ hw) rfl e0 rfl hn hN hb (by show σ.1 - ρ.1 + 1 ≤ τ.1 - ρ.1; omega) (by show σ.2.1 - ρ.2.1 + N ≤ τ.2.1 - ρ.2.1; omega) hR.1 fun H1 cB g1 z1 o1 g2 g3 => ?_
  rw [← hR.1] at g1 z1 o1
  have hcB : cB = cA := by
    have h3 := hra _ _ (G.2.2.2.2.2.2.1.1.2 t0 _ ht).2
    exact Option.some.inj (g3.symm.trans h3)
  subst hcB
  obtain ⟨R1, S1⟩ := en_freshR (n := N) (en := .inl (cB, a0)) G hR hS z1 o1 (by show H1[H.size]? = some (vp_cell cB a0); rw [ha]; exact g1)
  exact W.cs (by show σ.1 - ρ.1 + 1 = σ.1 + 1 - ρ.1; omega) (by show σ.2.1 - ρ.2.1 + N = σ.2.1 + N - ρ.2.1; omega) (kk p e s m args below meth c H1 locs ls G (by show ρ.1 ≤ σ.1 + 1; omega) (by show ρ.2.1 ≤ σ.2.1 + N; omega) R1 S1 hl)
theorem wa_newi {n : Int32} {N : Nat} (q : decode y.2.1 pc = .ok (.newarray .int, 2) ∧ pc + 2 = nx) (hn : ¬ n < 0) (hN : n.toNatClampNeg = N) (hb : N ≤ 100000000) (kw : WA X y ρ nx lv (.ref σ.1 :: st) (fresh σ N (.inl (X.2.2.1.1, N, .inl (fun _ => 0)))) Q) : WA X y ρ pc lv (.int n :: st) σ Q :=
  en_newa (ty := .int) (t0 := 0) q (by decide +kernel) rfl rfl (fun U cB h => h) rfl hn hN (by have : componentBytes .int = 4 := rfl; rw [this]; omega) kw
theorem wa_newl {n : Int32} {N : Nat} (q : decode y.2.1 pc = .ok (.newarray .long, 2) ∧ pc + 2 = nx) (hn : ¬ n < 0) (hN : n.toNatClampNeg = N) (hb : N ≤ 10000000) (kw : WA X y ρ nx lv (.ref σ.1 :: st) (fresh σ N (.inl (X.2.2.1.2.1, N, .inr (.inl (fun _ => 0))))) Q) : WA X y ρ pc lv (.int n :: st) σ Q :=
  en_newa (ty := .long) (t0 := 1) q (by decide +kernel) rfl rfl (fun U cB h => h) rfl hn hN (by have : componentBytes .long = 8 := rfl; rw [this]; omega) kw
theorem wa_newz {n : Int32} {N : Nat} (q : decode y.2.1 pc = .ok (.newarray .boolean, 2) ∧ pc + 2 = nx) (hn : ¬ n < 0) (hN : n.toNatClampNeg = N) (hb : N ≤ 100000000) (kw : WA X y ρ nx lv (.ref σ.1 :: st) (fresh σ N (.inl (X.2.2.1.2.2.1, N, .inl (fun _ => 0)))) Q) : WA X y ρ pc lv (.int n :: st) σ Q :=
  en_newa (ty := .boolean) (t0 := 2) q (by decide +kernel) rfl rfl (fun U cB h => h) rfl hn hN (by have : componentBytes .boolean = 1 := rfl; rw [this]; omega) kw
end en_heap
section en_calls
variable {X : en_X} {y f : en_M} {ρ σ : en_S} {pc nx : Nat} {lv : List (Nat × Value)} {st stk : List Value} {Q : Option Value → en_S → Prop}
theorem en_blind (X : en_X) (av : List Value) (σ : en_S) : FrameBlind (en_Pc X av σ) := by
  intro a U g mk h
  obtain ⟨h1, h2, h3⟩ := h
  exact ⟨h1, (en_fix.same (u := U) (U := U.calling g mk a) rfl h2 : en_fix X (U.calling g mk a) U.heap), h3⟩
/-- what a caller has at hand for its callee's start -/
theorem en_pre {p : Program} {s : State} {m : MethodId} {args : Array Value} {meth : Method} {c : Code} {H : Heap} {locs : List Loc} (av : List Value) (G : en_G X y ρ p s m args meth c) (hR : en_R X σ H) (hS : va_S (en_A X) s.heap H locs) : PreS s H (en_Pc X av σ) av := by
  refine ⟨en_blind X av σ, fun U hU hW => ⟨rfl, ?_, by rw [hU]; exact hR⟩⟩
  rw [hU]
  exact (G.2.2.2.2.2.2.1.kept (fun q h1 h2 => hS.2.1 q h1 h2)).moved hW
theorem en_run {p : Program} {e : Env} {s : State} {m : MethodId} {args : Array Value} {below : List Frame} {meth : Method} {c : Code} {H : Heap} {locs : List Loc} {ls : Array Slot} {r r1 : Option Value} {τ τ1 : en_S} {a : Array Value} (G : en_G X y ρ p s m args meth c) (a1 : ρ.1 ≤ σ.1) (a2 : ρ.2.1 ≤ σ.2.1) (o1 : σ.1 ≤ τ1.1) (o2 : σ.2.1 ≤ τ1.2.1) (hS : va_S (en_A X) s.heap H locs) (hl : lv_has ls y.2.2.1 lv)
    (run : va_Run p X.1 e (en_rm y ρ τ) s m args below meth c H locs (σ.1 - ρ.1) (σ.2.1 - ρ.2.1) (τ1.1 - σ.1) (τ1.2.1 - σ.2.1) (F0 m pc ls stk) st (en_Qc X r1 τ1 a) (en_A X))
    (kk : ∀ (H : Heap) (locs : List Loc), ρ.1 ≤ τ1.1 → ρ.2.1 ≤ τ1.2.1 → en_R X τ1 H → va_S (en_A X) s.heap H locs → W p X.1 e (en_rm y ρ τ) s m args below meth c H locs (τ1.1 - ρ.1) (τ1.2.1 - ρ.2.1) (MQ below (en_Qc X r τ) args s (τ.1 - ρ.1) (τ.2.1 - ρ.2.1) (en_A X)) (F0 m (pc + 3) ls (r1.toList ++ st))) :
    W p X.1 e (en_rm y ρ τ) s m args below meth c H locs (σ.1 - ρ.1) (σ.2.1 - ρ.2.1) (MQ below (en_Qc X r τ) args s (τ.1 - ρ.1) (τ.2.1 - ρ.2.1) (en_A X)) (F0 m pc ls stk) := by
  intro T hT X'
  obtain ⟨v, st₀, t, T', L, h0, X2, hL, e1, e2, ⟨hv, hR1, hF⟩, stp⟩ := run T hT X'
  cases hv
  have hS1 : va_S (en_A X) s.heap T'.heap (locs ++ L) := by
    rw [e1]
    refine ⟨Nat.le_trans hS.1 (by rw [← h0]; exact hF.1), fun q h1 h2 => ?_, fun q hq => ?_⟩
    · rw [hF.2 q (by rw [h0]; exact Nat.lt_of_lt_of_le h1 hS.1) h2, h0]
      exact hS.2.1 q h1 h2
    · rcases List.mem_append.mp hq with h | h
      · exact hS.2.2 q h
      · exact hL q h
  have c1 : σ.1 - ρ.1 + (τ1.1 - σ.1) = τ1.1 - ρ.1 := by omega
  have c2 : σ.2.1 - ρ.2.1 + (τ1.2.1 - σ.2.1) = τ1.2.1 - ρ.2.1 := by omega
  rw [c1, c2] at X2
  obtain ⟨t2, b1, b2⟩ := kk T'.heap (locs ++ L) (by omega) (by omega) (by rw [e1]; exact hR1) hS1 T' rfl X2
  exact ⟨t2, stp t2 b1, b2⟩
theorem en_cB {p : Program} {s : State} {m : MethodId} {args : Array Value} {meth : Method} {c : Code} {τ τ1 : en_S} {i n : Nat} (G : en_G X y ρ p s m args meth c) (g : en_C y f i n) : CallB (en_rm y ρ τ) s args y.1.cls i f.1 f.2.1 f.2.2.1 f.2.2.2.1 (en_ws f) (en_rm f σ τ1) (τ1.1 - σ.1) (τ1.2.1 - σ.2.1) n := by
  obtain ⟨⟨g1, g2, g3⟩, g4, g5, g6⟩ := g
  have hts := G.2.2.2.2.2.1
  refine callB_of n hts (ws := en_ws f) (fun w hw => ?_) rfl rfl rfl (hts _ g2) (hts _ g1) g4 ⟨g5, g6⟩
  rcases List.mem_cons.mp hw with rfl | h
  · exact ⟨g3, good_of_word (en_good _ g3)⟩
  · exact ⟨h, good_of_word (en_good _ h)⟩
theorem wa_callV {i n ci b : Nat} {av fs : List Value} {T : u_T} {N : Nat} (q : decode y.2.1 pc = .ok (.invokevirtual i, 3) ∧ pc + 3 = nx) (g : en_C y f i n) (w : Cond.instanceMethod f.1 ∈ en_tbl ∧ Cond.selects f.1.cls f.1 f.1 ∈ en_tbl) (hb : look σ b = some (.inr (ci, fs))) (hc : vwCl[ci]? = some (f.1.cls, T, N)) (hn : av.length = n) (hst : stk = av.reverse ++ .ref b :: st) (hw : (st.map fun v => v.category).sum ≤ 8)
    (k : Calls X f (.ref b :: av) σ (fun r τ => WA X y ρ nx lv (r.toList ++ st) τ Q)) : WA X y ρ pc lv stk σ Q := by
  obtain ⟨e0, rfl⟩ := q
  obtain ⟨r1, τ1, ⟨r, τ, hQ, h1, h2, kk⟩, o1, o2, hM⟩ := k
  refine ⟨r, τ, hQ, by omega, by omega, fun p e s m args below meth c H locs ls G a1 a2 hR hS hl => ?_⟩
  refine en_run (stk := stk) (τ1 := τ1) (r1 := r1) G a1 a2 o1 o2 hS hl (va_runV (As := av) (rest := st) (g := F0 m pc ls stk) ⟨G.1, G.2.1, G.2.2.2.1, G.2.2.2.2.1, G.2.2.2.2.2.1⟩ hM ⟨en_cB G g, G.2.2.2.2.2.1 _ w.1, G.2.2.2.2.2.1 _ w.2⟩ ⟨(en_pre (.ref b :: av) G hR hS).1, va_recv G.2.2.2.2.2.2.1.1 hR.2.2.1 hc (en_lw_ix hb), (en_pre (.ref b :: av) G hR hS).2⟩ rfl hn hl.1 hst (lv_room hw) e0 ⟨by show σ.1 - ρ.1 + (τ1.1 - σ.1) ≤ τ.1 - ρ.1; omega, by show σ.2.1 - ρ.2.1 + (τ1.2.1 - σ.2.1) ≤ τ.2.1 - ρ.2.1; omega⟩) (fun H1 locs1 b1 b2 R1 S1 => kk p e s m args below meth c H1 locs1 ls G b1 b2 R1 S1 hl)
theorem wa_callS {i n : Nat} {av : List Value} (q : decode y.2.1 pc = .ok (.invokestatic i, 3) ∧ pc + 3 = nx) (g : en_C y f i n) (w : Cond.static f.1 ∈ en_tbl) (hn : av.length = n) (hst : stk = av.reverse ++ st) (hw : (st.map fun v => v.category).sum ≤ 8)
    (k : Calls X f av σ (fun r τ => WA X y ρ nx lv (r.toList ++ st) τ Q)) : WA X y ρ pc lv stk σ Q := by
  obtain ⟨e0, rfl⟩ := q
  obtain ⟨r1, τ1, ⟨r, τ, hQ, h1, h2, kk⟩, o1, o2, hM⟩ := k
  refine ⟨r, τ, hQ, by omega, by omega, fun p e s m args below meth c H locs ls G a1 a2 hR hS hl => ?_⟩
  refine en_run (stk := stk) (τ1 := τ1) (r1 := r1) G a1 a2 o1 o2 hS hl (va_runS (As := av) (rest := st) (g := F0 m pc ls stk) ⟨G.1, G.2.1, G.2.2.2.1, G.2.2.2.2.1, G.2.2.2.2.2.1⟩ hM ⟨en_cB G g, G.2.2.2.2.2.1 _ w⟩ (en_pre av G hR hS) rfl hn hl.1 hst (lv_room hw) e0 ⟨by show σ.1 - ρ.1 + (τ1.1 - σ.1) ≤ τ.1 - ρ.1; omega, by show σ.2.1 - ρ.2.1 + (τ1.2.1 - σ.2.1) ≤ τ.2.1 - ρ.2.1; omega⟩) (fun H1 locs1 b1 b2 R1 S1 => kk p e s m args below meth c H1 locs1 ls G b1 b2 R1 S1 hl)
theorem wa_callI {i n b : Nat} {av : List Value} (q : decode y.2.1 pc = .ok (.invokespecial i, 3) ∧ pc + 3 = nx) (g : en_C y f i n) (w : Cond.instanceMethod f.1 ∈ en_tbl) (hy : f.1.name = "<init>" ∧ f.2.2.2.1 = none) (hn : av.length = n) (hst : stk = av.reverse ++ .ref b :: st) (hw : (st.map fun v => v.category).sum ≤ 8)
    (k : Calls X f (.ref b :: av) σ (fun r τ => WA X y ρ nx lv (r.toList ++ st) τ Q)) : WA X y ρ pc lv stk σ Q := by
  obtain ⟨e0, rfl⟩ := q
  obtain ⟨r1, τ1, ⟨r, τ, hQ, h1, h2, kk⟩, o1, o2, hM⟩ := k
  refine ⟨r, τ, hQ, by omega, by omega, fun p e s m args below meth c H locs ls G a1 a2 hR hS hl => ?_⟩
  refine en_run (stk := stk) (τ1 := τ1) (r1 := r1) G a1 a2 o1 o2 hS hl (va_runI (As := av) (rest := st) (g := F0 m pc ls stk) ⟨G.1, G.2.1, G.2.2.2.1, G.2.2.2.2.1, G.2.2.2.2.2.1⟩ hM ⟨hy.2 ▸ en_cB G g, hy.1, G.2.2.2.2.2.1 _ w⟩ (en_pre (.ref b :: av) G hR hS) rfl hn hl.1 hst (lv_room hw) e0 ⟨by show σ.1 - ρ.1 + (τ1.1 - σ.1) ≤ τ.1 - ρ.1; omega, by show σ.2.1 - ρ.2.1 + (τ1.2.1 - σ.2.1) ≤ τ.2.1 - ρ.2.1; omega⟩) (fun H1 locs1 b1 b2 R1 S1 => kk p e s m args below meth c H1 locs1 ls G b1 b2 R1 S1 hl)
/-- a private constructor of a nest mate -/
def en_CN (y f : en_M) (i n : Nat) (host : String) : Prop := (Cond.methodLinkNest y.1.cls i f.1 host ∈ en_nest ∧ Cond.initialized f.1.cls ∈ en_tbl ∧ Cond.code f.1 f.2.1 f.2.2.1 none ∈ en_tbl) ∧ (f.1.cls ≠ "java/lang/invoke/MethodHandle" ∧ f.1.cls ≠ "java/lang/invoke/VarHandle" ∧ (parseMethodDescriptor f.1.desc).map (fun d => d.parameters.length) = some n) ∧ f.2.2.2.2.1 + 1 ≤ y.2.2.2.2.1 ∧ 8 + (f.2.2.1 + 11) + f.2.2.2.2.2 ≤ y.2.2.2.2.2
theorem wa_callIN {i n b : Nat} {host : String} {av : List Value} (q : decode y.2.1 pc = .ok (.invokespecial i, 3) ∧ pc + 3 = nx) (g : en_CN y f i n host) (w : Cond.instanceMethod f.1 ∈ en_tbl) (hy : f.1.name = "<init>" ∧ f.2.2.2.1 = none) (hn : av.length = n) (hst : stk = av.reverse ++ .ref b :: st) (hw : (st.map fun v => v.category).sum ≤ 8)
    (k : Calls X f (.ref b :: av) σ (fun r τ => WA X y ρ nx lv (r.toList ++ st) τ Q)) : WA X y ρ pc lv stk σ Q := by
  obtain ⟨e0, rfl⟩ := q
  obtain ⟨r1, τ1, ⟨r, τ, hQ, h1, h2, kk⟩, o1, o2, hM⟩ := k
  obtain ⟨⟨g1, g2, g3⟩, g4, g5, g6⟩ := g
  refine ⟨r, τ, hQ, by omega, by omega, fun p e s m args below meth c H locs ls G a1 a2 hR hS hl => ?_⟩
  have hts := G.2.2.2.2.2.1
  have hG : GoodIn en_tbl (en_ws f) := fun w hw => by
    rcases List.mem_cons.mp hw with rfl | h
    · rw [hy.2]; exact ⟨g3, good_of_word (en_good _ g3)⟩
    · exact ⟨h, good_of_word (en_good _ h)⟩
  refine en_run (stk := stk) (τ1 := τ1) (r1 := r1) G a1 a2 o1 o2 hS hl (va_runIN (As := av) (rest := st) (g := F0 m pc ls stk) ⟨G.1, G.2.1, G.2.2.2.1, G.2.2.2.2.1, G.2.2.2.2.2.1⟩ hM ⟨va_cnB n hts hG (by rw [← hy.2]; rfl) rfl rfl (G.2.2.2.2.2.2.1.2.2.2.2.2.2 _ g1) (hts _ g2) g4 ⟨g5, g6⟩, hy.1, hts _ w⟩ (en_pre (.ref b :: av) G hR hS) rfl hn hl.1 hst (lv_room hw) e0 ⟨by show σ.1 - ρ.1 + (τ1.1 - σ.1) ≤ τ.1 - ρ.1; omega, by show σ.2.1 - ρ.2.1 + (τ1.2.1 - σ.2.1) ≤ τ.2.1 - ρ.2.1; omega⟩) (fun H1 locs1 b1 b2 R1 S1 => kk p e s m args below meth c H1 locs1 ls G b1 b2 R1 S1 hl)
theorem wa_objInit {i a : Nat} (q : decode y.2.1 pc = .ok (.invokespecial i, 3) ∧ pc + 3 = nx) (w : Cond.methodLink y.1.cls i Lib.objectInit ∈ en_tbl) (hf : 1 ≤ y.2.2.2.2.1) (hw : (st.map fun v => v.category).sum + 12 ≤ y.2.2.2.2.2) (k : WA X y ρ nx lv st σ Q) : WA X y ρ pc lv (.ref a :: st) σ Q := by
  obtain ⟨e0, rfl⟩ := q
  obtain ⟨r, τ, hQ, h1, h2, kk⟩ := k
  refine ⟨r, τ, hQ, h1, h2, fun p e s m args below meth c H locs ls G a1 a2 hR hS hl => ?_⟩
  exact W.objInit G.1 G.2.1 G.2.2.2.2.1 (G.2.2.2.2.2.1 _ w) (G.2.2.2.2.2.1 _ (by decide +kernel)) (G.2.2.2.2.2.1 _ (by decide +kernel)) rfl (hl.1.trans G.2.2.2.1.symm) rfl e0 hf (by show 2 * 0 + _ + 12 ≤ y.2.2.2.2.2; omega) (kk p e s m args below meth c H locs ls G a1 a2 hR hS hl)
-- returns
theorem en_ret {p : Program} {s : State} {m : MethodId} {args : Array Value} {meth : Method} {c : Code} {H : Heap} {locs : List Loc} (r : Option Value) (G : en_G X y ρ p s m args meth c) (hR : en_R X σ H) (hS : va_S (en_A X) s.heap H locs) : ∀ t : State, t.heap = H → s.WarmedH t.vm → en_Qc X r σ args s (.returned r) t := fun t ht _ => ⟨rfl, by rw [ht]; exact hR, hS.F ht⟩
theorem wa_iret {v : Int32} (q : decode y.2.1 pc = .ok (.ireturn, 1) ∧ pc + 1 = nx) (hr : y.2.2.2.1 = some .int) (h : Q (some (.int v)) σ) : WA X y ρ pc lv [.int v] σ Q := by
  refine ⟨_, σ, h, Nat.le_refl _, Nat.le_refl _, fun p e s m args below meth c H locs ls G a1 a2 hR hS hl => ?_⟩
  exact W.iret G.1 G.2.1 (G.2.2.1.trans hr) (en_ret _ G hR hS) hS.2.2 q.1 (hlocks := G.2.2.2.2.2.2.2.1)
theorem wa_zret {v : Int32} {ty : FieldType} (q : decode y.2.1 pc = .ok (.ireturn, 1) ∧ pc + 1 = nx) (hr : y.2.2.2.1 = some ty) (hn : narrow ty (.int v) = .int v) (h : Q (some (.int v)) σ) : WA X y ρ pc lv [.int v] σ Q := by
  refine ⟨_, σ, h, Nat.le_refl _, Nat.le_refl _, fun p e s m args below meth c H locs ls G a1 a2 hR hS hl => ?_⟩
  exact W.zret G.1 G.2.1 (G.2.2.1.trans hr) hn (en_ret _ G hR hS) hS.2.2 q.1 (hlocks := G.2.2.2.2.2.2.2.1)
theorem wa_lret {v : Int64} (q : decode y.2.1 pc = .ok (.lreturn, 1) ∧ pc + 1 = nx) (hr : y.2.2.2.1 = some .long) (h : Q (some (.long v)) σ) : WA X y ρ pc lv [.long v] σ Q := by
  refine ⟨_, σ, h, Nat.le_refl _, Nat.le_refl _, fun p e s m args below meth c H locs ls G a1 a2 hR hS hl => ?_⟩
  exact W.lret G.1 G.2.1 (G.2.2.1.trans hr) (en_ret _ G hR hS) hS.2.2 q.1 (hlocks := G.2.2.2.2.2.2.2.1)
theorem wa_aret {v : Value} {rt : FieldType} (q : decode y.2.1 pc = .ok (.areturn, 1) ∧ pc + 1 = nx) (hr : y.2.2.2.1 = some rt) (hrt : (∃ n, rt = .object n) ∨ ∃ t, rt = .array t) (hv : v = .null ∨ ∃ a, v = .ref a) (h : Q (some v) σ) : WA X y ρ pc lv [v] σ Q := by
  refine ⟨_, σ, h, Nat.le_refl _, Nat.le_refl _, fun p e s m args below meth c H locs ls G a1 a2 hR hS hl => ?_⟩
  exact W.aret G.1 G.2.1 (G.2.2.1.trans hr) hrt hv (en_ret _ G hR hS) hS.2.2 q.1 (hlocks := G.2.2.2.2.2.2.2.1)
theorem wa_vret (q : decode y.2.1 pc = .ok (.return_, 1) ∧ pc + 1 = nx) (hr : y.2.2.2.1 = none) (h : Q none σ) : WA X y ρ pc lv [] σ Q := by
  refine ⟨_, σ, h, Nat.le_refl _, Nat.le_refl _, fun p e s m args below meth c H locs ls G a1 a2 hR hS hl => ?_⟩
  exact W.vret G.1 G.2.1 (G.2.2.1.trans hr) (en_ret _ G hR hS) hS.2.2 q.1 (hlocks := G.2.2.2.2.2.2.2.1)
/-- the entry: a method's contract out of its walk -/
theorem Calls.of {av : List Value} (hy : plainName y.1.cls = true) (hsz : (lg_sl av).length ≤ y.2.2.1) (h : WA X y σ 0 (lv_args 0 av) [] σ Q) : Calls X y av σ Q := by
  obtain ⟨r, τ, hQ, h1, h2, kk⟩ := h
  refine ⟨r, τ, hQ, h1, h2, ?_⟩
  refine Met.ofW (cc := y.2.1) (maxL := y.2.2.1) (ret := y.2.2.2.1) (ws' := en_tbl) hy rfl ?_
  intro p e s m args below meth c s₁ B hml hv
  obtain ⟨rfl, hfix, hR⟩ := hv
  have hts := atoms_spec (ws := en_ws y) B.pre
  have hl := lv_entry av hsz
  rw [lg_entry_eq]
  have K := kk p e s m av.toArray below meth c s.heap [] _ ⟨B.exec, B.bytes, B.returns, hml, findClass_of_methodNamed B.named, fun w hw => hts w (List.mem_cons_of_mem _ hw), hfix, B.notSynchronized, hR.1, (name_of_methodNamed B.named B.method).1⟩ (Nat.le_refl _) (Nat.le_refl _) hR va_S.rf hl
  rw [Nat.sub_self, Nat.sub_self] at K
  exact K
end en_calls
end
section
/-! Rows of WA: the static array, the script, switches, Math, an array of references. -/
section en_more
variable {X : en_X} {y f : en_M} {ρ σ : en_S} {pc nx : Nat} {lv : List (Nat × Value)} {st stk : List Value} {Q : Option Value → en_S → Prop}
theorem wa_tensN {i : Nat} {host : String} (q : decode y.2.1 pc = .ok (.getstatic i, 3) ∧ pc + 3 = nx) (w : Cond.fieldLinkNest y.1.cls i RX6 "TENS" "[I" host ∈ en_nest) (k : WA X y ρ nx lv (.ref X.2.2.2.2.1 :: st) σ Q) : WA X y ρ pc lv st σ Q := by
  obtain ⟨e0, rfl⟩ := q
  obtain ⟨r, τ, hQ, h1, h2, kk⟩ := k
  exact ⟨r, τ, hQ, h1, h2, fun p e s m args below meth c H locs ls G a1 a2 hR hS hl => va_getsN G.1 G.2.1 G.2.2.2.2.2.2.1.2.1 hS G.2.2.2.2.1 (va_Nw.use rfl (G.2.2.2.2.2.2.1.2.2.2.2.2.2 _ w)) (fun x hx => hx) e0 (kk p e s m args below meth c H locs ls G a1 a2 hR hS hl)⟩
theorem wa_tens {i : Nat} (q : decode y.2.1 pc = .ok (.getstatic i, 3) ∧ pc + 3 = nx) (w : Cond.fieldLink y.1.cls i RX6 "TENS" "[I" ∈ en_tbl) (k : WA X y ρ nx lv (.ref X.2.2.2.2.1 :: st) σ Q) : WA X y ρ pc lv st σ Q := by
  obtain ⟨e0, rfl⟩ := q
  obtain ⟨r, τ, hQ, h1, h2, kk⟩ := k
  exact ⟨r, τ, hQ, h1, h2, fun p e s m args below meth c H locs ls G a1 a2 hR hS hl => va_gets G.1 G.2.1 G.2.2.2.2.2.2.1.2.1 hS G.2.2.2.2.1 (G.2.2.2.2.2.1 _ w) (fun x hx => hx) e0 (kk p e s m args below meth c H locs ls G a1 a2 hR hS hl)⟩
theorem wa_tald {i : Int32} (q : decode y.2.1 pc = .ok (.iaload, 1) ∧ pc + 1 = nx) (hi : vp_in i 9) (k : WA X y ρ nx lv (.int (en_tens i.toNatClampNeg) :: st) σ Q) : WA X y ρ pc lv (.int i :: .ref X.2.2.2.2.1 :: st) σ Q := by
  obtain ⟨e0, rfl⟩ := q
  obtain ⟨r, τ, hQ, h1, h2, kk⟩ := k
  exact ⟨r, τ, hQ, h1, h2, fun p e s m args below meth c H locs ls G a1 a2 hR hS hl => va_ti G.1 G.2.1 G.2.2.2.2.2.2.1.2.2.1 hS hi rfl e0 (kk p e s m args below meth c H locs ls G a1 a2 hR hS hl)⟩
theorem wa_talen (q : decode y.2.1 pc = .ok (.arraylength, 1) ∧ pc + 1 = nx) (k : WA X y ρ nx lv (.int 9 :: st) σ Q) : WA X y ρ pc lv (.ref X.2.2.2.2.1 :: st) σ Q := by
  obtain ⟨e0, rfl⟩ := q
  obtain ⟨r, τ, hQ, h1, h2, kk⟩ := k
  exact ⟨r, τ, hQ, h1, h2, fun p e s m args below meth c H locs ls G a1 a2 hR hS hl => va_tlen G.1 G.2.1 G.2.2.2.2.2.2.1.2.2.1 hS rfl e0 (kk p e s m args below meth c H locs ls G a1 a2 hR hS hl)⟩
theorem en_scr {p : Program} {s : State} {m : MethodId} {args : Array Value} {meth : Method} {c : Code} (G : en_G X y ρ p s m args meth c) : va_X X.2.2.2.2.2.1 X.2.2.2.2.2.2.1 X.2.2.2.2.2.2.2 s s.heap ∧ X.2.2.2.2.2.1 < s.heap.size ∧ ¬ en_A X X.2.2.2.2.2.1 := by
  obtain ⟨-, -, -, h4, h5, -⟩ := G.2.2.2.2.2.2.1
  refine ⟨h4, ?_, Nat.not_le.mpr h5⟩
  obtain ⟨scr, g, -⟩ := h4
  exact (Array.getElem?_eq_some_iff.mp g).1
theorem wa_sld {i : Int32} (q : decode y.2.1 pc = .ok (.iaload, 1) ∧ pc + 1 = nx) (hi : vp_in i X.2.2.2.2.2.2.1) (k : WA X y ρ nx lv (.int (X.2.2.2.2.2.2.2 i.toNatClampNeg) :: st) σ Q) : WA X y ρ pc lv (.int i :: .ref X.2.2.2.2.2.1 :: st) σ Q := by
  obtain ⟨e0, rfl⟩ := q
  obtain ⟨r, τ, hQ, h1, h2, kk⟩ := k
  exact ⟨r, τ, hQ, h1, h2, fun p e s m args below meth c H locs ls G a1 a2 hR hS hl => va_sld G.1 G.2.1 (en_scr G).1 (en_scr G).2.1 (en_scr G).2.2 hS hi e0 (kk p e s m args below meth c H locs ls G a1 a2 hR hS hl)⟩
theorem wa_slen (q : decode y.2.1 pc = .ok (.arraylength, 1) ∧ pc + 1 = nx) (k : WA X y ρ nx lv (.int (Int32.ofNat X.2.2.2.2.2.2.1) :: st) σ Q) : WA X y ρ pc lv (.ref X.2.2.2.2.2.1 :: st) σ Q := by
  obtain ⟨e0, rfl⟩ := q
  obtain ⟨r, τ, hQ, h1, h2, kk⟩ := k
  exact ⟨r, τ, hQ, h1, h2, fun p e s m args below meth c H locs ls G a1 a2 hR hS hl => va_slen G.1 G.2.1 (en_scr G).1 (en_scr G).2.1 (en_scr G).2.2 hS e0 (kk p e s m args below meth c H locs ls G a1 a2 hR hS hl)⟩
theorem wa_tabIn {dflt lo hi off : Int} {offs : Array Int} {len tgt : Nat} {x : Int32} (q : decode y.2.1 pc = .ok (.tableswitch dflt lo hi offs, len)) (c1 : ¬ x.toInt < lo) (c2 : ¬ hi < x.toInt) (ho : offs[(x.toInt - lo).toNat]? = some off) (ht : (pc : Int) + off = (tgt : Int)) (k : WA X y ρ tgt lv st σ Q) : WA X y ρ pc lv (.int x :: st) σ Q := by
  obtain ⟨r, τ, hQ, h1, h2, kk⟩ := k
  exact ⟨r, τ, hQ, h1, h2, fun p e s m args below meth c H locs ls G a1 a2 hR hS hl => lv_tableIn G.1 G.2.1 q c1 c2 ho ht (kk p e s m args below meth c H locs ls G a1 a2 hR hS hl)⟩
theorem wa_tabOut {dflt lo hi : Int} {offs : Array Int} {len tgt : Nat} {x : Int32} (q : decode y.2.1 pc = .ok (.tableswitch dflt lo hi offs, len)) (c1 : x.toInt < lo ∨ hi < x.toInt) (ht : (pc : Int) + dflt = (tgt : Int)) (k : WA X y ρ tgt lv st σ Q) : WA X y ρ pc lv (.int x :: st) σ Q := by
  obtain ⟨r, τ, hQ, h1, h2, kk⟩ := k
  exact ⟨r, τ, hQ, h1, h2, fun p e s m args below meth c H locs ls G a1 a2 hR hS hl => lv_tableOut G.1 G.2.1 q c1 ht (kk p e s m args below meth c H locs ls G a1 a2 hR hS hl)⟩
theorem wa_mmax {i : Nat} {x w : Int32} (q : decode y.2.1 pc = .ok (.invokestatic i, 3) ∧ pc + 3 = nx) (wd : Cond.methodLink y.1.cls i Lib.Math.max.name ∈ en_tbl) (hf : 1 ≤ y.2.2.2.2.1) (hw : (st.map fun v => v.category).sum + 13 ≤ y.2.2.2.2.2) (k : WA X y ρ nx lv (.int (if x < w then w else x) :: st) σ Q) : WA X y ρ pc lv (.int w :: .int x :: st) σ Q := by
  obtain ⟨e0, rfl⟩ := q
  obtain ⟨r, τ, hQ, h1, h2, kk⟩ := k
  exact ⟨r, τ, hQ, h1, h2, fun p e s m args below meth c H locs ls G a1 a2 hR hS hl => va_mmax G.1 G.2.1 (G.2.2.2.1.trans hl.1.symm) G.2.2.2.2.1 (G.2.2.2.2.2.1 _ wd) (G.2.2.2.2.2.1 _ (by decide +kernel)) (G.2.2.2.2.2.1 _ (by decide +kernel)) (G.2.2.2.2.2.1 _ (by decide +kernel)) hf hw (by show σ.1 - ρ.1 ≤ τ.1 - ρ.1; omega) (by show σ.2.1 - ρ.2.1 ≤ τ.2.1 - ρ.2.1; omega) e0 (kk p e s m args below meth c H locs ls G a1 a2 hR hS hl)⟩
theorem wa_mmin {i : Nat} {x w : Int32} (q : decode y.2.1 pc = .ok (.invokestatic i, 3) ∧ pc + 3 = nx) (wd : Cond.methodLink y.1.cls i Lib.Math.min.name ∈ en_tbl) (hf : 1 ≤ y.2.2.2.2.1) (hw : (st.map fun v => v.category).sum + 13 ≤ y.2.2.2.2.2) (k : WA X y ρ nx lv (.int (if w < x then w else x) :: st) σ Q) : WA X y ρ pc lv (.int w :: .int x :: st) σ Q := by
  obtain ⟨e0, rfl⟩ := q
  obtain ⟨r, τ, hQ, h1, h2, kk⟩ := k
  exact ⟨r, τ, hQ, h1, h2, fun p e s m args below meth c H locs ls G a1 a2 hR hS hl => va_mmin G.1 G.2.1 (G.2.2.2.1.trans hl.1.symm) G.2.2.2.2.1 (G.2.2.2.2.2.1 _ wd) (G.2.2.2.2.2.1 _ (by decide +kernel)) (G.2.2.2.2.2.1 _ (by decide +kernel)) (G.2.2.2.2.2.1 _ (by decide +kernel)) hf hw (by show σ.1 - ρ.1 ≤ τ.1 - ρ.1; omega) (by show σ.2.1 - ρ.2.1 ≤ τ.2.1 - ρ.2.1; omega) e0 (kk p e s m args below meth c H locs ls G a1 a2 hR hS hl)⟩
theorem wa_mabs {i : Nat} {x : Int32} (q : decode y.2.1 pc = .ok (.invokestatic i, 3) ∧ pc + 3 = nx) (wd : Cond.methodLink y.1.cls i Lib.Math.abs.name ∈ en_tbl) (hf : 1 ≤ y.2.2.2.2.1) (hw : (st.map fun v => v.category).sum + 13 ≤ y.2.2.2.2.2) (k : WA X y ρ nx lv (.int (if 0 ≤ x then x else 0 - x) :: st) σ Q) : WA X y ρ pc lv (.int x :: st) σ Q := by
  obtain ⟨e0, rfl⟩ := q
  obtain ⟨r, τ, hQ, h1, h2, kk⟩ := k
  exact ⟨r, τ, hQ, h1, h2, fun p e s m args below meth c H locs ls G a1 a2 hR hS hl => va_mabs G.1 G.2.1 (G.2.2.2.1.trans hl.1.symm) G.2.2.2.2.1 (G.2.2.2.2.2.1 _ wd) (G.2.2.2.2.2.1 _ (by decide +kernel)) (G.2.2.2.2.2.1 _ (by decide +kernel)) (G.2.2.2.2.2.1 _ (by decide +kernel)) hf hw (by show σ.1 - ρ.1 ≤ τ.1 - ρ.1; omega) (by show σ.2.1 - ρ.2.1 ≤ τ.2.1 - ρ.2.1; omega) e0 (kk p e s m args below meth c H locs ls G a1 a2 hR hS hl)⟩
theorem wa_mabsL {i : Nat} {x : Int64} (q : decode y.2.1 pc = .ok (.invokestatic i, 3) ∧ pc + 3 = nx) (wd : Cond.methodLink y.1.cls i Lib.MathLoose.abs_long.x ∈ en_tbl) (hf : 1 ≤ y.2.2.2.2.1) (hw : (st.map fun v => v.category).sum + 13 ≤ y.2.2.2.2.2) (k : WA X y ρ nx lv (.long (if 0 < x then x else -x) :: st) σ Q) : WA X y ρ pc lv (.long x :: st) σ Q := by
  obtain ⟨e0, rfl⟩ := q
  obtain ⟨r, τ, hQ, h1, h2, kk⟩ := k
  exact ⟨r, τ, hQ, h1, h2, fun p e s m args below meth c H locs ls G a1 a2 hR hS hl => va_mabs_long G.1 G.2.1 (G.2.2.2.1.trans hl.1.symm) G.2.2.2.2.1 (G.2.2.2.2.2.1 _ wd) (G.2.2.2.2.2.1 _ (by decide +kernel)) (G.2.2.2.2.2.1 _ (by decide +kernel)) (G.2.2.2.2.2.1 _ (by decide +kernel)) hf hw (by show σ.1 - ρ.1 ≤ τ.1 - ρ.1; omega) (by show σ.2.1 - ρ.2.1 ≤ τ.2.1 - ρ.2.1; omega) e0 (kk p e s m args below meth c H locs ls G a1 a2 hR hS hl)⟩
theorem wa_mminL {i : Nat} {x w : Int64} (q : decode y.2.1 pc = .ok (.invokestatic i, 3) ∧ pc + 3 = nx) (wd : Cond.methodLink y.1.cls i Lib.MathLoose.min_long.x ∈ en_tbl) (hf : 1 ≤ y.2.2.2.2.1) (hw : (st.map fun v => v.category).sum + 15 ≤ y.2.2.2.2.2) (k : WA X y ρ nx lv (.long (if w < x then w else x) :: st) σ Q) : WA X y ρ pc lv (.long w :: .long x :: st) σ Q := by
  obtain ⟨e0, rfl⟩ := q
  obtain ⟨r, τ, hQ, h1, h2, kk⟩ := k
  exact ⟨r, τ, hQ, h1, h2, fun p e s m args below meth c H locs ls G a1 a2 hR hS hl => va_mmin_long G.1 G.2.1 (G.2.2.2.1.trans hl.1.symm) G.2.2.2.2.1 (G.2.2.2.2.2.1 _ wd) (G.2.2.2.2.2.1 _ (by decide +kernel)) (G.2.2.2.2.2.1 _ (by decide +kernel)) (G.2.2.2.2.2.1 _ (by decide +kernel)) hf hw (by show σ.1 - ρ.1 ≤ τ.1 - ρ.1; omega) (by show σ.2.1 - ρ.2.1 ≤ τ.2.1 - ρ.2.1; omega) e0 (kk p e s m args below meth c H locs ls G a1 a2 hR hS hl)⟩
theorem wa_newq {i : Nat} {n : Int32} {N : Nat} (q : decode y.2.1 pc = .ok (.anewarray i, 3) ∧ pc + 3 = nx) (w : Cond.classLink y.1.cls i RX5 ∈ en_tbl) (hn : ¬ n < 0) (hN : n.toNatClampNeg = N) (hb : N ≤ 100000000) (kw : WA X y ρ nx lv (.ref σ.1 :: st) (fresh σ N (.inl (X.2.2.1.2.2.2, N, .inr (.inr (.inr (.inr (fun _ => none))))))) Q) : WA X y ρ pc lv (.int n :: st) σ Q := by
  obtain ⟨e0, rfl⟩ := q
  obtain ⟨r, τ, hQ, h1, h2, kk⟩ := kw
  have h1' : σ.1 + 1 ≤ τ.1 := h1
  have h2' : σ.2.1 + N ≤ τ.2.1 := h2
  subst hN
  refine ⟨r, τ, hQ, by omega, by omega, fun p e s m args below meth c H locs ls G a1 a2 hR hS hl => ?_⟩
  refine W.anew G.1 G.2.1 G.2.2.2.2.1 (G.2.2.2.2.2.1 _ w) (va_AO.use G.2.2.2.2.2.2.1.2.2.2.2.2.1) rfl e0 rfl hn (by omega) (by show σ.1 - ρ.1 + 1 ≤ τ.1 - ρ.1; omega) (by show σ.2.1 - ρ.2.1 + n.toNatClampNeg ≤ τ.2.1 - ρ.2.1; omega) fun cA kA comp f1 f2 f3 f4 => ?_
  have hcA : cA = X.2.2.1.2.2.2 := by
    obtain ⟨-, kB, cB, b1, b2, b3, b4⟩ := G.2.2.2.2.2.2.1.1.2 3 _ rfl
    exact Option.some.inj (f1.symm.trans b4)
  subst hcA
  obtain ⟨H1, hH1⟩ : ∃ H1, H1 = H.push ({ cls := X.2.2.1.2.2.2, slots := Array.replicate n.toNatClampNeg .null, vm := .none } : Cell) := ⟨_, rfl⟩
  have z1 : H1.size = H.size + 1 := by rw [hH1, Array.size_push]
  have g1 : H1[H.size]? = some (arrV X.2.2.1.2.2.2 n.toNatClampNeg (fun _ => .null)) := by rw [hH1, Array.getElem?_push_size, ← arrV_new]
  have o1 : ∀ q : Nat, q < H.size → H1[q]? = H[q]? := fun q hq => by rw [hH1, Array.getElem?_push, if_neg (Nat.ne_of_lt hq)]
  obtain ⟨R1, S1⟩ := en_freshR (n := n.toNatClampNeg) (en := .inl (X.2.2.1.2.2.2, n.toNatClampNeg, .inr (.inr (.inr (.inr (fun _ => none)))))) G hR hS z1 o1 (by show H1[H.size]? = some (vp_cell _ _); rw [vp_cell_q]; exact g1)
  rw [← hH1]
  have hsz : H.size = σ.1 := hR.1
  rw [hsz]
  exact W.cs (by show σ.1 - ρ.1 + 1 = σ.1 + 1 - ρ.1; omega) (by show σ.2.1 - ρ.2.1 + n.toNatClampNeg = σ.2.1 + n.toNatClampNeg - ρ.2.1; omega) (kk p e s m args below meth c H1 locs ls G (by show ρ.1 ≤ σ.1 + 1; omega) (by show ρ.2.1 ≤ σ.2.1 + _; omega) R1 S1 hl)
theorem wa_acmp_ne {rx rw : Nat} {off : Int} {tgt : Nat} (q : decode y.2.1 pc = .ok (.if_acmp .ne off, 3) ∧ pc + 3 = nx ∧ (pc : Int) + off = (tgt : Int)) (kt : ¬ rx = rw → WA X y ρ tgt lv st σ Q) (kf : rx = rw → WA X y ρ nx lv st σ Q) : WA X y ρ pc lv (.ref rw :: .ref rx :: st) σ Q := by
  obtain ⟨e0, rfl, e2⟩ := q
  by_cases hc : rx = rw
  · obtain ⟨r, τ, hQ, h1, h2, kk⟩ := kf hc
    exact ⟨r, τ, hQ, h1, h2, fun p e s m args below meth c H locs ls G a1 a2 hR hS hl => lv_acmp_ne (rx := some rx) (ry := some rw) G.1 G.2.1 e0 e2 (fun z => absurd (by rw [hc]) z) (fun _ => kk p e s m args below meth c H locs ls G a1 a2 hR hS hl)⟩
  · obtain ⟨r, τ, hQ, h1, h2, kk⟩ := kt hc
    exact ⟨r, τ, hQ, h1, h2, fun p e s m args below meth c H locs ls G a1 a2 hR hS hl => lv_acmp_ne (rx := some rx) (ry := some rw) G.1 G.2.1 e0 e2 (fun _ => kk p e s m args below meth c H locs ls G a1 a2 hR hS hl) (fun z => absurd (Option.some.inj z) hc)⟩
end en_more
end
section
/-! the methods -/
abbrev M_X0_init : en_M := (yX0_init, cX0_init, 1, none, 2, 43)
abbrev M_X0_divide : en_M := (yX0_divide, cX0_divide, 8, none, 4, 95)
abbrev M_X0_takeAway : en_M := (yX0_takeAway, cX0_takeAway, 12, (some (.int)), 1, 35)
abbrev M_X0_guessLimb : en_M := (yX0_guessLimb, cX0_guessLimb, 16, (some (.long)), 0, 0)
abbrev M_X0_giveBack : en_M := (yX0_giveBack, cX0_giveBack, 6, none, 0, 0)
abbrev M_X0_squareRoot : en_M := (yX0_squareRoot, cX0_squareRoot, 7, (some (.boolean)), 5, 122)
abbrev M_X0_startAbove : en_M := (yX0_startAbove, cX0_startAbove, 9, (some (.long)), 1, 21)
abbrev M_X1_init : en_M := (yX1_init, cX1_init, 1, none, 1, 23)
abbrev M_X1_limbAt : en_M := (yX1_limbAt, cX1_limbAt, 2, (some (.int)), 0, 0)
abbrev M_X1_extend : en_M := (yX1_extend, cX1_extend, 3, none, 2, 48)
abbrev M_X1_trim : en_M := (yX1_trim, cX1_trim, 3, none, 1, 23)
abbrev M_X1_clear : en_M := (yX1_clear, cX1_clear, 1, none, 0, 0)
abbrev M_X1_copy : en_M := (yX1_copy, cX1_copy, 2, none, 3, 70)
abbrev M_X1_setLong : en_M := (yX1_setLong, cX1_setLong, 6, none, 3, 70)
abbrev M_X1_clamped : en_M := (yX1_clamped, cX1_clamped, 3, (some (.long)), 1, 23)
abbrev M_X1_digitCount : en_M := (yX1_digitCount, cX1_digitCount, 3, (some (.int)), 1, 21)
abbrev M_X1_digitAt : en_M := (yX1_digitAt, cX1_digitAt, 2, (some (.int)), 1, 21)
abbrev M_X1_compareSizes : en_M := (yX1_compareSizes, cX1_compareSizes, 4, (some (.int)), 0, 0)
abbrev M_X1_compare : en_M := (yX1_compare, cX1_compare, 2, (some (.int)), 1, 23)
abbrev M_X1_grow : en_M := (yX1_grow, cX1_grow, 4, none, 3, 70)
abbrev M_X1_add : en_M := (yX1_add, cX1_add, 2, none, 4, 97)
abbrev M_X1_subtract : en_M := (yX1_subtract, cX1_subtract, 2, none, 5, 118)
abbrev M_X1_addLimbs : en_M := (yX1_addLimbs, cX1_addLimbs, 6, none, 3, 70)
abbrev M_X1_subtractLimbs : en_M := (yX1_subtractLimbs, cX1_subtractLimbs, 8, none, 3, 70)
abbrev M_X1_multiplySmall : en_M := (yX1_multiplySmall, cX1_multiplySmall, 3, none, 3, 70)
abbrev M_X1_multiplyLimbs : en_M := (yX1_multiplyLimbs, cX1_multiplyLimbs, 8, none, 0, 0)
abbrev M_X1_divideSmall : en_M := (yX1_divideSmall, cX1_divideSmall, 10, (some (.long)), 2, 45)
abbrev M_X1_setProduct : en_M := (yX1_setProduct, cX1_setProduct, 11, none, 3, 70)
abbrev M_X1_shiftUp : en_M := (yX1_shiftUp, cX1_shiftUp, 4, none, 4, 92)
abbrev M_X1_shrink : en_M := (yX1_shrink, cX1_shrink, 5, none, 4, 93)
abbrev M_X1_shiftDown : en_M := (yX1_shiftDown, cX1_shiftDown, 5, (some (.boolean)), 2, 45)
abbrev M_X2_init : en_M := (yX2_init, cX2_init, 1, none, 3, 63)
abbrev M_X2_enclosed : en_M := (yX2_enclosed, cX2_enclosed, 10, (some (.object "EnclosedDigits$Value")), 7, 177)
abbrev M_X2_neededFor : en_M := (yX2_neededFor, cX2_neededFor, 7, (some (.long)), 1, 22)
abbrev M_X2_isMarked : en_M := (yX2_isMarked, cX2_isMarked, 3, (some (.boolean)), 0, 0)
abbrev M_X2_partOf : en_M := (yX2_partOf, cX2_partOf, 3, (some (.object "EnclosedDigits$Value")), 0, 0)
abbrev M_X2_isOpen : en_M := (yX2_isOpen, cX2_isOpen, 1, (some (.boolean)), 0, 0)
abbrev M_X2_isExact : en_M := (yX2_isExact, cX2_isExact, 1, (some (.boolean)), 2, 44)
abbrev M_X2_isTooLong : en_M := (yX2_isTooLong, cX2_isTooLong, 1, (some (.boolean)), 2, 43)
abbrev M_X2_fillWhole : en_M := (yX2_fillWhole, cX2_fillWhole, 2, none, 5, 115)
abbrev M_X2_fillRatio : en_M := (yX2_fillRatio, cX2_fillRatio, 3, none, 6, 146)
abbrev M_X2_fillFromFine : en_M := (yX2_fillFromFine, cX2_fillFromFine, 2, none, 5, 117)
abbrev M_X2_fillSum : en_M := (yX2_fillSum, cX2_fillSum, 3, none, 5, 118)
abbrev M_X2_fillDifference : en_M := (yX2_fillDifference, cX2_fillDifference, 3, none, 6, 139)
abbrev M_X2_fillRoot : en_M := (yX2_fillRoot, cX2_fillRoot, 5, none, 6, 148)
abbrev M_X2_fillCorners : en_M := (yX2_fillCorners, cX2_fillCorners, 12, none, 6, 146)
abbrev M_X2_multiplyBothWays : en_M := (yX2_multiplyBothWays, cX2_multiplyBothWays, 4, none, 5, 117)
abbrev M_X2_divideBothWays : en_M := (yX2_divideBothWays, cX2_divideBothWays, 5, none, 5, 122)
abbrev M_X3_init : en_M := (yX3_init, cX3_init, 1, none, 2, 43)
abbrev M_X3_start : en_M := (yX3_start, cX3_start, 3, none, 5, 115)
abbrev M_X3_step : en_M := (yX3_step, cX3_step, 3, (some (.boolean)), 6, 138)
abbrev M_X3_roundDown : en_M := (yX3_roundDown, cX3_roundDown, 1, none, 5, 118)
abbrev M_X4_init : en_M := (yX4_init, cX4_init, 1, none, 2, 43)
abbrev M_X4_refine : en_M := (yX4_refine, cX4_refine, 5, none, 6, 145)
abbrev M_X4_sumTangent : en_M := (yX4_sumTangent, cX4_sumTangent, 8, none, 5, 118)
abbrev M_X4_sumPower : en_M := (yX4_sumPower, cX4_sumPower, 8, none, 5, 118)
abbrev M_X5_init : en_M := (yX5_init, cX5_init, 1, none, 2, 43)
abbrev M_X5_become : en_M := (yX5_become, cX5_become, 6, none, 0, 0)
abbrev M_X5_stemFrom : en_M := (yX5_stemFrom, cX5_stemFrom, 3, none, 0, 0)
abbrev M_X6_init : en_M := (yX6_init, cX6_init, 1, none, 4, 83)
abbrev M_X6_whole : en_M := (yX6_whole, cX6_whole, 3, (some (.int)), 4, 91)
abbrev M_X6_ratio : en_M := (yX6_ratio, cX6_ratio, 5, (some (.int)), 4, 91)
abbrev M_X6_arctan : en_M := (yX6_arctan, cX6_arctan, 2, (some (.int)), 4, 91)
abbrev M_X6_artanh : en_M := (yX6_artanh, cX6_artanh, 2, (some (.int)), 4, 91)
abbrev M_X6_power : en_M := (yX6_power, cX6_power, 3, (some (.int)), 4, 91)
abbrev M_X6_root : en_M := (yX6_root, cX6_root, 2, (some (.int)), 4, 91)
abbrev M_X6_join : en_M := (yX6_join, cX6_join, 4, (some (.int)), 4, 91)
abbrev M_X6_drop : en_M := (yX6_drop, cX6_drop, 3, (some (.int)), 0, 0)
abbrev M_X6_values : en_M := (yX6_values, cX6_values, 1, (some (.int)), 0, 0)
abbrev M_X6_digits : en_M := (yX6_digits, cX6_digits, 4, (some (.int)), 8, 206)
abbrev M_X6_digit : en_M := (yX6_digit, cX6_digit, 2, (some (.int)), 2, 42)
abbrev M_X6_length : en_M := (yX6_length, cX6_length, 1, (some (.int)), 0, 0)
abbrev M_X6_enclose : en_M := (yX6_enclose, cX6_enclose, 4, (some (.int)), 8, 206)
abbrev M_X6_bound : en_M := (yX6_bound, cX6_bound, 4, (some (.int)), 2, 42)
abbrev M_X6_order : en_M := (yX6_order, cX6_order, 5, (some (.int)), 8, 206)
abbrev M_X6_quotients : en_M := (yX6_quotients, cX6_quotients, 4, (some (.int)), 8, 206)
abbrev M_X6_quotient : en_M := (yX6_quotient, cX6_quotient, 2, (some (.long)), 0, 0)
abbrev M_X6_many : en_M := (yX6_many, cX6_many, 1, (some (.int)), 0, 0)
abbrev M_X6_precision : en_M := (yX6_precision, cX6_precision, 1, (some (.int)), 0, 0)
abbrev M_X6_isValue : en_M := (yX6_isValue, cX6_isValue, 2, (some (.boolean)), 0, 0)
abbrev M_X6_make : en_M := (yX6_make, cX6_make, 9, (some (.int)), 3, 63)
abbrev M_X6_digitsAreTold : en_M := (yX6_digitsAreTold, cX6_digitsAreTold, 3, (some (.boolean)), 5, 117)
abbrev M_X6_sideOf : en_M := (yX6_sideOf, cX6_sideOf, 2, (some (.int)), 2, 44)
abbrev M_X6_quotientsAreTold : en_M := (yX6_quotientsAreTold, cX6_quotientsAreTold, 5, (some (.boolean)), 7, 160)
abbrev M_X7_init : en_M := (yX7_init, cX7_init, 1, none, 1, 23)
abbrev M_X7_setTo : en_M := (yX7_setTo, cX7_setTo, 6, none, 0, 0)
abbrev M_X7_copyTo : en_M := (yX7_copyTo, cX7_copyTo, 4, none, 0, 0)
abbrev M_X7_trim : en_M := (yX7_trim, cX7_trim, 4, none, 0, 0)
abbrev M_X7_compareSizes : en_M := (yX7_compareSizes, cX7_compareSizes, 4, (some (.int)), 0, 0)
abbrev M_X7_compareTo : en_M := (yX7_compareTo, cX7_compareTo, 3, (some (.int)), 1, 23)
abbrev M_X7_addTo : en_M := (yX7_addTo, cX7_addTo, 7, none, 2, 52)
abbrev M_X7_addSizes : en_M := (yX7_addSizes, cX7_addSizes, 10, none, 0, 0)
abbrev M_X7_takeSizes : en_M := (yX7_takeSizes, cX7_takeSizes, 10, none, 1, 23)
abbrev M_X7_multiply : en_M := (yX7_multiply, cX7_multiply, 13, none, 1, 23)
abbrev M_X7_timesSmall : en_M := (yX7_timesSmall, cX7_timesSmall, 9, none, 1, 23)
abbrev M_X7_bySmall : en_M := (yX7_bySmall, cX7_bySmall, 9, (some (.long)), 1, 23)
abbrev M_X7_divide : en_M := (yX7_divide, cX7_divide, 10, none, 2, 51)
abbrev M_X7_placeOf : en_M := (yX7_placeOf, cX7_placeOf, 26, (some (.int)), 0, 0)
abbrev M_X7_rounded : en_M := (yX7_rounded, cX7_rounded, 7, none, 3, 80)
abbrev M_X7_powerOfTen : en_M := (yX7_powerOfTen, cX7_powerOfTen, 5, none, 0, 0)
abbrev M_X7_digitsOf : en_M := (yX7_digitsOf, cX7_digitsOf, 4, (some (.int)), 0, 0)
abbrev M_X7_digitOf : en_M := (yX7_digitOf, cX7_digitOf, 5, (some (.int)), 0, 0)
abbrev M_X7_low : en_M := (yX7_low, cX7_low, 1, (some (.int)), 0, 0)
abbrev M_X7_add : en_M := (yX7_add, cX7_add, 6, (some (.int)), 0, 0)
abbrev M_X7_whole : en_M := (yX7_whole, cX7_whole, 3, (some (.int)), 1, 25)
abbrev M_X7_ratio : en_M := (yX7_ratio, cX7_ratio, 5, (some (.int)), 1, 25)
abbrev M_X7_isX : en_M := (yX7_isX, cX7_isX, 1, (some (.boolean)), 0, 0)
abbrev M_X7_arctan : en_M := (yX7_arctan, cX7_arctan, 2, (some (.int)), 1, 25)
abbrev M_X7_artanh : en_M := (yX7_artanh, cX7_artanh, 2, (some (.int)), 1, 25)
abbrev M_X7_power : en_M := (yX7_power, cX7_power, 3, (some (.int)), 1, 25)
abbrev M_X7_isValue : en_M := (yX7_isValue, cX7_isValue, 2, (some (.boolean)), 0, 0)
abbrev M_X7_root : en_M := (yX7_root, cX7_root, 2, (some (.int)), 1, 25)
abbrev M_X7_join : en_M := (yX7_join, cX7_join, 4, (some (.int)), 1, 25)
abbrev M_X7_drop : en_M := (yX7_drop, cX7_drop, 3, (some (.int)), 0, 0)
abbrev M_X7_values : en_M := (yX7_values, cX7_values, 1, (some (.int)), 0, 0)
abbrev M_X7_need : en_M := (yX7_need, cX7_need, 3, none, 0, 0)
abbrev M_X7_isEnclosed : en_M := (yX7_isEnclosed, cX7_isEnclosed, 5, (some (.boolean)), 7, 187)
abbrev M_X7_isBound : en_M := (yX7_isBound, cX7_isBound, 6, (some (.boolean)), 6, 162)
abbrev M_X7_isRoot : en_M := (yX7_isRoot, cX7_isRoot, 3, (some (.boolean)), 4, 105)
abbrev M_X7_rootOf : en_M := (yX7_rootOf, cX7_rootOf, 6, none, 3, 80)
abbrev M_X7_isJoined : en_M := (yX7_isJoined, cX7_isJoined, 8, (some (.boolean)), 4, 106)
abbrev M_X7_findFloor : en_M := (yX7_findFloor, cX7_findFloor, 8, none, 5, 135)
abbrev M_X7_sumOfMembers : en_M := (yX7_sumOfMembers, cX7_sumOfMembers, 8, (some (.long)), 3, 78)
abbrev M_X7_sumOfPower : en_M := (yX7_sumOfPower, cX7_sumOfPower, 10, (some (.long)), 4, 106)
abbrev M_X7_enclose : en_M := (yX7_enclose, cX7_enclose, 3, (some (.int)), 8, 211)
abbrev M_X7_bound : en_M := (yX7_bound, cX7_bound, 3, (some (.int)), 1, 24)
abbrev M_X7_digits : en_M := (yX7_digits, cX7_digits, 4, (some (.int)), 8, 211)
abbrev M_X7_digit : en_M := (yX7_digit, cX7_digit, 2, (some (.int)), 1, 24)
abbrev M_X7_length : en_M := (yX7_length, cX7_length, 1, (some (.int)), 1, 23)
abbrev M_X7_order : en_M := (yX7_order, cX7_order, 7, (some (.int)), 8, 211)
abbrev M_X7_clipped : en_M := (yX7_clipped, cX7_clipped, 5, (some (.long)), 0, 0)
abbrev M_X7_quotients : en_M := (yX7_quotients, cX7_quotients, 4, (some (.int)), 8, 211)
abbrev M_X7_areSame : en_M := (yX7_areSame, cX7_areSame, 5, (some (.boolean)), 4, 106)
abbrev M_X7_quotient : en_M := (yX7_quotient, cX7_quotient, 2, (some (.long)), 0, 0)
abbrev M_X7_many : en_M := (yX7_many, cX7_many, 1, (some (.int)), 0, 0)
abbrev M_X7_precision : en_M := (yX7_precision, cX7_precision, 1, (some (.int)), 0, 0)
abbrev M_J7_rangeCheck_23922 : en_M := (yJ7_rangeCheck_23922, cJ7_rangeCheck_23922, 3, none, 0, 0)
abbrev M_J7_fill_fda19 : en_M := (yJ7_fill_fda19, cJ7_fill_fda19, 5, none, 1, 22)
abbrev M_J7_copyOf_59c91 : en_M := (yJ7_copyOf_59c91, cJ7_copyOf_59c91, 3, (some (.array .int)), 1, 26)
abbrev M_L_law : en_M := (yL_law, cL_law, 4, (some .boolean), 11, 476)
end
section
/-! Rows over numbers nI n, lN n (n : Nat), and rows that leave a new store, with what it holds. -/
def ar (X : en_X) (n : Nat) (d : Nat → Nat) : va_E := .inl (X.2.2.1.1, n, .inl (fun i => nI (d i)))
def un (d : Nat → Nat) (k x : Nat) : Nat → Nat := fun j => if j = k then x else d j
theorem un_s {d : Nat → Nat} {k x : Nat} : un d k x k = x := if_pos rfl
theorem un_n {d : Nat → Nat} {k x j : Nat} (h : j ≠ k) : un d k x j = d j := if_neg h
theorem upd_nI (d : Nat → Nat) (k x : Nat) : upd (fun i => nI (d i)) k (nI x) = fun i => nI (un d k x i) := by
  funext j; unfold upd un; by_cases h : j = k <;> simp [h]
theorem nI_surj (x : Int32) : ∃ n : Nat, n < 2 ^ 32 ∧ x = nI n := ⟨x.toBitVec.toNat, x.toBitVec.isLt, by
  show x = Int32.ofNat _
  apply Int32.toBitVec_inj.mp
  simp [Int32.ofNat]⟩
theorem lk {a b : Nat} (h : Nat.ble a b = true) : a ≤ b := Nat.le_of_ble_eq_true h
section en_n
variable {X : en_X} {y f : en_M} {ρ σ : en_S} {pc nx : Nat} {lv : List (Nat × Value)} {st stk : List Value} {Q : Option Value → en_S → Prop}
theorem wn_iadd {a b : Nat} (q : decode y.2.1 pc = .ok (.iadd, 1) ∧ pc + 1 = nx) (k : WA X y ρ nx lv (.int (nI (a + b)) :: st) σ Q) : WA X y ρ pc lv (.int (nI b) :: .int (nI a) :: st) σ Q := wa_iadd q (by rw [nI_add]; exact k)
theorem wn_imul {a b : Nat} (q : decode y.2.1 pc = .ok (.imul, 1) ∧ pc + 1 = nx) (k : WA X y ρ nx lv (.int (nI (a * b)) :: st) σ Q) : WA X y ρ pc lv (.int (nI b) :: .int (nI a) :: st) σ Q := wa_imul q (by rw [pk_mul]; exact k)
theorem wn_isub {a b : Nat} (q : decode y.2.1 pc = .ok (.isub, 1) ∧ pc + 1 = nx) (h : b ≤ a) (k : WA X y ρ nx lv (.int (nI (a - b)) :: st) σ Q) : WA X y ρ pc lv (.int (nI b) :: .int (nI a) :: st) σ Q := wa_isub q (by rw [pk_sub h]; exact k)
theorem wn_idiv {a b : Nat} (q : decode y.2.1 pc = .ok (.idiv, 1) ∧ pc + 1 = nx) (ha : a < 2 ^ 31) (h0 : 0 < b) (hb : b < 2 ^ 31) (k : WA X y ρ nx lv (.int (nI (a / b)) :: st) σ Q) : WA X y ρ pc lv (.int (nI b) :: .int (nI a) :: st) σ Q := wa_idiv q (nI_ne0 h0 hb) (by rw [pk_div ha h0 hb]; exact k)
theorem wn_irem {a b : Nat} (q : decode y.2.1 pc = .ok (.irem, 1) ∧ pc + 1 = nx) (ha : a < 2 ^ 31) (h0 : 0 < b) (hb : b < 2 ^ 31) (k : WA X y ρ nx lv (.int (nI (a % b)) :: st) σ Q) : WA X y ρ pc lv (.int (nI b) :: .int (nI a) :: st) σ Q := wa_irem q (nI_ne0 h0 hb) (by rw [pk_rem ha h0 hb]; exact k)
theorem wn_ladd {a b : Nat} (q : decode y.2.1 pc = .ok (.ladd, 1) ∧ pc + 1 = nx) (k : WA X y ρ nx lv (.long (lN (a + b)) :: st) σ Q) : WA X y ρ pc lv (.long (lN b) :: .long (lN a) :: st) σ Q := wa_ladd q (by rw [lN_add]; exact k)
theorem wn_lmul {a b : Nat} (q : decode y.2.1 pc = .ok (.lmul, 1) ∧ pc + 1 = nx) (k : WA X y ρ nx lv (.long (lN (a * b)) :: st) σ Q) : WA X y ρ pc lv (.long (lN b) :: .long (lN a) :: st) σ Q := wa_lmul q (by rw [lN_mul]; exact k)
theorem wn_lsub {a b : Nat} (q : decode y.2.1 pc = .ok (.lsub, 1) ∧ pc + 1 = nx) (h : b ≤ a) (k : WA X y ρ nx lv (.long (lN (a - b)) :: st) σ Q) : WA X y ρ pc lv (.long (lN b) :: .long (lN a) :: st) σ Q := wa_lsub q (by rw [lN_sub h]; exact k)
theorem wn_ldiv {a b : Nat} (q : decode y.2.1 pc = .ok (.ldiv, 1) ∧ pc + 1 = nx) (ha : a < 2 ^ 63) (h0 : 0 < b) (hb : b < 2 ^ 63) (k : WA X y ρ nx lv (.long (lN (a / b)) :: st) σ Q) : WA X y ρ pc lv (.long (lN b) :: .long (lN a) :: st) σ Q := wa_ldiv q (fun z => by have := (pk_lEQ hb (by decide : 0 < 2 ^ 63)).mp z; omega) (by rw [pk_lDiv ha h0 hb]; exact k)
theorem wn_lrem {a b : Nat} (q : decode y.2.1 pc = .ok (.lrem, 1) ∧ pc + 1 = nx) (ha : a < 2 ^ 63) (h0 : 0 < b) (hb : b < 2 ^ 63) (k : WA X y ρ nx lv (.long (lN (a % b)) :: st) σ Q) : WA X y ρ pc lv (.long (lN b) :: .long (lN a) :: st) σ Q := wa_lrem q (fun z => by have := (pk_lEQ hb (by decide : 0 < 2 ^ 63)).mp z; omega) (by rw [pk_lRem ha h0 hb]; exact k)
theorem wn_i2l {a : Nat} (q : decode y.2.1 pc = .ok (.i2l, 1) ∧ pc + 1 = nx) (ha : a < 2 ^ 31) (k : WA X y ρ nx lv (.long (lN a) :: st) σ Q) : WA X y ρ pc lv (.int (nI a) :: st) σ Q := wa_i2l q (nI_l ha) k
theorem wn_l2i {a : Nat} (q : decode y.2.1 pc = .ok (.l2i, 1) ∧ pc + 1 = nx) (k : WA X y ρ nx lv (.int (nI a) :: st) σ Q) : WA X y ρ pc lv (.long (lN a) :: st) σ Q := wa_l2i q (lN_i a) k
theorem wn_iinc {i j : Nat} (q : decode y.2.1 pc = .ok (.iinc i 1, 3) ∧ pc + 3 = nx) (hv : en_lk lv i = some (.int (nI j))) (hn : i < y.2.2.1) (k : WA X y ρ nx (en_s1 lv i (.int (nI (j + 1)))) st σ Q) : WA X y ρ pc lv st σ Q := wa_iinc q hv (by rw [nI_succ]; rfl) hn k
theorem wn_idec {i j : Nat} (q : decode y.2.1 pc = .ok (.iinc i (-1), 3) ∧ pc + 3 = nx) (hv : en_lk lv i = some (.int (nI (j + 1)))) (hn : i < y.2.2.1) (k : WA X y ρ nx (en_s1 lv i (.int (nI j))) st σ Q) : WA X y ρ pc lv st σ Q := wa_iinc q hv (by rw [← pk_m1 j]; rfl) hn k
theorem wn_icmp_eq {a b : Nat} {off : Int} {tgt : Nat} (q : decode y.2.1 pc = .ok (.if_icmp .eq off, 3) ∧ pc + 3 = nx ∧ (pc : Int) + off = (tgt : Int)) (ha : a < 2 ^ 31) (hb : b < 2 ^ 31) (kt : a = b → WA X y ρ tgt lv st σ Q) (kf : a ≠ b → WA X y ρ nx lv st σ Q) : WA X y ρ pc lv (.int (nI b) :: .int (nI a) :: st) σ Q := wa_icmp_eq q (fun z => kt ((nI_eq ha hb).mp z)) (fun z => kf (fun w => z ((nI_eq ha hb).mpr w)))
theorem wn_icmp_ne {a b : Nat} {off : Int} {tgt : Nat} (q : decode y.2.1 pc = .ok (.if_icmp .ne off, 3) ∧ pc + 3 = nx ∧ (pc : Int) + off = (tgt : Int)) (ha : a < 2 ^ 31) (hb : b < 2 ^ 31) (kt : a ≠ b → WA X y ρ tgt lv st σ Q) (kf : a = b → WA X y ρ nx lv st σ Q) : WA X y ρ pc lv (.int (nI b) :: .int (nI a) :: st) σ Q := wa_icmp_ne q (fun z => kt (fun w => z ((nI_eq ha hb).mpr w))) (fun z => kf ((nI_eq ha hb).mp z))
theorem wn_icmp_lt {a b : Nat} {off : Int} {tgt : Nat} (q : decode y.2.1 pc = .ok (.if_icmp .lt off, 3) ∧ pc + 3 = nx ∧ (pc : Int) + off = (tgt : Int)) (ha : a < 2 ^ 31) (hb : b < 2 ^ 31) (kt : a < b → WA X y ρ tgt lv st σ Q) (kf : b ≤ a → WA X y ρ nx lv st σ Q) : WA X y ρ pc lv (.int (nI b) :: .int (nI a) :: st) σ Q := wa_icmp_lt q (fun z => kt ((nI_ltI ha hb).mp z)) (fun z => kf (by have := mt (nI_ltI ha hb).mpr z; omega))
theorem wn_icmp_ge {a b : Nat} {off : Int} {tgt : Nat} (q : decode y.2.1 pc = .ok (.if_icmp .ge off, 3) ∧ pc + 3 = nx ∧ (pc : Int) + off = (tgt : Int)) (ha : a < 2 ^ 31) (hb : b < 2 ^ 31) (kt : b ≤ a → WA X y ρ tgt lv st σ Q) (kf : a < b → WA X y ρ nx lv st σ Q) : WA X y ρ pc lv (.int (nI b) :: .int (nI a) :: st) σ Q := wa_icmp_ge q (fun z => kt ((nI_leI hb ha).mp z)) (fun z => kf (by have := mt (nI_leI hb ha).mpr z; omega))
theorem wn_icmp_gt {a b : Nat} {off : Int} {tgt : Nat} (q : decode y.2.1 pc = .ok (.if_icmp .gt off, 3) ∧ pc + 3 = nx ∧ (pc : Int) + off = (tgt : Int)) (ha : a < 2 ^ 31) (hb : b < 2 ^ 31) (kt : b < a → WA X y ρ tgt lv st σ Q) (kf : a ≤ b → WA X y ρ nx lv st σ Q) : WA X y ρ pc lv (.int (nI b) :: .int (nI a) :: st) σ Q := wa_icmp_gt q (fun z => kt ((nI_ltI hb ha).mp z)) (fun z => kf (by have := mt (nI_ltI hb ha).mpr z; omega))
theorem wn_icmp_le {a b : Nat} {off : Int} {tgt : Nat} (q : decode y.2.1 pc = .ok (.if_icmp .le off, 3) ∧ pc + 3 = nx ∧ (pc : Int) + off = (tgt : Int)) (ha : a < 2 ^ 31) (hb : b < 2 ^ 31) (kt : a ≤ b → WA X y ρ tgt lv st σ Q) (kf : b < a → WA X y ρ nx lv st σ Q) : WA X y ρ pc lv (.int (nI b) :: .int (nI a) :: st) σ Q := wa_icmp_le q (fun z => kt ((nI_leI ha hb).mp z)) (fun z => kf (by have := mt (nI_leI ha hb).mpr z; omega))
theorem wn_if_eq {a : Nat} {off : Int} {tgt : Nat} (q : decode y.2.1 pc = .ok (.ifCond .eq off, 3) ∧ pc + 3 = nx ∧ (pc : Int) + off = (tgt : Int)) (ha : a < 2 ^ 31) (kt : a = 0 → WA X y ρ tgt lv st σ Q) (kf : 0 < a → WA X y ρ nx lv st σ Q) : WA X y ρ pc lv (.int (nI a) :: st) σ Q := by
  have h0 : 0 < 2 ^ 31 := by decide
  exact wa_if_eq q (fun z => kt ((nI_eq ha h0).mp z)) (fun z => kf (Nat.pos_of_ne_zero (fun w => z ((nI_eq ha h0).mpr w))))
theorem wn_if_ne {a : Nat} {off : Int} {tgt : Nat} (q : decode y.2.1 pc = .ok (.ifCond .ne off, 3) ∧ pc + 3 = nx ∧ (pc : Int) + off = (tgt : Int)) (ha : a < 2 ^ 31) (kt : 0 < a → WA X y ρ tgt lv st σ Q) (kf : a = 0 → WA X y ρ nx lv st σ Q) : WA X y ρ pc lv (.int (nI a) :: st) σ Q := by
  have h0 : 0 < 2 ^ 31 := by decide
  exact wa_if_ne q (fun z => kt (Nat.pos_of_ne_zero (fun w => z ((nI_eq ha h0).mpr w)))) (fun z => kf ((nI_eq ha h0).mp z))
theorem wn_if_lt {a : Nat} {off : Int} {tgt : Nat} (q : decode y.2.1 pc = .ok (.ifCond .lt off, 3) ∧ pc + 3 = nx ∧ (pc : Int) + off = (tgt : Int)) (ha : a < 2 ^ 31) (kt : False → WA X y ρ tgt lv st σ Q) (kf : True → WA X y ρ nx lv st σ Q) : WA X y ρ pc lv (.int (nI a) :: st) σ Q := wa_if_lt q (fun z => absurd z (nI_pos ha)) (fun _ => kf trivial)
theorem wn_if_ge {a : Nat} {off : Int} {tgt : Nat} (q : decode y.2.1 pc = .ok (.ifCond .ge off, 3) ∧ pc + 3 = nx ∧ (pc : Int) + off = (tgt : Int)) (ha : a < 2 ^ 31) (kt : True → WA X y ρ tgt lv st σ Q) (kf : False → WA X y ρ nx lv st σ Q) : WA X y ρ pc lv (.int (nI a) :: st) σ Q := wa_if_ge q (fun _ => kt trivial) (fun z => absurd (nI_pos' ha) z)
theorem wn_if_gt {a : Nat} {off : Int} {tgt : Nat} (q : decode y.2.1 pc = .ok (.ifCond .gt off, 3) ∧ pc + 3 = nx ∧ (pc : Int) + off = (tgt : Int)) (ha : a < 2 ^ 31) (kt : 0 < a → WA X y ρ tgt lv st σ Q) (kf : a = 0 → WA X y ρ nx lv st σ Q) : WA X y ρ pc lv (.int (nI a) :: st) σ Q := by
  have h0 : 0 < 2 ^ 31 := by decide
  exact wa_if_gt q (fun z => kt ((nI_ltI h0 ha).mp z)) (fun z => kf (by have := mt (nI_ltI h0 ha).mpr z; omega))
theorem wn_if_le {a : Nat} {off : Int} {tgt : Nat} (q : decode y.2.1 pc = .ok (.ifCond .le off, 3) ∧ pc + 3 = nx ∧ (pc : Int) + off = (tgt : Int)) (ha : a < 2 ^ 31) (kt : a = 0 → WA X y ρ tgt lv st σ Q) (kf : 0 < a → WA X y ρ nx lv st σ Q) : WA X y ρ pc lv (.int (nI a) :: st) σ Q := by
  have h0 : 0 < 2 ^ 31 := by decide
  exact wa_if_le q (fun z => kt (Nat.le_zero.mp ((nI_leI ha h0).mp z))) (fun z => kf (by have := mt (nI_leI ha h0).mpr z; omega))
theorem wn_putf {i ci k a : Nat} {fs : List Value} {v : Value} {ty : FieldType} (q : decode y.2.1 pc = .ok (.putfield i, 3) ∧ pc + 3 = nx) (f : en_Fp y.1.cls i ci k false ty) (h : look σ a = some (.inr (ci, fs))) (hk : k < fs.length) (hn : narrow ty v = v) (hfit : fits ty v = true) {fs' : List Value} (hfs : fs.set k v = fs')
    (kw : ∀ σ1 : en_S, look σ1 a = some (.inr (ci, fs')) → (∀ b, b ≠ a → look σ1 b = look σ b) → σ1.1 = σ.1 → σ1.2.1 = σ.2.1 → WA X y ρ nx lv st σ1 Q) : WA X y ρ pc lv (v :: .ref a :: st) σ Q := wa_putf q f h hk hn hfit (kw _ (hfs ▸ look_same h) (fun _ hb => look_ne hb) rfl rfl)
theorem wn_putF {i ci k a : Nat} {fs : List Value} {v : Value} {ty : FieldType} (q : decode y.2.1 pc = .ok (.putfield i, 3) ∧ pc + 3 = nx) (f : en_Fp y.1.cls i ci k true ty) (hy : y.1.name = "<init>") (hC : ∀ C T N, vwCl[ci]? = some (C, T, N) → C = y.1.cls) (h : look σ a = some (.inr (ci, fs))) (hk : k < fs.length) (hn : narrow ty v = v) (hfit : fits ty v = true) {fs' : List Value} (hfs : fs.set k v = fs')
    (kw : ∀ σ1 : en_S, look σ1 a = some (.inr (ci, fs')) → (∀ b, b ≠ a → look σ1 b = look σ b) → σ1.1 = σ.1 → σ1.2.1 = σ.2.1 → WA X y ρ nx lv st σ1 Q) : WA X y ρ pc lv (v :: .ref a :: st) σ Q := wa_putF q f hy hC h hk hn hfit (kw _ (hfs ▸ look_same h) (fun _ hb => look_ne hb) rfl rfl)
theorem wn_iald {a n j : Nat} {d : Nat → Nat} (q : decode y.2.1 pc = .ok (.iaload, 1) ∧ pc + 1 = nx) (h : look σ a = some (ar X n d)) (hj : j < n) (hn : n < 2 ^ 31) (kw : WA X y ρ nx lv (.int (nI (d j)) :: st) σ Q) : WA X y ρ pc lv (.int (nI j) :: .ref a :: st) σ Q := wa_iald (f := fun i => nI (d i)) q h (vp_in_nI hj hn) (by rw [nI_clamp (by omega)]; exact kw)
theorem wn_alen {a n : Nat} {d : Nat → Nat} (q : decode y.2.1 pc = .ok (.arraylength, 1) ∧ pc + 1 = nx) (h : look σ a = some (ar X n d)) (kw : WA X y ρ nx lv (.int (nI n) :: st) σ Q) : WA X y ρ pc lv (.ref a :: st) σ Q := wa_alen (t0 := 0) q h rfl kw
theorem wn_iast {a n j x : Nat} {d : Nat → Nat} (q : decode y.2.1 pc = .ok (.iastore, 1) ∧ pc + 1 = nx) (h : look σ a = some (ar X n d)) (hj : j < n) (hn : n < 2 ^ 31)
    (kw : ∀ σ1 : en_S, look σ1 a = some (ar X n (un d j x)) → (∀ b, b ≠ a → look σ1 b = look σ b) → σ1.1 = σ.1 → σ1.2.1 = σ.2.1 → WA X y ρ nx lv st σ1 Q) : WA X y ρ pc lv (.int (nI x) :: .int (nI j) :: .ref a :: st) σ Q := by
  refine wa_iast (f := fun i => nI (d i)) q h (vp_in_nI hj hn) ?_
  rw [nI_clamp (by omega), upd_nI]
  exact kw _ (look_same h) (fun _ hb => look_ne hb) rfl rfl
theorem wn_newi {N : Nat} (q : decode y.2.1 pc = .ok (.newarray .int, 2) ∧ pc + 2 = nx) (hN : N ≤ 100000000)
    (kw : ∀ σ1 : en_S, look σ1 σ.1 = some (ar X N (fun _ => 0)) → (∀ b, b ≠ σ.1 → look σ1 b = look σ b) → σ1.1 = σ.1 + 1 → σ1.2.1 = σ.2.1 + N → WA X y ρ nx lv (.ref σ.1 :: st) σ1 Q) : WA X y ρ pc lv (.int (nI N) :: st) σ Q :=
  wa_newi (N := N) q (nI_pos (by omega)) (nI_clamp (by omega)) hN (kw _ look_fresh (fun _ hb => look_old hb) rfl rfl)
theorem wn_new {i ci N : Nat} {fs : List Value} (q : decode y.2.1 pc = .ok (.new i, 3) ∧ pc + 3 = nx) (f : en_N y.1.cls i ci N fs)
    (kw : ∀ σ1 : en_S, look σ1 σ.1 = some (.inr (ci, fs)) → (∀ b, b ≠ σ.1 → look σ1 b = look σ b) → σ1.1 = σ.1 + 1 → σ1.2.1 = σ.2.1 + N → WA X y ρ nx lv (.ref σ.1 :: st) σ1 Q) : WA X y ρ pc lv st σ Q :=
  wa_new q f (kw _ look_fresh (fun _ hb => look_old hb) rfl rfl)
theorem va_cpy_nI (f g : Nat → Nat) (sp dp n : Nat) : va_cpy (fun i => nI (f i)) (fun i => nI (g i)) sp dp n = fun i => nI (va_cpy f g sp dp n i) := by
  funext j; unfold va_cpy; split <;> rfl
theorem wn_copyi {i a0 a n0 n1 sp dp n : Nat} {f g : Nat → Nat} (q : decode y.2.1 pc = .ok (.invokestatic i, 3) ∧ pc + 3 = nx) (w : Cond.methodLink y.1.cls i arraycopyName ∈ en_tbl) (hf : 1 ≤ y.2.2.2.2.1) (hw : (st.map fun v => v.category).sum + (nativeFrameWords "java/lang/System" "arraycopy" 5 + 11) ≤ y.2.2.2.2.2)
    (h0 : look σ a0 = some (ar X n0 f)) (h1 : look σ a = some (ar X n1 g)) (c0 : n0 < 2 ^ 31) (c1 : n1 < 2 ^ 31) (c4 : sp + n ≤ n0) (c5 : dp + n ≤ n1)
    (kw : ∀ σ1 : en_S, look σ1 a = some (ar X n1 (va_cpy f g sp dp n)) → (∀ b, b ≠ a → look σ1 b = look σ b) → σ1.1 = σ.1 → σ1.2.1 = σ.2.1 → WA X y ρ nx lv st σ1 Q) : WA X y ρ pc lv (.int (nI n) :: .int (nI dp) :: .ref a :: .int (nI sp) :: .ref a0 :: st) σ Q := by
  refine wa_copyi (f := fun i => nI (f i)) (g := fun i => nI (g i)) q w hf hw h0 h1 (nI_pos (by omega)) (nI_pos (by omega)) (nI_pos (by omega)) (by rw [nI_clamp (by omega), nI_clamp (by omega)]; exact c4) (by rw [nI_clamp (by omega), nI_clamp (by omega)]; exact c5) ?_
  rw [nI_clamp (by omega), nI_clamp (by omega), nI_clamp (by omega), va_cpy_nI]
  exact kw _ (look_same h1) (fun _ hb => look_ne hb) rfl rfl
theorem wn_mmax {i a b : Nat} (q : decode y.2.1 pc = .ok (.invokestatic i, 3) ∧ pc + 3 = nx) (wd : Cond.methodLink y.1.cls i Lib.Math.max.name ∈ en_tbl) (hf : 1 ≤ y.2.2.2.2.1) (hw : (st.map fun v => v.category).sum + 13 ≤ y.2.2.2.2.2) (ha : a < 2 ^ 31) (hb : b < 2 ^ 31) (k : WA X y ρ nx lv (.int (nI (max a b)) :: st) σ Q) : WA X y ρ pc lv (.int (nI b) :: .int (nI a) :: st) σ Q := by
  refine wa_mmax q wd hf hw ?_
  rcases Nat.lt_or_ge a b with h | h
  · rw [if_pos ((nI_ltI ha hb).mpr h)]; rw [Nat.max_eq_right (Nat.le_of_lt h)] at k; exact k
  · rw [if_neg (fun z => by have := (nI_ltI ha hb).mp z; omega)]; rw [Nat.max_eq_left h] at k; exact k
theorem wn_mmin {i a b : Nat} (q : decode y.2.1 pc = .ok (.invokestatic i, 3) ∧ pc + 3 = nx) (wd : Cond.methodLink y.1.cls i Lib.Math.min.name ∈ en_tbl) (hf : 1 ≤ y.2.2.2.2.1) (hw : (st.map fun v => v.category).sum + 13 ≤ y.2.2.2.2.2) (ha : a < 2 ^ 31) (hb : b < 2 ^ 31) (k : WA X y ρ nx lv (.int (nI (min a b)) :: st) σ Q) : WA X y ρ pc lv (.int (nI b) :: .int (nI a) :: st) σ Q := by
  refine wa_mmin q wd hf hw ?_
  rcases Nat.lt_or_ge b a with h | h
  · rw [if_pos ((nI_ltI hb ha).mpr h)]; rw [Nat.min_eq_right (Nat.le_of_lt h)] at k; exact k
  · rw [if_neg (fun z => by have := (nI_ltI hb ha).mp z; omega)]; rw [Nat.min_eq_left h] at k; exact k
theorem wn_tald {j : Nat} (q : decode y.2.1 pc = .ok (.iaload, 1) ∧ pc + 1 = nx) (hj : j < 9) (k : WA X y ρ nx lv (.int (nI (10 ^ j)) :: st) σ Q) : WA X y ρ pc lv (.int (nI j) :: .ref X.2.2.2.2.1 :: st) σ Q := wa_tald q (vp_in_nI hj (by decide)) (by rw [nI_clamp (by omega)]; exact k)
theorem wn_lcmp_lt {a b p2 : Nat} {off : Int} {tgt : Nat} (q : decode y.2.1 pc = .ok (.lcmp, 1) ∧ pc + 1 = p2) (q2 : decode y.2.1 p2 = .ok (.ifCond .lt off, 3) ∧ p2 + 3 = nx ∧ (p2 : Int) + off = (tgt : Int)) (ha : a < 2 ^ 63) (hb : b < 2 ^ 63) (kt : a < b → WA X y ρ tgt lv st σ Q) (kf : b ≤ a → WA X y ρ nx lv st σ Q) : WA X y ρ pc lv (.long (lN b) :: .long (lN a) :: st) σ Q := by
  have hL : lN a < lN b ↔ a < b := pk_lLT ha hb
  have hG : lN b < lN a ↔ b < a := pk_lLT hb ha
  have hE : lN a = lN b ↔ a = b := pk_lEQ ha hb
  refine wa_lcmp q (wa_if_lt q2 (fun z => kt ?_) (fun z => kf ?_))
  all_goals (unfold lg_cmp at z; rcases Nat.lt_trichotomy a b with h | h | h)
  all_goals first | omega | (exfalso; revert z; first | (rw [if_neg (fun w => by have := hG.mp w; omega), if_neg (fun w => by have := hE.mp w; omega)]; decide) | (rw [if_neg (fun w => by have := hG.mp w; omega), if_pos (hE.mpr h)]; decide) | (rw [if_pos (hG.mpr h)]; decide))
theorem wn_lcmp_ge {a b p2 : Nat} {off : Int} {tgt : Nat} (q : decode y.2.1 pc = .ok (.lcmp, 1) ∧ pc + 1 = p2) (q2 : decode y.2.1 p2 = .ok (.ifCond .ge off, 3) ∧ p2 + 3 = nx ∧ (p2 : Int) + off = (tgt : Int)) (ha : a < 2 ^ 63) (hb : b < 2 ^ 63) (kt : b ≤ a → WA X y ρ tgt lv st σ Q) (kf : a < b → WA X y ρ nx lv st σ Q) : WA X y ρ pc lv (.long (lN b) :: .long (lN a) :: st) σ Q := by
  have hL : lN a < lN b ↔ a < b := pk_lLT ha hb
  have hG : lN b < lN a ↔ b < a := pk_lLT hb ha
  have hE : lN a = lN b ↔ a = b := pk_lEQ ha hb
  refine wa_lcmp q (wa_if_ge q2 (fun z => kt ?_) (fun z => kf ?_))
  all_goals (unfold lg_cmp at z; rcases Nat.lt_trichotomy a b with h | h | h)
  all_goals first | omega | (exfalso; revert z; first | (rw [if_neg (fun w => by have := hG.mp w; omega), if_neg (fun w => by have := hE.mp w; omega)]; decide) | (rw [if_neg (fun w => by have := hG.mp w; omega), if_pos (hE.mpr h)]; decide) | (rw [if_pos (hG.mpr h)]; decide))
theorem wn_lcmp_gt {a b p2 : Nat} {off : Int} {tgt : Nat} (q : decode y.2.1 pc = .ok (.lcmp, 1) ∧ pc + 1 = p2) (q2 : decode y.2.1 p2 = .ok (.ifCond .gt off, 3) ∧ p2 + 3 = nx ∧ (p2 : Int) + off = (tgt : Int)) (ha : a < 2 ^ 63) (hb : b < 2 ^ 63) (kt : b < a → WA X y ρ tgt lv st σ Q) (kf : a ≤ b → WA X y ρ nx lv st σ Q) : WA X y ρ pc lv (.long (lN b) :: .long (lN a) :: st) σ Q := by
  have hL : lN a < lN b ↔ a < b := pk_lLT ha hb
  have hG : lN b < lN a ↔ b < a := pk_lLT hb ha
  have hE : lN a = lN b ↔ a = b := pk_lEQ ha hb
  refine wa_lcmp q (wa_if_gt q2 (fun z => kt ?_) (fun z => kf ?_))
  all_goals (unfold lg_cmp at z; rcases Nat.lt_trichotomy a b with h | h | h)
  all_goals first | omega | (exfalso; revert z; first | (rw [if_neg (fun w => by have := hG.mp w; omega), if_neg (fun w => by have := hE.mp w; omega)]; decide) | (rw [if_neg (fun w => by have := hG.mp w; omega), if_pos (hE.mpr h)]; decide) | (rw [if_pos (hG.mpr h)]; decide))
theorem wn_lcmp_le {a b p2 : Nat} {off : Int} {tgt : Nat} (q : decode y.2.1 pc = .ok (.lcmp, 1) ∧ pc + 1 = p2) (q2 : decode y.2.1 p2 = .ok (.ifCond .le off, 3) ∧ p2 + 3 = nx ∧ (p2 : Int) + off = (tgt : Int)) (ha : a < 2 ^ 63) (hb : b < 2 ^ 63) (kt : a ≤ b → WA X y ρ tgt lv st σ Q) (kf : b < a → WA X y ρ nx lv st σ Q) : WA X y ρ pc lv (.long (lN b) :: .long (lN a) :: st) σ Q := by
  have hL : lN a < lN b ↔ a < b := pk_lLT ha hb
  have hG : lN b < lN a ↔ b < a := pk_lLT hb ha
  have hE : lN a = lN b ↔ a = b := pk_lEQ ha hb
  refine wa_lcmp q (wa_if_le q2 (fun z => kt ?_) (fun z => kf ?_))
  all_goals (unfold lg_cmp at z; rcases Nat.lt_trichotomy a b with h | h | h)
  all_goals first | omega | (exfalso; revert z; first | (rw [if_neg (fun w => by have := hG.mp w; omega), if_neg (fun w => by have := hE.mp w; omega)]; decide) | (rw [if_neg (fun w => by have := hG.mp w; omega), if_pos (hE.mpr h)]; decide) | (rw [if_pos (hG.mpr h)]; decide))
theorem wn_lcmp_eq {a b p2 : Nat} {off : Int} {tgt : Nat} (q : decode y.2.1 pc = .ok (.lcmp, 1) ∧ pc + 1 = p2) (q2 : decode y.2.1 p2 = .ok (.ifCond .eq off, 3) ∧ p2 + 3 = nx ∧ (p2 : Int) + off = (tgt : Int)) (ha : a < 2 ^ 63) (hb : b < 2 ^ 63) (kt : a = b → WA X y ρ tgt lv st σ Q) (kf : a ≠ b → WA X y ρ nx lv st σ Q) : WA X y ρ pc lv (.long (lN b) :: .long (lN a) :: st) σ Q := by
  have hL : lN a < lN b ↔ a < b := pk_lLT ha hb
  have hG : lN b < lN a ↔ b < a := pk_lLT hb ha
  have hE : lN a = lN b ↔ a = b := pk_lEQ ha hb
  refine wa_lcmp q (wa_if_eq q2 (fun z => kt ?_) (fun z => kf ?_))
  all_goals (unfold lg_cmp at z; rcases Nat.lt_trichotomy a b with h | h | h)
  all_goals first | omega | (exfalso; revert z; first | (rw [if_neg (fun w => by have := hG.mp w; omega), if_neg (fun w => by have := hE.mp w; omega)]; decide) | (rw [if_neg (fun w => by have := hG.mp w; omega), if_pos (hE.mpr h)]; decide) | (rw [if_pos (hG.mpr h)]; decide))
theorem wn_lcmp_ne {a b p2 : Nat} {off : Int} {tgt : Nat} (q : decode y.2.1 pc = .ok (.lcmp, 1) ∧ pc + 1 = p2) (q2 : decode y.2.1 p2 = .ok (.ifCond .ne off, 3) ∧ p2 + 3 = nx ∧ (p2 : Int) + off = (tgt : Int)) (ha : a < 2 ^ 63) (hb : b < 2 ^ 63) (kt : a ≠ b → WA X y ρ tgt lv st σ Q) (kf : a = b → WA X y ρ nx lv st σ Q) : WA X y ρ pc lv (.long (lN b) :: .long (lN a) :: st) σ Q := by
  have hL : lN a < lN b ↔ a < b := pk_lLT ha hb
  have hG : lN b < lN a ↔ b < a := pk_lLT hb ha
  have hE : lN a = lN b ↔ a = b := pk_lEQ ha hb
  refine wa_lcmp q (wa_if_ne q2 (fun z => kt ?_) (fun z => kf ?_))
  all_goals (unfold lg_cmp at z; rcases Nat.lt_trichotomy a b with h | h | h)
  all_goals first | omega | (exfalso; revert z; first | (rw [if_neg (fun w => by have := hG.mp w; omega), if_neg (fun w => by have := hE.mp w; omega)]; decide) | (rw [if_neg (fun w => by have := hG.mp w; omega), if_pos (hE.mpr h)]; decide) | (rw [if_pos (hG.mpr h)]; decide))
end en_n
end
section
/-! Numbers of limbs below 10^9. -/
def BB : Nat := 1000000000
theorem BB_pos : 0 < BB := by decide
/-- the number that the lowest n limbs are -/
def vl (d : Nat → Nat) : Nat → Nat
  | 0 => 0
  | n + 1 => vl d n + d n * BB ^ n
/-- the place above the highest limb that is not 0, at most sz -/
def tp (d : Nat → Nat) : Nat → Nat
  | 0 => 0
  | n + 1 => if d n = 0 then tp d n else n + 1
theorem tp_le (d : Nat → Nat) (n : Nat) : tp d n ≤ n := by
  induction n with
  | zero => exact Nat.le_refl _
  | succ n ih => unfold tp; split <;> omega
theorem tp_top (d : Nat → Nat) (n : Nat) : tp d n = 0 ∨ d (tp d n - 1) ≠ 0 := by
  induction n with
  | zero => exact Or.inl rfl
  | succ n ih =>
    unfold tp
    split
    · exact ih
    · exact Or.inr (by assumption)
theorem vl_tp (d : Nat → Nat) (n : Nat) : vl d (tp d n) = vl d n := by
  induction n with
  | zero => rfl
  | succ n ih =>
    unfold tp
    split
    · rename_i h
      rw [ih]
      conv => rhs; unfold vl
      rw [h, Nat.zero_mul, Nat.add_zero]
    · rfl
theorem vl_congr {d e : Nat → Nat} {n : Nat} (h : ∀ i, i < n → d i = e i) : vl d n = vl e n := by
  induction n with
  | zero => rfl
  | succ n ih =>
    unfold vl
    rw [ih (fun i hi => h i (by omega)), h n (by omega)]
theorem vl_lt {d : Nat → Nat} {n : Nat} (h : ∀ i, i < n → d i < BB) : vl d n < BB ^ n := by
  induction n with
  | zero => exact Nat.zero_lt_one
  | succ n ih =>
    unfold vl
    have h1 := ih (fun i hi => h i (by omega))
    have h2 := h n (by omega)
    have h3 : (d n + 1) * BB ^ n ≤ BB * BB ^ n := Nat.mul_le_mul_right _ h2
    rw [Nat.add_mul, Nat.one_mul] at h3
    rw [Nat.pow_succ, Nat.mul_comm (BB ^ n) BB]
    omega
theorem vl_ge {d : Nat → Nat} {n : Nat} (h : d n ≠ 0) : BB ^ n ≤ vl d (n + 1) := by
  unfold vl
  have h1 : 1 * BB ^ n ≤ d n * BB ^ n := Nat.mul_le_mul_right _ (Nat.pos_of_ne_zero h)
  omega
theorem vl_pad {d : Nat → Nat} {n m : Nat} (hnm : n ≤ m) (h : ∀ i, n ≤ i → i < m → d i = 0) : vl d m = vl d n := by
  induction m with
  | zero => rw [Nat.le_zero.mp hnm]
  | succ m ih =>
    by_cases e : n = m + 1
    · rw [e]
    · show vl d m + d m * BB ^ m = vl d n
      rw [h m (by omega) (by omega), Nat.zero_mul, Nat.add_zero]
      exact ih (by omega) (fun i h1 h2 => h i h1 (by omega))
theorem vl_zero {d : Nat → Nat} {n : Nat} (h : ∀ i, i < n → d i = 0) : vl d n = 0 := by
  rw [vl_pad (Nat.zero_le n) (fun i _ hi => h i hi)]; rfl
theorem pw_pos (n : Nat) : 0 < BB ^ n := Nat.pow_pos BB_pos
theorem pw_mono {a b : Nat} (h : a ≤ b) : BB ^ a ≤ BB ^ b := Nat.pow_le_pow_right BB_pos h
/-- the number by its lowest limb -/
theorem vl_low (d : Nat → Nat) (n : Nat) : vl d (n + 1) = d 0 + BB * vl (fun i => d (i + 1)) n := by
  induction n with
  | zero => show 0 + d 0 * BB ^ 0 = d 0 + BB * 0; simp
  | succ n ih =>
    have e : vl d (n + 1 + 1) = vl d (n + 1) + d (n + 1) * BB ^ (n + 1) := rfl
    have e2 : vl (fun i => d (i + 1)) (n + 1) = vl (fun i => d (i + 1)) n + d (n + 1) * BB ^ n := rfl
    rw [e, ih, e2, Nat.mul_add, Nat.pow_succ, Nat.add_assoc]
    congr 2
    rw [Nat.mul_comm (BB ^ n) BB, ← Nat.mul_assoc, ← Nat.mul_assoc, Nat.mul_comm BB]
theorem vl_add (d : Nat → Nat) (k n : Nat) : vl d (k + n) = vl d k + BB ^ k * vl (fun i => d (k + i)) n := by
  induction n with
  | zero => simp [vl]
  | succ n ih =>
    have e : vl d (k + (n + 1)) = vl d (k + n) + d (k + n) * BB ^ (k + n) := rfl
    have e2 : vl (fun i => d (k + i)) (n + 1) = vl (fun i => d (k + i)) n + d (k + n) * BB ^ n := rfl
    rw [e, ih, e2, Nat.mul_add, Nat.pow_add, Nat.add_assoc]
    congr 2
    rw [← Nat.mul_assoc, ← Nat.mul_assoc, Nat.mul_comm (BB ^ k)]
/-- sizes of numbers whose highest limb is not 0 -/
def nrm (d : Nat → Nat) (n : Nat) : Prop := (∀ i, i < n → d i < BB) ∧ (n = 0 ∨ d (n - 1) ≠ 0)
theorem nrm_lt {d e : Nat → Nat} {n m : Nat} (hd : nrm d n) (he : nrm e m) (h : n < m) : vl d n < vl e m := by
  have h1 := vl_lt hd.1
  have h2 : BB ^ (m - 1) ≤ vl e m := by
    have := vl_ge (d := e) (n := m - 1) (he.2.resolve_left (by omega))
    rw [Nat.sub_add_cancel (by omega)] at this
    exact this
  have h3 := pw_mono (a := n) (b := m - 1) (by omega)
  omega
theorem nrm_le {d : Nat → Nat} {n k : Nat} (hd : nrm d n) (h : vl d n < BB ^ k) : n ≤ k := by
  rcases Nat.lt_or_ge k n with h1 | h1
  · have h2 := vl_ge (d := d) (n := n - 1) (hd.2.resolve_left (by omega))
    rw [Nat.sub_add_cancel (by omega)] at h2
    have h3 := pw_mono (a := k) (b := n - 1) (by omega)
    omega
  · exact h1
theorem nrm_zero {d : Nat → Nat} {n : Nat} (hd : nrm d n) : vl d n = 0 ↔ n = 0 := by
  constructor
  · intro h
    have := nrm_le (k := 0) hd (by rw [h]; decide)
    omega
  · intro h; rw [h]; rfl
theorem vl_cmp {d e : Nat → Nat} {n k : Nat} (hk : k < n) (hd : ∀ i, i < n → d i < BB) (he : ∀ i, i < n → e i < BB) (hs : ∀ i, k < i → i < n → d i = e i) (h : d k < e k) : vl d n < vl e n := by
  induction n with
  | zero => exact absurd hk (by omega)
  | succ n ih =>
    unfold vl
    by_cases e1 : k = n
    · subst e1
      have h1 := vl_lt (d := d) (n := k) (fun i hi => hd i (by omega))
      have h2 : (d k + 1) * BB ^ k ≤ e k * BB ^ k := Nat.mul_le_mul_right _ h
      rw [Nat.add_mul, Nat.one_mul] at h2
      omega
    · have := ih (by omega) (fun i hi => hd i (by omega)) (fun i hi => he i (by omega)) (fun i h1 h2 => hs i h1 (by omega))
      rw [hs n (by omega) (by omega)]
      omega
def sgI (v : Int) : Int32 := if v < 0 then -1 else if v = 0 then 0 else 1
theorem sgI_neg (v : Int) : sgI (-v) = -sgI v := by
  unfold sgI
  rcases Int.lt_trichotomy v 0 with h | h | h
  · rw [if_neg (by omega), if_neg (by omega), if_pos h]; decide
  · subst h; decide
  · rw [if_pos (by omega), if_neg (by omega), if_neg (by omega)]
theorem sgI_mul (v w : Int) : sgI (v * w) = sgI v * sgI w := by
  unfold sgI
  rcases Int.lt_trichotomy v 0 with h | h | h <;> rcases Int.lt_trichotomy w 0 with g | g | g
  · have := Int.mul_pos_of_neg_of_neg h g
    rw [if_neg (by omega), if_neg (by omega), if_pos h, if_pos g]; decide
  · subst g; rw [Int.mul_zero, if_pos h]; decide
  · have := Int.mul_neg_of_neg_of_pos h g
    rw [if_pos (by omega), if_pos h, if_neg (by omega), if_neg (by omega)]; decide
  · subst h; rw [Int.zero_mul, if_neg (by omega), if_pos rfl]; simp
  · subst h; subst g; decide
  · subst h; rw [Int.zero_mul]; rw [if_neg (by omega), if_pos rfl]; simp
  · have := Int.mul_neg_of_pos_of_neg h g
    rw [if_pos (by omega), if_neg (by omega), if_neg (by omega), if_pos g]; decide
  · subst g; rw [Int.mul_zero]; simp
  · have := Int.mul_pos h g
    rw [if_neg (by omega), if_neg (by omega), if_neg (by omega), if_neg (by omega), if_neg (by omega), if_neg (by omega)]; decide
end
section
/-! Int32 and Int64 as whole numbers; one limb changed -/
def iZ (z : Int) : Int32 := Int32.ofInt z
def lZ (z : Int) : Int64 := Int64.ofInt z
theorem nI_iZ (n : Nat) : nI n = iZ (n : Int) := (Int32.ofInt_eq_ofNat (n := n)).symm
theorem lN_lZ (n : Nat) : lN n = lZ (n : Int) := (Int64.ofInt_eq_ofNat (n := n)).symm
theorem iZ_add (a b : Int) : iZ a + iZ b = iZ (a + b) := (Int32.ofInt_add a b).symm
theorem iZ_sub (a b : Int) : iZ a - iZ b = iZ (a - b) := (Int32.ofInt_sub a b).symm
theorem iZ_mul (a b : Int) : iZ a * iZ b = iZ (a * b) := (Int32.ofInt_mul a b).symm
theorem iZ_neg (a : Int) : -iZ a = iZ (-a) := (Int32.ofInt_neg a).symm
theorem lZ_add (a b : Int) : lZ a + lZ b = lZ (a + b) := (Int64.ofInt_add a b).symm
theorem lZ_sub (a b : Int) : lZ a - lZ b = lZ (a - b) := (Int64.ofInt_sub a b).symm
theorem lZ_mul (a b : Int) : lZ a * lZ b = lZ (a * b) := (Int64.ofInt_mul a b).symm
theorem lZ_neg (a : Int) : -lZ a = lZ (-a) := (Int64.ofInt_neg a).symm
theorem iZ_to {z : Int} (h : -2147483648 ≤ z) (h2 : z < 2147483648) : (iZ z).toInt = z := Int32.toInt_ofInt_of_le (by exact h) (by exact h2)
theorem lZ_to {z : Int} (h : -9223372036854775808 ≤ z) (h2 : z < 9223372036854775808) : (lZ z).toInt = z := Int64.toInt_ofInt_of_le (by exact h) (by exact h2)
theorem iZ_lt {a b : Int} (h1 : -2147483648 ≤ a) (h2 : a < 2147483648) (h3 : -2147483648 ≤ b) (h4 : b < 2147483648) : iZ a < iZ b ↔ a < b := by
  rw [Int32.lt_iff_toInt_lt, iZ_to h1 h2, iZ_to h3 h4]
theorem iZ_le {a b : Int} (h1 : -2147483648 ≤ a) (h2 : a < 2147483648) (h3 : -2147483648 ≤ b) (h4 : b < 2147483648) : iZ a ≤ iZ b ↔ a ≤ b := by
  rw [Int32.le_iff_toInt_le, iZ_to h1 h2, iZ_to h3 h4]
theorem iZ_eq {a b : Int} (h1 : -2147483648 ≤ a) (h2 : a < 2147483648) (h3 : -2147483648 ≤ b) (h4 : b < 2147483648) : iZ a = iZ b ↔ a = b := by
  rw [← Int32.toInt_inj, iZ_to h1 h2, iZ_to h3 h4]
theorem lZ_lt {a b : Int} (h1 : -9223372036854775808 ≤ a) (h2 : a < 9223372036854775808) (h3 : -9223372036854775808 ≤ b) (h4 : b < 9223372036854775808) : lZ a < lZ b ↔ a < b := by
  rw [Int64.lt_iff_toInt_lt, lZ_to h1 h2, lZ_to h3 h4]
theorem lZ_le {a b : Int} (h1 : -9223372036854775808 ≤ a) (h2 : a < 9223372036854775808) (h3 : -9223372036854775808 ≤ b) (h4 : b < 9223372036854775808) : lZ a ≤ lZ b ↔ a ≤ b := by
  rw [Int64.le_iff_toInt_le, lZ_to h1 h2, lZ_to h3 h4]
theorem lZ_eq {a b : Int} (h1 : -9223372036854775808 ≤ a) (h2 : a < 9223372036854775808) (h3 : -9223372036854775808 ≤ b) (h4 : b < 9223372036854775808) : lZ a = lZ b ↔ a = b := by
  rw [← Int64.toInt_inj, lZ_to h1 h2, lZ_to h3 h4]
theorem iZ_0 : (0 : Int32) = iZ 0 := by decide
theorem iZ_1 : (1 : Int32) = iZ 1 := by decide
theorem iZ_m1 : (-1 : Int32) = iZ (-1) := by decide
theorem lZ_div {a b : Int} (h1 : -9223372036854775808 ≤ a) (h2 : a < 9223372036854775808) (h3 : 0 < b) (h4 : b < 9223372036854775808) : lZ a / lZ b = lZ (a.tdiv b) := by
  rw [← Int64.toInt_inj, Int64.toInt_div, lZ_to h1 h2, lZ_to (by omega) h4]
  have h5 : -9223372036854775808 ≤ a.tdiv b ∧ a.tdiv b < 9223372036854775808 := by
    rcases Int.lt_or_le a 0 with h | h
    · obtain ⟨m, rfl⟩ : ∃ m : Int, a = -m := ⟨-a, by omega⟩
      rw [Int.neg_tdiv]
      have e := Int.tdiv_nonneg (a := m) (b := b) (by omega) (by omega)
      have e2 := Int.tdiv_le_self (a := m) b (by omega)
      omega
    · have e := Int.tdiv_nonneg (a := a) (b := b) h (by omega)
      have e2 := Int.tdiv_le_self (a := a) b h
      omega
  rw [lZ_to h5.1 h5.2, Int.bmod_eq_of_le (by omega) (by omega)]
theorem lZ_i (z : Int) : (lZ z).toInt32 = iZ z := by
  show (Int64.ofInt z).toInt32 = Int32.ofInt z
  simp [Int64.toInt32_ofInt]
theorem iZ_l {z : Int} (h : -2147483648 ≤ z) (h2 : z < 2147483648) : (iZ z).toInt64 = lZ z := by
  rw [← Int64.toInt_inj, Int32.toInt_toInt64, iZ_to h h2, lZ_to (by omega) (by omega)]
theorem vl_un {d : Nat → Nat} {n i x : Nat} (h : i < n) : vl (un d i x) n + d i * BB ^ i = vl d n + x * BB ^ i := by
  induction n with
  | zero => exact absurd h (by omega)
  | succ n ih =>
    show vl (un d i x) n + un d i x n * BB ^ n + d i * BB ^ i = vl d n + d n * BB ^ n + x * BB ^ i
    by_cases e : i = n
    · subst e
      rw [un_s, vl_congr (d := un d i x) (e := d) (fun j hj => un_n (by omega))]
      omega
    · rw [un_n (fun z => e z.symm)]
      have := ih (by omega)
      omega
theorem un_lt {d : Nat → Nat} {n i x k : Nat} (h : ∀ j, j < n → d j < k) (hx : x < k) : ∀ j, j < n → un d i x j < k := by
  intro j hj
  by_cases e : j = i
  · rw [e, un_s]; exact hx
  · rw [un_n e]; exact h j hj
end
section
/-! instructions, fields, calls -/
theorem q_J7_rangeCheck_23922_0 : decode M_J7_rangeCheck_23922.2.1 0 = .ok (.iload_n 1, 1) ∧ 0 + 1 = 1 := ⟨by decide +kernel, rfl⟩
theorem q_J7_rangeCheck_23922_1 : decode M_J7_rangeCheck_23922.2.1 1 = .ok (.iload_n 2, 1) ∧ 1 + 1 = 2 := ⟨by decide +kernel, rfl⟩
theorem q_J7_rangeCheck_23922_2 : decode M_J7_rangeCheck_23922.2.1 2 = .ok (.if_icmp .le 44, 3) ∧ 2 + 3 = 5 ∧ ((2 : Nat) : Int) + 44 = ((46 : Nat) : Int) := ⟨by decide +kernel, rfl, rfl⟩
theorem q_J7_rangeCheck_23922_5 : decode M_J7_rangeCheck_23922.2.1 5 = .ok (.new 43, 3) ∧ 5 + 3 = 8 := ⟨by decide +kernel, rfl⟩
theorem q_J7_rangeCheck_23922_8 : decode M_J7_rangeCheck_23922.2.1 8 = .ok (.dup, 1) ∧ 8 + 1 = 9 := ⟨by decide +kernel, rfl⟩
theorem q_J7_rangeCheck_23922_9 : decode M_J7_rangeCheck_23922.2.1 9 = .ok (.new 45, 3) ∧ 9 + 3 = 12 := ⟨by decide +kernel, rfl⟩
theorem q_J7_rangeCheck_23922_12 : decode M_J7_rangeCheck_23922.2.1 12 = .ok (.dup, 1) ∧ 12 + 1 = 13 := ⟨by decide +kernel, rfl⟩
theorem q_J7_rangeCheck_23922_13 : decode M_J7_rangeCheck_23922.2.1 13 = .ok (.invokespecial 47, 3) ∧ 13 + 3 = 16 := ⟨by decide +kernel, rfl⟩
theorem q_J7_rangeCheck_23922_16 : decode M_J7_rangeCheck_23922.2.1 16 = .ok (.ldc 48, 2) ∧ 16 + 2 = 18 := ⟨by decide +kernel, rfl⟩
theorem q_J7_rangeCheck_23922_18 : decode M_J7_rangeCheck_23922.2.1 18 = .ok (.invokevirtual 50, 3) ∧ 18 + 3 = 21 := ⟨by decide +kernel, rfl⟩
theorem q_J7_rangeCheck_23922_21 : decode M_J7_rangeCheck_23922.2.1 21 = .ok (.iload_n 1, 1) ∧ 21 + 1 = 22 := ⟨by decide +kernel, rfl⟩
theorem q_J7_rangeCheck_23922_22 : decode M_J7_rangeCheck_23922.2.1 22 = .ok (.invokevirtual 54, 3) ∧ 22 + 3 = 25 := ⟨by decide +kernel, rfl⟩
theorem q_J7_rangeCheck_23922_25 : decode M_J7_rangeCheck_23922.2.1 25 = .ok (.ldc 57, 2) ∧ 25 + 2 = 27 := ⟨by decide +kernel, rfl⟩
theorem q_J7_rangeCheck_23922_27 : decode M_J7_rangeCheck_23922.2.1 27 = .ok (.invokevirtual 50, 3) ∧ 27 + 3 = 30 := ⟨by decide +kernel, rfl⟩
theorem q_J7_rangeCheck_23922_30 : decode M_J7_rangeCheck_23922.2.1 30 = .ok (.iload_n 2, 1) ∧ 30 + 1 = 31 := ⟨by decide +kernel, rfl⟩
theorem q_J7_rangeCheck_23922_31 : decode M_J7_rangeCheck_23922.2.1 31 = .ok (.invokevirtual 54, 3) ∧ 31 + 3 = 34 := ⟨by decide +kernel, rfl⟩
theorem q_J7_rangeCheck_23922_34 : decode M_J7_rangeCheck_23922.2.1 34 = .ok (.ldc 59, 2) ∧ 34 + 2 = 36 := ⟨by decide +kernel, rfl⟩
theorem q_J7_rangeCheck_23922_36 : decode M_J7_rangeCheck_23922.2.1 36 = .ok (.invokevirtual 50, 3) ∧ 36 + 3 = 39 := ⟨by decide +kernel, rfl⟩
theorem q_J7_rangeCheck_23922_39 : decode M_J7_rangeCheck_23922.2.1 39 = .ok (.invokevirtual 61, 3) ∧ 39 + 3 = 42 := ⟨by decide +kernel, rfl⟩
theorem q_J7_rangeCheck_23922_42 : decode M_J7_rangeCheck_23922.2.1 42 = .ok (.invokespecial 65, 3) ∧ 42 + 3 = 45 := ⟨by decide +kernel, rfl⟩
theorem q_J7_rangeCheck_23922_45 : decode M_J7_rangeCheck_23922.2.1 45 = .ok (.athrow, 1) ∧ 45 + 1 = 46 := ⟨by decide +kernel, rfl⟩
theorem q_J7_rangeCheck_23922_46 : decode M_J7_rangeCheck_23922.2.1 46 = .ok (.iload_n 1, 1) ∧ 46 + 1 = 47 := ⟨by decide +kernel, rfl⟩
theorem q_J7_rangeCheck_23922_47 : decode M_J7_rangeCheck_23922.2.1 47 = .ok (.ifCond .ge 12, 3) ∧ 47 + 3 = 50 ∧ ((47 : Nat) : Int) + 12 = ((59 : Nat) : Int) := ⟨by decide +kernel, rfl, rfl⟩
theorem q_J7_rangeCheck_23922_50 : decode M_J7_rangeCheck_23922.2.1 50 = .ok (.new 68, 3) ∧ 50 + 3 = 53 := ⟨by decide +kernel, rfl⟩
theorem q_J7_rangeCheck_23922_53 : decode M_J7_rangeCheck_23922.2.1 53 = .ok (.dup, 1) ∧ 53 + 1 = 54 := ⟨by decide +kernel, rfl⟩
theorem q_J7_rangeCheck_23922_54 : decode M_J7_rangeCheck_23922.2.1 54 = .ok (.iload_n 1, 1) ∧ 54 + 1 = 55 := ⟨by decide +kernel, rfl⟩
theorem q_J7_rangeCheck_23922_55 : decode M_J7_rangeCheck_23922.2.1 55 = .ok (.invokespecial 70, 3) ∧ 55 + 3 = 58 := ⟨by decide +kernel, rfl⟩
theorem q_J7_rangeCheck_23922_58 : decode M_J7_rangeCheck_23922.2.1 58 = .ok (.athrow, 1) ∧ 58 + 1 = 59 := ⟨by decide +kernel, rfl⟩
theorem q_J7_rangeCheck_23922_59 : decode M_J7_rangeCheck_23922.2.1 59 = .ok (.iload_n 2, 1) ∧ 59 + 1 = 60 := ⟨by decide +kernel, rfl⟩
theorem q_J7_rangeCheck_23922_60 : decode M_J7_rangeCheck_23922.2.1 60 = .ok (.iload_n 0, 1) ∧ 60 + 1 = 61 := ⟨by decide +kernel, rfl⟩
theorem q_J7_rangeCheck_23922_61 : decode M_J7_rangeCheck_23922.2.1 61 = .ok (.if_icmp .le 12, 3) ∧ 61 + 3 = 64 ∧ ((61 : Nat) : Int) + 12 = ((73 : Nat) : Int) := ⟨by decide +kernel, rfl, rfl⟩
theorem q_J7_rangeCheck_23922_64 : decode M_J7_rangeCheck_23922.2.1 64 = .ok (.new 68, 3) ∧ 64 + 3 = 67 := ⟨by decide +kernel, rfl⟩
theorem q_J7_rangeCheck_23922_67 : decode M_J7_rangeCheck_23922.2.1 67 = .ok (.dup, 1) ∧ 67 + 1 = 68 := ⟨by decide +kernel, rfl⟩
theorem q_J7_rangeCheck_23922_68 : decode M_J7_rangeCheck_23922.2.1 68 = .ok (.iload_n 2, 1) ∧ 68 + 1 = 69 := ⟨by decide +kernel, rfl⟩
theorem q_J7_rangeCheck_23922_69 : decode M_J7_rangeCheck_23922.2.1 69 = .ok (.invokespecial 70, 3) ∧ 69 + 3 = 72 := ⟨by decide +kernel, rfl⟩
theorem q_J7_rangeCheck_23922_72 : decode M_J7_rangeCheck_23922.2.1 72 = .ok (.athrow, 1) ∧ 72 + 1 = 73 := ⟨by decide +kernel, rfl⟩
theorem q_J7_rangeCheck_23922_73 : decode M_J7_rangeCheck_23922.2.1 73 = .ok (.return_, 1) ∧ 73 + 1 = 74 := ⟨by decide +kernel, rfl⟩
theorem q_J7_fill_fda19_0 : decode M_J7_fill_fda19.2.1 0 = .ok (.aload_n 0, 1) ∧ 0 + 1 = 1 := ⟨by decide +kernel, rfl⟩
theorem q_J7_fill_fda19_1 : decode M_J7_fill_fda19.2.1 1 = .ok (.arraylength, 1) ∧ 1 + 1 = 2 := ⟨by decide +kernel, rfl⟩
theorem q_J7_fill_fda19_2 : decode M_J7_fill_fda19.2.1 2 = .ok (.iload_n 1, 1) ∧ 2 + 1 = 3 := ⟨by decide +kernel, rfl⟩
theorem q_J7_fill_fda19_3 : decode M_J7_fill_fda19.2.1 3 = .ok (.iload_n 2, 1) ∧ 3 + 1 = 4 := ⟨by decide +kernel, rfl⟩
theorem q_J7_fill_fda19_4 : decode M_J7_fill_fda19.2.1 4 = .ok (.invokestatic 13, 3) ∧ 4 + 3 = 7 := ⟨by decide +kernel, rfl⟩
theorem g_J7_fill_fda19_4 : en_C M_J7_fill_fda19 M_J7_rangeCheck_23922 13 3 := ⟨⟨by decide +kernel, by decide +kernel, by decide +kernel⟩, ⟨by decide, by decide, by decide +kernel⟩, by decide, by decide⟩
theorem w_J7_rangeCheck_23922 : Cond.static M_J7_rangeCheck_23922.1 ∈ en_tbl := by decide +kernel
theorem q_J7_fill_fda19_7 : decode M_J7_fill_fda19.2.1 7 = .ok (.iload_n 1, 1) ∧ 7 + 1 = 8 := ⟨by decide +kernel, rfl⟩
theorem q_J7_fill_fda19_8 : decode M_J7_fill_fda19.2.1 8 = .ok (.istore 4, 2) ∧ 8 + 2 = 10 := ⟨by decide +kernel, rfl⟩
theorem q_J7_fill_fda19_10 : decode M_J7_fill_fda19.2.1 10 = .ok (.iload 4, 2) ∧ 10 + 2 = 12 := ⟨by decide +kernel, rfl⟩
theorem q_J7_fill_fda19_12 : decode M_J7_fill_fda19.2.1 12 = .ok (.iload_n 2, 1) ∧ 12 + 1 = 13 := ⟨by decide +kernel, rfl⟩
theorem q_J7_fill_fda19_13 : decode M_J7_fill_fda19.2.1 13 = .ok (.if_icmp .ge 14, 3) ∧ 13 + 3 = 16 ∧ ((13 : Nat) : Int) + 14 = ((27 : Nat) : Int) := ⟨by decide +kernel, rfl, rfl⟩
theorem q_J7_fill_fda19_16 : decode M_J7_fill_fda19.2.1 16 = .ok (.aload_n 0, 1) ∧ 16 + 1 = 17 := ⟨by decide +kernel, rfl⟩
theorem q_J7_fill_fda19_17 : decode M_J7_fill_fda19.2.1 17 = .ok (.iload 4, 2) ∧ 17 + 2 = 19 := ⟨by decide +kernel, rfl⟩
theorem q_J7_fill_fda19_19 : decode M_J7_fill_fda19.2.1 19 = .ok (.iload_n 3, 1) ∧ 19 + 1 = 20 := ⟨by decide +kernel, rfl⟩
theorem q_J7_fill_fda19_20 : decode M_J7_fill_fda19.2.1 20 = .ok (.iastore, 1) ∧ 20 + 1 = 21 := ⟨by decide +kernel, rfl⟩
theorem q_J7_fill_fda19_21 : decode M_J7_fill_fda19.2.1 21 = .ok (.iinc 4 1, 3) ∧ 21 + 3 = 24 := ⟨by decide +kernel, rfl⟩
theorem q_J7_fill_fda19_24 : decode M_J7_fill_fda19.2.1 24 = .ok (.goto (-14), 3) ∧ 24 + 3 = 27 ∧ ((24 : Nat) : Int) + (-14) = ((10 : Nat) : Int) := ⟨by decide +kernel, rfl, rfl⟩
theorem q_J7_fill_fda19_27 : decode M_J7_fill_fda19.2.1 27 = .ok (.return_, 1) ∧ 27 + 1 = 28 := ⟨by decide +kernel, rfl⟩
theorem q_J7_copyOf_59c91_0 : decode M_J7_copyOf_59c91.2.1 0 = .ok (.iload_n 1, 1) ∧ 0 + 1 = 1 := ⟨by decide +kernel, rfl⟩
theorem q_J7_copyOf_59c91_1 : decode M_J7_copyOf_59c91.2.1 1 = .ok (.aload_n 0, 1) ∧ 1 + 1 = 2 := ⟨by decide +kernel, rfl⟩
theorem q_J7_copyOf_59c91_2 : decode M_J7_copyOf_59c91.2.1 2 = .ok (.arraylength, 1) ∧ 2 + 1 = 3 := ⟨by decide +kernel, rfl⟩
theorem q_J7_copyOf_59c91_3 : decode M_J7_copyOf_59c91.2.1 3 = .ok (.if_icmp .ne 11, 3) ∧ 3 + 3 = 6 ∧ ((3 : Nat) : Int) + 11 = ((14 : Nat) : Int) := ⟨by decide +kernel, rfl, rfl⟩
theorem q_J7_copyOf_59c91_6 : decode M_J7_copyOf_59c91.2.1 6 = .ok (.aload_n 0, 1) ∧ 6 + 1 = 7 := ⟨by decide +kernel, rfl⟩
theorem q_J7_copyOf_59c91_7 : decode M_J7_copyOf_59c91.2.1 7 = .ok (.invokevirtual 316, 3) ∧ 7 + 3 = 10 := ⟨by decide +kernel, rfl⟩
theorem q_J7_copyOf_59c91_10 : decode M_J7_copyOf_59c91.2.1 10 = .ok (.checkcast 317, 3) ∧ 10 + 3 = 13 := ⟨by decide +kernel, rfl⟩
theorem q_J7_copyOf_59c91_13 : decode M_J7_copyOf_59c91.2.1 13 = .ok (.areturn, 1) ∧ 13 + 1 = 14 := ⟨by decide +kernel, rfl⟩
theorem q_J7_copyOf_59c91_14 : decode M_J7_copyOf_59c91.2.1 14 = .ok (.iload_n 1, 1) ∧ 14 + 1 = 15 := ⟨by decide +kernel, rfl⟩
theorem q_J7_copyOf_59c91_15 : decode M_J7_copyOf_59c91.2.1 15 = .ok (.newarray .int, 2) ∧ 15 + 2 = 17 := ⟨by decide +kernel, rfl⟩
theorem q_J7_copyOf_59c91_17 : decode M_J7_copyOf_59c91.2.1 17 = .ok (.astore_n 2, 1) ∧ 17 + 1 = 18 := ⟨by decide +kernel, rfl⟩
theorem q_J7_copyOf_59c91_18 : decode M_J7_copyOf_59c91.2.1 18 = .ok (.aload_n 0, 1) ∧ 18 + 1 = 19 := ⟨by decide +kernel, rfl⟩
theorem q_J7_copyOf_59c91_19 : decode M_J7_copyOf_59c91.2.1 19 = .ok (.iconst 0, 1) ∧ 19 + 1 = 20 := ⟨by decide +kernel, rfl⟩
theorem q_J7_copyOf_59c91_20 : decode M_J7_copyOf_59c91.2.1 20 = .ok (.aload_n 2, 1) ∧ 20 + 1 = 21 := ⟨by decide +kernel, rfl⟩
theorem q_J7_copyOf_59c91_21 : decode M_J7_copyOf_59c91.2.1 21 = .ok (.iconst 0, 1) ∧ 21 + 1 = 22 := ⟨by decide +kernel, rfl⟩
theorem q_J7_copyOf_59c91_22 : decode M_J7_copyOf_59c91.2.1 22 = .ok (.aload_n 0, 1) ∧ 22 + 1 = 23 := ⟨by decide +kernel, rfl⟩
theorem q_J7_copyOf_59c91_23 : decode M_J7_copyOf_59c91.2.1 23 = .ok (.arraylength, 1) ∧ 23 + 1 = 24 := ⟨by decide +kernel, rfl⟩
theorem q_J7_copyOf_59c91_24 : decode M_J7_copyOf_59c91.2.1 24 = .ok (.iload_n 1, 1) ∧ 24 + 1 = 25 := ⟨by decide +kernel, rfl⟩
theorem q_J7_copyOf_59c91_25 : decode M_J7_copyOf_59c91.2.1 25 = .ok (.invokestatic 304, 3) ∧ 25 + 3 = 28 := ⟨by decide +kernel, rfl⟩
theorem a_RJ7_304 : Cond.methodLink RJ7 304 Lib.Math.min.name ∈ en_tbl := by decide +kernel
theorem q_J7_copyOf_59c91_28 : decode M_J7_copyOf_59c91.2.1 28 = .ok (.invokestatic 150, 3) ∧ 28 + 3 = 31 := ⟨by decide +kernel, rfl⟩
theorem a_RJ7_150 : Cond.methodLink RJ7 150 arraycopyName ∈ en_tbl := by decide +kernel
theorem q_J7_copyOf_59c91_31 : decode M_J7_copyOf_59c91.2.1 31 = .ok (.aload_n 2, 1) ∧ 31 + 1 = 32 := ⟨by decide +kernel, rfl⟩
theorem q_J7_copyOf_59c91_32 : decode M_J7_copyOf_59c91.2.1 32 = .ok (.areturn, 1) ∧ 32 + 1 = 33 := ⟨by decide +kernel, rfl⟩
end
section
/-! instructions, fields, calls -/
theorem q_X1_init_0 : decode M_X1_init.2.1 0 = .ok (.aload_n 0, 1) ∧ 0 + 1 = 1 := ⟨by decide +kernel, rfl⟩
theorem q_X1_init_1 : decode M_X1_init.2.1 1 = .ok (.invokespecial 3, 3) ∧ 1 + 3 = 4 := ⟨by decide +kernel, rfl⟩
theorem o_RX1_3 : Cond.methodLink RX1 3 Lib.objectInit ∈ en_tbl := by decide +kernel
theorem q_X1_init_4 : decode M_X1_init.2.1 4 = .ok (.aload_n 0, 1) ∧ 4 + 1 = 5 := ⟨by decide +kernel, rfl⟩
theorem q_X1_init_5 : decode M_X1_init.2.1 5 = .ok (.bipush 8, 2) ∧ 5 + 2 = 7 := ⟨by decide +kernel, rfl⟩
theorem q_X1_init_7 : decode M_X1_init.2.1 7 = .ok (.newarray .int, 2) ∧ 7 + 2 = 9 := ⟨by decide +kernel, rfl⟩
theorem q_X1_init_9 : decode M_X1_init.2.1 9 = .ok (.putfield 11, 3) ∧ 9 + 3 = 12 := ⟨by decide +kernel, rfl⟩
theorem p_RX1_11 : en_Fp RX1 11 1 2 false (.array .int) := ⟨RX1, TX1, 3, tyX1, rfl, by decide, rfl, by decide +kernel, by decide +kernel, tyX1_ok, nmX1, rfl, by decide +kernel⟩
theorem q_X1_init_12 : decode M_X1_init.2.1 12 = .ok (.return_, 1) ∧ 12 + 1 = 13 := ⟨by decide +kernel, rfl⟩
theorem q_X1_limbAt_0 : decode M_X1_limbAt.2.1 0 = .ok (.iload_n 1, 1) ∧ 0 + 1 = 1 := ⟨by decide +kernel, rfl⟩
theorem q_X1_limbAt_1 : decode M_X1_limbAt.2.1 1 = .ok (.ifCond .lt 20, 3) ∧ 1 + 3 = 4 ∧ ((1 : Nat) : Int) + 20 = ((21 : Nat) : Int) := ⟨by decide +kernel, rfl, rfl⟩
theorem q_X1_limbAt_4 : decode M_X1_limbAt.2.1 4 = .ok (.iload_n 1, 1) ∧ 4 + 1 = 5 := ⟨by decide +kernel, rfl⟩
theorem q_X1_limbAt_5 : decode M_X1_limbAt.2.1 5 = .ok (.aload_n 0, 1) ∧ 5 + 1 = 6 := ⟨by decide +kernel, rfl⟩
theorem q_X1_limbAt_6 : decode M_X1_limbAt.2.1 6 = .ok (.getfield 15, 3) ∧ 6 + 3 = 9 := ⟨by decide +kernel, rfl⟩
theorem f_RX1_15 : en_F RX1 15 1 1 := ⟨RX1, TX1, 3, rfl, by decide, rfl, by decide +kernel, by decide +kernel⟩
theorem q_X1_limbAt_9 : decode M_X1_limbAt.2.1 9 = .ok (.if_icmp .ge 12, 3) ∧ 9 + 3 = 12 ∧ ((9 : Nat) : Int) + 12 = ((21 : Nat) : Int) := ⟨by decide +kernel, rfl, rfl⟩
theorem q_X1_limbAt_12 : decode M_X1_limbAt.2.1 12 = .ok (.iload_n 1, 1) ∧ 12 + 1 = 13 := ⟨by decide +kernel, rfl⟩
theorem q_X1_limbAt_13 : decode M_X1_limbAt.2.1 13 = .ok (.aload_n 0, 1) ∧ 13 + 1 = 14 := ⟨by decide +kernel, rfl⟩
theorem q_X1_limbAt_14 : decode M_X1_limbAt.2.1 14 = .ok (.getfield 11, 3) ∧ 14 + 3 = 17 := ⟨by decide +kernel, rfl⟩
theorem f_RX1_11 : en_F RX1 11 1 2 := ⟨RX1, TX1, 3, rfl, by decide, rfl, by decide +kernel, by decide +kernel⟩
theorem q_X1_limbAt_17 : decode M_X1_limbAt.2.1 17 = .ok (.arraylength, 1) ∧ 17 + 1 = 18 := ⟨by decide +kernel, rfl⟩
theorem q_X1_limbAt_18 : decode M_X1_limbAt.2.1 18 = .ok (.if_icmp .lt 7, 3) ∧ 18 + 3 = 21 ∧ ((18 : Nat) : Int) + 7 = ((25 : Nat) : Int) := ⟨by decide +kernel, rfl, rfl⟩
theorem q_X1_limbAt_21 : decode M_X1_limbAt.2.1 21 = .ok (.iconst 0, 1) ∧ 21 + 1 = 22 := ⟨by decide +kernel, rfl⟩
theorem q_X1_limbAt_22 : decode M_X1_limbAt.2.1 22 = .ok (.goto 9, 3) ∧ 22 + 3 = 25 ∧ ((22 : Nat) : Int) + 9 = ((31 : Nat) : Int) := ⟨by decide +kernel, rfl, rfl⟩
theorem q_X1_limbAt_25 : decode M_X1_limbAt.2.1 25 = .ok (.aload_n 0, 1) ∧ 25 + 1 = 26 := ⟨by decide +kernel, rfl⟩
theorem q_X1_limbAt_26 : decode M_X1_limbAt.2.1 26 = .ok (.getfield 11, 3) ∧ 26 + 3 = 29 := ⟨by decide +kernel, rfl⟩
theorem q_X1_limbAt_29 : decode M_X1_limbAt.2.1 29 = .ok (.iload_n 1, 1) ∧ 29 + 1 = 30 := ⟨by decide +kernel, rfl⟩
theorem q_X1_limbAt_30 : decode M_X1_limbAt.2.1 30 = .ok (.iaload, 1) ∧ 30 + 1 = 31 := ⟨by decide +kernel, rfl⟩
theorem q_X1_limbAt_31 : decode M_X1_limbAt.2.1 31 = .ok (.ireturn, 1) ∧ 31 + 1 = 32 := ⟨by decide +kernel, rfl⟩
theorem q_X1_extend_0 : decode M_X1_extend.2.1 0 = .ok (.iload_n 1, 1) ∧ 0 + 1 = 1 := ⟨by decide +kernel, rfl⟩
theorem q_X1_extend_1 : decode M_X1_extend.2.1 1 = .ok (.aload_n 0, 1) ∧ 1 + 1 = 2 := ⟨by decide +kernel, rfl⟩
theorem q_X1_extend_2 : decode M_X1_extend.2.1 2 = .ok (.getfield 11, 3) ∧ 2 + 3 = 5 := ⟨by decide +kernel, rfl⟩
theorem q_X1_extend_5 : decode M_X1_extend.2.1 5 = .ok (.arraylength, 1) ∧ 5 + 1 = 6 := ⟨by decide +kernel, rfl⟩
theorem q_X1_extend_6 : decode M_X1_extend.2.1 6 = .ok (.if_icmp .le 25, 3) ∧ 6 + 3 = 9 ∧ ((6 : Nat) : Int) + 25 = ((31 : Nat) : Int) := ⟨by decide +kernel, rfl, rfl⟩
theorem q_X1_extend_9 : decode M_X1_extend.2.1 9 = .ok (.aload_n 0, 1) ∧ 9 + 1 = 10 := ⟨by decide +kernel, rfl⟩
theorem q_X1_extend_10 : decode M_X1_extend.2.1 10 = .ok (.aload_n 0, 1) ∧ 10 + 1 = 11 := ⟨by decide +kernel, rfl⟩
theorem q_X1_extend_11 : decode M_X1_extend.2.1 11 = .ok (.getfield 11, 3) ∧ 11 + 3 = 14 := ⟨by decide +kernel, rfl⟩
theorem q_X1_extend_14 : decode M_X1_extend.2.1 14 = .ok (.iload_n 1, 1) ∧ 14 + 1 = 15 := ⟨by decide +kernel, rfl⟩
theorem q_X1_extend_15 : decode M_X1_extend.2.1 15 = .ok (.iconst 2, 1) ∧ 15 + 1 = 16 := ⟨by decide +kernel, rfl⟩
theorem q_X1_extend_16 : decode M_X1_extend.2.1 16 = .ok (.aload_n 0, 1) ∧ 16 + 1 = 17 := ⟨by decide +kernel, rfl⟩
theorem q_X1_extend_17 : decode M_X1_extend.2.1 17 = .ok (.getfield 11, 3) ∧ 17 + 3 = 20 := ⟨by decide +kernel, rfl⟩
theorem q_X1_extend_20 : decode M_X1_extend.2.1 20 = .ok (.arraylength, 1) ∧ 20 + 1 = 21 := ⟨by decide +kernel, rfl⟩
theorem q_X1_extend_21 : decode M_X1_extend.2.1 21 = .ok (.imul, 1) ∧ 21 + 1 = 22 := ⟨by decide +kernel, rfl⟩
theorem q_X1_extend_22 : decode M_X1_extend.2.1 22 = .ok (.invokestatic 19, 3) ∧ 22 + 3 = 25 := ⟨by decide +kernel, rfl⟩
theorem a_RX1_19 : Cond.methodLink RX1 19 Lib.Math.max.name ∈ en_tbl := by decide +kernel
theorem q_X1_extend_25 : decode M_X1_extend.2.1 25 = .ok (.invokestatic 25, 3) ∧ 25 + 3 = 28 := ⟨by decide +kernel, rfl⟩
theorem g_X1_extend_25 : en_C M_X1_extend M_J7_copyOf_59c91 25 2 := ⟨⟨by decide +kernel, by decide +kernel, by decide +kernel⟩, ⟨by decide, by decide, by decide +kernel⟩, by decide, by decide⟩
theorem w_J7_copyOf_59c91 : Cond.static M_J7_copyOf_59c91.1 ∈ en_tbl := by decide +kernel
theorem q_X1_extend_28 : decode M_X1_extend.2.1 28 = .ok (.putfield 11, 3) ∧ 28 + 3 = 31 := ⟨by decide +kernel, rfl⟩
theorem q_X1_extend_31 : decode M_X1_extend.2.1 31 = .ok (.aload_n 0, 1) ∧ 31 + 1 = 32 := ⟨by decide +kernel, rfl⟩
theorem q_X1_extend_32 : decode M_X1_extend.2.1 32 = .ok (.getfield 15, 3) ∧ 32 + 3 = 35 := ⟨by decide +kernel, rfl⟩
theorem q_X1_extend_35 : decode M_X1_extend.2.1 35 = .ok (.istore_n 2, 1) ∧ 35 + 1 = 36 := ⟨by decide +kernel, rfl⟩
theorem q_X1_extend_36 : decode M_X1_extend.2.1 36 = .ok (.iload_n 2, 1) ∧ 36 + 1 = 37 := ⟨by decide +kernel, rfl⟩
theorem q_X1_extend_37 : decode M_X1_extend.2.1 37 = .ok (.iload_n 1, 1) ∧ 37 + 1 = 38 := ⟨by decide +kernel, rfl⟩
theorem q_X1_extend_38 : decode M_X1_extend.2.1 38 = .ok (.if_icmp .ge 16, 3) ∧ 38 + 3 = 41 ∧ ((38 : Nat) : Int) + 16 = ((54 : Nat) : Int) := ⟨by decide +kernel, rfl, rfl⟩
theorem q_X1_extend_41 : decode M_X1_extend.2.1 41 = .ok (.aload_n 0, 1) ∧ 41 + 1 = 42 := ⟨by decide +kernel, rfl⟩
theorem q_X1_extend_42 : decode M_X1_extend.2.1 42 = .ok (.getfield 11, 3) ∧ 42 + 3 = 45 := ⟨by decide +kernel, rfl⟩
theorem q_X1_extend_45 : decode M_X1_extend.2.1 45 = .ok (.iload_n 2, 1) ∧ 45 + 1 = 46 := ⟨by decide +kernel, rfl⟩
theorem q_X1_extend_46 : decode M_X1_extend.2.1 46 = .ok (.iconst 0, 1) ∧ 46 + 1 = 47 := ⟨by decide +kernel, rfl⟩
theorem q_X1_extend_47 : decode M_X1_extend.2.1 47 = .ok (.iastore, 1) ∧ 47 + 1 = 48 := ⟨by decide +kernel, rfl⟩
theorem q_X1_extend_48 : decode M_X1_extend.2.1 48 = .ok (.iinc 2 1, 3) ∧ 48 + 3 = 51 := ⟨by decide +kernel, rfl⟩
theorem q_X1_extend_51 : decode M_X1_extend.2.1 51 = .ok (.goto (-15), 3) ∧ 51 + 3 = 54 ∧ ((51 : Nat) : Int) + (-15) = ((36 : Nat) : Int) := ⟨by decide +kernel, rfl, rfl⟩
theorem q_X1_extend_54 : decode M_X1_extend.2.1 54 = .ok (.aload_n 0, 1) ∧ 54 + 1 = 55 := ⟨by decide +kernel, rfl⟩
theorem q_X1_extend_55 : decode M_X1_extend.2.1 55 = .ok (.aload_n 0, 1) ∧ 55 + 1 = 56 := ⟨by decide +kernel, rfl⟩
theorem q_X1_extend_56 : decode M_X1_extend.2.1 56 = .ok (.getfield 15, 3) ∧ 56 + 3 = 59 := ⟨by decide +kernel, rfl⟩
theorem q_X1_extend_59 : decode M_X1_extend.2.1 59 = .ok (.iload_n 1, 1) ∧ 59 + 1 = 60 := ⟨by decide +kernel, rfl⟩
theorem q_X1_extend_60 : decode M_X1_extend.2.1 60 = .ok (.invokestatic 19, 3) ∧ 60 + 3 = 63 := ⟨by decide +kernel, rfl⟩
theorem q_X1_extend_63 : decode M_X1_extend.2.1 63 = .ok (.putfield 15, 3) ∧ 63 + 3 = 66 := ⟨by decide +kernel, rfl⟩
theorem p_RX1_15 : en_Fp RX1 15 1 1 false .int := ⟨RX1, TX1, 3, tyX1, rfl, by decide, rfl, by decide +kernel, by decide +kernel, tyX1_ok, nmX1, rfl, by decide +kernel⟩
theorem q_X1_extend_66 : decode M_X1_extend.2.1 66 = .ok (.return_, 1) ∧ 66 + 1 = 67 := ⟨by decide +kernel, rfl⟩
theorem q_X1_trim_0 : decode M_X1_trim.2.1 0 = .ok (.aload_n 0, 1) ∧ 0 + 1 = 1 := ⟨by decide +kernel, rfl⟩
theorem q_X1_trim_1 : decode M_X1_trim.2.1 1 = .ok (.getfield 15, 3) ∧ 1 + 3 = 4 := ⟨by decide +kernel, rfl⟩
theorem q_X1_trim_4 : decode M_X1_trim.2.1 4 = .ok (.aload_n 0, 1) ∧ 4 + 1 = 5 := ⟨by decide +kernel, rfl⟩
theorem q_X1_trim_5 : decode M_X1_trim.2.1 5 = .ok (.getfield 11, 3) ∧ 5 + 3 = 8 := ⟨by decide +kernel, rfl⟩
theorem q_X1_trim_8 : decode M_X1_trim.2.1 8 = .ok (.arraylength, 1) ∧ 8 + 1 = 9 := ⟨by decide +kernel, rfl⟩
theorem q_X1_trim_9 : decode M_X1_trim.2.1 9 = .ok (.invokestatic 31, 3) ∧ 9 + 3 = 12 := ⟨by decide +kernel, rfl⟩
theorem a_RX1_31 : Cond.methodLink RX1 31 Lib.Math.min.name ∈ en_tbl := by decide +kernel
theorem q_X1_trim_12 : decode M_X1_trim.2.1 12 = .ok (.istore_n 2, 1) ∧ 12 + 1 = 13 := ⟨by decide +kernel, rfl⟩
theorem q_X1_trim_13 : decode M_X1_trim.2.1 13 = .ok (.iload_n 2, 1) ∧ 13 + 1 = 14 := ⟨by decide +kernel, rfl⟩
theorem q_X1_trim_14 : decode M_X1_trim.2.1 14 = .ok (.ifCond .le 20, 3) ∧ 14 + 3 = 17 ∧ ((14 : Nat) : Int) + 20 = ((34 : Nat) : Int) := ⟨by decide +kernel, rfl, rfl⟩
theorem q_X1_trim_17 : decode M_X1_trim.2.1 17 = .ok (.aload_n 0, 1) ∧ 17 + 1 = 18 := ⟨by decide +kernel, rfl⟩
theorem q_X1_trim_18 : decode M_X1_trim.2.1 18 = .ok (.getfield 11, 3) ∧ 18 + 3 = 21 := ⟨by decide +kernel, rfl⟩
theorem q_X1_trim_21 : decode M_X1_trim.2.1 21 = .ok (.iload_n 2, 1) ∧ 21 + 1 = 22 := ⟨by decide +kernel, rfl⟩
theorem q_X1_trim_22 : decode M_X1_trim.2.1 22 = .ok (.iconst 1, 1) ∧ 22 + 1 = 23 := ⟨by decide +kernel, rfl⟩
theorem q_X1_trim_23 : decode M_X1_trim.2.1 23 = .ok (.isub, 1) ∧ 23 + 1 = 24 := ⟨by decide +kernel, rfl⟩
theorem q_X1_trim_24 : decode M_X1_trim.2.1 24 = .ok (.iaload, 1) ∧ 24 + 1 = 25 := ⟨by decide +kernel, rfl⟩
theorem q_X1_trim_25 : decode M_X1_trim.2.1 25 = .ok (.ifCond .ne 9, 3) ∧ 25 + 3 = 28 ∧ ((25 : Nat) : Int) + 9 = ((34 : Nat) : Int) := ⟨by decide +kernel, rfl, rfl⟩
theorem q_X1_trim_28 : decode M_X1_trim.2.1 28 = .ok (.iinc 2 (-1), 3) ∧ 28 + 3 = 31 := ⟨by decide +kernel, rfl⟩
theorem q_X1_trim_31 : decode M_X1_trim.2.1 31 = .ok (.goto (-18), 3) ∧ 31 + 3 = 34 ∧ ((31 : Nat) : Int) + (-18) = ((13 : Nat) : Int) := ⟨by decide +kernel, rfl, rfl⟩
theorem q_X1_trim_34 : decode M_X1_trim.2.1 34 = .ok (.aload_n 0, 1) ∧ 34 + 1 = 35 := ⟨by decide +kernel, rfl⟩
theorem q_X1_trim_35 : decode M_X1_trim.2.1 35 = .ok (.iload_n 2, 1) ∧ 35 + 1 = 36 := ⟨by decide +kernel, rfl⟩
theorem q_X1_trim_36 : decode M_X1_trim.2.1 36 = .ok (.putfield 15, 3) ∧ 36 + 3 = 39 := ⟨by decide +kernel, rfl⟩
theorem q_X1_trim_39 : decode M_X1_trim.2.1 39 = .ok (.aload_n 0, 1) ∧ 39 + 1 = 40 := ⟨by decide +kernel, rfl⟩
theorem q_X1_trim_40 : decode M_X1_trim.2.1 40 = .ok (.iload_n 2, 1) ∧ 40 + 1 = 41 := ⟨by decide +kernel, rfl⟩
theorem q_X1_trim_41 : decode M_X1_trim.2.1 41 = .ok (.ifCond .ne 7, 3) ∧ 41 + 3 = 44 ∧ ((41 : Nat) : Int) + 7 = ((48 : Nat) : Int) := ⟨by decide +kernel, rfl, rfl⟩
theorem q_X1_trim_44 : decode M_X1_trim.2.1 44 = .ok (.iconst 0, 1) ∧ 44 + 1 = 45 := ⟨by decide +kernel, rfl⟩
theorem q_X1_trim_45 : decode M_X1_trim.2.1 45 = .ok (.goto 4, 3) ∧ 45 + 3 = 48 ∧ ((45 : Nat) : Int) + 4 = ((49 : Nat) : Int) := ⟨by decide +kernel, rfl, rfl⟩
theorem q_X1_trim_48 : decode M_X1_trim.2.1 48 = .ok (.iload_n 1, 1) ∧ 48 + 1 = 49 := ⟨by decide +kernel, rfl⟩
theorem q_X1_trim_49 : decode M_X1_trim.2.1 49 = .ok (.putfield 34, 3) ∧ 49 + 3 = 52 := ⟨by decide +kernel, rfl⟩
theorem p_RX1_34 : en_Fp RX1 34 1 0 false .int := ⟨RX1, TX1, 3, tyX1, rfl, by decide, rfl, by decide +kernel, by decide +kernel, tyX1_ok, nmX1, rfl, by decide +kernel⟩
theorem q_X1_trim_52 : decode M_X1_trim.2.1 52 = .ok (.return_, 1) ∧ 52 + 1 = 53 := ⟨by decide +kernel, rfl⟩
theorem q_X1_clear_0 : decode M_X1_clear.2.1 0 = .ok (.aload_n 0, 1) ∧ 0 + 1 = 1 := ⟨by decide +kernel, rfl⟩
theorem q_X1_clear_1 : decode M_X1_clear.2.1 1 = .ok (.iconst 0, 1) ∧ 1 + 1 = 2 := ⟨by decide +kernel, rfl⟩
theorem q_X1_clear_2 : decode M_X1_clear.2.1 2 = .ok (.putfield 15, 3) ∧ 2 + 3 = 5 := ⟨by decide +kernel, rfl⟩
theorem q_X1_clear_5 : decode M_X1_clear.2.1 5 = .ok (.aload_n 0, 1) ∧ 5 + 1 = 6 := ⟨by decide +kernel, rfl⟩
theorem q_X1_clear_6 : decode M_X1_clear.2.1 6 = .ok (.iconst 0, 1) ∧ 6 + 1 = 7 := ⟨by decide +kernel, rfl⟩
theorem q_X1_clear_7 : decode M_X1_clear.2.1 7 = .ok (.putfield 34, 3) ∧ 7 + 3 = 10 := ⟨by decide +kernel, rfl⟩
theorem q_X1_clear_10 : decode M_X1_clear.2.1 10 = .ok (.return_, 1) ∧ 10 + 1 = 11 := ⟨by decide +kernel, rfl⟩
theorem q_X1_copy_0 : decode M_X1_copy.2.1 0 = .ok (.aload_n 0, 1) ∧ 0 + 1 = 1 := ⟨by decide +kernel, rfl⟩
theorem q_X1_copy_1 : decode M_X1_copy.2.1 1 = .ok (.aload_n 1, 1) ∧ 1 + 1 = 2 := ⟨by decide +kernel, rfl⟩
theorem q_X1_copy_2 : decode M_X1_copy.2.1 2 = .ok (.getfield 15, 3) ∧ 2 + 3 = 5 := ⟨by decide +kernel, rfl⟩
theorem q_X1_copy_5 : decode M_X1_copy.2.1 5 = .ok (.invokevirtual 37, 3) ∧ 5 + 3 = 8 := ⟨by decide +kernel, rfl⟩
theorem g_X1_copy_5 : en_C M_X1_copy M_X1_extend 37 1 := ⟨⟨by decide +kernel, by decide +kernel, by decide +kernel⟩, ⟨by decide, by decide, by decide +kernel⟩, by decide, by decide⟩
theorem w_X1_extend : Cond.instanceMethod M_X1_extend.1 ∈ en_tbl ∧ Cond.selects M_X1_extend.1.cls M_X1_extend.1 M_X1_extend.1 ∈ en_tbl := ⟨by decide +kernel, by decide +kernel⟩
theorem q_X1_copy_8 : decode M_X1_copy.2.1 8 = .ok (.aload_n 1, 1) ∧ 8 + 1 = 9 := ⟨by decide +kernel, rfl⟩
theorem q_X1_copy_9 : decode M_X1_copy.2.1 9 = .ok (.getfield 11, 3) ∧ 9 + 3 = 12 := ⟨by decide +kernel, rfl⟩
theorem q_X1_copy_12 : decode M_X1_copy.2.1 12 = .ok (.iconst 0, 1) ∧ 12 + 1 = 13 := ⟨by decide +kernel, rfl⟩
theorem q_X1_copy_13 : decode M_X1_copy.2.1 13 = .ok (.aload_n 0, 1) ∧ 13 + 1 = 14 := ⟨by decide +kernel, rfl⟩
theorem q_X1_copy_14 : decode M_X1_copy.2.1 14 = .ok (.getfield 11, 3) ∧ 14 + 3 = 17 := ⟨by decide +kernel, rfl⟩
theorem q_X1_copy_17 : decode M_X1_copy.2.1 17 = .ok (.iconst 0, 1) ∧ 17 + 1 = 18 := ⟨by decide +kernel, rfl⟩
theorem q_X1_copy_18 : decode M_X1_copy.2.1 18 = .ok (.aload_n 1, 1) ∧ 18 + 1 = 19 := ⟨by decide +kernel, rfl⟩
theorem q_X1_copy_19 : decode M_X1_copy.2.1 19 = .ok (.getfield 15, 3) ∧ 19 + 3 = 22 := ⟨by decide +kernel, rfl⟩
theorem q_X1_copy_22 : decode M_X1_copy.2.1 22 = .ok (.invokestatic 41, 3) ∧ 22 + 3 = 25 := ⟨by decide +kernel, rfl⟩
theorem a_RX1_41 : Cond.methodLink RX1 41 arraycopyName ∈ en_tbl := by decide +kernel
theorem q_X1_copy_25 : decode M_X1_copy.2.1 25 = .ok (.aload_n 0, 1) ∧ 25 + 1 = 26 := ⟨by decide +kernel, rfl⟩
theorem q_X1_copy_26 : decode M_X1_copy.2.1 26 = .ok (.aload_n 1, 1) ∧ 26 + 1 = 27 := ⟨by decide +kernel, rfl⟩
theorem q_X1_copy_27 : decode M_X1_copy.2.1 27 = .ok (.getfield 15, 3) ∧ 27 + 3 = 30 := ⟨by decide +kernel, rfl⟩
theorem q_X1_copy_30 : decode M_X1_copy.2.1 30 = .ok (.putfield 15, 3) ∧ 30 + 3 = 33 := ⟨by decide +kernel, rfl⟩
theorem q_X1_copy_33 : decode M_X1_copy.2.1 33 = .ok (.aload_n 0, 1) ∧ 33 + 1 = 34 := ⟨by decide +kernel, rfl⟩
theorem q_X1_copy_34 : decode M_X1_copy.2.1 34 = .ok (.aload_n 1, 1) ∧ 34 + 1 = 35 := ⟨by decide +kernel, rfl⟩
theorem q_X1_copy_35 : decode M_X1_copy.2.1 35 = .ok (.getfield 34, 3) ∧ 35 + 3 = 38 := ⟨by decide +kernel, rfl⟩
theorem f_RX1_34 : en_F RX1 34 1 0 := ⟨RX1, TX1, 3, rfl, by decide, rfl, by decide +kernel, by decide +kernel⟩
theorem q_X1_copy_38 : decode M_X1_copy.2.1 38 = .ok (.putfield 34, 3) ∧ 38 + 3 = 41 := ⟨by decide +kernel, rfl⟩
theorem q_X1_copy_41 : decode M_X1_copy.2.1 41 = .ok (.return_, 1) ∧ 41 + 1 = 42 := ⟨by decide +kernel, rfl⟩
theorem q_X1_setLong_0 : decode M_X1_setLong.2.1 0 = .ok (.lload_n 1, 1) ∧ 0 + 1 = 1 := ⟨by decide +kernel, rfl⟩
theorem q_X1_setLong_1 : decode M_X1_setLong.2.1 1 = .ok (.lconst 0, 1) ∧ 1 + 1 = 2 := ⟨by decide +kernel, rfl⟩
theorem q_X1_setLong_2 : decode M_X1_setLong.2.1 2 = .ok (.lcmp, 1) ∧ 2 + 1 = 3 := ⟨by decide +kernel, rfl⟩
theorem q_X1_setLong_3 : decode M_X1_setLong.2.1 3 = .ok (.ifCond .ge 7, 3) ∧ 3 + 3 = 6 ∧ ((3 : Nat) : Int) + 7 = ((10 : Nat) : Int) := ⟨by decide +kernel, rfl, rfl⟩
theorem q_X1_setLong_6 : decode M_X1_setLong.2.1 6 = .ok (.lload_n 1, 1) ∧ 6 + 1 = 7 := ⟨by decide +kernel, rfl⟩
theorem q_X1_setLong_7 : decode M_X1_setLong.2.1 7 = .ok (.goto 5, 3) ∧ 7 + 3 = 10 ∧ ((7 : Nat) : Int) + 5 = ((12 : Nat) : Int) := ⟨by decide +kernel, rfl, rfl⟩
theorem q_X1_setLong_10 : decode M_X1_setLong.2.1 10 = .ok (.lload_n 1, 1) ∧ 10 + 1 = 11 := ⟨by decide +kernel, rfl⟩
theorem q_X1_setLong_11 : decode M_X1_setLong.2.1 11 = .ok (.lneg, 1) ∧ 11 + 1 = 12 := ⟨by decide +kernel, rfl⟩
theorem q_X1_setLong_12 : decode M_X1_setLong.2.1 12 = .ok (.lstore_n 3, 1) ∧ 12 + 1 = 13 := ⟨by decide +kernel, rfl⟩
theorem q_X1_setLong_13 : decode M_X1_setLong.2.1 13 = .ok (.aload_n 0, 1) ∧ 13 + 1 = 14 := ⟨by decide +kernel, rfl⟩
theorem q_X1_setLong_14 : decode M_X1_setLong.2.1 14 = .ok (.invokevirtual 47, 3) ∧ 14 + 3 = 17 := ⟨by decide +kernel, rfl⟩
theorem g_X1_setLong_14 : en_C M_X1_setLong M_X1_clear 47 0 := ⟨⟨by decide +kernel, by decide +kernel, by decide +kernel⟩, ⟨by decide, by decide, by decide +kernel⟩, by decide, by decide⟩
theorem w_X1_clear : Cond.instanceMethod M_X1_clear.1 ∈ en_tbl ∧ Cond.selects M_X1_clear.1.cls M_X1_clear.1 M_X1_clear.1 ∈ en_tbl := ⟨by decide +kernel, by decide +kernel⟩
theorem q_X1_setLong_17 : decode M_X1_setLong.2.1 17 = .ok (.aload_n 0, 1) ∧ 17 + 1 = 18 := ⟨by decide +kernel, rfl⟩
theorem q_X1_setLong_18 : decode M_X1_setLong.2.1 18 = .ok (.iconst 3, 1) ∧ 18 + 1 = 19 := ⟨by decide +kernel, rfl⟩
theorem q_X1_setLong_19 : decode M_X1_setLong.2.1 19 = .ok (.invokevirtual 37, 3) ∧ 19 + 3 = 22 := ⟨by decide +kernel, rfl⟩
theorem g_X1_setLong_19 : en_C M_X1_setLong M_X1_extend 37 1 := ⟨⟨by decide +kernel, by decide +kernel, by decide +kernel⟩, ⟨by decide, by decide, by decide +kernel⟩, by decide, by decide⟩
theorem q_X1_setLong_22 : decode M_X1_setLong.2.1 22 = .ok (.iconst 0, 1) ∧ 22 + 1 = 23 := ⟨by decide +kernel, rfl⟩
theorem q_X1_setLong_23 : decode M_X1_setLong.2.1 23 = .ok (.istore 5, 2) ∧ 23 + 2 = 25 := ⟨by decide +kernel, rfl⟩
theorem q_X1_setLong_25 : decode M_X1_setLong.2.1 25 = .ok (.iload 5, 2) ∧ 25 + 2 = 27 := ⟨by decide +kernel, rfl⟩
theorem q_X1_setLong_27 : decode M_X1_setLong.2.1 27 = .ok (.iconst 3, 1) ∧ 27 + 1 = 28 := ⟨by decide +kernel, rfl⟩
theorem q_X1_setLong_28 : decode M_X1_setLong.2.1 28 = .ok (.if_icmp .ge 29, 3) ∧ 28 + 3 = 31 ∧ ((28 : Nat) : Int) + 29 = ((57 : Nat) : Int) := ⟨by decide +kernel, rfl, rfl⟩
theorem q_X1_setLong_31 : decode M_X1_setLong.2.1 31 = .ok (.aload_n 0, 1) ∧ 31 + 1 = 32 := ⟨by decide +kernel, rfl⟩
theorem q_X1_setLong_32 : decode M_X1_setLong.2.1 32 = .ok (.getfield 11, 3) ∧ 32 + 3 = 35 := ⟨by decide +kernel, rfl⟩
theorem q_X1_setLong_35 : decode M_X1_setLong.2.1 35 = .ok (.iload 5, 2) ∧ 35 + 2 = 37 := ⟨by decide +kernel, rfl⟩
theorem q_X1_setLong_37 : decode M_X1_setLong.2.1 37 = .ok (.lload_n 3, 1) ∧ 37 + 1 = 38 := ⟨by decide +kernel, rfl⟩
theorem q_X1_setLong_38 : decode M_X1_setLong.2.1 38 = .ok (.ldc2_w 50, 3) ∧ 38 + 3 = 41 := ⟨by decide +kernel, rfl⟩
theorem k_RX1_50 : Cond.constantLong RX1 50 (lN 1000000000) ∈ en_tbl := by decide +kernel
theorem q_X1_setLong_41 : decode M_X1_setLong.2.1 41 = .ok (.lrem, 1) ∧ 41 + 1 = 42 := ⟨by decide +kernel, rfl⟩
theorem q_X1_setLong_42 : decode M_X1_setLong.2.1 42 = .ok (.lneg, 1) ∧ 42 + 1 = 43 := ⟨by decide +kernel, rfl⟩
theorem q_X1_setLong_43 : decode M_X1_setLong.2.1 43 = .ok (.l2i, 1) ∧ 43 + 1 = 44 := ⟨by decide +kernel, rfl⟩
theorem q_X1_setLong_44 : decode M_X1_setLong.2.1 44 = .ok (.iastore, 1) ∧ 44 + 1 = 45 := ⟨by decide +kernel, rfl⟩
theorem q_X1_setLong_45 : decode M_X1_setLong.2.1 45 = .ok (.lload_n 3, 1) ∧ 45 + 1 = 46 := ⟨by decide +kernel, rfl⟩
theorem q_X1_setLong_46 : decode M_X1_setLong.2.1 46 = .ok (.ldc2_w 50, 3) ∧ 46 + 3 = 49 := ⟨by decide +kernel, rfl⟩
theorem q_X1_setLong_49 : decode M_X1_setLong.2.1 49 = .ok (.ldiv, 1) ∧ 49 + 1 = 50 := ⟨by decide +kernel, rfl⟩
theorem q_X1_setLong_50 : decode M_X1_setLong.2.1 50 = .ok (.lstore_n 3, 1) ∧ 50 + 1 = 51 := ⟨by decide +kernel, rfl⟩
theorem q_X1_setLong_51 : decode M_X1_setLong.2.1 51 = .ok (.iinc 5 1, 3) ∧ 51 + 3 = 54 := ⟨by decide +kernel, rfl⟩
theorem q_X1_setLong_54 : decode M_X1_setLong.2.1 54 = .ok (.goto (-29), 3) ∧ 54 + 3 = 57 ∧ ((54 : Nat) : Int) + (-29) = ((25 : Nat) : Int) := ⟨by decide +kernel, rfl, rfl⟩
theorem q_X1_setLong_57 : decode M_X1_setLong.2.1 57 = .ok (.aload_n 0, 1) ∧ 57 + 1 = 58 := ⟨by decide +kernel, rfl⟩
theorem q_X1_setLong_58 : decode M_X1_setLong.2.1 58 = .ok (.lload_n 1, 1) ∧ 58 + 1 = 59 := ⟨by decide +kernel, rfl⟩
theorem q_X1_setLong_59 : decode M_X1_setLong.2.1 59 = .ok (.lconst 0, 1) ∧ 59 + 1 = 60 := ⟨by decide +kernel, rfl⟩
theorem q_X1_setLong_60 : decode M_X1_setLong.2.1 60 = .ok (.lcmp, 1) ∧ 60 + 1 = 61 := ⟨by decide +kernel, rfl⟩
theorem q_X1_setLong_61 : decode M_X1_setLong.2.1 61 = .ok (.ifCond .ge 7, 3) ∧ 61 + 3 = 64 ∧ ((61 : Nat) : Int) + 7 = ((68 : Nat) : Int) := ⟨by decide +kernel, rfl, rfl⟩
theorem q_X1_setLong_64 : decode M_X1_setLong.2.1 64 = .ok (.iconst (-1), 1) ∧ 64 + 1 = 65 := ⟨by decide +kernel, rfl⟩
theorem q_X1_setLong_65 : decode M_X1_setLong.2.1 65 = .ok (.goto 4, 3) ∧ 65 + 3 = 68 ∧ ((65 : Nat) : Int) + 4 = ((69 : Nat) : Int) := ⟨by decide +kernel, rfl, rfl⟩
theorem q_X1_setLong_68 : decode M_X1_setLong.2.1 68 = .ok (.iconst 1, 1) ∧ 68 + 1 = 69 := ⟨by decide +kernel, rfl⟩
theorem q_X1_setLong_69 : decode M_X1_setLong.2.1 69 = .ok (.invokevirtual 52, 3) ∧ 69 + 3 = 72 := ⟨by decide +kernel, rfl⟩
theorem g_X1_setLong_69 : en_C M_X1_setLong M_X1_trim 52 1 := ⟨⟨by decide +kernel, by decide +kernel, by decide +kernel⟩, ⟨by decide, by decide, by decide +kernel⟩, by decide, by decide⟩
theorem w_X1_trim : Cond.instanceMethod M_X1_trim.1 ∈ en_tbl ∧ Cond.selects M_X1_trim.1.cls M_X1_trim.1 M_X1_trim.1 ∈ en_tbl := ⟨by decide +kernel, by decide +kernel⟩
theorem q_X1_setLong_72 : decode M_X1_setLong.2.1 72 = .ok (.return_, 1) ∧ 72 + 1 = 73 := ⟨by decide +kernel, rfl⟩
theorem q_X1_clamped_0 : decode M_X1_clamped.2.1 0 = .ok (.aload_n 0, 1) ∧ 0 + 1 = 1 := ⟨by decide +kernel, rfl⟩
theorem q_X1_clamped_1 : decode M_X1_clamped.2.1 1 = .ok (.getfield 15, 3) ∧ 1 + 3 = 4 := ⟨by decide +kernel, rfl⟩
theorem q_X1_clamped_4 : decode M_X1_clamped.2.1 4 = .ok (.iconst 3, 1) ∧ 4 + 1 = 5 := ⟨by decide +kernel, rfl⟩
theorem q_X1_clamped_5 : decode M_X1_clamped.2.1 5 = .ok (.if_icmp .gt 12, 3) ∧ 5 + 3 = 8 ∧ ((5 : Nat) : Int) + 12 = ((17 : Nat) : Int) := ⟨by decide +kernel, rfl, rfl⟩
theorem q_X1_clamped_8 : decode M_X1_clamped.2.1 8 = .ok (.aload_n 0, 1) ∧ 8 + 1 = 9 := ⟨by decide +kernel, rfl⟩
theorem q_X1_clamped_9 : decode M_X1_clamped.2.1 9 = .ok (.iconst 2, 1) ∧ 9 + 1 = 10 := ⟨by decide +kernel, rfl⟩
theorem q_X1_clamped_10 : decode M_X1_clamped.2.1 10 = .ok (.invokevirtual 55, 3) ∧ 10 + 3 = 13 := ⟨by decide +kernel, rfl⟩
theorem g_X1_clamped_10 : en_C M_X1_clamped M_X1_limbAt 55 1 := ⟨⟨by decide +kernel, by decide +kernel, by decide +kernel⟩, ⟨by decide, by decide, by decide +kernel⟩, by decide, by decide⟩
theorem w_X1_limbAt : Cond.instanceMethod M_X1_limbAt.1 ∈ en_tbl ∧ Cond.selects M_X1_limbAt.1.cls M_X1_limbAt.1 M_X1_limbAt.1 ∈ en_tbl := ⟨by decide +kernel, by decide +kernel⟩
theorem q_X1_clamped_13 : decode M_X1_clamped.2.1 13 = .ok (.iconst 4, 1) ∧ 13 + 1 = 14 := ⟨by decide +kernel, rfl⟩
theorem q_X1_clamped_14 : decode M_X1_clamped.2.1 14 = .ok (.if_icmp .le 20, 3) ∧ 14 + 3 = 17 ∧ ((14 : Nat) : Int) + 20 = ((34 : Nat) : Int) := ⟨by decide +kernel, rfl, rfl⟩
theorem q_X1_clamped_17 : decode M_X1_clamped.2.1 17 = .ok (.aload_n 0, 1) ∧ 17 + 1 = 18 := ⟨by decide +kernel, rfl⟩
theorem q_X1_clamped_18 : decode M_X1_clamped.2.1 18 = .ok (.getfield 34, 3) ∧ 18 + 3 = 21 := ⟨by decide +kernel, rfl⟩
theorem q_X1_clamped_21 : decode M_X1_clamped.2.1 21 = .ok (.ifCond .ge 9, 3) ∧ 21 + 3 = 24 ∧ ((21 : Nat) : Int) + 9 = ((30 : Nat) : Int) := ⟨by decide +kernel, rfl, rfl⟩
theorem q_X1_clamped_24 : decode M_X1_clamped.2.1 24 = .ok (.ldc2_w 59, 3) ∧ 24 + 3 = 27 := ⟨by decide +kernel, rfl⟩
theorem k_RX1_59 : Cond.constantLong RX1 59 (-4611686018427387904) ∈ en_tbl := by decide +kernel
theorem q_X1_clamped_27 : decode M_X1_clamped.2.1 27 = .ok (.goto 6, 3) ∧ 27 + 3 = 30 ∧ ((27 : Nat) : Int) + 6 = ((33 : Nat) : Int) := ⟨by decide +kernel, rfl, rfl⟩
theorem q_X1_clamped_30 : decode M_X1_clamped.2.1 30 = .ok (.ldc2_w 61, 3) ∧ 30 + 3 = 33 := ⟨by decide +kernel, rfl⟩
theorem k_RX1_61 : Cond.constantLong RX1 61 (lN 4611686018427387904) ∈ en_tbl := by decide +kernel
theorem q_X1_clamped_33 : decode M_X1_clamped.2.1 33 = .ok (.lreturn, 1) ∧ 33 + 1 = 34 := ⟨by decide +kernel, rfl⟩
theorem q_X1_clamped_34 : decode M_X1_clamped.2.1 34 = .ok (.aload_n 0, 1) ∧ 34 + 1 = 35 := ⟨by decide +kernel, rfl⟩
theorem q_X1_clamped_35 : decode M_X1_clamped.2.1 35 = .ok (.iconst 2, 1) ∧ 35 + 1 = 36 := ⟨by decide +kernel, rfl⟩
theorem q_X1_clamped_36 : decode M_X1_clamped.2.1 36 = .ok (.invokevirtual 55, 3) ∧ 36 + 3 = 39 := ⟨by decide +kernel, rfl⟩
theorem g_X1_clamped_36 : en_C M_X1_clamped M_X1_limbAt 55 1 := ⟨⟨by decide +kernel, by decide +kernel, by decide +kernel⟩, ⟨by decide, by decide, by decide +kernel⟩, by decide, by decide⟩
theorem q_X1_clamped_39 : decode M_X1_clamped.2.1 39 = .ok (.i2l, 1) ∧ 39 + 1 = 40 := ⟨by decide +kernel, rfl⟩
theorem q_X1_clamped_40 : decode M_X1_clamped.2.1 40 = .ok (.ldc2_w 50, 3) ∧ 40 + 3 = 43 := ⟨by decide +kernel, rfl⟩
theorem q_X1_clamped_43 : decode M_X1_clamped.2.1 43 = .ok (.lmul, 1) ∧ 43 + 1 = 44 := ⟨by decide +kernel, rfl⟩
theorem q_X1_clamped_44 : decode M_X1_clamped.2.1 44 = .ok (.aload_n 0, 1) ∧ 44 + 1 = 45 := ⟨by decide +kernel, rfl⟩
theorem q_X1_clamped_45 : decode M_X1_clamped.2.1 45 = .ok (.iconst 1, 1) ∧ 45 + 1 = 46 := ⟨by decide +kernel, rfl⟩
theorem q_X1_clamped_46 : decode M_X1_clamped.2.1 46 = .ok (.invokevirtual 55, 3) ∧ 46 + 3 = 49 := ⟨by decide +kernel, rfl⟩
theorem g_X1_clamped_46 : en_C M_X1_clamped M_X1_limbAt 55 1 := ⟨⟨by decide +kernel, by decide +kernel, by decide +kernel⟩, ⟨by decide, by decide, by decide +kernel⟩, by decide, by decide⟩
theorem q_X1_clamped_49 : decode M_X1_clamped.2.1 49 = .ok (.i2l, 1) ∧ 49 + 1 = 50 := ⟨by decide +kernel, rfl⟩
theorem q_X1_clamped_50 : decode M_X1_clamped.2.1 50 = .ok (.ladd, 1) ∧ 50 + 1 = 51 := ⟨by decide +kernel, rfl⟩
theorem q_X1_clamped_51 : decode M_X1_clamped.2.1 51 = .ok (.lstore_n 1, 1) ∧ 51 + 1 = 52 := ⟨by decide +kernel, rfl⟩
theorem q_X1_clamped_52 : decode M_X1_clamped.2.1 52 = .ok (.aload_n 0, 1) ∧ 52 + 1 = 53 := ⟨by decide +kernel, rfl⟩
theorem q_X1_clamped_53 : decode M_X1_clamped.2.1 53 = .ok (.getfield 34, 3) ∧ 53 + 3 = 56 := ⟨by decide +kernel, rfl⟩
theorem q_X1_clamped_56 : decode M_X1_clamped.2.1 56 = .ok (.i2l, 1) ∧ 56 + 1 = 57 := ⟨by decide +kernel, rfl⟩
theorem q_X1_clamped_57 : decode M_X1_clamped.2.1 57 = .ok (.lload_n 1, 1) ∧ 57 + 1 = 58 := ⟨by decide +kernel, rfl⟩
theorem q_X1_clamped_58 : decode M_X1_clamped.2.1 58 = .ok (.ldc2_w 50, 3) ∧ 58 + 3 = 61 := ⟨by decide +kernel, rfl⟩
theorem q_X1_clamped_61 : decode M_X1_clamped.2.1 61 = .ok (.lmul, 1) ∧ 61 + 1 = 62 := ⟨by decide +kernel, rfl⟩
theorem q_X1_clamped_62 : decode M_X1_clamped.2.1 62 = .ok (.aload_n 0, 1) ∧ 62 + 1 = 63 := ⟨by decide +kernel, rfl⟩
theorem q_X1_clamped_63 : decode M_X1_clamped.2.1 63 = .ok (.iconst 0, 1) ∧ 63 + 1 = 64 := ⟨by decide +kernel, rfl⟩
theorem q_X1_clamped_64 : decode M_X1_clamped.2.1 64 = .ok (.invokevirtual 55, 3) ∧ 64 + 3 = 67 := ⟨by decide +kernel, rfl⟩
theorem g_X1_clamped_64 : en_C M_X1_clamped M_X1_limbAt 55 1 := ⟨⟨by decide +kernel, by decide +kernel, by decide +kernel⟩, ⟨by decide, by decide, by decide +kernel⟩, by decide, by decide⟩
theorem q_X1_clamped_67 : decode M_X1_clamped.2.1 67 = .ok (.i2l, 1) ∧ 67 + 1 = 68 := ⟨by decide +kernel, rfl⟩
theorem q_X1_clamped_68 : decode M_X1_clamped.2.1 68 = .ok (.ladd, 1) ∧ 68 + 1 = 69 := ⟨by decide +kernel, rfl⟩
theorem q_X1_clamped_69 : decode M_X1_clamped.2.1 69 = .ok (.ldc2_w 61, 3) ∧ 69 + 3 = 72 := ⟨by decide +kernel, rfl⟩
theorem q_X1_clamped_72 : decode M_X1_clamped.2.1 72 = .ok (.invokestatic 63, 3) ∧ 72 + 3 = 75 := ⟨by decide +kernel, rfl⟩
theorem a_RX1_63 : Cond.methodLink RX1 63 Lib.MathLoose.min_long.x ∈ en_tbl := by decide +kernel
theorem q_X1_clamped_75 : decode M_X1_clamped.2.1 75 = .ok (.lmul, 1) ∧ 75 + 1 = 76 := ⟨by decide +kernel, rfl⟩
theorem q_X1_clamped_76 : decode M_X1_clamped.2.1 76 = .ok (.lreturn, 1) ∧ 76 + 1 = 77 := ⟨by decide +kernel, rfl⟩
theorem q_X1_digitCount_0 : decode M_X1_digitCount.2.1 0 = .ok (.aload_n 0, 1) ∧ 0 + 1 = 1 := ⟨by decide +kernel, rfl⟩
theorem q_X1_digitCount_1 : decode M_X1_digitCount.2.1 1 = .ok (.aload_n 0, 1) ∧ 1 + 1 = 2 := ⟨by decide +kernel, rfl⟩
theorem q_X1_digitCount_2 : decode M_X1_digitCount.2.1 2 = .ok (.getfield 15, 3) ∧ 2 + 3 = 5 := ⟨by decide +kernel, rfl⟩
theorem q_X1_digitCount_5 : decode M_X1_digitCount.2.1 5 = .ok (.iconst 1, 1) ∧ 5 + 1 = 6 := ⟨by decide +kernel, rfl⟩
theorem q_X1_digitCount_6 : decode M_X1_digitCount.2.1 6 = .ok (.isub, 1) ∧ 6 + 1 = 7 := ⟨by decide +kernel, rfl⟩
theorem q_X1_digitCount_7 : decode M_X1_digitCount.2.1 7 = .ok (.invokevirtual 55, 3) ∧ 7 + 3 = 10 := ⟨by decide +kernel, rfl⟩
theorem g_X1_digitCount_7 : en_C M_X1_digitCount M_X1_limbAt 55 1 := ⟨⟨by decide +kernel, by decide +kernel, by decide +kernel⟩, ⟨by decide, by decide, by decide +kernel⟩, by decide, by decide⟩
theorem q_X1_digitCount_10 : decode M_X1_digitCount.2.1 10 = .ok (.istore_n 1, 1) ∧ 10 + 1 = 11 := ⟨by decide +kernel, rfl⟩
theorem q_X1_digitCount_11 : decode M_X1_digitCount.2.1 11 = .ok (.iconst 0, 1) ∧ 11 + 1 = 12 := ⟨by decide +kernel, rfl⟩
theorem q_X1_digitCount_12 : decode M_X1_digitCount.2.1 12 = .ok (.istore_n 2, 1) ∧ 12 + 1 = 13 := ⟨by decide +kernel, rfl⟩
theorem q_X1_digitCount_13 : decode M_X1_digitCount.2.1 13 = .ok (.iload_n 2, 1) ∧ 13 + 1 = 14 := ⟨by decide +kernel, rfl⟩
theorem q_X1_digitCount_14 : decode M_X1_digitCount.2.1 14 = .ok (.getstatic 66, 3) ∧ 14 + 3 = 17 := ⟨by decide +kernel, rfl⟩
theorem s_RX1_66 : Cond.fieldLinkNest RX1 66 RX6 "TENS" "[I" "EnclosedDigits" ∈ en_nest := by decide +kernel
theorem q_X1_digitCount_17 : decode M_X1_digitCount.2.1 17 = .ok (.arraylength, 1) ∧ 17 + 1 = 18 := ⟨by decide +kernel, rfl⟩
theorem q_X1_digitCount_18 : decode M_X1_digitCount.2.1 18 = .ok (.if_icmp .ge 18, 3) ∧ 18 + 3 = 21 ∧ ((18 : Nat) : Int) + 18 = ((36 : Nat) : Int) := ⟨by decide +kernel, rfl, rfl⟩
theorem q_X1_digitCount_21 : decode M_X1_digitCount.2.1 21 = .ok (.iload_n 1, 1) ∧ 21 + 1 = 22 := ⟨by decide +kernel, rfl⟩
theorem q_X1_digitCount_22 : decode M_X1_digitCount.2.1 22 = .ok (.getstatic 66, 3) ∧ 22 + 3 = 25 := ⟨by decide +kernel, rfl⟩
theorem q_X1_digitCount_25 : decode M_X1_digitCount.2.1 25 = .ok (.iload_n 2, 1) ∧ 25 + 1 = 26 := ⟨by decide +kernel, rfl⟩
theorem q_X1_digitCount_26 : decode M_X1_digitCount.2.1 26 = .ok (.iaload, 1) ∧ 26 + 1 = 27 := ⟨by decide +kernel, rfl⟩
theorem q_X1_digitCount_27 : decode M_X1_digitCount.2.1 27 = .ok (.if_icmp .lt 9, 3) ∧ 27 + 3 = 30 ∧ ((27 : Nat) : Int) + 9 = ((36 : Nat) : Int) := ⟨by decide +kernel, rfl, rfl⟩
theorem q_X1_digitCount_30 : decode M_X1_digitCount.2.1 30 = .ok (.iinc 2 1, 3) ∧ 30 + 3 = 33 := ⟨by decide +kernel, rfl⟩
theorem q_X1_digitCount_33 : decode M_X1_digitCount.2.1 33 = .ok (.goto (-20), 3) ∧ 33 + 3 = 36 ∧ ((33 : Nat) : Int) + (-20) = ((13 : Nat) : Int) := ⟨by decide +kernel, rfl, rfl⟩
theorem q_X1_digitCount_36 : decode M_X1_digitCount.2.1 36 = .ok (.aload_n 0, 1) ∧ 36 + 1 = 37 := ⟨by decide +kernel, rfl⟩
theorem q_X1_digitCount_37 : decode M_X1_digitCount.2.1 37 = .ok (.getfield 15, 3) ∧ 37 + 3 = 40 := ⟨by decide +kernel, rfl⟩
theorem q_X1_digitCount_40 : decode M_X1_digitCount.2.1 40 = .ok (.ifCond .gt 7, 3) ∧ 40 + 3 = 43 ∧ ((40 : Nat) : Int) + 7 = ((47 : Nat) : Int) := ⟨by decide +kernel, rfl, rfl⟩
theorem q_X1_digitCount_43 : decode M_X1_digitCount.2.1 43 = .ok (.iconst 0, 1) ∧ 43 + 1 = 44 := ⟨by decide +kernel, rfl⟩
theorem q_X1_digitCount_44 : decode M_X1_digitCount.2.1 44 = .ok (.goto 14, 3) ∧ 44 + 3 = 47 ∧ ((44 : Nat) : Int) + 14 = ((58 : Nat) : Int) := ⟨by decide +kernel, rfl, rfl⟩
theorem q_X1_digitCount_47 : decode M_X1_digitCount.2.1 47 = .ok (.aload_n 0, 1) ∧ 47 + 1 = 48 := ⟨by decide +kernel, rfl⟩
theorem q_X1_digitCount_48 : decode M_X1_digitCount.2.1 48 = .ok (.getfield 15, 3) ∧ 48 + 3 = 51 := ⟨by decide +kernel, rfl⟩
theorem q_X1_digitCount_51 : decode M_X1_digitCount.2.1 51 = .ok (.iconst 1, 1) ∧ 51 + 1 = 52 := ⟨by decide +kernel, rfl⟩
theorem q_X1_digitCount_52 : decode M_X1_digitCount.2.1 52 = .ok (.isub, 1) ∧ 52 + 1 = 53 := ⟨by decide +kernel, rfl⟩
theorem q_X1_digitCount_53 : decode M_X1_digitCount.2.1 53 = .ok (.bipush 9, 2) ∧ 53 + 2 = 55 := ⟨by decide +kernel, rfl⟩
theorem q_X1_digitCount_55 : decode M_X1_digitCount.2.1 55 = .ok (.imul, 1) ∧ 55 + 1 = 56 := ⟨by decide +kernel, rfl⟩
theorem q_X1_digitCount_56 : decode M_X1_digitCount.2.1 56 = .ok (.iload_n 2, 1) ∧ 56 + 1 = 57 := ⟨by decide +kernel, rfl⟩
theorem q_X1_digitCount_57 : decode M_X1_digitCount.2.1 57 = .ok (.iadd, 1) ∧ 57 + 1 = 58 := ⟨by decide +kernel, rfl⟩
theorem q_X1_digitCount_58 : decode M_X1_digitCount.2.1 58 = .ok (.ireturn, 1) ∧ 58 + 1 = 59 := ⟨by decide +kernel, rfl⟩
theorem q_X1_digitAt_0 : decode M_X1_digitAt.2.1 0 = .ok (.iload_n 1, 1) ∧ 0 + 1 = 1 := ⟨by decide +kernel, rfl⟩
theorem q_X1_digitAt_1 : decode M_X1_digitAt.2.1 1 = .ok (.ifCond .ge 7, 3) ∧ 1 + 3 = 4 ∧ ((1 : Nat) : Int) + 7 = ((8 : Nat) : Int) := ⟨by decide +kernel, rfl, rfl⟩
theorem q_X1_digitAt_4 : decode M_X1_digitAt.2.1 4 = .ok (.iconst 0, 1) ∧ 4 + 1 = 5 := ⟨by decide +kernel, rfl⟩
theorem q_X1_digitAt_5 : decode M_X1_digitAt.2.1 5 = .ok (.goto 23, 3) ∧ 5 + 3 = 8 ∧ ((5 : Nat) : Int) + 23 = ((28 : Nat) : Int) := ⟨by decide +kernel, rfl, rfl⟩
theorem q_X1_digitAt_8 : decode M_X1_digitAt.2.1 8 = .ok (.aload_n 0, 1) ∧ 8 + 1 = 9 := ⟨by decide +kernel, rfl⟩
theorem q_X1_digitAt_9 : decode M_X1_digitAt.2.1 9 = .ok (.iload_n 1, 1) ∧ 9 + 1 = 10 := ⟨by decide +kernel, rfl⟩
theorem q_X1_digitAt_10 : decode M_X1_digitAt.2.1 10 = .ok (.bipush 9, 2) ∧ 10 + 2 = 12 := ⟨by decide +kernel, rfl⟩
theorem q_X1_digitAt_12 : decode M_X1_digitAt.2.1 12 = .ok (.idiv, 1) ∧ 12 + 1 = 13 := ⟨by decide +kernel, rfl⟩
theorem q_X1_digitAt_13 : decode M_X1_digitAt.2.1 13 = .ok (.invokevirtual 55, 3) ∧ 13 + 3 = 16 := ⟨by decide +kernel, rfl⟩
theorem g_X1_digitAt_13 : en_C M_X1_digitAt M_X1_limbAt 55 1 := ⟨⟨by decide +kernel, by decide +kernel, by decide +kernel⟩, ⟨by decide, by decide, by decide +kernel⟩, by decide, by decide⟩
theorem q_X1_digitAt_16 : decode M_X1_digitAt.2.1 16 = .ok (.getstatic 66, 3) ∧ 16 + 3 = 19 := ⟨by decide +kernel, rfl⟩
theorem q_X1_digitAt_19 : decode M_X1_digitAt.2.1 19 = .ok (.iload_n 1, 1) ∧ 19 + 1 = 20 := ⟨by decide +kernel, rfl⟩
theorem q_X1_digitAt_20 : decode M_X1_digitAt.2.1 20 = .ok (.bipush 9, 2) ∧ 20 + 2 = 22 := ⟨by decide +kernel, rfl⟩
theorem q_X1_digitAt_22 : decode M_X1_digitAt.2.1 22 = .ok (.irem, 1) ∧ 22 + 1 = 23 := ⟨by decide +kernel, rfl⟩
theorem q_X1_digitAt_23 : decode M_X1_digitAt.2.1 23 = .ok (.iaload, 1) ∧ 23 + 1 = 24 := ⟨by decide +kernel, rfl⟩
theorem q_X1_digitAt_24 : decode M_X1_digitAt.2.1 24 = .ok (.idiv, 1) ∧ 24 + 1 = 25 := ⟨by decide +kernel, rfl⟩
theorem q_X1_digitAt_25 : decode M_X1_digitAt.2.1 25 = .ok (.bipush 10, 2) ∧ 25 + 2 = 27 := ⟨by decide +kernel, rfl⟩
theorem q_X1_digitAt_27 : decode M_X1_digitAt.2.1 27 = .ok (.irem, 1) ∧ 27 + 1 = 28 := ⟨by decide +kernel, rfl⟩
theorem q_X1_digitAt_28 : decode M_X1_digitAt.2.1 28 = .ok (.ireturn, 1) ∧ 28 + 1 = 29 := ⟨by decide +kernel, rfl⟩
theorem q_X1_compareSizes_0 : decode M_X1_compareSizes.2.1 0 = .ok (.aload_n 0, 1) ∧ 0 + 1 = 1 := ⟨by decide +kernel, rfl⟩
theorem q_X1_compareSizes_1 : decode M_X1_compareSizes.2.1 1 = .ok (.getfield 15, 3) ∧ 1 + 3 = 4 := ⟨by decide +kernel, rfl⟩
theorem q_X1_compareSizes_4 : decode M_X1_compareSizes.2.1 4 = .ok (.aload_n 1, 1) ∧ 4 + 1 = 5 := ⟨by decide +kernel, rfl⟩
theorem q_X1_compareSizes_5 : decode M_X1_compareSizes.2.1 5 = .ok (.getfield 15, 3) ∧ 5 + 3 = 8 := ⟨by decide +kernel, rfl⟩
theorem q_X1_compareSizes_8 : decode M_X1_compareSizes.2.1 8 = .ok (.if_icmp .eq 20, 3) ∧ 8 + 3 = 11 ∧ ((8 : Nat) : Int) + 20 = ((28 : Nat) : Int) := ⟨by decide +kernel, rfl, rfl⟩
theorem q_X1_compareSizes_11 : decode M_X1_compareSizes.2.1 11 = .ok (.aload_n 0, 1) ∧ 11 + 1 = 12 := ⟨by decide +kernel, rfl⟩
theorem q_X1_compareSizes_12 : decode M_X1_compareSizes.2.1 12 = .ok (.getfield 15, 3) ∧ 12 + 3 = 15 := ⟨by decide +kernel, rfl⟩
theorem q_X1_compareSizes_15 : decode M_X1_compareSizes.2.1 15 = .ok (.aload_n 1, 1) ∧ 15 + 1 = 16 := ⟨by decide +kernel, rfl⟩
theorem q_X1_compareSizes_16 : decode M_X1_compareSizes.2.1 16 = .ok (.getfield 15, 3) ∧ 16 + 3 = 19 := ⟨by decide +kernel, rfl⟩
theorem q_X1_compareSizes_19 : decode M_X1_compareSizes.2.1 19 = .ok (.if_icmp .ge 7, 3) ∧ 19 + 3 = 22 ∧ ((19 : Nat) : Int) + 7 = ((26 : Nat) : Int) := ⟨by decide +kernel, rfl, rfl⟩
theorem q_X1_compareSizes_22 : decode M_X1_compareSizes.2.1 22 = .ok (.iconst (-1), 1) ∧ 22 + 1 = 23 := ⟨by decide +kernel, rfl⟩
theorem q_X1_compareSizes_23 : decode M_X1_compareSizes.2.1 23 = .ok (.goto 4, 3) ∧ 23 + 3 = 26 ∧ ((23 : Nat) : Int) + 4 = ((27 : Nat) : Int) := ⟨by decide +kernel, rfl, rfl⟩
theorem q_X1_compareSizes_26 : decode M_X1_compareSizes.2.1 26 = .ok (.iconst 1, 1) ∧ 26 + 1 = 27 := ⟨by decide +kernel, rfl⟩
theorem q_X1_compareSizes_27 : decode M_X1_compareSizes.2.1 27 = .ok (.ireturn, 1) ∧ 27 + 1 = 28 := ⟨by decide +kernel, rfl⟩
theorem q_X1_compareSizes_28 : decode M_X1_compareSizes.2.1 28 = .ok (.aload_n 0, 1) ∧ 28 + 1 = 29 := ⟨by decide +kernel, rfl⟩
theorem q_X1_compareSizes_29 : decode M_X1_compareSizes.2.1 29 = .ok (.getfield 15, 3) ∧ 29 + 3 = 32 := ⟨by decide +kernel, rfl⟩
theorem q_X1_compareSizes_32 : decode M_X1_compareSizes.2.1 32 = .ok (.iconst 1, 1) ∧ 32 + 1 = 33 := ⟨by decide +kernel, rfl⟩
theorem q_X1_compareSizes_33 : decode M_X1_compareSizes.2.1 33 = .ok (.isub, 1) ∧ 33 + 1 = 34 := ⟨by decide +kernel, rfl⟩
theorem q_X1_compareSizes_34 : decode M_X1_compareSizes.2.1 34 = .ok (.istore_n 2, 1) ∧ 34 + 1 = 35 := ⟨by decide +kernel, rfl⟩
theorem q_X1_compareSizes_35 : decode M_X1_compareSizes.2.1 35 = .ok (.iload_n 2, 1) ∧ 35 + 1 = 36 := ⟨by decide +kernel, rfl⟩
theorem q_X1_compareSizes_36 : decode M_X1_compareSizes.2.1 36 = .ok (.ifCond .lt 37, 3) ∧ 36 + 3 = 39 ∧ ((36 : Nat) : Int) + 37 = ((73 : Nat) : Int) := ⟨by decide +kernel, rfl, rfl⟩
theorem q_X1_compareSizes_39 : decode M_X1_compareSizes.2.1 39 = .ok (.aload_n 0, 1) ∧ 39 + 1 = 40 := ⟨by decide +kernel, rfl⟩
theorem q_X1_compareSizes_40 : decode M_X1_compareSizes.2.1 40 = .ok (.getfield 11, 3) ∧ 40 + 3 = 43 := ⟨by decide +kernel, rfl⟩
theorem q_X1_compareSizes_43 : decode M_X1_compareSizes.2.1 43 = .ok (.iload_n 2, 1) ∧ 43 + 1 = 44 := ⟨by decide +kernel, rfl⟩
theorem q_X1_compareSizes_44 : decode M_X1_compareSizes.2.1 44 = .ok (.iaload, 1) ∧ 44 + 1 = 45 := ⟨by decide +kernel, rfl⟩
theorem q_X1_compareSizes_45 : decode M_X1_compareSizes.2.1 45 = .ok (.aload_n 1, 1) ∧ 45 + 1 = 46 := ⟨by decide +kernel, rfl⟩
theorem q_X1_compareSizes_46 : decode M_X1_compareSizes.2.1 46 = .ok (.getfield 11, 3) ∧ 46 + 3 = 49 := ⟨by decide +kernel, rfl⟩
theorem q_X1_compareSizes_49 : decode M_X1_compareSizes.2.1 49 = .ok (.iload_n 2, 1) ∧ 49 + 1 = 50 := ⟨by decide +kernel, rfl⟩
theorem q_X1_compareSizes_50 : decode M_X1_compareSizes.2.1 50 = .ok (.iaload, 1) ∧ 50 + 1 = 51 := ⟨by decide +kernel, rfl⟩
theorem q_X1_compareSizes_51 : decode M_X1_compareSizes.2.1 51 = .ok (.isub, 1) ∧ 51 + 1 = 52 := ⟨by decide +kernel, rfl⟩
theorem q_X1_compareSizes_52 : decode M_X1_compareSizes.2.1 52 = .ok (.istore_n 3, 1) ∧ 52 + 1 = 53 := ⟨by decide +kernel, rfl⟩
theorem q_X1_compareSizes_53 : decode M_X1_compareSizes.2.1 53 = .ok (.iload_n 3, 1) ∧ 53 + 1 = 54 := ⟨by decide +kernel, rfl⟩
theorem q_X1_compareSizes_54 : decode M_X1_compareSizes.2.1 54 = .ok (.ifCond .eq 13, 3) ∧ 54 + 3 = 57 ∧ ((54 : Nat) : Int) + 13 = ((67 : Nat) : Int) := ⟨by decide +kernel, rfl, rfl⟩
theorem q_X1_compareSizes_57 : decode M_X1_compareSizes.2.1 57 = .ok (.iload_n 3, 1) ∧ 57 + 1 = 58 := ⟨by decide +kernel, rfl⟩
theorem q_X1_compareSizes_58 : decode M_X1_compareSizes.2.1 58 = .ok (.ifCond .ge 7, 3) ∧ 58 + 3 = 61 ∧ ((58 : Nat) : Int) + 7 = ((65 : Nat) : Int) := ⟨by decide +kernel, rfl, rfl⟩
theorem q_X1_compareSizes_61 : decode M_X1_compareSizes.2.1 61 = .ok (.iconst (-1), 1) ∧ 61 + 1 = 62 := ⟨by decide +kernel, rfl⟩
theorem q_X1_compareSizes_62 : decode M_X1_compareSizes.2.1 62 = .ok (.goto 4, 3) ∧ 62 + 3 = 65 ∧ ((62 : Nat) : Int) + 4 = ((66 : Nat) : Int) := ⟨by decide +kernel, rfl, rfl⟩
theorem q_X1_compareSizes_65 : decode M_X1_compareSizes.2.1 65 = .ok (.iconst 1, 1) ∧ 65 + 1 = 66 := ⟨by decide +kernel, rfl⟩
theorem q_X1_compareSizes_66 : decode M_X1_compareSizes.2.1 66 = .ok (.ireturn, 1) ∧ 66 + 1 = 67 := ⟨by decide +kernel, rfl⟩
theorem q_X1_compareSizes_67 : decode M_X1_compareSizes.2.1 67 = .ok (.iinc 2 (-1), 3) ∧ 67 + 3 = 70 := ⟨by decide +kernel, rfl⟩
theorem q_X1_compareSizes_70 : decode M_X1_compareSizes.2.1 70 = .ok (.goto (-35), 3) ∧ 70 + 3 = 73 ∧ ((70 : Nat) : Int) + (-35) = ((35 : Nat) : Int) := ⟨by decide +kernel, rfl, rfl⟩
theorem q_X1_compareSizes_73 : decode M_X1_compareSizes.2.1 73 = .ok (.iconst 0, 1) ∧ 73 + 1 = 74 := ⟨by decide +kernel, rfl⟩
theorem q_X1_compareSizes_74 : decode M_X1_compareSizes.2.1 74 = .ok (.ireturn, 1) ∧ 74 + 1 = 75 := ⟨by decide +kernel, rfl⟩
theorem q_X1_compare_0 : decode M_X1_compare.2.1 0 = .ok (.aload_n 0, 1) ∧ 0 + 1 = 1 := ⟨by decide +kernel, rfl⟩
theorem q_X1_compare_1 : decode M_X1_compare.2.1 1 = .ok (.getfield 34, 3) ∧ 1 + 3 = 4 := ⟨by decide +kernel, rfl⟩
theorem q_X1_compare_4 : decode M_X1_compare.2.1 4 = .ok (.aload_n 1, 1) ∧ 4 + 1 = 5 := ⟨by decide +kernel, rfl⟩
theorem q_X1_compare_5 : decode M_X1_compare.2.1 5 = .ok (.getfield 34, 3) ∧ 5 + 3 = 8 := ⟨by decide +kernel, rfl⟩
theorem q_X1_compare_8 : decode M_X1_compare.2.1 8 = .ok (.if_icmp .eq 20, 3) ∧ 8 + 3 = 11 ∧ ((8 : Nat) : Int) + 20 = ((28 : Nat) : Int) := ⟨by decide +kernel, rfl, rfl⟩
theorem q_X1_compare_11 : decode M_X1_compare.2.1 11 = .ok (.aload_n 0, 1) ∧ 11 + 1 = 12 := ⟨by decide +kernel, rfl⟩
theorem q_X1_compare_12 : decode M_X1_compare.2.1 12 = .ok (.getfield 34, 3) ∧ 12 + 3 = 15 := ⟨by decide +kernel, rfl⟩
theorem q_X1_compare_15 : decode M_X1_compare.2.1 15 = .ok (.aload_n 1, 1) ∧ 15 + 1 = 16 := ⟨by decide +kernel, rfl⟩
theorem q_X1_compare_16 : decode M_X1_compare.2.1 16 = .ok (.getfield 34, 3) ∧ 16 + 3 = 19 := ⟨by decide +kernel, rfl⟩
theorem q_X1_compare_19 : decode M_X1_compare.2.1 19 = .ok (.if_icmp .ge 7, 3) ∧ 19 + 3 = 22 ∧ ((19 : Nat) : Int) + 7 = ((26 : Nat) : Int) := ⟨by decide +kernel, rfl, rfl⟩
theorem q_X1_compare_22 : decode M_X1_compare.2.1 22 = .ok (.iconst (-1), 1) ∧ 22 + 1 = 23 := ⟨by decide +kernel, rfl⟩
theorem q_X1_compare_23 : decode M_X1_compare.2.1 23 = .ok (.goto 4, 3) ∧ 23 + 3 = 26 ∧ ((23 : Nat) : Int) + 4 = ((27 : Nat) : Int) := ⟨by decide +kernel, rfl, rfl⟩
theorem q_X1_compare_26 : decode M_X1_compare.2.1 26 = .ok (.iconst 1, 1) ∧ 26 + 1 = 27 := ⟨by decide +kernel, rfl⟩
theorem q_X1_compare_27 : decode M_X1_compare.2.1 27 = .ok (.ireturn, 1) ∧ 27 + 1 = 28 := ⟨by decide +kernel, rfl⟩
theorem q_X1_compare_28 : decode M_X1_compare.2.1 28 = .ok (.aload_n 0, 1) ∧ 28 + 1 = 29 := ⟨by decide +kernel, rfl⟩
theorem q_X1_compare_29 : decode M_X1_compare.2.1 29 = .ok (.getfield 34, 3) ∧ 29 + 3 = 32 := ⟨by decide +kernel, rfl⟩
theorem q_X1_compare_32 : decode M_X1_compare.2.1 32 = .ok (.aload_n 0, 1) ∧ 32 + 1 = 33 := ⟨by decide +kernel, rfl⟩
theorem q_X1_compare_33 : decode M_X1_compare.2.1 33 = .ok (.aload_n 1, 1) ∧ 33 + 1 = 34 := ⟨by decide +kernel, rfl⟩
theorem q_X1_compare_34 : decode M_X1_compare.2.1 34 = .ok (.invokevirtual 69, 3) ∧ 34 + 3 = 37 := ⟨by decide +kernel, rfl⟩
theorem g_X1_compare_34 : en_C M_X1_compare M_X1_compareSizes 69 1 := ⟨⟨by decide +kernel, by decide +kernel, by decide +kernel⟩, ⟨by decide, by decide, by decide +kernel⟩, by decide, by decide⟩
theorem w_X1_compareSizes : Cond.instanceMethod M_X1_compareSizes.1 ∈ en_tbl ∧ Cond.selects M_X1_compareSizes.1.cls M_X1_compareSizes.1 M_X1_compareSizes.1 ∈ en_tbl := ⟨by decide +kernel, by decide +kernel⟩
theorem q_X1_compare_37 : decode M_X1_compare.2.1 37 = .ok (.imul, 1) ∧ 37 + 1 = 38 := ⟨by decide +kernel, rfl⟩
theorem q_X1_compare_38 : decode M_X1_compare.2.1 38 = .ok (.ireturn, 1) ∧ 38 + 1 = 39 := ⟨by decide +kernel, rfl⟩
theorem q_X1_grow_0 : decode M_X1_grow.2.1 0 = .ok (.aload_n 0, 1) ∧ 0 + 1 = 1 := ⟨by decide +kernel, rfl⟩
theorem q_X1_grow_1 : decode M_X1_grow.2.1 1 = .ok (.getfield 34, 3) ∧ 1 + 3 = 4 := ⟨by decide +kernel, rfl⟩
theorem q_X1_grow_4 : decode M_X1_grow.2.1 4 = .ok (.ifCond .ne 7, 3) ∧ 4 + 3 = 7 ∧ ((4 : Nat) : Int) + 7 = ((11 : Nat) : Int) := ⟨by decide +kernel, rfl, rfl⟩
theorem q_X1_grow_7 : decode M_X1_grow.2.1 7 = .ok (.iload_n 1, 1) ∧ 7 + 1 = 8 := ⟨by decide +kernel, rfl⟩
theorem q_X1_grow_8 : decode M_X1_grow.2.1 8 = .ok (.goto 7, 3) ∧ 8 + 3 = 11 ∧ ((8 : Nat) : Int) + 7 = ((15 : Nat) : Int) := ⟨by decide +kernel, rfl, rfl⟩
theorem q_X1_grow_11 : decode M_X1_grow.2.1 11 = .ok (.aload_n 0, 1) ∧ 11 + 1 = 12 := ⟨by decide +kernel, rfl⟩
theorem q_X1_grow_12 : decode M_X1_grow.2.1 12 = .ok (.getfield 34, 3) ∧ 12 + 3 = 15 := ⟨by decide +kernel, rfl⟩
theorem q_X1_grow_15 : decode M_X1_grow.2.1 15 = .ok (.istore_n 2, 1) ∧ 15 + 1 = 16 := ⟨by decide +kernel, rfl⟩
theorem q_X1_grow_16 : decode M_X1_grow.2.1 16 = .ok (.aload_n 0, 1) ∧ 16 + 1 = 17 := ⟨by decide +kernel, rfl⟩
theorem q_X1_grow_17 : decode M_X1_grow.2.1 17 = .ok (.aload_n 0, 1) ∧ 17 + 1 = 18 := ⟨by decide +kernel, rfl⟩
theorem q_X1_grow_18 : decode M_X1_grow.2.1 18 = .ok (.getfield 15, 3) ∧ 18 + 3 = 21 := ⟨by decide +kernel, rfl⟩
theorem q_X1_grow_21 : decode M_X1_grow.2.1 21 = .ok (.iconst 1, 1) ∧ 21 + 1 = 22 := ⟨by decide +kernel, rfl⟩
theorem q_X1_grow_22 : decode M_X1_grow.2.1 22 = .ok (.iadd, 1) ∧ 22 + 1 = 23 := ⟨by decide +kernel, rfl⟩
theorem q_X1_grow_23 : decode M_X1_grow.2.1 23 = .ok (.invokevirtual 37, 3) ∧ 23 + 3 = 26 := ⟨by decide +kernel, rfl⟩
theorem g_X1_grow_23 : en_C M_X1_grow M_X1_extend 37 1 := ⟨⟨by decide +kernel, by decide +kernel, by decide +kernel⟩, ⟨by decide, by decide, by decide +kernel⟩, by decide, by decide⟩
theorem q_X1_grow_26 : decode M_X1_grow.2.1 26 = .ok (.iconst 0, 1) ∧ 26 + 1 = 27 := ⟨by decide +kernel, rfl⟩
theorem q_X1_grow_27 : decode M_X1_grow.2.1 27 = .ok (.istore_n 3, 1) ∧ 27 + 1 = 28 := ⟨by decide +kernel, rfl⟩
theorem q_X1_grow_28 : decode M_X1_grow.2.1 28 = .ok (.iload_n 3, 1) ∧ 28 + 1 = 29 := ⟨by decide +kernel, rfl⟩
theorem q_X1_grow_29 : decode M_X1_grow.2.1 29 = .ok (.aload_n 0, 1) ∧ 29 + 1 = 30 := ⟨by decide +kernel, rfl⟩
theorem q_X1_grow_30 : decode M_X1_grow.2.1 30 = .ok (.getfield 15, 3) ∧ 30 + 3 = 33 := ⟨by decide +kernel, rfl⟩
theorem q_X1_grow_33 : decode M_X1_grow.2.1 33 = .ok (.iconst 1, 1) ∧ 33 + 1 = 34 := ⟨by decide +kernel, rfl⟩
theorem q_X1_grow_34 : decode M_X1_grow.2.1 34 = .ok (.isub, 1) ∧ 34 + 1 = 35 := ⟨by decide +kernel, rfl⟩
theorem q_X1_grow_35 : decode M_X1_grow.2.1 35 = .ok (.if_icmp .ge 27, 3) ∧ 35 + 3 = 38 ∧ ((35 : Nat) : Int) + 27 = ((62 : Nat) : Int) := ⟨by decide +kernel, rfl, rfl⟩
theorem q_X1_grow_38 : decode M_X1_grow.2.1 38 = .ok (.aload_n 0, 1) ∧ 38 + 1 = 39 := ⟨by decide +kernel, rfl⟩
theorem q_X1_grow_39 : decode M_X1_grow.2.1 39 = .ok (.getfield 11, 3) ∧ 39 + 3 = 42 := ⟨by decide +kernel, rfl⟩
theorem q_X1_grow_42 : decode M_X1_grow.2.1 42 = .ok (.iload_n 3, 1) ∧ 42 + 1 = 43 := ⟨by decide +kernel, rfl⟩
theorem q_X1_grow_43 : decode M_X1_grow.2.1 43 = .ok (.iaload, 1) ∧ 43 + 1 = 44 := ⟨by decide +kernel, rfl⟩
theorem q_X1_grow_44 : decode M_X1_grow.2.1 44 = .ok (.ldc 73, 2) ∧ 44 + 2 = 46 := ⟨by decide +kernel, rfl⟩
theorem k_RX1_73 : Cond.constant RX1 73 (nI 999999999) ∈ en_tbl := by decide +kernel
theorem q_X1_grow_46 : decode M_X1_grow.2.1 46 = .ok (.if_icmp .ne 16, 3) ∧ 46 + 3 = 49 ∧ ((46 : Nat) : Int) + 16 = ((62 : Nat) : Int) := ⟨by decide +kernel, rfl, rfl⟩
theorem q_X1_grow_49 : decode M_X1_grow.2.1 49 = .ok (.aload_n 0, 1) ∧ 49 + 1 = 50 := ⟨by decide +kernel, rfl⟩
theorem q_X1_grow_50 : decode M_X1_grow.2.1 50 = .ok (.getfield 11, 3) ∧ 50 + 3 = 53 := ⟨by decide +kernel, rfl⟩
theorem q_X1_grow_53 : decode M_X1_grow.2.1 53 = .ok (.iload_n 3, 1) ∧ 53 + 1 = 54 := ⟨by decide +kernel, rfl⟩
theorem q_X1_grow_54 : decode M_X1_grow.2.1 54 = .ok (.iconst 0, 1) ∧ 54 + 1 = 55 := ⟨by decide +kernel, rfl⟩
theorem q_X1_grow_55 : decode M_X1_grow.2.1 55 = .ok (.iastore, 1) ∧ 55 + 1 = 56 := ⟨by decide +kernel, rfl⟩
theorem q_X1_grow_56 : decode M_X1_grow.2.1 56 = .ok (.iinc 3 1, 3) ∧ 56 + 3 = 59 := ⟨by decide +kernel, rfl⟩
theorem q_X1_grow_59 : decode M_X1_grow.2.1 59 = .ok (.goto (-31), 3) ∧ 59 + 3 = 62 ∧ ((59 : Nat) : Int) + (-31) = ((28 : Nat) : Int) := ⟨by decide +kernel, rfl, rfl⟩
theorem q_X1_grow_62 : decode M_X1_grow.2.1 62 = .ok (.aload_n 0, 1) ∧ 62 + 1 = 63 := ⟨by decide +kernel, rfl⟩
theorem q_X1_grow_63 : decode M_X1_grow.2.1 63 = .ok (.getfield 11, 3) ∧ 63 + 3 = 66 := ⟨by decide +kernel, rfl⟩
theorem q_X1_grow_66 : decode M_X1_grow.2.1 66 = .ok (.iload_n 3, 1) ∧ 66 + 1 = 67 := ⟨by decide +kernel, rfl⟩
theorem q_X1_grow_67 : decode M_X1_grow.2.1 67 = .ok (.dup2, 1) ∧ 67 + 1 = 68 := ⟨by decide +kernel, rfl⟩
theorem q_X1_grow_68 : decode M_X1_grow.2.1 68 = .ok (.iaload, 1) ∧ 68 + 1 = 69 := ⟨by decide +kernel, rfl⟩
theorem q_X1_grow_69 : decode M_X1_grow.2.1 69 = .ok (.iconst 1, 1) ∧ 69 + 1 = 70 := ⟨by decide +kernel, rfl⟩
theorem q_X1_grow_70 : decode M_X1_grow.2.1 70 = .ok (.iadd, 1) ∧ 70 + 1 = 71 := ⟨by decide +kernel, rfl⟩
theorem q_X1_grow_71 : decode M_X1_grow.2.1 71 = .ok (.iastore, 1) ∧ 71 + 1 = 72 := ⟨by decide +kernel, rfl⟩
theorem q_X1_grow_72 : decode M_X1_grow.2.1 72 = .ok (.aload_n 0, 1) ∧ 72 + 1 = 73 := ⟨by decide +kernel, rfl⟩
theorem q_X1_grow_73 : decode M_X1_grow.2.1 73 = .ok (.iload_n 2, 1) ∧ 73 + 1 = 74 := ⟨by decide +kernel, rfl⟩
theorem q_X1_grow_74 : decode M_X1_grow.2.1 74 = .ok (.invokevirtual 52, 3) ∧ 74 + 3 = 77 := ⟨by decide +kernel, rfl⟩
theorem g_X1_grow_74 : en_C M_X1_grow M_X1_trim 52 1 := ⟨⟨by decide +kernel, by decide +kernel, by decide +kernel⟩, ⟨by decide, by decide, by decide +kernel⟩, by decide, by decide⟩
theorem q_X1_grow_77 : decode M_X1_grow.2.1 77 = .ok (.return_, 1) ∧ 77 + 1 = 78 := ⟨by decide +kernel, rfl⟩
theorem q_X1_add_0 : decode M_X1_add.2.1 0 = .ok (.aload_n 1, 1) ∧ 0 + 1 = 1 := ⟨by decide +kernel, rfl⟩
theorem q_X1_add_1 : decode M_X1_add.2.1 1 = .ok (.getfield 34, 3) ∧ 1 + 3 = 4 := ⟨by decide +kernel, rfl⟩
theorem q_X1_add_4 : decode M_X1_add.2.1 4 = .ok (.ifCond .ne 4, 3) ∧ 4 + 3 = 7 ∧ ((4 : Nat) : Int) + 4 = ((8 : Nat) : Int) := ⟨by decide +kernel, rfl, rfl⟩
theorem q_X1_add_7 : decode M_X1_add.2.1 7 = .ok (.return_, 1) ∧ 7 + 1 = 8 := ⟨by decide +kernel, rfl⟩
theorem q_X1_add_8 : decode M_X1_add.2.1 8 = .ok (.aload_n 0, 1) ∧ 8 + 1 = 9 := ⟨by decide +kernel, rfl⟩
theorem q_X1_add_9 : decode M_X1_add.2.1 9 = .ok (.getfield 34, 3) ∧ 9 + 3 = 12 := ⟨by decide +kernel, rfl⟩
theorem q_X1_add_12 : decode M_X1_add.2.1 12 = .ok (.ifCond .eq 14, 3) ∧ 12 + 3 = 15 ∧ ((12 : Nat) : Int) + 14 = ((26 : Nat) : Int) := ⟨by decide +kernel, rfl, rfl⟩
theorem q_X1_add_15 : decode M_X1_add.2.1 15 = .ok (.aload_n 0, 1) ∧ 15 + 1 = 16 := ⟨by decide +kernel, rfl⟩
theorem q_X1_add_16 : decode M_X1_add.2.1 16 = .ok (.getfield 34, 3) ∧ 16 + 3 = 19 := ⟨by decide +kernel, rfl⟩
theorem q_X1_add_19 : decode M_X1_add.2.1 19 = .ok (.aload_n 1, 1) ∧ 19 + 1 = 20 := ⟨by decide +kernel, rfl⟩
theorem q_X1_add_20 : decode M_X1_add.2.1 20 = .ok (.getfield 34, 3) ∧ 20 + 3 = 23 := ⟨by decide +kernel, rfl⟩
theorem q_X1_add_23 : decode M_X1_add.2.1 23 = .ok (.if_icmp .ne 15, 3) ∧ 23 + 3 = 26 ∧ ((23 : Nat) : Int) + 15 = ((38 : Nat) : Int) := ⟨by decide +kernel, rfl, rfl⟩
theorem q_X1_add_26 : decode M_X1_add.2.1 26 = .ok (.aload_n 0, 1) ∧ 26 + 1 = 27 := ⟨by decide +kernel, rfl⟩
theorem q_X1_add_27 : decode M_X1_add.2.1 27 = .ok (.aload_n 1, 1) ∧ 27 + 1 = 28 := ⟨by decide +kernel, rfl⟩
theorem q_X1_add_28 : decode M_X1_add.2.1 28 = .ok (.aload_n 1, 1) ∧ 28 + 1 = 29 := ⟨by decide +kernel, rfl⟩
theorem q_X1_add_29 : decode M_X1_add.2.1 29 = .ok (.getfield 34, 3) ∧ 29 + 3 = 32 := ⟨by decide +kernel, rfl⟩
theorem q_X1_add_32 : decode M_X1_add.2.1 32 = .ok (.invokevirtual 74, 3) ∧ 32 + 3 = 35 := ⟨by decide +kernel, rfl⟩
theorem g_X1_add_32 : en_C M_X1_add M_X1_addLimbs 74 2 := ⟨⟨by decide +kernel, by decide +kernel, by decide +kernel⟩, ⟨by decide, by decide, by decide +kernel⟩, by decide, by decide⟩
theorem w_X1_addLimbs : Cond.instanceMethod M_X1_addLimbs.1 ∈ en_tbl ∧ Cond.selects M_X1_addLimbs.1.cls M_X1_addLimbs.1 M_X1_addLimbs.1 ∈ en_tbl := ⟨by decide +kernel, by decide +kernel⟩
theorem q_X1_add_35 : decode M_X1_add.2.1 35 = .ok (.goto 34, 3) ∧ 35 + 3 = 38 ∧ ((35 : Nat) : Int) + 34 = ((69 : Nat) : Int) := ⟨by decide +kernel, rfl, rfl⟩
theorem q_X1_add_38 : decode M_X1_add.2.1 38 = .ok (.aload_n 0, 1) ∧ 38 + 1 = 39 := ⟨by decide +kernel, rfl⟩
theorem q_X1_add_39 : decode M_X1_add.2.1 39 = .ok (.aload_n 1, 1) ∧ 39 + 1 = 40 := ⟨by decide +kernel, rfl⟩
theorem q_X1_add_40 : decode M_X1_add.2.1 40 = .ok (.invokevirtual 69, 3) ∧ 40 + 3 = 43 := ⟨by decide +kernel, rfl⟩
theorem g_X1_add_40 : en_C M_X1_add M_X1_compareSizes 69 1 := ⟨⟨by decide +kernel, by decide +kernel, by decide +kernel⟩, ⟨by decide, by decide, by decide +kernel⟩, by decide, by decide⟩
theorem q_X1_add_43 : decode M_X1_add.2.1 43 = .ok (.ifCond .lt 16, 3) ∧ 43 + 3 = 46 ∧ ((43 : Nat) : Int) + 16 = ((59 : Nat) : Int) := ⟨by decide +kernel, rfl, rfl⟩
theorem q_X1_add_46 : decode M_X1_add.2.1 46 = .ok (.aload_n 0, 1) ∧ 46 + 1 = 47 := ⟨by decide +kernel, rfl⟩
theorem q_X1_add_47 : decode M_X1_add.2.1 47 = .ok (.aload_n 1, 1) ∧ 47 + 1 = 48 := ⟨by decide +kernel, rfl⟩
theorem q_X1_add_48 : decode M_X1_add.2.1 48 = .ok (.iconst 1, 1) ∧ 48 + 1 = 49 := ⟨by decide +kernel, rfl⟩
theorem q_X1_add_49 : decode M_X1_add.2.1 49 = .ok (.aload_n 0, 1) ∧ 49 + 1 = 50 := ⟨by decide +kernel, rfl⟩
theorem q_X1_add_50 : decode M_X1_add.2.1 50 = .ok (.getfield 34, 3) ∧ 50 + 3 = 53 := ⟨by decide +kernel, rfl⟩
theorem q_X1_add_53 : decode M_X1_add.2.1 53 = .ok (.invokevirtual 78, 3) ∧ 53 + 3 = 56 := ⟨by decide +kernel, rfl⟩
theorem g_X1_add_53 : en_C M_X1_add M_X1_subtractLimbs 78 3 := ⟨⟨by decide +kernel, by decide +kernel, by decide +kernel⟩, ⟨by decide, by decide, by decide +kernel⟩, by decide, by decide⟩
theorem w_X1_subtractLimbs : Cond.instanceMethod M_X1_subtractLimbs.1 ∈ en_tbl ∧ Cond.selects M_X1_subtractLimbs.1.cls M_X1_subtractLimbs.1 M_X1_subtractLimbs.1 ∈ en_tbl := ⟨by decide +kernel, by decide +kernel⟩
theorem q_X1_add_56 : decode M_X1_add.2.1 56 = .ok (.goto 13, 3) ∧ 56 + 3 = 59 ∧ ((56 : Nat) : Int) + 13 = ((69 : Nat) : Int) := ⟨by decide +kernel, rfl, rfl⟩
theorem q_X1_add_59 : decode M_X1_add.2.1 59 = .ok (.aload_n 0, 1) ∧ 59 + 1 = 60 := ⟨by decide +kernel, rfl⟩
theorem q_X1_add_60 : decode M_X1_add.2.1 60 = .ok (.aload_n 1, 1) ∧ 60 + 1 = 61 := ⟨by decide +kernel, rfl⟩
theorem q_X1_add_61 : decode M_X1_add.2.1 61 = .ok (.iconst (-1), 1) ∧ 61 + 1 = 62 := ⟨by decide +kernel, rfl⟩
theorem q_X1_add_62 : decode M_X1_add.2.1 62 = .ok (.aload_n 1, 1) ∧ 62 + 1 = 63 := ⟨by decide +kernel, rfl⟩
theorem q_X1_add_63 : decode M_X1_add.2.1 63 = .ok (.getfield 34, 3) ∧ 63 + 3 = 66 := ⟨by decide +kernel, rfl⟩
theorem q_X1_add_66 : decode M_X1_add.2.1 66 = .ok (.invokevirtual 78, 3) ∧ 66 + 3 = 69 := ⟨by decide +kernel, rfl⟩
theorem g_X1_add_66 : en_C M_X1_add M_X1_subtractLimbs 78 3 := ⟨⟨by decide +kernel, by decide +kernel, by decide +kernel⟩, ⟨by decide, by decide, by decide +kernel⟩, by decide, by decide⟩
theorem q_X1_add_69 : decode M_X1_add.2.1 69 = .ok (.return_, 1) ∧ 69 + 1 = 70 := ⟨by decide +kernel, rfl⟩
theorem q_X1_subtract_0 : decode M_X1_subtract.2.1 0 = .ok (.aload_n 1, 1) ∧ 0 + 1 = 1 := ⟨by decide +kernel, rfl⟩
theorem q_X1_subtract_1 : decode M_X1_subtract.2.1 1 = .ok (.aload_n 0, 1) ∧ 1 + 1 = 2 := ⟨by decide +kernel, rfl⟩
theorem q_X1_subtract_2 : decode M_X1_subtract.2.1 2 = .ok (.if_acmp .ne 8, 3) ∧ 2 + 3 = 5 ∧ ((2 : Nat) : Int) + 8 = ((10 : Nat) : Int) := ⟨by decide +kernel, rfl, rfl⟩
theorem q_X1_subtract_5 : decode M_X1_subtract.2.1 5 = .ok (.aload_n 0, 1) ∧ 5 + 1 = 6 := ⟨by decide +kernel, rfl⟩
theorem q_X1_subtract_6 : decode M_X1_subtract.2.1 6 = .ok (.invokevirtual 47, 3) ∧ 6 + 3 = 9 := ⟨by decide +kernel, rfl⟩
theorem g_X1_subtract_6 : en_C M_X1_subtract M_X1_clear 47 0 := ⟨⟨by decide +kernel, by decide +kernel, by decide +kernel⟩, ⟨by decide, by decide, by decide +kernel⟩, by decide, by decide⟩
theorem q_X1_subtract_9 : decode M_X1_subtract.2.1 9 = .ok (.return_, 1) ∧ 9 + 1 = 10 := ⟨by decide +kernel, rfl⟩
theorem q_X1_subtract_10 : decode M_X1_subtract.2.1 10 = .ok (.aload_n 0, 1) ∧ 10 + 1 = 11 := ⟨by decide +kernel, rfl⟩
theorem q_X1_subtract_11 : decode M_X1_subtract.2.1 11 = .ok (.aload_n 0, 1) ∧ 11 + 1 = 12 := ⟨by decide +kernel, rfl⟩
theorem q_X1_subtract_12 : decode M_X1_subtract.2.1 12 = .ok (.getfield 34, 3) ∧ 12 + 3 = 15 := ⟨by decide +kernel, rfl⟩
theorem q_X1_subtract_15 : decode M_X1_subtract.2.1 15 = .ok (.ineg, 1) ∧ 15 + 1 = 16 := ⟨by decide +kernel, rfl⟩
theorem q_X1_subtract_16 : decode M_X1_subtract.2.1 16 = .ok (.putfield 34, 3) ∧ 16 + 3 = 19 := ⟨by decide +kernel, rfl⟩
theorem q_X1_subtract_19 : decode M_X1_subtract.2.1 19 = .ok (.aload_n 0, 1) ∧ 19 + 1 = 20 := ⟨by decide +kernel, rfl⟩
theorem q_X1_subtract_20 : decode M_X1_subtract.2.1 20 = .ok (.aload_n 1, 1) ∧ 20 + 1 = 21 := ⟨by decide +kernel, rfl⟩
theorem q_X1_subtract_21 : decode M_X1_subtract.2.1 21 = .ok (.invokevirtual 82, 3) ∧ 21 + 3 = 24 := ⟨by decide +kernel, rfl⟩
theorem g_X1_subtract_21 : en_C M_X1_subtract M_X1_add 82 1 := ⟨⟨by decide +kernel, by decide +kernel, by decide +kernel⟩, ⟨by decide, by decide, by decide +kernel⟩, by decide, by decide⟩
theorem w_X1_add : Cond.instanceMethod M_X1_add.1 ∈ en_tbl ∧ Cond.selects M_X1_add.1.cls M_X1_add.1 M_X1_add.1 ∈ en_tbl := ⟨by decide +kernel, by decide +kernel⟩
theorem q_X1_subtract_24 : decode M_X1_subtract.2.1 24 = .ok (.aload_n 0, 1) ∧ 24 + 1 = 25 := ⟨by decide +kernel, rfl⟩
theorem q_X1_subtract_25 : decode M_X1_subtract.2.1 25 = .ok (.aload_n 0, 1) ∧ 25 + 1 = 26 := ⟨by decide +kernel, rfl⟩
theorem q_X1_subtract_26 : decode M_X1_subtract.2.1 26 = .ok (.getfield 34, 3) ∧ 26 + 3 = 29 := ⟨by decide +kernel, rfl⟩
theorem q_X1_subtract_29 : decode M_X1_subtract.2.1 29 = .ok (.ineg, 1) ∧ 29 + 1 = 30 := ⟨by decide +kernel, rfl⟩
theorem q_X1_subtract_30 : decode M_X1_subtract.2.1 30 = .ok (.putfield 34, 3) ∧ 30 + 3 = 33 := ⟨by decide +kernel, rfl⟩
theorem q_X1_subtract_33 : decode M_X1_subtract.2.1 33 = .ok (.return_, 1) ∧ 33 + 1 = 34 := ⟨by decide +kernel, rfl⟩
theorem q_X1_addLimbs_0 : decode M_X1_addLimbs.2.1 0 = .ok (.aload_n 0, 1) ∧ 0 + 1 = 1 := ⟨by decide +kernel, rfl⟩
theorem q_X1_addLimbs_1 : decode M_X1_addLimbs.2.1 1 = .ok (.aload_n 0, 1) ∧ 1 + 1 = 2 := ⟨by decide +kernel, rfl⟩
theorem q_X1_addLimbs_2 : decode M_X1_addLimbs.2.1 2 = .ok (.getfield 15, 3) ∧ 2 + 3 = 5 := ⟨by decide +kernel, rfl⟩
theorem q_X1_addLimbs_5 : decode M_X1_addLimbs.2.1 5 = .ok (.aload_n 1, 1) ∧ 5 + 1 = 6 := ⟨by decide +kernel, rfl⟩
theorem q_X1_addLimbs_6 : decode M_X1_addLimbs.2.1 6 = .ok (.getfield 15, 3) ∧ 6 + 3 = 9 := ⟨by decide +kernel, rfl⟩
theorem q_X1_addLimbs_9 : decode M_X1_addLimbs.2.1 9 = .ok (.invokestatic 19, 3) ∧ 9 + 3 = 12 := ⟨by decide +kernel, rfl⟩
theorem q_X1_addLimbs_12 : decode M_X1_addLimbs.2.1 12 = .ok (.iconst 1, 1) ∧ 12 + 1 = 13 := ⟨by decide +kernel, rfl⟩
theorem q_X1_addLimbs_13 : decode M_X1_addLimbs.2.1 13 = .ok (.iadd, 1) ∧ 13 + 1 = 14 := ⟨by decide +kernel, rfl⟩
theorem q_X1_addLimbs_14 : decode M_X1_addLimbs.2.1 14 = .ok (.invokevirtual 37, 3) ∧ 14 + 3 = 17 := ⟨by decide +kernel, rfl⟩
theorem g_X1_addLimbs_14 : en_C M_X1_addLimbs M_X1_extend 37 1 := ⟨⟨by decide +kernel, by decide +kernel, by decide +kernel⟩, ⟨by decide, by decide, by decide +kernel⟩, by decide, by decide⟩
theorem q_X1_addLimbs_17 : decode M_X1_addLimbs.2.1 17 = .ok (.iconst 0, 1) ∧ 17 + 1 = 18 := ⟨by decide +kernel, rfl⟩
theorem q_X1_addLimbs_18 : decode M_X1_addLimbs.2.1 18 = .ok (.istore_n 3, 1) ∧ 18 + 1 = 19 := ⟨by decide +kernel, rfl⟩
theorem q_X1_addLimbs_19 : decode M_X1_addLimbs.2.1 19 = .ok (.iconst 0, 1) ∧ 19 + 1 = 20 := ⟨by decide +kernel, rfl⟩
theorem q_X1_addLimbs_20 : decode M_X1_addLimbs.2.1 20 = .ok (.istore 4, 2) ∧ 20 + 2 = 22 := ⟨by decide +kernel, rfl⟩
theorem q_X1_addLimbs_22 : decode M_X1_addLimbs.2.1 22 = .ok (.iload 4, 2) ∧ 22 + 2 = 24 := ⟨by decide +kernel, rfl⟩
theorem q_X1_addLimbs_24 : decode M_X1_addLimbs.2.1 24 = .ok (.aload_n 0, 1) ∧ 24 + 1 = 25 := ⟨by decide +kernel, rfl⟩
theorem q_X1_addLimbs_25 : decode M_X1_addLimbs.2.1 25 = .ok (.getfield 15, 3) ∧ 25 + 3 = 28 := ⟨by decide +kernel, rfl⟩
theorem q_X1_addLimbs_28 : decode M_X1_addLimbs.2.1 28 = .ok (.if_icmp .ge 81, 3) ∧ 28 + 3 = 31 ∧ ((28 : Nat) : Int) + 81 = ((109 : Nat) : Int) := ⟨by decide +kernel, rfl, rfl⟩
theorem q_X1_addLimbs_31 : decode M_X1_addLimbs.2.1 31 = .ok (.iload 4, 2) ∧ 31 + 2 = 33 := ⟨by decide +kernel, rfl⟩
theorem q_X1_addLimbs_33 : decode M_X1_addLimbs.2.1 33 = .ok (.aload_n 1, 1) ∧ 33 + 1 = 34 := ⟨by decide +kernel, rfl⟩
theorem q_X1_addLimbs_34 : decode M_X1_addLimbs.2.1 34 = .ok (.getfield 15, 3) ∧ 34 + 3 = 37 := ⟨by decide +kernel, rfl⟩
theorem q_X1_addLimbs_37 : decode M_X1_addLimbs.2.1 37 = .ok (.if_icmp .lt 7, 3) ∧ 37 + 3 = 40 ∧ ((37 : Nat) : Int) + 7 = ((44 : Nat) : Int) := ⟨by decide +kernel, rfl, rfl⟩
theorem q_X1_addLimbs_40 : decode M_X1_addLimbs.2.1 40 = .ok (.iload_n 3, 1) ∧ 40 + 1 = 41 := ⟨by decide +kernel, rfl⟩
theorem q_X1_addLimbs_41 : decode M_X1_addLimbs.2.1 41 = .ok (.ifCond .le 68, 3) ∧ 41 + 3 = 44 ∧ ((41 : Nat) : Int) + 68 = ((109 : Nat) : Int) := ⟨by decide +kernel, rfl, rfl⟩
theorem q_X1_addLimbs_44 : decode M_X1_addLimbs.2.1 44 = .ok (.aload_n 0, 1) ∧ 44 + 1 = 45 := ⟨by decide +kernel, rfl⟩
theorem q_X1_addLimbs_45 : decode M_X1_addLimbs.2.1 45 = .ok (.getfield 11, 3) ∧ 45 + 3 = 48 := ⟨by decide +kernel, rfl⟩
theorem q_X1_addLimbs_48 : decode M_X1_addLimbs.2.1 48 = .ok (.iload 4, 2) ∧ 48 + 2 = 50 := ⟨by decide +kernel, rfl⟩
theorem q_X1_addLimbs_50 : decode M_X1_addLimbs.2.1 50 = .ok (.iaload, 1) ∧ 50 + 1 = 51 := ⟨by decide +kernel, rfl⟩
theorem q_X1_addLimbs_51 : decode M_X1_addLimbs.2.1 51 = .ok (.iload 4, 2) ∧ 51 + 2 = 53 := ⟨by decide +kernel, rfl⟩
theorem q_X1_addLimbs_53 : decode M_X1_addLimbs.2.1 53 = .ok (.aload_n 1, 1) ∧ 53 + 1 = 54 := ⟨by decide +kernel, rfl⟩
theorem q_X1_addLimbs_54 : decode M_X1_addLimbs.2.1 54 = .ok (.getfield 15, 3) ∧ 54 + 3 = 57 := ⟨by decide +kernel, rfl⟩
theorem q_X1_addLimbs_57 : decode M_X1_addLimbs.2.1 57 = .ok (.if_icmp .ge 13, 3) ∧ 57 + 3 = 60 ∧ ((57 : Nat) : Int) + 13 = ((70 : Nat) : Int) := ⟨by decide +kernel, rfl, rfl⟩
theorem q_X1_addLimbs_60 : decode M_X1_addLimbs.2.1 60 = .ok (.aload_n 1, 1) ∧ 60 + 1 = 61 := ⟨by decide +kernel, rfl⟩
theorem q_X1_addLimbs_61 : decode M_X1_addLimbs.2.1 61 = .ok (.getfield 11, 3) ∧ 61 + 3 = 64 := ⟨by decide +kernel, rfl⟩
theorem q_X1_addLimbs_64 : decode M_X1_addLimbs.2.1 64 = .ok (.iload 4, 2) ∧ 64 + 2 = 66 := ⟨by decide +kernel, rfl⟩
theorem q_X1_addLimbs_66 : decode M_X1_addLimbs.2.1 66 = .ok (.iaload, 1) ∧ 66 + 1 = 67 := ⟨by decide +kernel, rfl⟩
theorem q_X1_addLimbs_67 : decode M_X1_addLimbs.2.1 67 = .ok (.goto 4, 3) ∧ 67 + 3 = 70 ∧ ((67 : Nat) : Int) + 4 = ((71 : Nat) : Int) := ⟨by decide +kernel, rfl, rfl⟩
theorem q_X1_addLimbs_70 : decode M_X1_addLimbs.2.1 70 = .ok (.iconst 0, 1) ∧ 70 + 1 = 71 := ⟨by decide +kernel, rfl⟩
theorem q_X1_addLimbs_71 : decode M_X1_addLimbs.2.1 71 = .ok (.iadd, 1) ∧ 71 + 1 = 72 := ⟨by decide +kernel, rfl⟩
theorem q_X1_addLimbs_72 : decode M_X1_addLimbs.2.1 72 = .ok (.iload_n 3, 1) ∧ 72 + 1 = 73 := ⟨by decide +kernel, rfl⟩
theorem q_X1_addLimbs_73 : decode M_X1_addLimbs.2.1 73 = .ok (.iadd, 1) ∧ 73 + 1 = 74 := ⟨by decide +kernel, rfl⟩
theorem q_X1_addLimbs_74 : decode M_X1_addLimbs.2.1 74 = .ok (.istore 5, 2) ∧ 74 + 2 = 76 := ⟨by decide +kernel, rfl⟩
theorem q_X1_addLimbs_76 : decode M_X1_addLimbs.2.1 76 = .ok (.iload 5, 2) ∧ 76 + 2 = 78 := ⟨by decide +kernel, rfl⟩
theorem q_X1_addLimbs_78 : decode M_X1_addLimbs.2.1 78 = .ok (.ldc 86, 2) ∧ 78 + 2 = 80 := ⟨by decide +kernel, rfl⟩
theorem k_RX1_86 : Cond.constant RX1 86 (nI 1000000000) ∈ en_tbl := by decide +kernel
theorem q_X1_addLimbs_80 : decode M_X1_addLimbs.2.1 80 = .ok (.if_icmp .lt 7, 3) ∧ 80 + 3 = 83 ∧ ((80 : Nat) : Int) + 7 = ((87 : Nat) : Int) := ⟨by decide +kernel, rfl, rfl⟩
theorem q_X1_addLimbs_83 : decode M_X1_addLimbs.2.1 83 = .ok (.iconst 1, 1) ∧ 83 + 1 = 84 := ⟨by decide +kernel, rfl⟩
theorem q_X1_addLimbs_84 : decode M_X1_addLimbs.2.1 84 = .ok (.goto 4, 3) ∧ 84 + 3 = 87 ∧ ((84 : Nat) : Int) + 4 = ((88 : Nat) : Int) := ⟨by decide +kernel, rfl, rfl⟩
theorem q_X1_addLimbs_87 : decode M_X1_addLimbs.2.1 87 = .ok (.iconst 0, 1) ∧ 87 + 1 = 88 := ⟨by decide +kernel, rfl⟩
theorem q_X1_addLimbs_88 : decode M_X1_addLimbs.2.1 88 = .ok (.istore_n 3, 1) ∧ 88 + 1 = 89 := ⟨by decide +kernel, rfl⟩
theorem q_X1_addLimbs_89 : decode M_X1_addLimbs.2.1 89 = .ok (.aload_n 0, 1) ∧ 89 + 1 = 90 := ⟨by decide +kernel, rfl⟩
theorem q_X1_addLimbs_90 : decode M_X1_addLimbs.2.1 90 = .ok (.getfield 11, 3) ∧ 90 + 3 = 93 := ⟨by decide +kernel, rfl⟩
theorem q_X1_addLimbs_93 : decode M_X1_addLimbs.2.1 93 = .ok (.iload 4, 2) ∧ 93 + 2 = 95 := ⟨by decide +kernel, rfl⟩
theorem q_X1_addLimbs_95 : decode M_X1_addLimbs.2.1 95 = .ok (.iload 5, 2) ∧ 95 + 2 = 97 := ⟨by decide +kernel, rfl⟩
theorem q_X1_addLimbs_97 : decode M_X1_addLimbs.2.1 97 = .ok (.iload_n 3, 1) ∧ 97 + 1 = 98 := ⟨by decide +kernel, rfl⟩
theorem q_X1_addLimbs_98 : decode M_X1_addLimbs.2.1 98 = .ok (.ldc 86, 2) ∧ 98 + 2 = 100 := ⟨by decide +kernel, rfl⟩
theorem q_X1_addLimbs_100 : decode M_X1_addLimbs.2.1 100 = .ok (.imul, 1) ∧ 100 + 1 = 101 := ⟨by decide +kernel, rfl⟩
theorem q_X1_addLimbs_101 : decode M_X1_addLimbs.2.1 101 = .ok (.isub, 1) ∧ 101 + 1 = 102 := ⟨by decide +kernel, rfl⟩
theorem q_X1_addLimbs_102 : decode M_X1_addLimbs.2.1 102 = .ok (.iastore, 1) ∧ 102 + 1 = 103 := ⟨by decide +kernel, rfl⟩
theorem q_X1_addLimbs_103 : decode M_X1_addLimbs.2.1 103 = .ok (.iinc 4 1, 3) ∧ 103 + 3 = 106 := ⟨by decide +kernel, rfl⟩
theorem q_X1_addLimbs_106 : decode M_X1_addLimbs.2.1 106 = .ok (.goto (-84), 3) ∧ 106 + 3 = 109 ∧ ((106 : Nat) : Int) + (-84) = ((22 : Nat) : Int) := ⟨by decide +kernel, rfl, rfl⟩
theorem q_X1_addLimbs_109 : decode M_X1_addLimbs.2.1 109 = .ok (.aload_n 0, 1) ∧ 109 + 1 = 110 := ⟨by decide +kernel, rfl⟩
theorem q_X1_addLimbs_110 : decode M_X1_addLimbs.2.1 110 = .ok (.iload_n 2, 1) ∧ 110 + 1 = 111 := ⟨by decide +kernel, rfl⟩
theorem q_X1_addLimbs_111 : decode M_X1_addLimbs.2.1 111 = .ok (.invokevirtual 52, 3) ∧ 111 + 3 = 114 := ⟨by decide +kernel, rfl⟩
theorem g_X1_addLimbs_111 : en_C M_X1_addLimbs M_X1_trim 52 1 := ⟨⟨by decide +kernel, by decide +kernel, by decide +kernel⟩, ⟨by decide, by decide, by decide +kernel⟩, by decide, by decide⟩
theorem q_X1_addLimbs_114 : decode M_X1_addLimbs.2.1 114 = .ok (.return_, 1) ∧ 114 + 1 = 115 := ⟨by decide +kernel, rfl⟩
theorem q_X1_subtractLimbs_0 : decode M_X1_subtractLimbs.2.1 0 = .ok (.aload_n 0, 1) ∧ 0 + 1 = 1 := ⟨by decide +kernel, rfl⟩
theorem q_X1_subtractLimbs_1 : decode M_X1_subtractLimbs.2.1 1 = .ok (.aload_n 0, 1) ∧ 1 + 1 = 2 := ⟨by decide +kernel, rfl⟩
theorem q_X1_subtractLimbs_2 : decode M_X1_subtractLimbs.2.1 2 = .ok (.getfield 15, 3) ∧ 2 + 3 = 5 := ⟨by decide +kernel, rfl⟩
theorem q_X1_subtractLimbs_5 : decode M_X1_subtractLimbs.2.1 5 = .ok (.aload_n 1, 1) ∧ 5 + 1 = 6 := ⟨by decide +kernel, rfl⟩
theorem q_X1_subtractLimbs_6 : decode M_X1_subtractLimbs.2.1 6 = .ok (.getfield 15, 3) ∧ 6 + 3 = 9 := ⟨by decide +kernel, rfl⟩
theorem q_X1_subtractLimbs_9 : decode M_X1_subtractLimbs.2.1 9 = .ok (.invokestatic 19, 3) ∧ 9 + 3 = 12 := ⟨by decide +kernel, rfl⟩
theorem q_X1_subtractLimbs_12 : decode M_X1_subtractLimbs.2.1 12 = .ok (.invokevirtual 37, 3) ∧ 12 + 3 = 15 := ⟨by decide +kernel, rfl⟩
theorem g_X1_subtractLimbs_12 : en_C M_X1_subtractLimbs M_X1_extend 37 1 := ⟨⟨by decide +kernel, by decide +kernel, by decide +kernel⟩, ⟨by decide, by decide, by decide +kernel⟩, by decide, by decide⟩
theorem q_X1_subtractLimbs_15 : decode M_X1_subtractLimbs.2.1 15 = .ok (.iconst 0, 1) ∧ 15 + 1 = 16 := ⟨by decide +kernel, rfl⟩
theorem q_X1_subtractLimbs_16 : decode M_X1_subtractLimbs.2.1 16 = .ok (.istore 4, 2) ∧ 16 + 2 = 18 := ⟨by decide +kernel, rfl⟩
theorem q_X1_subtractLimbs_18 : decode M_X1_subtractLimbs.2.1 18 = .ok (.iconst 0, 1) ∧ 18 + 1 = 19 := ⟨by decide +kernel, rfl⟩
theorem q_X1_subtractLimbs_19 : decode M_X1_subtractLimbs.2.1 19 = .ok (.istore 5, 2) ∧ 19 + 2 = 21 := ⟨by decide +kernel, rfl⟩
theorem q_X1_subtractLimbs_21 : decode M_X1_subtractLimbs.2.1 21 = .ok (.iload 5, 2) ∧ 21 + 2 = 23 := ⟨by decide +kernel, rfl⟩
theorem q_X1_subtractLimbs_23 : decode M_X1_subtractLimbs.2.1 23 = .ok (.aload_n 0, 1) ∧ 23 + 1 = 24 := ⟨by decide +kernel, rfl⟩
theorem q_X1_subtractLimbs_24 : decode M_X1_subtractLimbs.2.1 24 = .ok (.getfield 15, 3) ∧ 24 + 3 = 27 := ⟨by decide +kernel, rfl⟩
theorem q_X1_subtractLimbs_27 : decode M_X1_subtractLimbs.2.1 27 = .ok (.if_icmp .ge 75, 3) ∧ 27 + 3 = 30 ∧ ((27 : Nat) : Int) + 75 = ((102 : Nat) : Int) := ⟨by decide +kernel, rfl, rfl⟩
theorem q_X1_subtractLimbs_30 : decode M_X1_subtractLimbs.2.1 30 = .ok (.iload 5, 2) ∧ 30 + 2 = 32 := ⟨by decide +kernel, rfl⟩
theorem q_X1_subtractLimbs_32 : decode M_X1_subtractLimbs.2.1 32 = .ok (.aload_n 1, 1) ∧ 32 + 1 = 33 := ⟨by decide +kernel, rfl⟩
theorem q_X1_subtractLimbs_33 : decode M_X1_subtractLimbs.2.1 33 = .ok (.getfield 15, 3) ∧ 33 + 3 = 36 := ⟨by decide +kernel, rfl⟩
theorem q_X1_subtractLimbs_36 : decode M_X1_subtractLimbs.2.1 36 = .ok (.if_icmp .ge 13, 3) ∧ 36 + 3 = 39 ∧ ((36 : Nat) : Int) + 13 = ((49 : Nat) : Int) := ⟨by decide +kernel, rfl, rfl⟩
theorem q_X1_subtractLimbs_39 : decode M_X1_subtractLimbs.2.1 39 = .ok (.aload_n 1, 1) ∧ 39 + 1 = 40 := ⟨by decide +kernel, rfl⟩
theorem q_X1_subtractLimbs_40 : decode M_X1_subtractLimbs.2.1 40 = .ok (.getfield 11, 3) ∧ 40 + 3 = 43 := ⟨by decide +kernel, rfl⟩
theorem q_X1_subtractLimbs_43 : decode M_X1_subtractLimbs.2.1 43 = .ok (.iload 5, 2) ∧ 43 + 2 = 45 := ⟨by decide +kernel, rfl⟩
theorem q_X1_subtractLimbs_45 : decode M_X1_subtractLimbs.2.1 45 = .ok (.iaload, 1) ∧ 45 + 1 = 46 := ⟨by decide +kernel, rfl⟩
theorem q_X1_subtractLimbs_46 : decode M_X1_subtractLimbs.2.1 46 = .ok (.goto 4, 3) ∧ 46 + 3 = 49 ∧ ((46 : Nat) : Int) + 4 = ((50 : Nat) : Int) := ⟨by decide +kernel, rfl, rfl⟩
theorem q_X1_subtractLimbs_49 : decode M_X1_subtractLimbs.2.1 49 = .ok (.iconst 0, 1) ∧ 49 + 1 = 50 := ⟨by decide +kernel, rfl⟩
theorem q_X1_subtractLimbs_50 : decode M_X1_subtractLimbs.2.1 50 = .ok (.istore 6, 2) ∧ 50 + 2 = 52 := ⟨by decide +kernel, rfl⟩
theorem q_X1_subtractLimbs_52 : decode M_X1_subtractLimbs.2.1 52 = .ok (.iload_n 2, 1) ∧ 52 + 1 = 53 := ⟨by decide +kernel, rfl⟩
theorem q_X1_subtractLimbs_53 : decode M_X1_subtractLimbs.2.1 53 = .ok (.aload_n 0, 1) ∧ 53 + 1 = 54 := ⟨by decide +kernel, rfl⟩
theorem q_X1_subtractLimbs_54 : decode M_X1_subtractLimbs.2.1 54 = .ok (.getfield 11, 3) ∧ 54 + 3 = 57 := ⟨by decide +kernel, rfl⟩
theorem q_X1_subtractLimbs_57 : decode M_X1_subtractLimbs.2.1 57 = .ok (.iload 5, 2) ∧ 57 + 2 = 59 := ⟨by decide +kernel, rfl⟩
theorem q_X1_subtractLimbs_59 : decode M_X1_subtractLimbs.2.1 59 = .ok (.iaload, 1) ∧ 59 + 1 = 60 := ⟨by decide +kernel, rfl⟩
theorem q_X1_subtractLimbs_60 : decode M_X1_subtractLimbs.2.1 60 = .ok (.iload 6, 2) ∧ 60 + 2 = 62 := ⟨by decide +kernel, rfl⟩
theorem q_X1_subtractLimbs_62 : decode M_X1_subtractLimbs.2.1 62 = .ok (.isub, 1) ∧ 62 + 1 = 63 := ⟨by decide +kernel, rfl⟩
theorem q_X1_subtractLimbs_63 : decode M_X1_subtractLimbs.2.1 63 = .ok (.imul, 1) ∧ 63 + 1 = 64 := ⟨by decide +kernel, rfl⟩
theorem q_X1_subtractLimbs_64 : decode M_X1_subtractLimbs.2.1 64 = .ok (.iload 4, 2) ∧ 64 + 2 = 66 := ⟨by decide +kernel, rfl⟩
theorem q_X1_subtractLimbs_66 : decode M_X1_subtractLimbs.2.1 66 = .ok (.isub, 1) ∧ 66 + 1 = 67 := ⟨by decide +kernel, rfl⟩
theorem q_X1_subtractLimbs_67 : decode M_X1_subtractLimbs.2.1 67 = .ok (.istore 7, 2) ∧ 67 + 2 = 69 := ⟨by decide +kernel, rfl⟩
theorem q_X1_subtractLimbs_69 : decode M_X1_subtractLimbs.2.1 69 = .ok (.iload 7, 2) ∧ 69 + 2 = 71 := ⟨by decide +kernel, rfl⟩
theorem q_X1_subtractLimbs_71 : decode M_X1_subtractLimbs.2.1 71 = .ok (.ifCond .ge 7, 3) ∧ 71 + 3 = 74 ∧ ((71 : Nat) : Int) + 7 = ((78 : Nat) : Int) := ⟨by decide +kernel, rfl, rfl⟩
theorem q_X1_subtractLimbs_74 : decode M_X1_subtractLimbs.2.1 74 = .ok (.iconst 1, 1) ∧ 74 + 1 = 75 := ⟨by decide +kernel, rfl⟩
theorem q_X1_subtractLimbs_75 : decode M_X1_subtractLimbs.2.1 75 = .ok (.goto 4, 3) ∧ 75 + 3 = 78 ∧ ((75 : Nat) : Int) + 4 = ((79 : Nat) : Int) := ⟨by decide +kernel, rfl, rfl⟩
theorem q_X1_subtractLimbs_78 : decode M_X1_subtractLimbs.2.1 78 = .ok (.iconst 0, 1) ∧ 78 + 1 = 79 := ⟨by decide +kernel, rfl⟩
theorem q_X1_subtractLimbs_79 : decode M_X1_subtractLimbs.2.1 79 = .ok (.istore 4, 2) ∧ 79 + 2 = 81 := ⟨by decide +kernel, rfl⟩
theorem q_X1_subtractLimbs_81 : decode M_X1_subtractLimbs.2.1 81 = .ok (.aload_n 0, 1) ∧ 81 + 1 = 82 := ⟨by decide +kernel, rfl⟩
theorem q_X1_subtractLimbs_82 : decode M_X1_subtractLimbs.2.1 82 = .ok (.getfield 11, 3) ∧ 82 + 3 = 85 := ⟨by decide +kernel, rfl⟩
theorem q_X1_subtractLimbs_85 : decode M_X1_subtractLimbs.2.1 85 = .ok (.iload 5, 2) ∧ 85 + 2 = 87 := ⟨by decide +kernel, rfl⟩
theorem q_X1_subtractLimbs_87 : decode M_X1_subtractLimbs.2.1 87 = .ok (.iload 7, 2) ∧ 87 + 2 = 89 := ⟨by decide +kernel, rfl⟩
theorem q_X1_subtractLimbs_89 : decode M_X1_subtractLimbs.2.1 89 = .ok (.iload 4, 2) ∧ 89 + 2 = 91 := ⟨by decide +kernel, rfl⟩
theorem q_X1_subtractLimbs_91 : decode M_X1_subtractLimbs.2.1 91 = .ok (.ldc 86, 2) ∧ 91 + 2 = 93 := ⟨by decide +kernel, rfl⟩
theorem q_X1_subtractLimbs_93 : decode M_X1_subtractLimbs.2.1 93 = .ok (.imul, 1) ∧ 93 + 1 = 94 := ⟨by decide +kernel, rfl⟩
theorem q_X1_subtractLimbs_94 : decode M_X1_subtractLimbs.2.1 94 = .ok (.iadd, 1) ∧ 94 + 1 = 95 := ⟨by decide +kernel, rfl⟩
theorem q_X1_subtractLimbs_95 : decode M_X1_subtractLimbs.2.1 95 = .ok (.iastore, 1) ∧ 95 + 1 = 96 := ⟨by decide +kernel, rfl⟩
theorem q_X1_subtractLimbs_96 : decode M_X1_subtractLimbs.2.1 96 = .ok (.iinc 5 1, 3) ∧ 96 + 3 = 99 := ⟨by decide +kernel, rfl⟩
theorem q_X1_subtractLimbs_99 : decode M_X1_subtractLimbs.2.1 99 = .ok (.goto (-78), 3) ∧ 99 + 3 = 102 ∧ ((99 : Nat) : Int) + (-78) = ((21 : Nat) : Int) := ⟨by decide +kernel, rfl, rfl⟩
theorem q_X1_subtractLimbs_102 : decode M_X1_subtractLimbs.2.1 102 = .ok (.aload_n 0, 1) ∧ 102 + 1 = 103 := ⟨by decide +kernel, rfl⟩
theorem q_X1_subtractLimbs_103 : decode M_X1_subtractLimbs.2.1 103 = .ok (.iload_n 3, 1) ∧ 103 + 1 = 104 := ⟨by decide +kernel, rfl⟩
theorem q_X1_subtractLimbs_104 : decode M_X1_subtractLimbs.2.1 104 = .ok (.invokevirtual 52, 3) ∧ 104 + 3 = 107 := ⟨by decide +kernel, rfl⟩
theorem g_X1_subtractLimbs_104 : en_C M_X1_subtractLimbs M_X1_trim 52 1 := ⟨⟨by decide +kernel, by decide +kernel, by decide +kernel⟩, ⟨by decide, by decide, by decide +kernel⟩, by decide, by decide⟩
theorem q_X1_subtractLimbs_107 : decode M_X1_subtractLimbs.2.1 107 = .ok (.return_, 1) ∧ 107 + 1 = 108 := ⟨by decide +kernel, rfl⟩
theorem q_X1_multiplySmall_0 : decode M_X1_multiplySmall.2.1 0 = .ok (.aload_n 0, 1) ∧ 0 + 1 = 1 := ⟨by decide +kernel, rfl⟩
theorem q_X1_multiplySmall_1 : decode M_X1_multiplySmall.2.1 1 = .ok (.aload_n 0, 1) ∧ 1 + 1 = 2 := ⟨by decide +kernel, rfl⟩
theorem q_X1_multiplySmall_2 : decode M_X1_multiplySmall.2.1 2 = .ok (.getfield 15, 3) ∧ 2 + 3 = 5 := ⟨by decide +kernel, rfl⟩
theorem q_X1_multiplySmall_5 : decode M_X1_multiplySmall.2.1 5 = .ok (.iconst 1, 1) ∧ 5 + 1 = 6 := ⟨by decide +kernel, rfl⟩
theorem q_X1_multiplySmall_6 : decode M_X1_multiplySmall.2.1 6 = .ok (.iadd, 1) ∧ 6 + 1 = 7 := ⟨by decide +kernel, rfl⟩
theorem q_X1_multiplySmall_7 : decode M_X1_multiplySmall.2.1 7 = .ok (.invokevirtual 37, 3) ∧ 7 + 3 = 10 := ⟨by decide +kernel, rfl⟩
theorem g_X1_multiplySmall_7 : en_C M_X1_multiplySmall M_X1_extend 37 1 := ⟨⟨by decide +kernel, by decide +kernel, by decide +kernel⟩, ⟨by decide, by decide, by decide +kernel⟩, by decide, by decide⟩
theorem q_X1_multiplySmall_10 : decode M_X1_multiplySmall.2.1 10 = .ok (.aload_n 0, 1) ∧ 10 + 1 = 11 := ⟨by decide +kernel, rfl⟩
theorem q_X1_multiplySmall_11 : decode M_X1_multiplySmall.2.1 11 = .ok (.lload_n 1, 1) ∧ 11 + 1 = 12 := ⟨by decide +kernel, rfl⟩
theorem q_X1_multiplySmall_12 : decode M_X1_multiplySmall.2.1 12 = .ok (.invokevirtual 87, 3) ∧ 12 + 3 = 15 := ⟨by decide +kernel, rfl⟩
theorem g_X1_multiplySmall_12 : en_C M_X1_multiplySmall M_X1_multiplyLimbs 87 1 := ⟨⟨by decide +kernel, by decide +kernel, by decide +kernel⟩, ⟨by decide, by decide, by decide +kernel⟩, by decide, by decide⟩
theorem w_X1_multiplyLimbs : Cond.instanceMethod M_X1_multiplyLimbs.1 ∈ en_tbl ∧ Cond.selects M_X1_multiplyLimbs.1.cls M_X1_multiplyLimbs.1 M_X1_multiplyLimbs.1 ∈ en_tbl := ⟨by decide +kernel, by decide +kernel⟩
theorem q_X1_multiplySmall_15 : decode M_X1_multiplySmall.2.1 15 = .ok (.aload_n 0, 1) ∧ 15 + 1 = 16 := ⟨by decide +kernel, rfl⟩
theorem q_X1_multiplySmall_16 : decode M_X1_multiplySmall.2.1 16 = .ok (.aload_n 0, 1) ∧ 16 + 1 = 17 := ⟨by decide +kernel, rfl⟩
theorem q_X1_multiplySmall_17 : decode M_X1_multiplySmall.2.1 17 = .ok (.getfield 34, 3) ∧ 17 + 3 = 20 := ⟨by decide +kernel, rfl⟩
theorem q_X1_multiplySmall_20 : decode M_X1_multiplySmall.2.1 20 = .ok (.invokevirtual 52, 3) ∧ 20 + 3 = 23 := ⟨by decide +kernel, rfl⟩
theorem g_X1_multiplySmall_20 : en_C M_X1_multiplySmall M_X1_trim 52 1 := ⟨⟨by decide +kernel, by decide +kernel, by decide +kernel⟩, ⟨by decide, by decide, by decide +kernel⟩, by decide, by decide⟩
theorem q_X1_multiplySmall_23 : decode M_X1_multiplySmall.2.1 23 = .ok (.return_, 1) ∧ 23 + 1 = 24 := ⟨by decide +kernel, rfl⟩
theorem q_X1_multiplyLimbs_0 : decode M_X1_multiplyLimbs.2.1 0 = .ok (.lconst 0, 1) ∧ 0 + 1 = 1 := ⟨by decide +kernel, rfl⟩
theorem q_X1_multiplyLimbs_1 : decode M_X1_multiplyLimbs.2.1 1 = .ok (.lstore_n 3, 1) ∧ 1 + 1 = 2 := ⟨by decide +kernel, rfl⟩
theorem q_X1_multiplyLimbs_2 : decode M_X1_multiplyLimbs.2.1 2 = .ok (.iconst 0, 1) ∧ 2 + 1 = 3 := ⟨by decide +kernel, rfl⟩
theorem q_X1_multiplyLimbs_3 : decode M_X1_multiplyLimbs.2.1 3 = .ok (.istore 5, 2) ∧ 3 + 2 = 5 := ⟨by decide +kernel, rfl⟩
theorem q_X1_multiplyLimbs_5 : decode M_X1_multiplyLimbs.2.1 5 = .ok (.iload 5, 2) ∧ 5 + 2 = 7 := ⟨by decide +kernel, rfl⟩
theorem q_X1_multiplyLimbs_7 : decode M_X1_multiplyLimbs.2.1 7 = .ok (.aload_n 0, 1) ∧ 7 + 1 = 8 := ⟨by decide +kernel, rfl⟩
theorem q_X1_multiplyLimbs_8 : decode M_X1_multiplyLimbs.2.1 8 = .ok (.getfield 15, 3) ∧ 8 + 3 = 11 := ⟨by decide +kernel, rfl⟩
theorem q_X1_multiplyLimbs_11 : decode M_X1_multiplyLimbs.2.1 11 = .ok (.if_icmp .ge 46, 3) ∧ 11 + 3 = 14 ∧ ((11 : Nat) : Int) + 46 = ((57 : Nat) : Int) := ⟨by decide +kernel, rfl, rfl⟩
theorem q_X1_multiplyLimbs_14 : decode M_X1_multiplyLimbs.2.1 14 = .ok (.aload_n 0, 1) ∧ 14 + 1 = 15 := ⟨by decide +kernel, rfl⟩
theorem q_X1_multiplyLimbs_15 : decode M_X1_multiplyLimbs.2.1 15 = .ok (.getfield 11, 3) ∧ 15 + 3 = 18 := ⟨by decide +kernel, rfl⟩
theorem q_X1_multiplyLimbs_18 : decode M_X1_multiplyLimbs.2.1 18 = .ok (.iload 5, 2) ∧ 18 + 2 = 20 := ⟨by decide +kernel, rfl⟩
theorem q_X1_multiplyLimbs_20 : decode M_X1_multiplyLimbs.2.1 20 = .ok (.iaload, 1) ∧ 20 + 1 = 21 := ⟨by decide +kernel, rfl⟩
theorem q_X1_multiplyLimbs_21 : decode M_X1_multiplyLimbs.2.1 21 = .ok (.i2l, 1) ∧ 21 + 1 = 22 := ⟨by decide +kernel, rfl⟩
theorem q_X1_multiplyLimbs_22 : decode M_X1_multiplyLimbs.2.1 22 = .ok (.lload_n 1, 1) ∧ 22 + 1 = 23 := ⟨by decide +kernel, rfl⟩
theorem q_X1_multiplyLimbs_23 : decode M_X1_multiplyLimbs.2.1 23 = .ok (.lmul, 1) ∧ 23 + 1 = 24 := ⟨by decide +kernel, rfl⟩
theorem q_X1_multiplyLimbs_24 : decode M_X1_multiplyLimbs.2.1 24 = .ok (.lload_n 3, 1) ∧ 24 + 1 = 25 := ⟨by decide +kernel, rfl⟩
theorem q_X1_multiplyLimbs_25 : decode M_X1_multiplyLimbs.2.1 25 = .ok (.ladd, 1) ∧ 25 + 1 = 26 := ⟨by decide +kernel, rfl⟩
theorem q_X1_multiplyLimbs_26 : decode M_X1_multiplyLimbs.2.1 26 = .ok (.lstore 6, 2) ∧ 26 + 2 = 28 := ⟨by decide +kernel, rfl⟩
theorem q_X1_multiplyLimbs_28 : decode M_X1_multiplyLimbs.2.1 28 = .ok (.lload 6, 2) ∧ 28 + 2 = 30 := ⟨by decide +kernel, rfl⟩
theorem q_X1_multiplyLimbs_30 : decode M_X1_multiplyLimbs.2.1 30 = .ok (.ldc2_w 50, 3) ∧ 30 + 3 = 33 := ⟨by decide +kernel, rfl⟩
theorem q_X1_multiplyLimbs_33 : decode M_X1_multiplyLimbs.2.1 33 = .ok (.ldiv, 1) ∧ 33 + 1 = 34 := ⟨by decide +kernel, rfl⟩
theorem q_X1_multiplyLimbs_34 : decode M_X1_multiplyLimbs.2.1 34 = .ok (.lstore_n 3, 1) ∧ 34 + 1 = 35 := ⟨by decide +kernel, rfl⟩
theorem q_X1_multiplyLimbs_35 : decode M_X1_multiplyLimbs.2.1 35 = .ok (.aload_n 0, 1) ∧ 35 + 1 = 36 := ⟨by decide +kernel, rfl⟩
theorem q_X1_multiplyLimbs_36 : decode M_X1_multiplyLimbs.2.1 36 = .ok (.getfield 11, 3) ∧ 36 + 3 = 39 := ⟨by decide +kernel, rfl⟩
theorem q_X1_multiplyLimbs_39 : decode M_X1_multiplyLimbs.2.1 39 = .ok (.iload 5, 2) ∧ 39 + 2 = 41 := ⟨by decide +kernel, rfl⟩
theorem q_X1_multiplyLimbs_41 : decode M_X1_multiplyLimbs.2.1 41 = .ok (.lload 6, 2) ∧ 41 + 2 = 43 := ⟨by decide +kernel, rfl⟩
theorem q_X1_multiplyLimbs_43 : decode M_X1_multiplyLimbs.2.1 43 = .ok (.lload_n 3, 1) ∧ 43 + 1 = 44 := ⟨by decide +kernel, rfl⟩
theorem q_X1_multiplyLimbs_44 : decode M_X1_multiplyLimbs.2.1 44 = .ok (.ldc2_w 50, 3) ∧ 44 + 3 = 47 := ⟨by decide +kernel, rfl⟩
theorem q_X1_multiplyLimbs_47 : decode M_X1_multiplyLimbs.2.1 47 = .ok (.lmul, 1) ∧ 47 + 1 = 48 := ⟨by decide +kernel, rfl⟩
theorem q_X1_multiplyLimbs_48 : decode M_X1_multiplyLimbs.2.1 48 = .ok (.lsub, 1) ∧ 48 + 1 = 49 := ⟨by decide +kernel, rfl⟩
theorem q_X1_multiplyLimbs_49 : decode M_X1_multiplyLimbs.2.1 49 = .ok (.l2i, 1) ∧ 49 + 1 = 50 := ⟨by decide +kernel, rfl⟩
theorem q_X1_multiplyLimbs_50 : decode M_X1_multiplyLimbs.2.1 50 = .ok (.iastore, 1) ∧ 50 + 1 = 51 := ⟨by decide +kernel, rfl⟩
theorem q_X1_multiplyLimbs_51 : decode M_X1_multiplyLimbs.2.1 51 = .ok (.iinc 5 1, 3) ∧ 51 + 3 = 54 := ⟨by decide +kernel, rfl⟩
theorem q_X1_multiplyLimbs_54 : decode M_X1_multiplyLimbs.2.1 54 = .ok (.goto (-49), 3) ∧ 54 + 3 = 57 ∧ ((54 : Nat) : Int) + (-49) = ((5 : Nat) : Int) := ⟨by decide +kernel, rfl, rfl⟩
theorem q_X1_multiplyLimbs_57 : decode M_X1_multiplyLimbs.2.1 57 = .ok (.return_, 1) ∧ 57 + 1 = 58 := ⟨by decide +kernel, rfl⟩
theorem q_X1_divideSmall_0 : decode M_X1_divideSmall.2.1 0 = .ok (.lload_n 1, 1) ∧ 0 + 1 = 1 := ⟨by decide +kernel, rfl⟩
theorem q_X1_divideSmall_1 : decode M_X1_divideSmall.2.1 1 = .ok (.lconst 1, 1) ∧ 1 + 1 = 2 := ⟨by decide +kernel, rfl⟩
theorem q_X1_divideSmall_2 : decode M_X1_divideSmall.2.1 2 = .ok (.lcmp, 1) ∧ 2 + 1 = 3 := ⟨by decide +kernel, rfl⟩
theorem q_X1_divideSmall_3 : decode M_X1_divideSmall.2.1 3 = .ok (.ifCond .ge 5, 3) ∧ 3 + 3 = 6 ∧ ((3 : Nat) : Int) + 5 = ((8 : Nat) : Int) := ⟨by decide +kernel, rfl, rfl⟩
theorem q_X1_divideSmall_6 : decode M_X1_divideSmall.2.1 6 = .ok (.lconst 0, 1) ∧ 6 + 1 = 7 := ⟨by decide +kernel, rfl⟩
theorem q_X1_divideSmall_7 : decode M_X1_divideSmall.2.1 7 = .ok (.lreturn, 1) ∧ 7 + 1 = 8 := ⟨by decide +kernel, rfl⟩
theorem q_X1_divideSmall_8 : decode M_X1_divideSmall.2.1 8 = .ok (.lconst 0, 1) ∧ 8 + 1 = 9 := ⟨by decide +kernel, rfl⟩
theorem q_X1_divideSmall_9 : decode M_X1_divideSmall.2.1 9 = .ok (.lstore_n 3, 1) ∧ 9 + 1 = 10 := ⟨by decide +kernel, rfl⟩
theorem q_X1_divideSmall_10 : decode M_X1_divideSmall.2.1 10 = .ok (.aload_n 0, 1) ∧ 10 + 1 = 11 := ⟨by decide +kernel, rfl⟩
theorem q_X1_divideSmall_11 : decode M_X1_divideSmall.2.1 11 = .ok (.getfield 15, 3) ∧ 11 + 3 = 14 := ⟨by decide +kernel, rfl⟩
theorem q_X1_divideSmall_14 : decode M_X1_divideSmall.2.1 14 = .ok (.iconst 1, 1) ∧ 14 + 1 = 15 := ⟨by decide +kernel, rfl⟩
theorem q_X1_divideSmall_15 : decode M_X1_divideSmall.2.1 15 = .ok (.isub, 1) ∧ 15 + 1 = 16 := ⟨by decide +kernel, rfl⟩
theorem q_X1_divideSmall_16 : decode M_X1_divideSmall.2.1 16 = .ok (.istore 5, 2) ∧ 16 + 2 = 18 := ⟨by decide +kernel, rfl⟩
theorem q_X1_divideSmall_18 : decode M_X1_divideSmall.2.1 18 = .ok (.iload 5, 2) ∧ 18 + 2 = 20 := ⟨by decide +kernel, rfl⟩
theorem q_X1_divideSmall_20 : decode M_X1_divideSmall.2.1 20 = .ok (.ifCond .lt 49, 3) ∧ 20 + 3 = 23 ∧ ((20 : Nat) : Int) + 49 = ((69 : Nat) : Int) := ⟨by decide +kernel, rfl, rfl⟩
theorem q_X1_divideSmall_23 : decode M_X1_divideSmall.2.1 23 = .ok (.lload_n 3, 1) ∧ 23 + 1 = 24 := ⟨by decide +kernel, rfl⟩
theorem q_X1_divideSmall_24 : decode M_X1_divideSmall.2.1 24 = .ok (.ldc2_w 50, 3) ∧ 24 + 3 = 27 := ⟨by decide +kernel, rfl⟩
theorem q_X1_divideSmall_27 : decode M_X1_divideSmall.2.1 27 = .ok (.lmul, 1) ∧ 27 + 1 = 28 := ⟨by decide +kernel, rfl⟩
theorem q_X1_divideSmall_28 : decode M_X1_divideSmall.2.1 28 = .ok (.aload_n 0, 1) ∧ 28 + 1 = 29 := ⟨by decide +kernel, rfl⟩
theorem q_X1_divideSmall_29 : decode M_X1_divideSmall.2.1 29 = .ok (.getfield 11, 3) ∧ 29 + 3 = 32 := ⟨by decide +kernel, rfl⟩
theorem q_X1_divideSmall_32 : decode M_X1_divideSmall.2.1 32 = .ok (.iload 5, 2) ∧ 32 + 2 = 34 := ⟨by decide +kernel, rfl⟩
theorem q_X1_divideSmall_34 : decode M_X1_divideSmall.2.1 34 = .ok (.iaload, 1) ∧ 34 + 1 = 35 := ⟨by decide +kernel, rfl⟩
theorem q_X1_divideSmall_35 : decode M_X1_divideSmall.2.1 35 = .ok (.i2l, 1) ∧ 35 + 1 = 36 := ⟨by decide +kernel, rfl⟩
theorem q_X1_divideSmall_36 : decode M_X1_divideSmall.2.1 36 = .ok (.ladd, 1) ∧ 36 + 1 = 37 := ⟨by decide +kernel, rfl⟩
theorem q_X1_divideSmall_37 : decode M_X1_divideSmall.2.1 37 = .ok (.lstore 6, 2) ∧ 37 + 2 = 39 := ⟨by decide +kernel, rfl⟩
theorem q_X1_divideSmall_39 : decode M_X1_divideSmall.2.1 39 = .ok (.lload 6, 2) ∧ 39 + 2 = 41 := ⟨by decide +kernel, rfl⟩
theorem q_X1_divideSmall_41 : decode M_X1_divideSmall.2.1 41 = .ok (.lload_n 1, 1) ∧ 41 + 1 = 42 := ⟨by decide +kernel, rfl⟩
theorem q_X1_divideSmall_42 : decode M_X1_divideSmall.2.1 42 = .ok (.ldiv, 1) ∧ 42 + 1 = 43 := ⟨by decide +kernel, rfl⟩
theorem q_X1_divideSmall_43 : decode M_X1_divideSmall.2.1 43 = .ok (.lstore 8, 2) ∧ 43 + 2 = 45 := ⟨by decide +kernel, rfl⟩
theorem q_X1_divideSmall_45 : decode M_X1_divideSmall.2.1 45 = .ok (.aload_n 0, 1) ∧ 45 + 1 = 46 := ⟨by decide +kernel, rfl⟩
theorem q_X1_divideSmall_46 : decode M_X1_divideSmall.2.1 46 = .ok (.getfield 11, 3) ∧ 46 + 3 = 49 := ⟨by decide +kernel, rfl⟩
theorem q_X1_divideSmall_49 : decode M_X1_divideSmall.2.1 49 = .ok (.iload 5, 2) ∧ 49 + 2 = 51 := ⟨by decide +kernel, rfl⟩
theorem q_X1_divideSmall_51 : decode M_X1_divideSmall.2.1 51 = .ok (.lload 8, 2) ∧ 51 + 2 = 53 := ⟨by decide +kernel, rfl⟩
theorem q_X1_divideSmall_53 : decode M_X1_divideSmall.2.1 53 = .ok (.l2i, 1) ∧ 53 + 1 = 54 := ⟨by decide +kernel, rfl⟩
theorem q_X1_divideSmall_54 : decode M_X1_divideSmall.2.1 54 = .ok (.iastore, 1) ∧ 54 + 1 = 55 := ⟨by decide +kernel, rfl⟩
theorem q_X1_divideSmall_55 : decode M_X1_divideSmall.2.1 55 = .ok (.lload 6, 2) ∧ 55 + 2 = 57 := ⟨by decide +kernel, rfl⟩
theorem q_X1_divideSmall_57 : decode M_X1_divideSmall.2.1 57 = .ok (.lload 8, 2) ∧ 57 + 2 = 59 := ⟨by decide +kernel, rfl⟩
theorem q_X1_divideSmall_59 : decode M_X1_divideSmall.2.1 59 = .ok (.lload_n 1, 1) ∧ 59 + 1 = 60 := ⟨by decide +kernel, rfl⟩
theorem q_X1_divideSmall_60 : decode M_X1_divideSmall.2.1 60 = .ok (.lmul, 1) ∧ 60 + 1 = 61 := ⟨by decide +kernel, rfl⟩
theorem q_X1_divideSmall_61 : decode M_X1_divideSmall.2.1 61 = .ok (.lsub, 1) ∧ 61 + 1 = 62 := ⟨by decide +kernel, rfl⟩
theorem q_X1_divideSmall_62 : decode M_X1_divideSmall.2.1 62 = .ok (.lstore_n 3, 1) ∧ 62 + 1 = 63 := ⟨by decide +kernel, rfl⟩
theorem q_X1_divideSmall_63 : decode M_X1_divideSmall.2.1 63 = .ok (.iinc 5 (-1), 3) ∧ 63 + 3 = 66 := ⟨by decide +kernel, rfl⟩
theorem q_X1_divideSmall_66 : decode M_X1_divideSmall.2.1 66 = .ok (.goto (-48), 3) ∧ 66 + 3 = 69 ∧ ((66 : Nat) : Int) + (-48) = ((18 : Nat) : Int) := ⟨by decide +kernel, rfl, rfl⟩
theorem q_X1_divideSmall_69 : decode M_X1_divideSmall.2.1 69 = .ok (.aload_n 0, 1) ∧ 69 + 1 = 70 := ⟨by decide +kernel, rfl⟩
theorem q_X1_divideSmall_70 : decode M_X1_divideSmall.2.1 70 = .ok (.aload_n 0, 1) ∧ 70 + 1 = 71 := ⟨by decide +kernel, rfl⟩
theorem q_X1_divideSmall_71 : decode M_X1_divideSmall.2.1 71 = .ok (.getfield 34, 3) ∧ 71 + 3 = 74 := ⟨by decide +kernel, rfl⟩
theorem q_X1_divideSmall_74 : decode M_X1_divideSmall.2.1 74 = .ok (.invokevirtual 52, 3) ∧ 74 + 3 = 77 := ⟨by decide +kernel, rfl⟩
theorem g_X1_divideSmall_74 : en_C M_X1_divideSmall M_X1_trim 52 1 := ⟨⟨by decide +kernel, by decide +kernel, by decide +kernel⟩, ⟨by decide, by decide, by decide +kernel⟩, by decide, by decide⟩
theorem q_X1_divideSmall_77 : decode M_X1_divideSmall.2.1 77 = .ok (.lload_n 3, 1) ∧ 77 + 1 = 78 := ⟨by decide +kernel, rfl⟩
theorem q_X1_divideSmall_78 : decode M_X1_divideSmall.2.1 78 = .ok (.lreturn, 1) ∧ 78 + 1 = 79 := ⟨by decide +kernel, rfl⟩
theorem q_X1_setProduct_0 : decode M_X1_setProduct.2.1 0 = .ok (.aload_n 0, 1) ∧ 0 + 1 = 1 := ⟨by decide +kernel, rfl⟩
theorem q_X1_setProduct_1 : decode M_X1_setProduct.2.1 1 = .ok (.invokevirtual 47, 3) ∧ 1 + 3 = 4 := ⟨by decide +kernel, rfl⟩
theorem g_X1_setProduct_1 : en_C M_X1_setProduct M_X1_clear 47 0 := ⟨⟨by decide +kernel, by decide +kernel, by decide +kernel⟩, ⟨by decide, by decide, by decide +kernel⟩, by decide, by decide⟩
theorem q_X1_setProduct_4 : decode M_X1_setProduct.2.1 4 = .ok (.aload_n 0, 1) ∧ 4 + 1 = 5 := ⟨by decide +kernel, rfl⟩
theorem q_X1_setProduct_5 : decode M_X1_setProduct.2.1 5 = .ok (.aload_n 1, 1) ∧ 5 + 1 = 6 := ⟨by decide +kernel, rfl⟩
theorem q_X1_setProduct_6 : decode M_X1_setProduct.2.1 6 = .ok (.getfield 15, 3) ∧ 6 + 3 = 9 := ⟨by decide +kernel, rfl⟩
theorem q_X1_setProduct_9 : decode M_X1_setProduct.2.1 9 = .ok (.aload_n 2, 1) ∧ 9 + 1 = 10 := ⟨by decide +kernel, rfl⟩
theorem q_X1_setProduct_10 : decode M_X1_setProduct.2.1 10 = .ok (.getfield 15, 3) ∧ 10 + 3 = 13 := ⟨by decide +kernel, rfl⟩
theorem q_X1_setProduct_13 : decode M_X1_setProduct.2.1 13 = .ok (.iadd, 1) ∧ 13 + 1 = 14 := ⟨by decide +kernel, rfl⟩
theorem q_X1_setProduct_14 : decode M_X1_setProduct.2.1 14 = .ok (.invokevirtual 37, 3) ∧ 14 + 3 = 17 := ⟨by decide +kernel, rfl⟩
theorem g_X1_setProduct_14 : en_C M_X1_setProduct M_X1_extend 37 1 := ⟨⟨by decide +kernel, by decide +kernel, by decide +kernel⟩, ⟨by decide, by decide, by decide +kernel⟩, by decide, by decide⟩
theorem q_X1_setProduct_17 : decode M_X1_setProduct.2.1 17 = .ok (.iconst 0, 1) ∧ 17 + 1 = 18 := ⟨by decide +kernel, rfl⟩
theorem q_X1_setProduct_18 : decode M_X1_setProduct.2.1 18 = .ok (.istore_n 3, 1) ∧ 18 + 1 = 19 := ⟨by decide +kernel, rfl⟩
theorem q_X1_setProduct_19 : decode M_X1_setProduct.2.1 19 = .ok (.iload_n 3, 1) ∧ 19 + 1 = 20 := ⟨by decide +kernel, rfl⟩
theorem q_X1_setProduct_20 : decode M_X1_setProduct.2.1 20 = .ok (.aload_n 1, 1) ∧ 20 + 1 = 21 := ⟨by decide +kernel, rfl⟩
theorem q_X1_setProduct_21 : decode M_X1_setProduct.2.1 21 = .ok (.getfield 15, 3) ∧ 21 + 3 = 24 := ⟨by decide +kernel, rfl⟩
theorem q_X1_setProduct_24 : decode M_X1_setProduct.2.1 24 = .ok (.if_icmp .ge 114, 3) ∧ 24 + 3 = 27 ∧ ((24 : Nat) : Int) + 114 = ((138 : Nat) : Int) := ⟨by decide +kernel, rfl, rfl⟩
theorem q_X1_setProduct_27 : decode M_X1_setProduct.2.1 27 = .ok (.aload_n 1, 1) ∧ 27 + 1 = 28 := ⟨by decide +kernel, rfl⟩
theorem q_X1_setProduct_28 : decode M_X1_setProduct.2.1 28 = .ok (.getfield 11, 3) ∧ 28 + 3 = 31 := ⟨by decide +kernel, rfl⟩
theorem q_X1_setProduct_31 : decode M_X1_setProduct.2.1 31 = .ok (.iload_n 3, 1) ∧ 31 + 1 = 32 := ⟨by decide +kernel, rfl⟩
theorem q_X1_setProduct_32 : decode M_X1_setProduct.2.1 32 = .ok (.iaload, 1) ∧ 32 + 1 = 33 := ⟨by decide +kernel, rfl⟩
theorem q_X1_setProduct_33 : decode M_X1_setProduct.2.1 33 = .ok (.i2l, 1) ∧ 33 + 1 = 34 := ⟨by decide +kernel, rfl⟩
theorem q_X1_setProduct_34 : decode M_X1_setProduct.2.1 34 = .ok (.lstore 4, 2) ∧ 34 + 2 = 36 := ⟨by decide +kernel, rfl⟩
theorem q_X1_setProduct_36 : decode M_X1_setProduct.2.1 36 = .ok (.lconst 0, 1) ∧ 36 + 1 = 37 := ⟨by decide +kernel, rfl⟩
theorem q_X1_setProduct_37 : decode M_X1_setProduct.2.1 37 = .ok (.lstore 6, 2) ∧ 37 + 2 = 39 := ⟨by decide +kernel, rfl⟩
theorem q_X1_setProduct_39 : decode M_X1_setProduct.2.1 39 = .ok (.iconst 0, 1) ∧ 39 + 1 = 40 := ⟨by decide +kernel, rfl⟩
theorem q_X1_setProduct_40 : decode M_X1_setProduct.2.1 40 = .ok (.istore 8, 2) ∧ 40 + 2 = 42 := ⟨by decide +kernel, rfl⟩
theorem q_X1_setProduct_42 : decode M_X1_setProduct.2.1 42 = .ok (.iload 8, 2) ∧ 42 + 2 = 44 := ⟨by decide +kernel, rfl⟩
theorem q_X1_setProduct_44 : decode M_X1_setProduct.2.1 44 = .ok (.aload_n 2, 1) ∧ 44 + 1 = 45 := ⟨by decide +kernel, rfl⟩
theorem q_X1_setProduct_45 : decode M_X1_setProduct.2.1 45 = .ok (.getfield 15, 3) ∧ 45 + 3 = 48 := ⟨by decide +kernel, rfl⟩
theorem q_X1_setProduct_48 : decode M_X1_setProduct.2.1 48 = .ok (.if_icmp .ge 70, 3) ∧ 48 + 3 = 51 ∧ ((48 : Nat) : Int) + 70 = ((118 : Nat) : Int) := ⟨by decide +kernel, rfl, rfl⟩
theorem q_X1_setProduct_51 : decode M_X1_setProduct.2.1 51 = .ok (.lload 4, 2) ∧ 51 + 2 = 53 := ⟨by decide +kernel, rfl⟩
theorem q_X1_setProduct_53 : decode M_X1_setProduct.2.1 53 = .ok (.lconst 0, 1) ∧ 53 + 1 = 54 := ⟨by decide +kernel, rfl⟩
theorem q_X1_setProduct_54 : decode M_X1_setProduct.2.1 54 = .ok (.lcmp, 1) ∧ 54 + 1 = 55 := ⟨by decide +kernel, rfl⟩
theorem q_X1_setProduct_55 : decode M_X1_setProduct.2.1 55 = .ok (.ifCond .eq 63, 3) ∧ 55 + 3 = 58 ∧ ((55 : Nat) : Int) + 63 = ((118 : Nat) : Int) := ⟨by decide +kernel, rfl, rfl⟩
theorem q_X1_setProduct_58 : decode M_X1_setProduct.2.1 58 = .ok (.lload 4, 2) ∧ 58 + 2 = 60 := ⟨by decide +kernel, rfl⟩
theorem q_X1_setProduct_60 : decode M_X1_setProduct.2.1 60 = .ok (.aload_n 2, 1) ∧ 60 + 1 = 61 := ⟨by decide +kernel, rfl⟩
theorem q_X1_setProduct_61 : decode M_X1_setProduct.2.1 61 = .ok (.getfield 11, 3) ∧ 61 + 3 = 64 := ⟨by decide +kernel, rfl⟩
theorem q_X1_setProduct_64 : decode M_X1_setProduct.2.1 64 = .ok (.iload 8, 2) ∧ 64 + 2 = 66 := ⟨by decide +kernel, rfl⟩
theorem q_X1_setProduct_66 : decode M_X1_setProduct.2.1 66 = .ok (.iaload, 1) ∧ 66 + 1 = 67 := ⟨by decide +kernel, rfl⟩
theorem q_X1_setProduct_67 : decode M_X1_setProduct.2.1 67 = .ok (.i2l, 1) ∧ 67 + 1 = 68 := ⟨by decide +kernel, rfl⟩
theorem q_X1_setProduct_68 : decode M_X1_setProduct.2.1 68 = .ok (.lmul, 1) ∧ 68 + 1 = 69 := ⟨by decide +kernel, rfl⟩
theorem q_X1_setProduct_69 : decode M_X1_setProduct.2.1 69 = .ok (.aload_n 0, 1) ∧ 69 + 1 = 70 := ⟨by decide +kernel, rfl⟩
theorem q_X1_setProduct_70 : decode M_X1_setProduct.2.1 70 = .ok (.getfield 11, 3) ∧ 70 + 3 = 73 := ⟨by decide +kernel, rfl⟩
theorem q_X1_setProduct_73 : decode M_X1_setProduct.2.1 73 = .ok (.iload_n 3, 1) ∧ 73 + 1 = 74 := ⟨by decide +kernel, rfl⟩
theorem q_X1_setProduct_74 : decode M_X1_setProduct.2.1 74 = .ok (.iload 8, 2) ∧ 74 + 2 = 76 := ⟨by decide +kernel, rfl⟩
theorem q_X1_setProduct_76 : decode M_X1_setProduct.2.1 76 = .ok (.iadd, 1) ∧ 76 + 1 = 77 := ⟨by decide +kernel, rfl⟩
theorem q_X1_setProduct_77 : decode M_X1_setProduct.2.1 77 = .ok (.iaload, 1) ∧ 77 + 1 = 78 := ⟨by decide +kernel, rfl⟩
theorem q_X1_setProduct_78 : decode M_X1_setProduct.2.1 78 = .ok (.i2l, 1) ∧ 78 + 1 = 79 := ⟨by decide +kernel, rfl⟩
theorem q_X1_setProduct_79 : decode M_X1_setProduct.2.1 79 = .ok (.ladd, 1) ∧ 79 + 1 = 80 := ⟨by decide +kernel, rfl⟩
theorem q_X1_setProduct_80 : decode M_X1_setProduct.2.1 80 = .ok (.lload 6, 2) ∧ 80 + 2 = 82 := ⟨by decide +kernel, rfl⟩
theorem q_X1_setProduct_82 : decode M_X1_setProduct.2.1 82 = .ok (.ladd, 1) ∧ 82 + 1 = 83 := ⟨by decide +kernel, rfl⟩
theorem q_X1_setProduct_83 : decode M_X1_setProduct.2.1 83 = .ok (.lstore 9, 2) ∧ 83 + 2 = 85 := ⟨by decide +kernel, rfl⟩
theorem q_X1_setProduct_85 : decode M_X1_setProduct.2.1 85 = .ok (.lload 9, 2) ∧ 85 + 2 = 87 := ⟨by decide +kernel, rfl⟩
theorem q_X1_setProduct_87 : decode M_X1_setProduct.2.1 87 = .ok (.ldc2_w 50, 3) ∧ 87 + 3 = 90 := ⟨by decide +kernel, rfl⟩
theorem q_X1_setProduct_90 : decode M_X1_setProduct.2.1 90 = .ok (.ldiv, 1) ∧ 90 + 1 = 91 := ⟨by decide +kernel, rfl⟩
theorem q_X1_setProduct_91 : decode M_X1_setProduct.2.1 91 = .ok (.lstore 6, 2) ∧ 91 + 2 = 93 := ⟨by decide +kernel, rfl⟩
theorem q_X1_setProduct_93 : decode M_X1_setProduct.2.1 93 = .ok (.aload_n 0, 1) ∧ 93 + 1 = 94 := ⟨by decide +kernel, rfl⟩
theorem q_X1_setProduct_94 : decode M_X1_setProduct.2.1 94 = .ok (.getfield 11, 3) ∧ 94 + 3 = 97 := ⟨by decide +kernel, rfl⟩
theorem q_X1_setProduct_97 : decode M_X1_setProduct.2.1 97 = .ok (.iload_n 3, 1) ∧ 97 + 1 = 98 := ⟨by decide +kernel, rfl⟩
theorem q_X1_setProduct_98 : decode M_X1_setProduct.2.1 98 = .ok (.iload 8, 2) ∧ 98 + 2 = 100 := ⟨by decide +kernel, rfl⟩
theorem q_X1_setProduct_100 : decode M_X1_setProduct.2.1 100 = .ok (.iadd, 1) ∧ 100 + 1 = 101 := ⟨by decide +kernel, rfl⟩
theorem q_X1_setProduct_101 : decode M_X1_setProduct.2.1 101 = .ok (.lload 9, 2) ∧ 101 + 2 = 103 := ⟨by decide +kernel, rfl⟩
theorem q_X1_setProduct_103 : decode M_X1_setProduct.2.1 103 = .ok (.lload 6, 2) ∧ 103 + 2 = 105 := ⟨by decide +kernel, rfl⟩
theorem q_X1_setProduct_105 : decode M_X1_setProduct.2.1 105 = .ok (.ldc2_w 50, 3) ∧ 105 + 3 = 108 := ⟨by decide +kernel, rfl⟩
theorem q_X1_setProduct_108 : decode M_X1_setProduct.2.1 108 = .ok (.lmul, 1) ∧ 108 + 1 = 109 := ⟨by decide +kernel, rfl⟩
theorem q_X1_setProduct_109 : decode M_X1_setProduct.2.1 109 = .ok (.lsub, 1) ∧ 109 + 1 = 110 := ⟨by decide +kernel, rfl⟩
theorem q_X1_setProduct_110 : decode M_X1_setProduct.2.1 110 = .ok (.l2i, 1) ∧ 110 + 1 = 111 := ⟨by decide +kernel, rfl⟩
theorem q_X1_setProduct_111 : decode M_X1_setProduct.2.1 111 = .ok (.iastore, 1) ∧ 111 + 1 = 112 := ⟨by decide +kernel, rfl⟩
theorem q_X1_setProduct_112 : decode M_X1_setProduct.2.1 112 = .ok (.iinc 8 1, 3) ∧ 112 + 3 = 115 := ⟨by decide +kernel, rfl⟩
theorem q_X1_setProduct_115 : decode M_X1_setProduct.2.1 115 = .ok (.goto (-73), 3) ∧ 115 + 3 = 118 ∧ ((115 : Nat) : Int) + (-73) = ((42 : Nat) : Int) := ⟨by decide +kernel, rfl, rfl⟩
theorem q_X1_setProduct_118 : decode M_X1_setProduct.2.1 118 = .ok (.aload_n 0, 1) ∧ 118 + 1 = 119 := ⟨by decide +kernel, rfl⟩
theorem q_X1_setProduct_119 : decode M_X1_setProduct.2.1 119 = .ok (.getfield 11, 3) ∧ 119 + 3 = 122 := ⟨by decide +kernel, rfl⟩
theorem q_X1_setProduct_122 : decode M_X1_setProduct.2.1 122 = .ok (.iload_n 3, 1) ∧ 122 + 1 = 123 := ⟨by decide +kernel, rfl⟩
theorem q_X1_setProduct_123 : decode M_X1_setProduct.2.1 123 = .ok (.aload_n 2, 1) ∧ 123 + 1 = 124 := ⟨by decide +kernel, rfl⟩
theorem q_X1_setProduct_124 : decode M_X1_setProduct.2.1 124 = .ok (.getfield 15, 3) ∧ 124 + 3 = 127 := ⟨by decide +kernel, rfl⟩
theorem q_X1_setProduct_127 : decode M_X1_setProduct.2.1 127 = .ok (.iadd, 1) ∧ 127 + 1 = 128 := ⟨by decide +kernel, rfl⟩
theorem q_X1_setProduct_128 : decode M_X1_setProduct.2.1 128 = .ok (.lload 6, 2) ∧ 128 + 2 = 130 := ⟨by decide +kernel, rfl⟩
theorem q_X1_setProduct_130 : decode M_X1_setProduct.2.1 130 = .ok (.l2i, 1) ∧ 130 + 1 = 131 := ⟨by decide +kernel, rfl⟩
theorem q_X1_setProduct_131 : decode M_X1_setProduct.2.1 131 = .ok (.iastore, 1) ∧ 131 + 1 = 132 := ⟨by decide +kernel, rfl⟩
theorem q_X1_setProduct_132 : decode M_X1_setProduct.2.1 132 = .ok (.iinc 3 1, 3) ∧ 132 + 3 = 135 := ⟨by decide +kernel, rfl⟩
theorem q_X1_setProduct_135 : decode M_X1_setProduct.2.1 135 = .ok (.goto (-116), 3) ∧ 135 + 3 = 138 ∧ ((135 : Nat) : Int) + (-116) = ((19 : Nat) : Int) := ⟨by decide +kernel, rfl, rfl⟩
theorem q_X1_setProduct_138 : decode M_X1_setProduct.2.1 138 = .ok (.aload_n 0, 1) ∧ 138 + 1 = 139 := ⟨by decide +kernel, rfl⟩
theorem q_X1_setProduct_139 : decode M_X1_setProduct.2.1 139 = .ok (.aload_n 1, 1) ∧ 139 + 1 = 140 := ⟨by decide +kernel, rfl⟩
theorem q_X1_setProduct_140 : decode M_X1_setProduct.2.1 140 = .ok (.getfield 34, 3) ∧ 140 + 3 = 143 := ⟨by decide +kernel, rfl⟩
theorem q_X1_setProduct_143 : decode M_X1_setProduct.2.1 143 = .ok (.aload_n 2, 1) ∧ 143 + 1 = 144 := ⟨by decide +kernel, rfl⟩
theorem q_X1_setProduct_144 : decode M_X1_setProduct.2.1 144 = .ok (.getfield 34, 3) ∧ 144 + 3 = 147 := ⟨by decide +kernel, rfl⟩
theorem q_X1_setProduct_147 : decode M_X1_setProduct.2.1 147 = .ok (.imul, 1) ∧ 147 + 1 = 148 := ⟨by decide +kernel, rfl⟩
theorem q_X1_setProduct_148 : decode M_X1_setProduct.2.1 148 = .ok (.invokevirtual 52, 3) ∧ 148 + 3 = 151 := ⟨by decide +kernel, rfl⟩
theorem g_X1_setProduct_148 : en_C M_X1_setProduct M_X1_trim 52 1 := ⟨⟨by decide +kernel, by decide +kernel, by decide +kernel⟩, ⟨by decide, by decide, by decide +kernel⟩, by decide, by decide⟩
theorem q_X1_setProduct_151 : decode M_X1_setProduct.2.1 151 = .ok (.return_, 1) ∧ 151 + 1 = 152 := ⟨by decide +kernel, rfl⟩
theorem q_X1_shiftUp_0 : decode M_X1_shiftUp.2.1 0 = .ok (.iload_n 1, 1) ∧ 0 + 1 = 1 := ⟨by decide +kernel, rfl⟩
theorem q_X1_shiftUp_1 : decode M_X1_shiftUp.2.1 1 = .ok (.ifCond .le 10, 3) ∧ 1 + 3 = 4 ∧ ((1 : Nat) : Int) + 10 = ((11 : Nat) : Int) := ⟨by decide +kernel, rfl, rfl⟩
theorem q_X1_shiftUp_4 : decode M_X1_shiftUp.2.1 4 = .ok (.aload_n 0, 1) ∧ 4 + 1 = 5 := ⟨by decide +kernel, rfl⟩
theorem q_X1_shiftUp_5 : decode M_X1_shiftUp.2.1 5 = .ok (.getfield 34, 3) ∧ 5 + 3 = 8 := ⟨by decide +kernel, rfl⟩
theorem q_X1_shiftUp_8 : decode M_X1_shiftUp.2.1 8 = .ok (.ifCond .ne 4, 3) ∧ 8 + 3 = 11 ∧ ((8 : Nat) : Int) + 4 = ((12 : Nat) : Int) := ⟨by decide +kernel, rfl, rfl⟩
theorem q_X1_shiftUp_11 : decode M_X1_shiftUp.2.1 11 = .ok (.return_, 1) ∧ 11 + 1 = 12 := ⟨by decide +kernel, rfl⟩
theorem q_X1_shiftUp_12 : decode M_X1_shiftUp.2.1 12 = .ok (.iload_n 1, 1) ∧ 12 + 1 = 13 := ⟨by decide +kernel, rfl⟩
theorem q_X1_shiftUp_13 : decode M_X1_shiftUp.2.1 13 = .ok (.bipush 9, 2) ∧ 13 + 2 = 15 := ⟨by decide +kernel, rfl⟩
theorem q_X1_shiftUp_15 : decode M_X1_shiftUp.2.1 15 = .ok (.idiv, 1) ∧ 15 + 1 = 16 := ⟨by decide +kernel, rfl⟩
theorem q_X1_shiftUp_16 : decode M_X1_shiftUp.2.1 16 = .ok (.istore_n 2, 1) ∧ 16 + 1 = 17 := ⟨by decide +kernel, rfl⟩
theorem q_X1_shiftUp_17 : decode M_X1_shiftUp.2.1 17 = .ok (.aload_n 0, 1) ∧ 17 + 1 = 18 := ⟨by decide +kernel, rfl⟩
theorem q_X1_shiftUp_18 : decode M_X1_shiftUp.2.1 18 = .ok (.getfield 15, 3) ∧ 18 + 3 = 21 := ⟨by decide +kernel, rfl⟩
theorem q_X1_shiftUp_21 : decode M_X1_shiftUp.2.1 21 = .ok (.istore_n 3, 1) ∧ 21 + 1 = 22 := ⟨by decide +kernel, rfl⟩
theorem q_X1_shiftUp_22 : decode M_X1_shiftUp.2.1 22 = .ok (.aload_n 0, 1) ∧ 22 + 1 = 23 := ⟨by decide +kernel, rfl⟩
theorem q_X1_shiftUp_23 : decode M_X1_shiftUp.2.1 23 = .ok (.iload_n 3, 1) ∧ 23 + 1 = 24 := ⟨by decide +kernel, rfl⟩
theorem q_X1_shiftUp_24 : decode M_X1_shiftUp.2.1 24 = .ok (.iload_n 2, 1) ∧ 24 + 1 = 25 := ⟨by decide +kernel, rfl⟩
theorem q_X1_shiftUp_25 : decode M_X1_shiftUp.2.1 25 = .ok (.iadd, 1) ∧ 25 + 1 = 26 := ⟨by decide +kernel, rfl⟩
theorem q_X1_shiftUp_26 : decode M_X1_shiftUp.2.1 26 = .ok (.invokevirtual 37, 3) ∧ 26 + 3 = 29 := ⟨by decide +kernel, rfl⟩
theorem g_X1_shiftUp_26 : en_C M_X1_shiftUp M_X1_extend 37 1 := ⟨⟨by decide +kernel, by decide +kernel, by decide +kernel⟩, ⟨by decide, by decide, by decide +kernel⟩, by decide, by decide⟩
theorem q_X1_shiftUp_29 : decode M_X1_shiftUp.2.1 29 = .ok (.aload_n 0, 1) ∧ 29 + 1 = 30 := ⟨by decide +kernel, rfl⟩
theorem q_X1_shiftUp_30 : decode M_X1_shiftUp.2.1 30 = .ok (.getfield 11, 3) ∧ 30 + 3 = 33 := ⟨by decide +kernel, rfl⟩
theorem q_X1_shiftUp_33 : decode M_X1_shiftUp.2.1 33 = .ok (.iconst 0, 1) ∧ 33 + 1 = 34 := ⟨by decide +kernel, rfl⟩
theorem q_X1_shiftUp_34 : decode M_X1_shiftUp.2.1 34 = .ok (.aload_n 0, 1) ∧ 34 + 1 = 35 := ⟨by decide +kernel, rfl⟩
theorem q_X1_shiftUp_35 : decode M_X1_shiftUp.2.1 35 = .ok (.getfield 11, 3) ∧ 35 + 3 = 38 := ⟨by decide +kernel, rfl⟩
theorem q_X1_shiftUp_38 : decode M_X1_shiftUp.2.1 38 = .ok (.iload_n 2, 1) ∧ 38 + 1 = 39 := ⟨by decide +kernel, rfl⟩
theorem q_X1_shiftUp_39 : decode M_X1_shiftUp.2.1 39 = .ok (.iload_n 3, 1) ∧ 39 + 1 = 40 := ⟨by decide +kernel, rfl⟩
theorem q_X1_shiftUp_40 : decode M_X1_shiftUp.2.1 40 = .ok (.invokestatic 41, 3) ∧ 40 + 3 = 43 := ⟨by decide +kernel, rfl⟩
theorem q_X1_shiftUp_43 : decode M_X1_shiftUp.2.1 43 = .ok (.aload_n 0, 1) ∧ 43 + 1 = 44 := ⟨by decide +kernel, rfl⟩
theorem q_X1_shiftUp_44 : decode M_X1_shiftUp.2.1 44 = .ok (.getfield 11, 3) ∧ 44 + 3 = 47 := ⟨by decide +kernel, rfl⟩
theorem q_X1_shiftUp_47 : decode M_X1_shiftUp.2.1 47 = .ok (.iconst 0, 1) ∧ 47 + 1 = 48 := ⟨by decide +kernel, rfl⟩
theorem q_X1_shiftUp_48 : decode M_X1_shiftUp.2.1 48 = .ok (.iload_n 2, 1) ∧ 48 + 1 = 49 := ⟨by decide +kernel, rfl⟩
theorem q_X1_shiftUp_49 : decode M_X1_shiftUp.2.1 49 = .ok (.iconst 0, 1) ∧ 49 + 1 = 50 := ⟨by decide +kernel, rfl⟩
theorem q_X1_shiftUp_50 : decode M_X1_shiftUp.2.1 50 = .ok (.invokestatic 91, 3) ∧ 50 + 3 = 53 := ⟨by decide +kernel, rfl⟩
theorem g_X1_shiftUp_50 : en_C M_X1_shiftUp M_J7_fill_fda19 91 4 := ⟨⟨by decide +kernel, by decide +kernel, by decide +kernel⟩, ⟨by decide, by decide, by decide +kernel⟩, by decide, by decide⟩
theorem w_J7_fill_fda19 : Cond.static M_J7_fill_fda19.1 ∈ en_tbl := by decide +kernel
theorem q_X1_shiftUp_53 : decode M_X1_shiftUp.2.1 53 = .ok (.aload_n 0, 1) ∧ 53 + 1 = 54 := ⟨by decide +kernel, rfl⟩
theorem q_X1_shiftUp_54 : decode M_X1_shiftUp.2.1 54 = .ok (.getstatic 66, 3) ∧ 54 + 3 = 57 := ⟨by decide +kernel, rfl⟩
theorem q_X1_shiftUp_57 : decode M_X1_shiftUp.2.1 57 = .ok (.iload_n 1, 1) ∧ 57 + 1 = 58 := ⟨by decide +kernel, rfl⟩
theorem q_X1_shiftUp_58 : decode M_X1_shiftUp.2.1 58 = .ok (.bipush 9, 2) ∧ 58 + 2 = 60 := ⟨by decide +kernel, rfl⟩
theorem q_X1_shiftUp_60 : decode M_X1_shiftUp.2.1 60 = .ok (.irem, 1) ∧ 60 + 1 = 61 := ⟨by decide +kernel, rfl⟩
theorem q_X1_shiftUp_61 : decode M_X1_shiftUp.2.1 61 = .ok (.iaload, 1) ∧ 61 + 1 = 62 := ⟨by decide +kernel, rfl⟩
theorem q_X1_shiftUp_62 : decode M_X1_shiftUp.2.1 62 = .ok (.i2l, 1) ∧ 62 + 1 = 63 := ⟨by decide +kernel, rfl⟩
theorem q_X1_shiftUp_63 : decode M_X1_shiftUp.2.1 63 = .ok (.invokevirtual 95, 3) ∧ 63 + 3 = 66 := ⟨by decide +kernel, rfl⟩
theorem g_X1_shiftUp_63 : en_C M_X1_shiftUp M_X1_multiplySmall 95 1 := ⟨⟨by decide +kernel, by decide +kernel, by decide +kernel⟩, ⟨by decide, by decide, by decide +kernel⟩, by decide, by decide⟩
theorem w_X1_multiplySmall : Cond.instanceMethod M_X1_multiplySmall.1 ∈ en_tbl ∧ Cond.selects M_X1_multiplySmall.1.cls M_X1_multiplySmall.1 M_X1_multiplySmall.1 ∈ en_tbl := ⟨by decide +kernel, by decide +kernel⟩
theorem q_X1_shiftUp_66 : decode M_X1_shiftUp.2.1 66 = .ok (.return_, 1) ∧ 66 + 1 = 67 := ⟨by decide +kernel, rfl⟩
theorem q_X1_shrink_0 : decode M_X1_shrink.2.1 0 = .ok (.iload_n 1, 1) ∧ 0 + 1 = 1 := ⟨by decide +kernel, rfl⟩
theorem q_X1_shrink_1 : decode M_X1_shrink.2.1 1 = .ok (.ifCond .le 10, 3) ∧ 1 + 3 = 4 ∧ ((1 : Nat) : Int) + 10 = ((11 : Nat) : Int) := ⟨by decide +kernel, rfl, rfl⟩
theorem q_X1_shrink_4 : decode M_X1_shrink.2.1 4 = .ok (.aload_n 0, 1) ∧ 4 + 1 = 5 := ⟨by decide +kernel, rfl⟩
theorem q_X1_shrink_5 : decode M_X1_shrink.2.1 5 = .ok (.getfield 34, 3) ∧ 5 + 3 = 8 := ⟨by decide +kernel, rfl⟩
theorem q_X1_shrink_8 : decode M_X1_shrink.2.1 8 = .ok (.ifCond .ne 4, 3) ∧ 8 + 3 = 11 ∧ ((8 : Nat) : Int) + 4 = ((12 : Nat) : Int) := ⟨by decide +kernel, rfl, rfl⟩
theorem q_X1_shrink_11 : decode M_X1_shrink.2.1 11 = .ok (.return_, 1) ∧ 11 + 1 = 12 := ⟨by decide +kernel, rfl⟩
theorem q_X1_shrink_12 : decode M_X1_shrink.2.1 12 = .ok (.aload_n 0, 1) ∧ 12 + 1 = 13 := ⟨by decide +kernel, rfl⟩
theorem q_X1_shrink_13 : decode M_X1_shrink.2.1 13 = .ok (.getfield 34, 3) ∧ 13 + 3 = 16 := ⟨by decide +kernel, rfl⟩
theorem q_X1_shrink_16 : decode M_X1_shrink.2.1 16 = .ok (.istore_n 3, 1) ∧ 16 + 1 = 17 := ⟨by decide +kernel, rfl⟩
theorem q_X1_shrink_17 : decode M_X1_shrink.2.1 17 = .ok (.aload_n 0, 1) ∧ 17 + 1 = 18 := ⟨by decide +kernel, rfl⟩
theorem q_X1_shrink_18 : decode M_X1_shrink.2.1 18 = .ok (.iload_n 1, 1) ∧ 18 + 1 = 19 := ⟨by decide +kernel, rfl⟩
theorem q_X1_shrink_19 : decode M_X1_shrink.2.1 19 = .ok (.bipush 9, 2) ∧ 19 + 2 = 21 := ⟨by decide +kernel, rfl⟩
theorem q_X1_shrink_21 : decode M_X1_shrink.2.1 21 = .ok (.idiv, 1) ∧ 21 + 1 = 22 := ⟨by decide +kernel, rfl⟩
theorem q_X1_shrink_22 : decode M_X1_shrink.2.1 22 = .ok (.invokevirtual 98, 3) ∧ 22 + 3 = 25 := ⟨by decide +kernel, rfl⟩
theorem g_X1_shrink_22 : en_C M_X1_shrink M_X1_shiftDown 98 1 := ⟨⟨by decide +kernel, by decide +kernel, by decide +kernel⟩, ⟨by decide, by decide, by decide +kernel⟩, by decide, by decide⟩
theorem w_X1_shiftDown : Cond.instanceMethod M_X1_shiftDown.1 ∈ en_tbl ∧ Cond.selects M_X1_shiftDown.1.cls M_X1_shiftDown.1 M_X1_shiftDown.1 ∈ en_tbl := ⟨by decide +kernel, by decide +kernel⟩
theorem q_X1_shrink_25 : decode M_X1_shrink.2.1 25 = .ok (.istore 4, 2) ∧ 25 + 2 = 27 := ⟨by decide +kernel, rfl⟩
theorem q_X1_shrink_27 : decode M_X1_shrink.2.1 27 = .ok (.aload_n 0, 1) ∧ 27 + 1 = 28 := ⟨by decide +kernel, rfl⟩
theorem q_X1_shrink_28 : decode M_X1_shrink.2.1 28 = .ok (.getstatic 66, 3) ∧ 28 + 3 = 31 := ⟨by decide +kernel, rfl⟩
theorem q_X1_shrink_31 : decode M_X1_shrink.2.1 31 = .ok (.iload_n 1, 1) ∧ 31 + 1 = 32 := ⟨by decide +kernel, rfl⟩
theorem q_X1_shrink_32 : decode M_X1_shrink.2.1 32 = .ok (.bipush 9, 2) ∧ 32 + 2 = 34 := ⟨by decide +kernel, rfl⟩
theorem q_X1_shrink_34 : decode M_X1_shrink.2.1 34 = .ok (.irem, 1) ∧ 34 + 1 = 35 := ⟨by decide +kernel, rfl⟩
theorem q_X1_shrink_35 : decode M_X1_shrink.2.1 35 = .ok (.iaload, 1) ∧ 35 + 1 = 36 := ⟨by decide +kernel, rfl⟩
theorem q_X1_shrink_36 : decode M_X1_shrink.2.1 36 = .ok (.i2l, 1) ∧ 36 + 1 = 37 := ⟨by decide +kernel, rfl⟩
theorem q_X1_shrink_37 : decode M_X1_shrink.2.1 37 = .ok (.invokevirtual 102, 3) ∧ 37 + 3 = 40 := ⟨by decide +kernel, rfl⟩
theorem g_X1_shrink_37 : en_C M_X1_shrink M_X1_divideSmall 102 1 := ⟨⟨by decide +kernel, by decide +kernel, by decide +kernel⟩, ⟨by decide, by decide, by decide +kernel⟩, by decide, by decide⟩
theorem w_X1_divideSmall : Cond.instanceMethod M_X1_divideSmall.1 ∈ en_tbl ∧ Cond.selects M_X1_divideSmall.1.cls M_X1_divideSmall.1 M_X1_divideSmall.1 ∈ en_tbl := ⟨by decide +kernel, by decide +kernel⟩
theorem q_X1_shrink_40 : decode M_X1_shrink.2.1 40 = .ok (.lconst 0, 1) ∧ 40 + 1 = 41 := ⟨by decide +kernel, rfl⟩
theorem q_X1_shrink_41 : decode M_X1_shrink.2.1 41 = .ok (.lcmp, 1) ∧ 41 + 1 = 42 := ⟨by decide +kernel, rfl⟩
theorem q_X1_shrink_42 : decode M_X1_shrink.2.1 42 = .ok (.ifCond .eq 6, 3) ∧ 42 + 3 = 45 ∧ ((42 : Nat) : Int) + 6 = ((48 : Nat) : Int) := ⟨by decide +kernel, rfl, rfl⟩
theorem q_X1_shrink_45 : decode M_X1_shrink.2.1 45 = .ok (.iconst 1, 1) ∧ 45 + 1 = 46 := ⟨by decide +kernel, rfl⟩
theorem q_X1_shrink_46 : decode M_X1_shrink.2.1 46 = .ok (.istore 4, 2) ∧ 46 + 2 = 48 := ⟨by decide +kernel, rfl⟩
theorem q_X1_shrink_48 : decode M_X1_shrink.2.1 48 = .ok (.iload 4, 2) ∧ 48 + 2 = 50 := ⟨by decide +kernel, rfl⟩
theorem q_X1_shrink_50 : decode M_X1_shrink.2.1 50 = .ok (.ifCond .eq 13, 3) ∧ 50 + 3 = 53 ∧ ((50 : Nat) : Int) + 13 = ((63 : Nat) : Int) := ⟨by decide +kernel, rfl, rfl⟩
theorem q_X1_shrink_53 : decode M_X1_shrink.2.1 53 = .ok (.iload_n 3, 1) ∧ 53 + 1 = 54 := ⟨by decide +kernel, rfl⟩
theorem q_X1_shrink_54 : decode M_X1_shrink.2.1 54 = .ok (.iload_n 2, 1) ∧ 54 + 1 = 55 := ⟨by decide +kernel, rfl⟩
theorem q_X1_shrink_55 : decode M_X1_shrink.2.1 55 = .ok (.if_icmp .ne 8, 3) ∧ 55 + 3 = 58 ∧ ((55 : Nat) : Int) + 8 = ((63 : Nat) : Int) := ⟨by decide +kernel, rfl, rfl⟩
theorem q_X1_shrink_58 : decode M_X1_shrink.2.1 58 = .ok (.aload_n 0, 1) ∧ 58 + 1 = 59 := ⟨by decide +kernel, rfl⟩
theorem q_X1_shrink_59 : decode M_X1_shrink.2.1 59 = .ok (.iload_n 3, 1) ∧ 59 + 1 = 60 := ⟨by decide +kernel, rfl⟩
theorem q_X1_shrink_60 : decode M_X1_shrink.2.1 60 = .ok (.invokevirtual 106, 3) ∧ 60 + 3 = 63 := ⟨by decide +kernel, rfl⟩
theorem g_X1_shrink_60 : en_C M_X1_shrink M_X1_grow 106 1 := ⟨⟨by decide +kernel, by decide +kernel, by decide +kernel⟩, ⟨by decide, by decide, by decide +kernel⟩, by decide, by decide⟩
theorem w_X1_grow : Cond.instanceMethod M_X1_grow.1 ∈ en_tbl ∧ Cond.selects M_X1_grow.1.cls M_X1_grow.1 M_X1_grow.1 ∈ en_tbl := ⟨by decide +kernel, by decide +kernel⟩
theorem q_X1_shrink_63 : decode M_X1_shrink.2.1 63 = .ok (.return_, 1) ∧ 63 + 1 = 64 := ⟨by decide +kernel, rfl⟩
theorem q_X1_shiftDown_0 : decode M_X1_shiftDown.2.1 0 = .ok (.iload_n 1, 1) ∧ 0 + 1 = 1 := ⟨by decide +kernel, rfl⟩
theorem q_X1_shiftDown_1 : decode M_X1_shiftDown.2.1 1 = .ok (.aload_n 0, 1) ∧ 1 + 1 = 2 := ⟨by decide +kernel, rfl⟩
theorem q_X1_shiftDown_2 : decode M_X1_shiftDown.2.1 2 = .ok (.getfield 15, 3) ∧ 2 + 3 = 5 := ⟨by decide +kernel, rfl⟩
theorem q_X1_shiftDown_5 : decode M_X1_shiftDown.2.1 5 = .ok (.invokestatic 31, 3) ∧ 5 + 3 = 8 := ⟨by decide +kernel, rfl⟩
theorem q_X1_shiftDown_8 : decode M_X1_shiftDown.2.1 8 = .ok (.istore_n 2, 1) ∧ 8 + 1 = 9 := ⟨by decide +kernel, rfl⟩
theorem q_X1_shiftDown_9 : decode M_X1_shiftDown.2.1 9 = .ok (.iconst 0, 1) ∧ 9 + 1 = 10 := ⟨by decide +kernel, rfl⟩
theorem q_X1_shiftDown_10 : decode M_X1_shiftDown.2.1 10 = .ok (.istore_n 3, 1) ∧ 10 + 1 = 11 := ⟨by decide +kernel, rfl⟩
theorem q_X1_shiftDown_11 : decode M_X1_shiftDown.2.1 11 = .ok (.iconst 0, 1) ∧ 11 + 1 = 12 := ⟨by decide +kernel, rfl⟩
theorem q_X1_shiftDown_12 : decode M_X1_shiftDown.2.1 12 = .ok (.istore 4, 2) ∧ 12 + 2 = 14 := ⟨by decide +kernel, rfl⟩
theorem q_X1_shiftDown_14 : decode M_X1_shiftDown.2.1 14 = .ok (.iload 4, 2) ∧ 14 + 2 = 16 := ⟨by decide +kernel, rfl⟩
theorem q_X1_shiftDown_16 : decode M_X1_shiftDown.2.1 16 = .ok (.iload_n 2, 1) ∧ 16 + 1 = 17 := ⟨by decide +kernel, rfl⟩
theorem q_X1_shiftDown_17 : decode M_X1_shiftDown.2.1 17 = .ok (.if_icmp .ge 21, 3) ∧ 17 + 3 = 20 ∧ ((17 : Nat) : Int) + 21 = ((38 : Nat) : Int) := ⟨by decide +kernel, rfl, rfl⟩
theorem q_X1_shiftDown_20 : decode M_X1_shiftDown.2.1 20 = .ok (.aload_n 0, 1) ∧ 20 + 1 = 21 := ⟨by decide +kernel, rfl⟩
theorem q_X1_shiftDown_21 : decode M_X1_shiftDown.2.1 21 = .ok (.getfield 11, 3) ∧ 21 + 3 = 24 := ⟨by decide +kernel, rfl⟩
theorem q_X1_shiftDown_24 : decode M_X1_shiftDown.2.1 24 = .ok (.iload 4, 2) ∧ 24 + 2 = 26 := ⟨by decide +kernel, rfl⟩
theorem q_X1_shiftDown_26 : decode M_X1_shiftDown.2.1 26 = .ok (.iaload, 1) ∧ 26 + 1 = 27 := ⟨by decide +kernel, rfl⟩
theorem q_X1_shiftDown_27 : decode M_X1_shiftDown.2.1 27 = .ok (.ifCond .eq 5, 3) ∧ 27 + 3 = 30 ∧ ((27 : Nat) : Int) + 5 = ((32 : Nat) : Int) := ⟨by decide +kernel, rfl, rfl⟩
theorem q_X1_shiftDown_30 : decode M_X1_shiftDown.2.1 30 = .ok (.iconst 1, 1) ∧ 30 + 1 = 31 := ⟨by decide +kernel, rfl⟩
theorem q_X1_shiftDown_31 : decode M_X1_shiftDown.2.1 31 = .ok (.istore_n 3, 1) ∧ 31 + 1 = 32 := ⟨by decide +kernel, rfl⟩
theorem q_X1_shiftDown_32 : decode M_X1_shiftDown.2.1 32 = .ok (.iinc 4 1, 3) ∧ 32 + 3 = 35 := ⟨by decide +kernel, rfl⟩
theorem q_X1_shiftDown_35 : decode M_X1_shiftDown.2.1 35 = .ok (.goto (-21), 3) ∧ 35 + 3 = 38 ∧ ((35 : Nat) : Int) + (-21) = ((14 : Nat) : Int) := ⟨by decide +kernel, rfl, rfl⟩
theorem q_X1_shiftDown_38 : decode M_X1_shiftDown.2.1 38 = .ok (.aload_n 0, 1) ∧ 38 + 1 = 39 := ⟨by decide +kernel, rfl⟩
theorem q_X1_shiftDown_39 : decode M_X1_shiftDown.2.1 39 = .ok (.getfield 11, 3) ∧ 39 + 3 = 42 := ⟨by decide +kernel, rfl⟩
theorem q_X1_shiftDown_42 : decode M_X1_shiftDown.2.1 42 = .ok (.iload_n 2, 1) ∧ 42 + 1 = 43 := ⟨by decide +kernel, rfl⟩
theorem q_X1_shiftDown_43 : decode M_X1_shiftDown.2.1 43 = .ok (.aload_n 0, 1) ∧ 43 + 1 = 44 := ⟨by decide +kernel, rfl⟩
theorem q_X1_shiftDown_44 : decode M_X1_shiftDown.2.1 44 = .ok (.getfield 11, 3) ∧ 44 + 3 = 47 := ⟨by decide +kernel, rfl⟩
theorem q_X1_shiftDown_47 : decode M_X1_shiftDown.2.1 47 = .ok (.iconst 0, 1) ∧ 47 + 1 = 48 := ⟨by decide +kernel, rfl⟩
theorem q_X1_shiftDown_48 : decode M_X1_shiftDown.2.1 48 = .ok (.aload_n 0, 1) ∧ 48 + 1 = 49 := ⟨by decide +kernel, rfl⟩
theorem q_X1_shiftDown_49 : decode M_X1_shiftDown.2.1 49 = .ok (.getfield 15, 3) ∧ 49 + 3 = 52 := ⟨by decide +kernel, rfl⟩
theorem q_X1_shiftDown_52 : decode M_X1_shiftDown.2.1 52 = .ok (.iload_n 2, 1) ∧ 52 + 1 = 53 := ⟨by decide +kernel, rfl⟩
theorem q_X1_shiftDown_53 : decode M_X1_shiftDown.2.1 53 = .ok (.isub, 1) ∧ 53 + 1 = 54 := ⟨by decide +kernel, rfl⟩
theorem q_X1_shiftDown_54 : decode M_X1_shiftDown.2.1 54 = .ok (.invokestatic 41, 3) ∧ 54 + 3 = 57 := ⟨by decide +kernel, rfl⟩
theorem q_X1_shiftDown_57 : decode M_X1_shiftDown.2.1 57 = .ok (.aload_n 0, 1) ∧ 57 + 1 = 58 := ⟨by decide +kernel, rfl⟩
theorem q_X1_shiftDown_58 : decode M_X1_shiftDown.2.1 58 = .ok (.dup, 1) ∧ 58 + 1 = 59 := ⟨by decide +kernel, rfl⟩
theorem q_X1_shiftDown_59 : decode M_X1_shiftDown.2.1 59 = .ok (.getfield 15, 3) ∧ 59 + 3 = 62 := ⟨by decide +kernel, rfl⟩
theorem q_X1_shiftDown_62 : decode M_X1_shiftDown.2.1 62 = .ok (.iload_n 2, 1) ∧ 62 + 1 = 63 := ⟨by decide +kernel, rfl⟩
theorem q_X1_shiftDown_63 : decode M_X1_shiftDown.2.1 63 = .ok (.isub, 1) ∧ 63 + 1 = 64 := ⟨by decide +kernel, rfl⟩
theorem q_X1_shiftDown_64 : decode M_X1_shiftDown.2.1 64 = .ok (.putfield 15, 3) ∧ 64 + 3 = 67 := ⟨by decide +kernel, rfl⟩
theorem q_X1_shiftDown_67 : decode M_X1_shiftDown.2.1 67 = .ok (.aload_n 0, 1) ∧ 67 + 1 = 68 := ⟨by decide +kernel, rfl⟩
theorem q_X1_shiftDown_68 : decode M_X1_shiftDown.2.1 68 = .ok (.aload_n 0, 1) ∧ 68 + 1 = 69 := ⟨by decide +kernel, rfl⟩
theorem q_X1_shiftDown_69 : decode M_X1_shiftDown.2.1 69 = .ok (.getfield 34, 3) ∧ 69 + 3 = 72 := ⟨by decide +kernel, rfl⟩
theorem q_X1_shiftDown_72 : decode M_X1_shiftDown.2.1 72 = .ok (.invokevirtual 52, 3) ∧ 72 + 3 = 75 := ⟨by decide +kernel, rfl⟩
theorem g_X1_shiftDown_72 : en_C M_X1_shiftDown M_X1_trim 52 1 := ⟨⟨by decide +kernel, by decide +kernel, by decide +kernel⟩, ⟨by decide, by decide, by decide +kernel⟩, by decide, by decide⟩
theorem q_X1_shiftDown_75 : decode M_X1_shiftDown.2.1 75 = .ok (.iload_n 3, 1) ∧ 75 + 1 = 76 := ⟨by decide +kernel, rfl⟩
theorem q_X1_shiftDown_76 : decode M_X1_shiftDown.2.1 76 = .ok (.ireturn, 1) ∧ 76 + 1 = 77 := ⟨by decide +kernel, rfl⟩
end
section
/-! instructions, fields, calls -/
theorem q_X0_init_0 : decode M_X0_init.2.1 0 = .ok (.aload_n 0, 1) ∧ 0 + 1 = 1 := ⟨by decide +kernel, rfl⟩
theorem q_X0_init_1 : decode M_X0_init.2.1 1 = .ok (.invokespecial 3, 3) ∧ 1 + 3 = 4 := ⟨by decide +kernel, rfl⟩
theorem o_RX0_3 : Cond.methodLink RX0 3 Lib.objectInit ∈ en_tbl := by decide +kernel
theorem q_X0_init_4 : decode M_X0_init.2.1 4 = .ok (.aload_n 0, 1) ∧ 4 + 1 = 5 := ⟨by decide +kernel, rfl⟩
theorem q_X0_init_5 : decode M_X0_init.2.1 5 = .ok (.new 9, 3) ∧ 5 + 3 = 8 := ⟨by decide +kernel, rfl⟩
theorem n_RX0_9 : en_N RX0 9 1 3 [.int 0, .int 0, .null] := ⟨RX1, TX1, tyX1, rfl, by decide +kernel, by decide +kernel, by decide +kernel, by decide +kernel, tyX1_ok, fun j hj => by match j, hj with | 0, _ => rfl | 1, _ => rfl | 2, _ => rfl | j + 3, h => omega⟩
theorem q_X0_init_8 : decode M_X0_init.2.1 8 = .ok (.dup, 1) ∧ 8 + 1 = 9 := ⟨by decide +kernel, rfl⟩
theorem q_X0_init_9 : decode M_X0_init.2.1 9 = .ok (.invokespecial 11, 3) ∧ 9 + 3 = 12 := ⟨by decide +kernel, rfl⟩
theorem g_X0_init_9 : en_CN M_X0_init M_X1_init 11 0 "EnclosedDigits" := ⟨⟨by decide +kernel, by decide +kernel, by decide +kernel⟩, ⟨by decide, by decide, by decide +kernel⟩, by decide, by decide⟩
theorem w_X1_init : Cond.instanceMethod M_X1_init.1 ∈ en_tbl := by decide +kernel
theorem q_X0_init_12 : decode M_X0_init.2.1 12 = .ok (.putfield 12, 3) ∧ 12 + 3 = 15 := ⟨by decide +kernel, rfl⟩
theorem p_RX0_12 : en_Fp RX0 12 0 0 true (.object "EnclosedDigits$Big") := ⟨RX0, TX0, 5, tyX0, rfl, by decide, rfl, by decide +kernel, by decide +kernel, tyX0_ok, nmX0, rfl, by decide +kernel⟩
theorem q_X0_init_15 : decode M_X0_init.2.1 15 = .ok (.aload_n 0, 1) ∧ 15 + 1 = 16 := ⟨by decide +kernel, rfl⟩
theorem q_X0_init_16 : decode M_X0_init.2.1 16 = .ok (.new 9, 3) ∧ 16 + 3 = 19 := ⟨by decide +kernel, rfl⟩
theorem q_X0_init_19 : decode M_X0_init.2.1 19 = .ok (.dup, 1) ∧ 19 + 1 = 20 := ⟨by decide +kernel, rfl⟩
theorem q_X0_init_20 : decode M_X0_init.2.1 20 = .ok (.invokespecial 11, 3) ∧ 20 + 3 = 23 := ⟨by decide +kernel, rfl⟩
theorem g_X0_init_20 : en_CN M_X0_init M_X1_init 11 0 "EnclosedDigits" := ⟨⟨by decide +kernel, by decide +kernel, by decide +kernel⟩, ⟨by decide, by decide, by decide +kernel⟩, by decide, by decide⟩
theorem q_X0_init_23 : decode M_X0_init.2.1 23 = .ok (.putfield 18, 3) ∧ 23 + 3 = 26 := ⟨by decide +kernel, rfl⟩
theorem p_RX0_18 : en_Fp RX0 18 0 1 true (.object "EnclosedDigits$Big") := ⟨RX0, TX0, 5, tyX0, rfl, by decide, rfl, by decide +kernel, by decide +kernel, tyX0_ok, nmX0, rfl, by decide +kernel⟩
theorem q_X0_init_26 : decode M_X0_init.2.1 26 = .ok (.aload_n 0, 1) ∧ 26 + 1 = 27 := ⟨by decide +kernel, rfl⟩
theorem q_X0_init_27 : decode M_X0_init.2.1 27 = .ok (.new 9, 3) ∧ 27 + 3 = 30 := ⟨by decide +kernel, rfl⟩
theorem q_X0_init_30 : decode M_X0_init.2.1 30 = .ok (.dup, 1) ∧ 30 + 1 = 31 := ⟨by decide +kernel, rfl⟩
theorem q_X0_init_31 : decode M_X0_init.2.1 31 = .ok (.invokespecial 11, 3) ∧ 31 + 3 = 34 := ⟨by decide +kernel, rfl⟩
theorem g_X0_init_31 : en_CN M_X0_init M_X1_init 11 0 "EnclosedDigits" := ⟨⟨by decide +kernel, by decide +kernel, by decide +kernel⟩, ⟨by decide, by decide, by decide +kernel⟩, by decide, by decide⟩
theorem q_X0_init_34 : decode M_X0_init.2.1 34 = .ok (.putfield 21, 3) ∧ 34 + 3 = 37 := ⟨by decide +kernel, rfl⟩
theorem p_RX0_21 : en_Fp RX0 21 0 2 true (.object "EnclosedDigits$Big") := ⟨RX0, TX0, 5, tyX0, rfl, by decide, rfl, by decide +kernel, by decide +kernel, tyX0_ok, nmX0, rfl, by decide +kernel⟩
theorem q_X0_init_37 : decode M_X0_init.2.1 37 = .ok (.aload_n 0, 1) ∧ 37 + 1 = 38 := ⟨by decide +kernel, rfl⟩
theorem q_X0_init_38 : decode M_X0_init.2.1 38 = .ok (.new 9, 3) ∧ 38 + 3 = 41 := ⟨by decide +kernel, rfl⟩
theorem q_X0_init_41 : decode M_X0_init.2.1 41 = .ok (.dup, 1) ∧ 41 + 1 = 42 := ⟨by decide +kernel, rfl⟩
theorem q_X0_init_42 : decode M_X0_init.2.1 42 = .ok (.invokespecial 11, 3) ∧ 42 + 3 = 45 := ⟨by decide +kernel, rfl⟩
theorem g_X0_init_42 : en_CN M_X0_init M_X1_init 11 0 "EnclosedDigits" := ⟨⟨by decide +kernel, by decide +kernel, by decide +kernel⟩, ⟨by decide, by decide, by decide +kernel⟩, by decide, by decide⟩
theorem q_X0_init_45 : decode M_X0_init.2.1 45 = .ok (.putfield 24, 3) ∧ 45 + 3 = 48 := ⟨by decide +kernel, rfl⟩
theorem p_RX0_24 : en_Fp RX0 24 0 3 true (.object "EnclosedDigits$Big") := ⟨RX0, TX0, 5, tyX0, rfl, by decide, rfl, by decide +kernel, by decide +kernel, tyX0_ok, nmX0, rfl, by decide +kernel⟩
theorem q_X0_init_48 : decode M_X0_init.2.1 48 = .ok (.aload_n 0, 1) ∧ 48 + 1 = 49 := ⟨by decide +kernel, rfl⟩
theorem q_X0_init_49 : decode M_X0_init.2.1 49 = .ok (.new 9, 3) ∧ 49 + 3 = 52 := ⟨by decide +kernel, rfl⟩
theorem q_X0_init_52 : decode M_X0_init.2.1 52 = .ok (.dup, 1) ∧ 52 + 1 = 53 := ⟨by decide +kernel, rfl⟩
theorem q_X0_init_53 : decode M_X0_init.2.1 53 = .ok (.invokespecial 11, 3) ∧ 53 + 3 = 56 := ⟨by decide +kernel, rfl⟩
theorem g_X0_init_53 : en_CN M_X0_init M_X1_init 11 0 "EnclosedDigits" := ⟨⟨by decide +kernel, by decide +kernel, by decide +kernel⟩, ⟨by decide, by decide, by decide +kernel⟩, by decide, by decide⟩
theorem q_X0_init_56 : decode M_X0_init.2.1 56 = .ok (.putfield 27, 3) ∧ 56 + 3 = 59 := ⟨by decide +kernel, rfl⟩
theorem p_RX0_27 : en_Fp RX0 27 0 4 true (.object "EnclosedDigits$Big") := ⟨RX0, TX0, 5, tyX0, rfl, by decide, rfl, by decide +kernel, by decide +kernel, tyX0_ok, nmX0, rfl, by decide +kernel⟩
theorem q_X0_init_59 : decode M_X0_init.2.1 59 = .ok (.return_, 1) ∧ 59 + 1 = 60 := ⟨by decide +kernel, rfl⟩
theorem q_X0_divide_0 : decode M_X0_divide.2.1 0 = .ok (.aload_n 0, 1) ∧ 0 + 1 = 1 := ⟨by decide +kernel, rfl⟩
theorem q_X0_divide_1 : decode M_X0_divide.2.1 1 = .ok (.getfield 12, 3) ∧ 1 + 3 = 4 := ⟨by decide +kernel, rfl⟩
theorem f_RX0_12 : en_F RX0 12 0 0 := ⟨RX0, TX0, 5, rfl, by decide, rfl, by decide +kernel, by decide +kernel⟩
theorem q_X0_divide_4 : decode M_X0_divide.2.1 4 = .ok (.aload_n 1, 1) ∧ 4 + 1 = 5 := ⟨by decide +kernel, rfl⟩
theorem q_X0_divide_5 : decode M_X0_divide.2.1 5 = .ok (.invokevirtual 30, 3) ∧ 5 + 3 = 8 := ⟨by decide +kernel, rfl⟩
theorem g_X0_divide_5 : en_C M_X0_divide M_X1_copy 30 1 := ⟨⟨by decide +kernel, by decide +kernel, by decide +kernel⟩, ⟨by decide, by decide, by decide +kernel⟩, by decide, by decide⟩
theorem w_X1_copy : Cond.instanceMethod M_X1_copy.1 ∈ en_tbl ∧ Cond.selects M_X1_copy.1.cls M_X1_copy.1 M_X1_copy.1 ∈ en_tbl := ⟨by decide +kernel, by decide +kernel⟩
theorem q_X0_divide_8 : decode M_X0_divide.2.1 8 = .ok (.aload_n 0, 1) ∧ 8 + 1 = 9 := ⟨by decide +kernel, rfl⟩
theorem q_X0_divide_9 : decode M_X0_divide.2.1 9 = .ok (.getfield 18, 3) ∧ 9 + 3 = 12 := ⟨by decide +kernel, rfl⟩
theorem f_RX0_18 : en_F RX0 18 0 1 := ⟨RX0, TX0, 5, rfl, by decide, rfl, by decide +kernel, by decide +kernel⟩
theorem q_X0_divide_12 : decode M_X0_divide.2.1 12 = .ok (.aload_n 2, 1) ∧ 12 + 1 = 13 := ⟨by decide +kernel, rfl⟩
theorem q_X0_divide_13 : decode M_X0_divide.2.1 13 = .ok (.invokevirtual 30, 3) ∧ 13 + 3 = 16 := ⟨by decide +kernel, rfl⟩
theorem g_X0_divide_13 : en_C M_X0_divide M_X1_copy 30 1 := ⟨⟨by decide +kernel, by decide +kernel, by decide +kernel⟩, ⟨by decide, by decide, by decide +kernel⟩, by decide, by decide⟩
theorem q_X0_divide_16 : decode M_X0_divide.2.1 16 = .ok (.aload_n 0, 1) ∧ 16 + 1 = 17 := ⟨by decide +kernel, rfl⟩
theorem q_X0_divide_17 : decode M_X0_divide.2.1 17 = .ok (.getfield 12, 3) ∧ 17 + 3 = 20 := ⟨by decide +kernel, rfl⟩
theorem q_X0_divide_20 : decode M_X0_divide.2.1 20 = .ok (.aload_n 1, 1) ∧ 20 + 1 = 21 := ⟨by decide +kernel, rfl⟩
theorem q_X0_divide_21 : decode M_X0_divide.2.1 21 = .ok (.getfield 34, 3) ∧ 21 + 3 = 24 := ⟨by decide +kernel, rfl⟩
theorem f_RX0_34 : en_F RX0 34 1 0 := ⟨RX1, TX1, 3, rfl, by decide, rfl, by decide +kernel, by decide +kernel⟩
theorem q_X0_divide_24 : decode M_X0_divide.2.1 24 = .ok (.invokestatic 38, 3) ∧ 24 + 3 = 27 := ⟨by decide +kernel, rfl⟩
theorem a_RX0_38 : Cond.methodLink RX0 38 Lib.Math.abs.name ∈ en_tbl := by decide +kernel
theorem q_X0_divide_27 : decode M_X0_divide.2.1 27 = .ok (.putfield 34, 3) ∧ 27 + 3 = 30 := ⟨by decide +kernel, rfl⟩
theorem p_RX0_34 : en_Fp RX0 34 1 0 false .int := ⟨RX1, TX1, 3, tyX1, rfl, by decide, rfl, by decide +kernel, by decide +kernel, tyX1_ok, nmX1, rfl, by decide +kernel⟩
theorem q_X0_divide_30 : decode M_X0_divide.2.1 30 = .ok (.aload_n 3, 1) ∧ 30 + 1 = 31 := ⟨by decide +kernel, rfl⟩
theorem q_X0_divide_31 : decode M_X0_divide.2.1 31 = .ok (.invokevirtual 44, 3) ∧ 31 + 3 = 34 := ⟨by decide +kernel, rfl⟩
theorem g_X0_divide_31 : en_C M_X0_divide M_X1_clear 44 0 := ⟨⟨by decide +kernel, by decide +kernel, by decide +kernel⟩, ⟨by decide, by decide, by decide +kernel⟩, by decide, by decide⟩
theorem q_X0_divide_34 : decode M_X0_divide.2.1 34 = .ok (.aload_n 0, 1) ∧ 34 + 1 = 35 := ⟨by decide +kernel, rfl⟩
theorem q_X0_divide_35 : decode M_X0_divide.2.1 35 = .ok (.getfield 12, 3) ∧ 35 + 3 = 38 := ⟨by decide +kernel, rfl⟩
theorem q_X0_divide_38 : decode M_X0_divide.2.1 38 = .ok (.getfield 47, 3) ∧ 38 + 3 = 41 := ⟨by decide +kernel, rfl⟩
theorem f_RX0_47 : en_F RX0 47 1 1 := ⟨RX1, TX1, 3, rfl, by decide, rfl, by decide +kernel, by decide +kernel⟩
theorem q_X0_divide_41 : decode M_X0_divide.2.1 41 = .ok (.aload_n 0, 1) ∧ 41 + 1 = 42 := ⟨by decide +kernel, rfl⟩
theorem q_X0_divide_42 : decode M_X0_divide.2.1 42 = .ok (.getfield 18, 3) ∧ 42 + 3 = 45 := ⟨by decide +kernel, rfl⟩
theorem q_X0_divide_45 : decode M_X0_divide.2.1 45 = .ok (.getfield 47, 3) ∧ 45 + 3 = 48 := ⟨by decide +kernel, rfl⟩
theorem q_X0_divide_48 : decode M_X0_divide.2.1 48 = .ok (.isub, 1) ∧ 48 + 1 = 49 := ⟨by decide +kernel, rfl⟩
theorem q_X0_divide_49 : decode M_X0_divide.2.1 49 = .ok (.iconst 1, 1) ∧ 49 + 1 = 50 := ⟨by decide +kernel, rfl⟩
theorem q_X0_divide_50 : decode M_X0_divide.2.1 50 = .ok (.iadd, 1) ∧ 50 + 1 = 51 := ⟨by decide +kernel, rfl⟩
theorem q_X0_divide_51 : decode M_X0_divide.2.1 51 = .ok (.istore 5, 2) ∧ 51 + 2 = 53 := ⟨by decide +kernel, rfl⟩
theorem q_X0_divide_53 : decode M_X0_divide.2.1 53 = .ok (.aload_n 0, 1) ∧ 53 + 1 = 54 := ⟨by decide +kernel, rfl⟩
theorem q_X0_divide_54 : decode M_X0_divide.2.1 54 = .ok (.getfield 18, 3) ∧ 54 + 3 = 57 := ⟨by decide +kernel, rfl⟩
theorem q_X0_divide_57 : decode M_X0_divide.2.1 57 = .ok (.getfield 47, 3) ∧ 57 + 3 = 60 := ⟨by decide +kernel, rfl⟩
theorem q_X0_divide_60 : decode M_X0_divide.2.1 60 = .ok (.ifCond .ne 13, 3) ∧ 60 + 3 = 63 ∧ ((60 : Nat) : Int) + 13 = ((73 : Nat) : Int) := ⟨by decide +kernel, rfl, rfl⟩
theorem q_X0_divide_63 : decode M_X0_divide.2.1 63 = .ok (.aload_n 0, 1) ∧ 63 + 1 = 64 := ⟨by decide +kernel, rfl⟩
theorem q_X0_divide_64 : decode M_X0_divide.2.1 64 = .ok (.getfield 12, 3) ∧ 64 + 3 = 67 := ⟨by decide +kernel, rfl⟩
theorem q_X0_divide_67 : decode M_X0_divide.2.1 67 = .ok (.invokevirtual 44, 3) ∧ 67 + 3 = 70 := ⟨by decide +kernel, rfl⟩
theorem g_X0_divide_67 : en_C M_X0_divide M_X1_clear 44 0 := ⟨⟨by decide +kernel, by decide +kernel, by decide +kernel⟩, ⟨by decide, by decide, by decide +kernel⟩, by decide, by decide⟩
theorem q_X0_divide_70 : decode M_X0_divide.2.1 70 = .ok (.goto 169, 3) ∧ 70 + 3 = 73 ∧ ((70 : Nat) : Int) + 169 = ((239 : Nat) : Int) := ⟨by decide +kernel, rfl, rfl⟩
theorem q_X0_divide_73 : decode M_X0_divide.2.1 73 = .ok (.aload_n 0, 1) ∧ 73 + 1 = 74 := ⟨by decide +kernel, rfl⟩
theorem q_X0_divide_74 : decode M_X0_divide.2.1 74 = .ok (.getfield 18, 3) ∧ 74 + 3 = 77 := ⟨by decide +kernel, rfl⟩
theorem q_X0_divide_77 : decode M_X0_divide.2.1 77 = .ok (.getfield 47, 3) ∧ 77 + 3 = 80 := ⟨by decide +kernel, rfl⟩
theorem q_X0_divide_80 : decode M_X0_divide.2.1 80 = .ok (.iconst 1, 1) ∧ 80 + 1 = 81 := ⟨by decide +kernel, rfl⟩
theorem q_X0_divide_81 : decode M_X0_divide.2.1 81 = .ok (.if_icmp .ne 34, 3) ∧ 81 + 3 = 84 ∧ ((81 : Nat) : Int) + 34 = ((115 : Nat) : Int) := ⟨by decide +kernel, rfl, rfl⟩
theorem q_X0_divide_84 : decode M_X0_divide.2.1 84 = .ok (.aload_n 3, 1) ∧ 84 + 1 = 85 := ⟨by decide +kernel, rfl⟩
theorem q_X0_divide_85 : decode M_X0_divide.2.1 85 = .ok (.aload_n 0, 1) ∧ 85 + 1 = 86 := ⟨by decide +kernel, rfl⟩
theorem q_X0_divide_86 : decode M_X0_divide.2.1 86 = .ok (.getfield 12, 3) ∧ 86 + 3 = 89 := ⟨by decide +kernel, rfl⟩
theorem q_X0_divide_89 : decode M_X0_divide.2.1 89 = .ok (.invokevirtual 30, 3) ∧ 89 + 3 = 92 := ⟨by decide +kernel, rfl⟩
theorem g_X0_divide_89 : en_C M_X0_divide M_X1_copy 30 1 := ⟨⟨by decide +kernel, by decide +kernel, by decide +kernel⟩, ⟨by decide, by decide, by decide +kernel⟩, by decide, by decide⟩
theorem q_X0_divide_92 : decode M_X0_divide.2.1 92 = .ok (.aload_n 0, 1) ∧ 92 + 1 = 93 := ⟨by decide +kernel, rfl⟩
theorem q_X0_divide_93 : decode M_X0_divide.2.1 93 = .ok (.getfield 12, 3) ∧ 93 + 3 = 96 := ⟨by decide +kernel, rfl⟩
theorem q_X0_divide_96 : decode M_X0_divide.2.1 96 = .ok (.aload_n 3, 1) ∧ 96 + 1 = 97 := ⟨by decide +kernel, rfl⟩
theorem q_X0_divide_97 : decode M_X0_divide.2.1 97 = .ok (.aload_n 0, 1) ∧ 97 + 1 = 98 := ⟨by decide +kernel, rfl⟩
theorem q_X0_divide_98 : decode M_X0_divide.2.1 98 = .ok (.getfield 18, 3) ∧ 98 + 3 = 101 := ⟨by decide +kernel, rfl⟩
theorem q_X0_divide_101 : decode M_X0_divide.2.1 101 = .ok (.iconst 0, 1) ∧ 101 + 1 = 102 := ⟨by decide +kernel, rfl⟩
theorem q_X0_divide_102 : decode M_X0_divide.2.1 102 = .ok (.invokevirtual 50, 3) ∧ 102 + 3 = 105 := ⟨by decide +kernel, rfl⟩
theorem g_X0_divide_102 : en_C M_X0_divide M_X1_limbAt 50 1 := ⟨⟨by decide +kernel, by decide +kernel, by decide +kernel⟩, ⟨by decide, by decide, by decide +kernel⟩, by decide, by decide⟩
theorem q_X0_divide_105 : decode M_X0_divide.2.1 105 = .ok (.i2l, 1) ∧ 105 + 1 = 106 := ⟨by decide +kernel, rfl⟩
theorem q_X0_divide_106 : decode M_X0_divide.2.1 106 = .ok (.invokevirtual 53, 3) ∧ 106 + 3 = 109 := ⟨by decide +kernel, rfl⟩
theorem g_X0_divide_106 : en_C M_X0_divide M_X1_divideSmall 53 1 := ⟨⟨by decide +kernel, by decide +kernel, by decide +kernel⟩, ⟨by decide, by decide, by decide +kernel⟩, by decide, by decide⟩
theorem q_X0_divide_109 : decode M_X0_divide.2.1 109 = .ok (.invokevirtual 57, 3) ∧ 109 + 3 = 112 := ⟨by decide +kernel, rfl⟩
theorem g_X0_divide_109 : en_C M_X0_divide M_X1_setLong 57 1 := ⟨⟨by decide +kernel, by decide +kernel, by decide +kernel⟩, ⟨by decide, by decide, by decide +kernel⟩, by decide, by decide⟩
theorem w_X1_setLong : Cond.instanceMethod M_X1_setLong.1 ∈ en_tbl ∧ Cond.selects M_X1_setLong.1.cls M_X1_setLong.1 M_X1_setLong.1 ∈ en_tbl := ⟨by decide +kernel, by decide +kernel⟩
theorem q_X0_divide_112 : decode M_X0_divide.2.1 112 = .ok (.goto 127, 3) ∧ 112 + 3 = 115 ∧ ((112 : Nat) : Int) + 127 = ((239 : Nat) : Int) := ⟨by decide +kernel, rfl, rfl⟩
theorem q_X0_divide_115 : decode M_X0_divide.2.1 115 = .ok (.iload 5, 2) ∧ 115 + 2 = 117 := ⟨by decide +kernel, rfl⟩
theorem q_X0_divide_117 : decode M_X0_divide.2.1 117 = .ok (.ifCond .le 122, 3) ∧ 117 + 3 = 120 ∧ ((117 : Nat) : Int) + 122 = ((239 : Nat) : Int) := ⟨by decide +kernel, rfl, rfl⟩
theorem q_X0_divide_120 : decode M_X0_divide.2.1 120 = .ok (.ldc 61, 2) ∧ 120 + 2 = 122 := ⟨by decide +kernel, rfl⟩
theorem k_RX0_61 : Cond.constant RX0 61 (nI 1000000000) ∈ en_tbl := by decide +kernel
theorem q_X0_divide_122 : decode M_X0_divide.2.1 122 = .ok (.aload_n 0, 1) ∧ 122 + 1 = 123 := ⟨by decide +kernel, rfl⟩
theorem q_X0_divide_123 : decode M_X0_divide.2.1 123 = .ok (.getfield 18, 3) ∧ 123 + 3 = 126 := ⟨by decide +kernel, rfl⟩
theorem q_X0_divide_126 : decode M_X0_divide.2.1 126 = .ok (.aload_n 0, 1) ∧ 126 + 1 = 127 := ⟨by decide +kernel, rfl⟩
theorem q_X0_divide_127 : decode M_X0_divide.2.1 127 = .ok (.getfield 18, 3) ∧ 127 + 3 = 130 := ⟨by decide +kernel, rfl⟩
theorem q_X0_divide_130 : decode M_X0_divide.2.1 130 = .ok (.getfield 47, 3) ∧ 130 + 3 = 133 := ⟨by decide +kernel, rfl⟩
theorem q_X0_divide_133 : decode M_X0_divide.2.1 133 = .ok (.iconst 1, 1) ∧ 133 + 1 = 134 := ⟨by decide +kernel, rfl⟩
theorem q_X0_divide_134 : decode M_X0_divide.2.1 134 = .ok (.isub, 1) ∧ 134 + 1 = 135 := ⟨by decide +kernel, rfl⟩
theorem q_X0_divide_135 : decode M_X0_divide.2.1 135 = .ok (.invokevirtual 50, 3) ∧ 135 + 3 = 138 := ⟨by decide +kernel, rfl⟩
theorem g_X0_divide_135 : en_C M_X0_divide M_X1_limbAt 50 1 := ⟨⟨by decide +kernel, by decide +kernel, by decide +kernel⟩, ⟨by decide, by decide, by decide +kernel⟩, by decide, by decide⟩
theorem q_X0_divide_138 : decode M_X0_divide.2.1 138 = .ok (.iconst 1, 1) ∧ 138 + 1 = 139 := ⟨by decide +kernel, rfl⟩
theorem q_X0_divide_139 : decode M_X0_divide.2.1 139 = .ok (.iadd, 1) ∧ 139 + 1 = 140 := ⟨by decide +kernel, rfl⟩
theorem q_X0_divide_140 : decode M_X0_divide.2.1 140 = .ok (.idiv, 1) ∧ 140 + 1 = 141 := ⟨by decide +kernel, rfl⟩
theorem q_X0_divide_141 : decode M_X0_divide.2.1 141 = .ok (.istore 6, 2) ∧ 141 + 2 = 143 := ⟨by decide +kernel, rfl⟩
theorem q_X0_divide_143 : decode M_X0_divide.2.1 143 = .ok (.aload_n 0, 1) ∧ 143 + 1 = 144 := ⟨by decide +kernel, rfl⟩
theorem q_X0_divide_144 : decode M_X0_divide.2.1 144 = .ok (.getfield 12, 3) ∧ 144 + 3 = 147 := ⟨by decide +kernel, rfl⟩
theorem q_X0_divide_147 : decode M_X0_divide.2.1 147 = .ok (.aload_n 0, 1) ∧ 147 + 1 = 148 := ⟨by decide +kernel, rfl⟩
theorem q_X0_divide_148 : decode M_X0_divide.2.1 148 = .ok (.getfield 12, 3) ∧ 148 + 3 = 151 := ⟨by decide +kernel, rfl⟩
theorem q_X0_divide_151 : decode M_X0_divide.2.1 151 = .ok (.getfield 47, 3) ∧ 151 + 3 = 154 := ⟨by decide +kernel, rfl⟩
theorem q_X0_divide_154 : decode M_X0_divide.2.1 154 = .ok (.iconst 1, 1) ∧ 154 + 1 = 155 := ⟨by decide +kernel, rfl⟩
theorem q_X0_divide_155 : decode M_X0_divide.2.1 155 = .ok (.iadd, 1) ∧ 155 + 1 = 156 := ⟨by decide +kernel, rfl⟩
theorem q_X0_divide_156 : decode M_X0_divide.2.1 156 = .ok (.invokevirtual 62, 3) ∧ 156 + 3 = 159 := ⟨by decide +kernel, rfl⟩
theorem g_X0_divide_156 : en_C M_X0_divide M_X1_extend 62 1 := ⟨⟨by decide +kernel, by decide +kernel, by decide +kernel⟩, ⟨by decide, by decide, by decide +kernel⟩, by decide, by decide⟩
theorem q_X0_divide_159 : decode M_X0_divide.2.1 159 = .ok (.aload_n 0, 1) ∧ 159 + 1 = 160 := ⟨by decide +kernel, rfl⟩
theorem q_X0_divide_160 : decode M_X0_divide.2.1 160 = .ok (.getfield 12, 3) ∧ 160 + 3 = 163 := ⟨by decide +kernel, rfl⟩
theorem q_X0_divide_163 : decode M_X0_divide.2.1 163 = .ok (.iload 6, 2) ∧ 163 + 2 = 165 := ⟨by decide +kernel, rfl⟩
theorem q_X0_divide_165 : decode M_X0_divide.2.1 165 = .ok (.i2l, 1) ∧ 165 + 1 = 166 := ⟨by decide +kernel, rfl⟩
theorem q_X0_divide_166 : decode M_X0_divide.2.1 166 = .ok (.invokevirtual 66, 3) ∧ 166 + 3 = 169 := ⟨by decide +kernel, rfl⟩
theorem g_X0_divide_166 : en_C M_X0_divide M_X1_multiplyLimbs 66 1 := ⟨⟨by decide +kernel, by decide +kernel, by decide +kernel⟩, ⟨by decide, by decide, by decide +kernel⟩, by decide, by decide⟩
theorem q_X0_divide_169 : decode M_X0_divide.2.1 169 = .ok (.aload_n 0, 1) ∧ 169 + 1 = 170 := ⟨by decide +kernel, rfl⟩
theorem q_X0_divide_170 : decode M_X0_divide.2.1 170 = .ok (.getfield 18, 3) ∧ 170 + 3 = 173 := ⟨by decide +kernel, rfl⟩
theorem q_X0_divide_173 : decode M_X0_divide.2.1 173 = .ok (.iload 6, 2) ∧ 173 + 2 = 175 := ⟨by decide +kernel, rfl⟩
theorem q_X0_divide_175 : decode M_X0_divide.2.1 175 = .ok (.i2l, 1) ∧ 175 + 1 = 176 := ⟨by decide +kernel, rfl⟩
theorem q_X0_divide_176 : decode M_X0_divide.2.1 176 = .ok (.invokevirtual 66, 3) ∧ 176 + 3 = 179 := ⟨by decide +kernel, rfl⟩
theorem g_X0_divide_176 : en_C M_X0_divide M_X1_multiplyLimbs 66 1 := ⟨⟨by decide +kernel, by decide +kernel, by decide +kernel⟩, ⟨by decide, by decide, by decide +kernel⟩, by decide, by decide⟩
theorem q_X0_divide_179 : decode M_X0_divide.2.1 179 = .ok (.aload_n 3, 1) ∧ 179 + 1 = 180 := ⟨by decide +kernel, rfl⟩
theorem q_X0_divide_180 : decode M_X0_divide.2.1 180 = .ok (.iload 5, 2) ∧ 180 + 2 = 182 := ⟨by decide +kernel, rfl⟩
theorem q_X0_divide_182 : decode M_X0_divide.2.1 182 = .ok (.invokevirtual 62, 3) ∧ 182 + 3 = 185 := ⟨by decide +kernel, rfl⟩
theorem g_X0_divide_182 : en_C M_X0_divide M_X1_extend 62 1 := ⟨⟨by decide +kernel, by decide +kernel, by decide +kernel⟩, ⟨by decide, by decide, by decide +kernel⟩, by decide, by decide⟩
theorem q_X0_divide_185 : decode M_X0_divide.2.1 185 = .ok (.iload 5, 2) ∧ 185 + 2 = 187 := ⟨by decide +kernel, rfl⟩
theorem q_X0_divide_187 : decode M_X0_divide.2.1 187 = .ok (.iconst 1, 1) ∧ 187 + 1 = 188 := ⟨by decide +kernel, rfl⟩
theorem q_X0_divide_188 : decode M_X0_divide.2.1 188 = .ok (.isub, 1) ∧ 188 + 1 = 189 := ⟨by decide +kernel, rfl⟩
theorem q_X0_divide_189 : decode M_X0_divide.2.1 189 = .ok (.istore 7, 2) ∧ 189 + 2 = 191 := ⟨by decide +kernel, rfl⟩
theorem q_X0_divide_191 : decode M_X0_divide.2.1 191 = .ok (.iload 7, 2) ∧ 191 + 2 = 193 := ⟨by decide +kernel, rfl⟩
theorem q_X0_divide_193 : decode M_X0_divide.2.1 193 = .ok (.ifCond .lt 22, 3) ∧ 193 + 3 = 196 ∧ ((193 : Nat) : Int) + 22 = ((215 : Nat) : Int) := ⟨by decide +kernel, rfl, rfl⟩
theorem q_X0_divide_196 : decode M_X0_divide.2.1 196 = .ok (.aload_n 3, 1) ∧ 196 + 1 = 197 := ⟨by decide +kernel, rfl⟩
theorem q_X0_divide_197 : decode M_X0_divide.2.1 197 = .ok (.getfield 69, 3) ∧ 197 + 3 = 200 := ⟨by decide +kernel, rfl⟩
theorem f_RX0_69 : en_F RX0 69 1 2 := ⟨RX1, TX1, 3, rfl, by decide, rfl, by decide +kernel, by decide +kernel⟩
theorem q_X0_divide_200 : decode M_X0_divide.2.1 200 = .ok (.iload 7, 2) ∧ 200 + 2 = 202 := ⟨by decide +kernel, rfl⟩
theorem q_X0_divide_202 : decode M_X0_divide.2.1 202 = .ok (.aload_n 0, 1) ∧ 202 + 1 = 203 := ⟨by decide +kernel, rfl⟩
theorem q_X0_divide_203 : decode M_X0_divide.2.1 203 = .ok (.iload 7, 2) ∧ 203 + 2 = 205 := ⟨by decide +kernel, rfl⟩
theorem q_X0_divide_205 : decode M_X0_divide.2.1 205 = .ok (.invokevirtual 73, 3) ∧ 205 + 3 = 208 := ⟨by decide +kernel, rfl⟩
theorem g_X0_divide_205 : en_C M_X0_divide M_X0_takeAway 73 1 := ⟨⟨by decide +kernel, by decide +kernel, by decide +kernel⟩, ⟨by decide, by decide, by decide +kernel⟩, by decide, by decide⟩
theorem w_X0_takeAway : Cond.instanceMethod M_X0_takeAway.1 ∈ en_tbl ∧ Cond.selects M_X0_takeAway.1.cls M_X0_takeAway.1 M_X0_takeAway.1 ∈ en_tbl := ⟨by decide +kernel, by decide +kernel⟩
theorem q_X0_divide_208 : decode M_X0_divide.2.1 208 = .ok (.iastore, 1) ∧ 208 + 1 = 209 := ⟨by decide +kernel, rfl⟩
theorem q_X0_divide_209 : decode M_X0_divide.2.1 209 = .ok (.iinc 7 (-1), 3) ∧ 209 + 3 = 212 := ⟨by decide +kernel, rfl⟩
theorem q_X0_divide_212 : decode M_X0_divide.2.1 212 = .ok (.goto (-21), 3) ∧ 212 + 3 = 215 ∧ ((212 : Nat) : Int) + (-21) = ((191 : Nat) : Int) := ⟨by decide +kernel, rfl, rfl⟩
theorem q_X0_divide_215 : decode M_X0_divide.2.1 215 = .ok (.aload_n 3, 1) ∧ 215 + 1 = 216 := ⟨by decide +kernel, rfl⟩
theorem q_X0_divide_216 : decode M_X0_divide.2.1 216 = .ok (.iconst 1, 1) ∧ 216 + 1 = 217 := ⟨by decide +kernel, rfl⟩
theorem q_X0_divide_217 : decode M_X0_divide.2.1 217 = .ok (.invokevirtual 76, 3) ∧ 217 + 3 = 220 := ⟨by decide +kernel, rfl⟩
theorem g_X0_divide_217 : en_C M_X0_divide M_X1_trim 76 1 := ⟨⟨by decide +kernel, by decide +kernel, by decide +kernel⟩, ⟨by decide, by decide, by decide +kernel⟩, by decide, by decide⟩
theorem q_X0_divide_220 : decode M_X0_divide.2.1 220 = .ok (.aload_n 0, 1) ∧ 220 + 1 = 221 := ⟨by decide +kernel, rfl⟩
theorem q_X0_divide_221 : decode M_X0_divide.2.1 221 = .ok (.getfield 12, 3) ∧ 221 + 3 = 224 := ⟨by decide +kernel, rfl⟩
theorem q_X0_divide_224 : decode M_X0_divide.2.1 224 = .ok (.iconst 1, 1) ∧ 224 + 1 = 225 := ⟨by decide +kernel, rfl⟩
theorem q_X0_divide_225 : decode M_X0_divide.2.1 225 = .ok (.invokevirtual 76, 3) ∧ 225 + 3 = 228 := ⟨by decide +kernel, rfl⟩
theorem g_X0_divide_225 : en_C M_X0_divide M_X1_trim 76 1 := ⟨⟨by decide +kernel, by decide +kernel, by decide +kernel⟩, ⟨by decide, by decide, by decide +kernel⟩, by decide, by decide⟩
theorem q_X0_divide_228 : decode M_X0_divide.2.1 228 = .ok (.aload_n 0, 1) ∧ 228 + 1 = 229 := ⟨by decide +kernel, rfl⟩
theorem q_X0_divide_229 : decode M_X0_divide.2.1 229 = .ok (.getfield 12, 3) ∧ 229 + 3 = 232 := ⟨by decide +kernel, rfl⟩
theorem q_X0_divide_232 : decode M_X0_divide.2.1 232 = .ok (.iload 6, 2) ∧ 232 + 2 = 234 := ⟨by decide +kernel, rfl⟩
theorem q_X0_divide_234 : decode M_X0_divide.2.1 234 = .ok (.i2l, 1) ∧ 234 + 1 = 235 := ⟨by decide +kernel, rfl⟩
theorem q_X0_divide_235 : decode M_X0_divide.2.1 235 = .ok (.invokevirtual 53, 3) ∧ 235 + 3 = 238 := ⟨by decide +kernel, rfl⟩
theorem g_X0_divide_235 : en_C M_X0_divide M_X1_divideSmall 53 1 := ⟨⟨by decide +kernel, by decide +kernel, by decide +kernel⟩, ⟨by decide, by decide, by decide +kernel⟩, by decide, by decide⟩
theorem q_X0_divide_238 : decode M_X0_divide.2.1 238 = .ok (.pop2, 1) ∧ 238 + 1 = 239 := ⟨by decide +kernel, rfl⟩
theorem q_X0_divide_239 : decode M_X0_divide.2.1 239 = .ok (.aload 4, 2) ∧ 239 + 2 = 241 := ⟨by decide +kernel, rfl⟩
theorem q_X0_divide_241 : decode M_X0_divide.2.1 241 = .ok (.aload_n 0, 1) ∧ 241 + 1 = 242 := ⟨by decide +kernel, rfl⟩
theorem q_X0_divide_242 : decode M_X0_divide.2.1 242 = .ok (.getfield 12, 3) ∧ 242 + 3 = 245 := ⟨by decide +kernel, rfl⟩
theorem q_X0_divide_245 : decode M_X0_divide.2.1 245 = .ok (.invokevirtual 30, 3) ∧ 245 + 3 = 248 := ⟨by decide +kernel, rfl⟩
theorem g_X0_divide_245 : en_C M_X0_divide M_X1_copy 30 1 := ⟨⟨by decide +kernel, by decide +kernel, by decide +kernel⟩, ⟨by decide, by decide, by decide +kernel⟩, by decide, by decide⟩
theorem q_X0_divide_248 : decode M_X0_divide.2.1 248 = .ok (.return_, 1) ∧ 248 + 1 = 249 := ⟨by decide +kernel, rfl⟩
theorem q_X0_takeAway_0 : decode M_X0_takeAway.2.1 0 = .ok (.aload_n 0, 1) ∧ 0 + 1 = 1 := ⟨by decide +kernel, rfl⟩
theorem q_X0_takeAway_1 : decode M_X0_takeAway.2.1 1 = .ok (.getfield 18, 3) ∧ 1 + 3 = 4 := ⟨by decide +kernel, rfl⟩
theorem q_X0_takeAway_4 : decode M_X0_takeAway.2.1 4 = .ok (.getfield 47, 3) ∧ 4 + 3 = 7 := ⟨by decide +kernel, rfl⟩
theorem q_X0_takeAway_7 : decode M_X0_takeAway.2.1 7 = .ok (.istore_n 2, 1) ∧ 7 + 1 = 8 := ⟨by decide +kernel, rfl⟩
theorem q_X0_takeAway_8 : decode M_X0_takeAway.2.1 8 = .ok (.iload_n 2, 1) ∧ 8 + 1 = 9 := ⟨by decide +kernel, rfl⟩
theorem q_X0_takeAway_9 : decode M_X0_takeAway.2.1 9 = .ok (.iconst 2, 1) ∧ 9 + 1 = 10 := ⟨by decide +kernel, rfl⟩
theorem q_X0_takeAway_10 : decode M_X0_takeAway.2.1 10 = .ok (.if_icmp .lt 16, 3) ∧ 10 + 3 = 13 ∧ ((10 : Nat) : Int) + 16 = ((26 : Nat) : Int) := ⟨by decide +kernel, rfl, rfl⟩
theorem q_X0_takeAway_13 : decode M_X0_takeAway.2.1 13 = .ok (.iload_n 2, 1) ∧ 13 + 1 = 14 := ⟨by decide +kernel, rfl⟩
theorem q_X0_takeAway_14 : decode M_X0_takeAway.2.1 14 = .ok (.iload_n 1, 1) ∧ 14 + 1 = 15 := ⟨by decide +kernel, rfl⟩
theorem q_X0_takeAway_15 : decode M_X0_takeAway.2.1 15 = .ok (.iadd, 1) ∧ 15 + 1 = 16 := ⟨by decide +kernel, rfl⟩
theorem q_X0_takeAway_16 : decode M_X0_takeAway.2.1 16 = .ok (.aload_n 0, 1) ∧ 16 + 1 = 17 := ⟨by decide +kernel, rfl⟩
theorem q_X0_takeAway_17 : decode M_X0_takeAway.2.1 17 = .ok (.getfield 12, 3) ∧ 17 + 3 = 20 := ⟨by decide +kernel, rfl⟩
theorem q_X0_takeAway_20 : decode M_X0_takeAway.2.1 20 = .ok (.getfield 47, 3) ∧ 20 + 3 = 23 := ⟨by decide +kernel, rfl⟩
theorem q_X0_takeAway_23 : decode M_X0_takeAway.2.1 23 = .ok (.if_icmp .lt 5, 3) ∧ 23 + 3 = 26 ∧ ((23 : Nat) : Int) + 5 = ((28 : Nat) : Int) := ⟨by decide +kernel, rfl, rfl⟩
theorem q_X0_takeAway_26 : decode M_X0_takeAway.2.1 26 = .ok (.iconst 0, 1) ∧ 26 + 1 = 27 := ⟨by decide +kernel, rfl⟩
theorem q_X0_takeAway_27 : decode M_X0_takeAway.2.1 27 = .ok (.ireturn, 1) ∧ 27 + 1 = 28 := ⟨by decide +kernel, rfl⟩
theorem q_X0_takeAway_28 : decode M_X0_takeAway.2.1 28 = .ok (.aload_n 0, 1) ∧ 28 + 1 = 29 := ⟨by decide +kernel, rfl⟩
theorem q_X0_takeAway_29 : decode M_X0_takeAway.2.1 29 = .ok (.iload_n 2, 1) ∧ 29 + 1 = 30 := ⟨by decide +kernel, rfl⟩
theorem q_X0_takeAway_30 : decode M_X0_takeAway.2.1 30 = .ok (.iload_n 2, 1) ∧ 30 + 1 = 31 := ⟨by decide +kernel, rfl⟩
theorem q_X0_takeAway_31 : decode M_X0_takeAway.2.1 31 = .ok (.iload_n 1, 1) ∧ 31 + 1 = 32 := ⟨by decide +kernel, rfl⟩
theorem q_X0_takeAway_32 : decode M_X0_takeAway.2.1 32 = .ok (.iadd, 1) ∧ 32 + 1 = 33 := ⟨by decide +kernel, rfl⟩
theorem q_X0_takeAway_33 : decode M_X0_takeAway.2.1 33 = .ok (.invokevirtual 79, 3) ∧ 33 + 3 = 36 := ⟨by decide +kernel, rfl⟩
theorem g_X0_takeAway_33 : en_C M_X0_takeAway M_X0_guessLimb 79 2 := ⟨⟨by decide +kernel, by decide +kernel, by decide +kernel⟩, ⟨by decide, by decide, by decide +kernel⟩, by decide, by decide⟩
theorem w_X0_guessLimb : Cond.instanceMethod M_X0_guessLimb.1 ∈ en_tbl ∧ Cond.selects M_X0_guessLimb.1.cls M_X0_guessLimb.1 M_X0_guessLimb.1 ∈ en_tbl := ⟨by decide +kernel, by decide +kernel⟩
theorem q_X0_takeAway_36 : decode M_X0_takeAway.2.1 36 = .ok (.lstore_n 3, 1) ∧ 36 + 1 = 37 := ⟨by decide +kernel, rfl⟩
theorem q_X0_takeAway_37 : decode M_X0_takeAway.2.1 37 = .ok (.lconst 0, 1) ∧ 37 + 1 = 38 := ⟨by decide +kernel, rfl⟩
theorem q_X0_takeAway_38 : decode M_X0_takeAway.2.1 38 = .ok (.lstore 5, 2) ∧ 38 + 2 = 40 := ⟨by decide +kernel, rfl⟩
theorem q_X0_takeAway_40 : decode M_X0_takeAway.2.1 40 = .ok (.iconst 0, 1) ∧ 40 + 1 = 41 := ⟨by decide +kernel, rfl⟩
theorem q_X0_takeAway_41 : decode M_X0_takeAway.2.1 41 = .ok (.istore 7, 2) ∧ 41 + 2 = 43 := ⟨by decide +kernel, rfl⟩
theorem q_X0_takeAway_43 : decode M_X0_takeAway.2.1 43 = .ok (.iload 7, 2) ∧ 43 + 2 = 45 := ⟨by decide +kernel, rfl⟩
theorem q_X0_takeAway_45 : decode M_X0_takeAway.2.1 45 = .ok (.iload_n 2, 1) ∧ 45 + 1 = 46 := ⟨by decide +kernel, rfl⟩
theorem q_X0_takeAway_46 : decode M_X0_takeAway.2.1 46 = .ok (.if_icmp .ge 96, 3) ∧ 46 + 3 = 49 ∧ ((46 : Nat) : Int) + 96 = ((142 : Nat) : Int) := ⟨by decide +kernel, rfl, rfl⟩
theorem q_X0_takeAway_49 : decode M_X0_takeAway.2.1 49 = .ok (.lload_n 3, 1) ∧ 49 + 1 = 50 := ⟨by decide +kernel, rfl⟩
theorem q_X0_takeAway_50 : decode M_X0_takeAway.2.1 50 = .ok (.aload_n 0, 1) ∧ 50 + 1 = 51 := ⟨by decide +kernel, rfl⟩
theorem q_X0_takeAway_51 : decode M_X0_takeAway.2.1 51 = .ok (.getfield 18, 3) ∧ 51 + 3 = 54 := ⟨by decide +kernel, rfl⟩
theorem q_X0_takeAway_54 : decode M_X0_takeAway.2.1 54 = .ok (.getfield 69, 3) ∧ 54 + 3 = 57 := ⟨by decide +kernel, rfl⟩
theorem q_X0_takeAway_57 : decode M_X0_takeAway.2.1 57 = .ok (.iload 7, 2) ∧ 57 + 2 = 59 := ⟨by decide +kernel, rfl⟩
theorem q_X0_takeAway_59 : decode M_X0_takeAway.2.1 59 = .ok (.iaload, 1) ∧ 59 + 1 = 60 := ⟨by decide +kernel, rfl⟩
theorem q_X0_takeAway_60 : decode M_X0_takeAway.2.1 60 = .ok (.i2l, 1) ∧ 60 + 1 = 61 := ⟨by decide +kernel, rfl⟩
theorem q_X0_takeAway_61 : decode M_X0_takeAway.2.1 61 = .ok (.lmul, 1) ∧ 61 + 1 = 62 := ⟨by decide +kernel, rfl⟩
theorem q_X0_takeAway_62 : decode M_X0_takeAway.2.1 62 = .ok (.lload 5, 2) ∧ 62 + 2 = 64 := ⟨by decide +kernel, rfl⟩
theorem q_X0_takeAway_64 : decode M_X0_takeAway.2.1 64 = .ok (.ladd, 1) ∧ 64 + 1 = 65 := ⟨by decide +kernel, rfl⟩
theorem q_X0_takeAway_65 : decode M_X0_takeAway.2.1 65 = .ok (.lstore 8, 2) ∧ 65 + 2 = 67 := ⟨by decide +kernel, rfl⟩
theorem q_X0_takeAway_67 : decode M_X0_takeAway.2.1 67 = .ok (.lload 8, 2) ∧ 67 + 2 = 69 := ⟨by decide +kernel, rfl⟩
theorem q_X0_takeAway_69 : decode M_X0_takeAway.2.1 69 = .ok (.ldc2_w 83, 3) ∧ 69 + 3 = 72 := ⟨by decide +kernel, rfl⟩
theorem k_RX0_83 : Cond.constantLong RX0 83 (lN 1000000000) ∈ en_tbl := by decide +kernel
theorem q_X0_takeAway_72 : decode M_X0_takeAway.2.1 72 = .ok (.ldiv, 1) ∧ 72 + 1 = 73 := ⟨by decide +kernel, rfl⟩
theorem q_X0_takeAway_73 : decode M_X0_takeAway.2.1 73 = .ok (.lstore 5, 2) ∧ 73 + 2 = 75 := ⟨by decide +kernel, rfl⟩
theorem q_X0_takeAway_75 : decode M_X0_takeAway.2.1 75 = .ok (.aload_n 0, 1) ∧ 75 + 1 = 76 := ⟨by decide +kernel, rfl⟩
theorem q_X0_takeAway_76 : decode M_X0_takeAway.2.1 76 = .ok (.getfield 12, 3) ∧ 76 + 3 = 79 := ⟨by decide +kernel, rfl⟩
theorem q_X0_takeAway_79 : decode M_X0_takeAway.2.1 79 = .ok (.getfield 69, 3) ∧ 79 + 3 = 82 := ⟨by decide +kernel, rfl⟩
theorem q_X0_takeAway_82 : decode M_X0_takeAway.2.1 82 = .ok (.iload 7, 2) ∧ 82 + 2 = 84 := ⟨by decide +kernel, rfl⟩
theorem q_X0_takeAway_84 : decode M_X0_takeAway.2.1 84 = .ok (.iload_n 1, 1) ∧ 84 + 1 = 85 := ⟨by decide +kernel, rfl⟩
theorem q_X0_takeAway_85 : decode M_X0_takeAway.2.1 85 = .ok (.iadd, 1) ∧ 85 + 1 = 86 := ⟨by decide +kernel, rfl⟩
theorem q_X0_takeAway_86 : decode M_X0_takeAway.2.1 86 = .ok (.iaload, 1) ∧ 86 + 1 = 87 := ⟨by decide +kernel, rfl⟩
theorem q_X0_takeAway_87 : decode M_X0_takeAway.2.1 87 = .ok (.i2l, 1) ∧ 87 + 1 = 88 := ⟨by decide +kernel, rfl⟩
theorem q_X0_takeAway_88 : decode M_X0_takeAway.2.1 88 = .ok (.lload 8, 2) ∧ 88 + 2 = 90 := ⟨by decide +kernel, rfl⟩
theorem q_X0_takeAway_90 : decode M_X0_takeAway.2.1 90 = .ok (.lload 5, 2) ∧ 90 + 2 = 92 := ⟨by decide +kernel, rfl⟩
theorem q_X0_takeAway_92 : decode M_X0_takeAway.2.1 92 = .ok (.ldc2_w 83, 3) ∧ 92 + 3 = 95 := ⟨by decide +kernel, rfl⟩
theorem q_X0_takeAway_95 : decode M_X0_takeAway.2.1 95 = .ok (.lmul, 1) ∧ 95 + 1 = 96 := ⟨by decide +kernel, rfl⟩
theorem q_X0_takeAway_96 : decode M_X0_takeAway.2.1 96 = .ok (.lsub, 1) ∧ 96 + 1 = 97 := ⟨by decide +kernel, rfl⟩
theorem q_X0_takeAway_97 : decode M_X0_takeAway.2.1 97 = .ok (.lsub, 1) ∧ 97 + 1 = 98 := ⟨by decide +kernel, rfl⟩
theorem q_X0_takeAway_98 : decode M_X0_takeAway.2.1 98 = .ok (.lstore 10, 2) ∧ 98 + 2 = 100 := ⟨by decide +kernel, rfl⟩
theorem q_X0_takeAway_100 : decode M_X0_takeAway.2.1 100 = .ok (.lload 10, 2) ∧ 100 + 2 = 102 := ⟨by decide +kernel, rfl⟩
theorem q_X0_takeAway_102 : decode M_X0_takeAway.2.1 102 = .ok (.lconst 0, 1) ∧ 102 + 1 = 103 := ⟨by decide +kernel, rfl⟩
theorem q_X0_takeAway_103 : decode M_X0_takeAway.2.1 103 = .ok (.lcmp, 1) ∧ 103 + 1 = 104 := ⟨by decide +kernel, rfl⟩
theorem q_X0_takeAway_104 : decode M_X0_takeAway.2.1 104 = .ok (.ifCond .ge 17, 3) ∧ 104 + 3 = 107 ∧ ((104 : Nat) : Int) + 17 = ((121 : Nat) : Int) := ⟨by decide +kernel, rfl, rfl⟩
theorem q_X0_takeAway_107 : decode M_X0_takeAway.2.1 107 = .ok (.lload 10, 2) ∧ 107 + 2 = 109 := ⟨by decide +kernel, rfl⟩
theorem q_X0_takeAway_109 : decode M_X0_takeAway.2.1 109 = .ok (.ldc2_w 83, 3) ∧ 109 + 3 = 112 := ⟨by decide +kernel, rfl⟩
theorem q_X0_takeAway_112 : decode M_X0_takeAway.2.1 112 = .ok (.ladd, 1) ∧ 112 + 1 = 113 := ⟨by decide +kernel, rfl⟩
theorem q_X0_takeAway_113 : decode M_X0_takeAway.2.1 113 = .ok (.lstore 10, 2) ∧ 113 + 2 = 115 := ⟨by decide +kernel, rfl⟩
theorem q_X0_takeAway_115 : decode M_X0_takeAway.2.1 115 = .ok (.lload 5, 2) ∧ 115 + 2 = 117 := ⟨by decide +kernel, rfl⟩
theorem q_X0_takeAway_117 : decode M_X0_takeAway.2.1 117 = .ok (.lconst 1, 1) ∧ 117 + 1 = 118 := ⟨by decide +kernel, rfl⟩
theorem q_X0_takeAway_118 : decode M_X0_takeAway.2.1 118 = .ok (.ladd, 1) ∧ 118 + 1 = 119 := ⟨by decide +kernel, rfl⟩
theorem q_X0_takeAway_119 : decode M_X0_takeAway.2.1 119 = .ok (.lstore 5, 2) ∧ 119 + 2 = 121 := ⟨by decide +kernel, rfl⟩
theorem q_X0_takeAway_121 : decode M_X0_takeAway.2.1 121 = .ok (.aload_n 0, 1) ∧ 121 + 1 = 122 := ⟨by decide +kernel, rfl⟩
theorem q_X0_takeAway_122 : decode M_X0_takeAway.2.1 122 = .ok (.getfield 12, 3) ∧ 122 + 3 = 125 := ⟨by decide +kernel, rfl⟩
theorem q_X0_takeAway_125 : decode M_X0_takeAway.2.1 125 = .ok (.getfield 69, 3) ∧ 125 + 3 = 128 := ⟨by decide +kernel, rfl⟩
theorem q_X0_takeAway_128 : decode M_X0_takeAway.2.1 128 = .ok (.iload 7, 2) ∧ 128 + 2 = 130 := ⟨by decide +kernel, rfl⟩
theorem q_X0_takeAway_130 : decode M_X0_takeAway.2.1 130 = .ok (.iload_n 1, 1) ∧ 130 + 1 = 131 := ⟨by decide +kernel, rfl⟩
theorem q_X0_takeAway_131 : decode M_X0_takeAway.2.1 131 = .ok (.iadd, 1) ∧ 131 + 1 = 132 := ⟨by decide +kernel, rfl⟩
theorem q_X0_takeAway_132 : decode M_X0_takeAway.2.1 132 = .ok (.lload 10, 2) ∧ 132 + 2 = 134 := ⟨by decide +kernel, rfl⟩
theorem q_X0_takeAway_134 : decode M_X0_takeAway.2.1 134 = .ok (.l2i, 1) ∧ 134 + 1 = 135 := ⟨by decide +kernel, rfl⟩
theorem q_X0_takeAway_135 : decode M_X0_takeAway.2.1 135 = .ok (.iastore, 1) ∧ 135 + 1 = 136 := ⟨by decide +kernel, rfl⟩
theorem q_X0_takeAway_136 : decode M_X0_takeAway.2.1 136 = .ok (.iinc 7 1, 3) ∧ 136 + 3 = 139 := ⟨by decide +kernel, rfl⟩
theorem q_X0_takeAway_139 : decode M_X0_takeAway.2.1 139 = .ok (.goto (-96), 3) ∧ 139 + 3 = 142 ∧ ((139 : Nat) : Int) + (-96) = ((43 : Nat) : Int) := ⟨by decide +kernel, rfl, rfl⟩
theorem q_X0_takeAway_142 : decode M_X0_takeAway.2.1 142 = .ok (.aload_n 0, 1) ∧ 142 + 1 = 143 := ⟨by decide +kernel, rfl⟩
theorem q_X0_takeAway_143 : decode M_X0_takeAway.2.1 143 = .ok (.getfield 12, 3) ∧ 143 + 3 = 146 := ⟨by decide +kernel, rfl⟩
theorem q_X0_takeAway_146 : decode M_X0_takeAway.2.1 146 = .ok (.getfield 69, 3) ∧ 146 + 3 = 149 := ⟨by decide +kernel, rfl⟩
theorem q_X0_takeAway_149 : decode M_X0_takeAway.2.1 149 = .ok (.iload_n 2, 1) ∧ 149 + 1 = 150 := ⟨by decide +kernel, rfl⟩
theorem q_X0_takeAway_150 : decode M_X0_takeAway.2.1 150 = .ok (.iload_n 1, 1) ∧ 150 + 1 = 151 := ⟨by decide +kernel, rfl⟩
theorem q_X0_takeAway_151 : decode M_X0_takeAway.2.1 151 = .ok (.iadd, 1) ∧ 151 + 1 = 152 := ⟨by decide +kernel, rfl⟩
theorem q_X0_takeAway_152 : decode M_X0_takeAway.2.1 152 = .ok (.iaload, 1) ∧ 152 + 1 = 153 := ⟨by decide +kernel, rfl⟩
theorem q_X0_takeAway_153 : decode M_X0_takeAway.2.1 153 = .ok (.i2l, 1) ∧ 153 + 1 = 154 := ⟨by decide +kernel, rfl⟩
theorem q_X0_takeAway_154 : decode M_X0_takeAway.2.1 154 = .ok (.lload 5, 2) ∧ 154 + 2 = 156 := ⟨by decide +kernel, rfl⟩
theorem q_X0_takeAway_156 : decode M_X0_takeAway.2.1 156 = .ok (.lsub, 1) ∧ 156 + 1 = 157 := ⟨by decide +kernel, rfl⟩
theorem q_X0_takeAway_157 : decode M_X0_takeAway.2.1 157 = .ok (.lstore 7, 2) ∧ 157 + 2 = 159 := ⟨by decide +kernel, rfl⟩
theorem q_X0_takeAway_159 : decode M_X0_takeAway.2.1 159 = .ok (.aload_n 0, 1) ∧ 159 + 1 = 160 := ⟨by decide +kernel, rfl⟩
theorem q_X0_takeAway_160 : decode M_X0_takeAway.2.1 160 = .ok (.getfield 12, 3) ∧ 160 + 3 = 163 := ⟨by decide +kernel, rfl⟩
theorem q_X0_takeAway_163 : decode M_X0_takeAway.2.1 163 = .ok (.getfield 69, 3) ∧ 163 + 3 = 166 := ⟨by decide +kernel, rfl⟩
theorem q_X0_takeAway_166 : decode M_X0_takeAway.2.1 166 = .ok (.iload_n 2, 1) ∧ 166 + 1 = 167 := ⟨by decide +kernel, rfl⟩
theorem q_X0_takeAway_167 : decode M_X0_takeAway.2.1 167 = .ok (.iload_n 1, 1) ∧ 167 + 1 = 168 := ⟨by decide +kernel, rfl⟩
theorem q_X0_takeAway_168 : decode M_X0_takeAway.2.1 168 = .ok (.iadd, 1) ∧ 168 + 1 = 169 := ⟨by decide +kernel, rfl⟩
theorem q_X0_takeAway_169 : decode M_X0_takeAway.2.1 169 = .ok (.lload 7, 2) ∧ 169 + 2 = 171 := ⟨by decide +kernel, rfl⟩
theorem q_X0_takeAway_171 : decode M_X0_takeAway.2.1 171 = .ok (.l2i, 1) ∧ 171 + 1 = 172 := ⟨by decide +kernel, rfl⟩
theorem q_X0_takeAway_172 : decode M_X0_takeAway.2.1 172 = .ok (.iastore, 1) ∧ 172 + 1 = 173 := ⟨by decide +kernel, rfl⟩
theorem q_X0_takeAway_173 : decode M_X0_takeAway.2.1 173 = .ok (.lload 7, 2) ∧ 173 + 2 = 175 := ⟨by decide +kernel, rfl⟩
theorem q_X0_takeAway_175 : decode M_X0_takeAway.2.1 175 = .ok (.lconst 0, 1) ∧ 175 + 1 = 176 := ⟨by decide +kernel, rfl⟩
theorem q_X0_takeAway_176 : decode M_X0_takeAway.2.1 176 = .ok (.lcmp, 1) ∧ 176 + 1 = 177 := ⟨by decide +kernel, rfl⟩
theorem q_X0_takeAway_177 : decode M_X0_takeAway.2.1 177 = .ok (.ifCond .ge 13, 3) ∧ 177 + 3 = 180 ∧ ((177 : Nat) : Int) + 13 = ((190 : Nat) : Int) := ⟨by decide +kernel, rfl, rfl⟩
theorem q_X0_takeAway_180 : decode M_X0_takeAway.2.1 180 = .ok (.aload_n 0, 1) ∧ 180 + 1 = 181 := ⟨by decide +kernel, rfl⟩
theorem q_X0_takeAway_181 : decode M_X0_takeAway.2.1 181 = .ok (.iload_n 2, 1) ∧ 181 + 1 = 182 := ⟨by decide +kernel, rfl⟩
theorem q_X0_takeAway_182 : decode M_X0_takeAway.2.1 182 = .ok (.iload_n 1, 1) ∧ 182 + 1 = 183 := ⟨by decide +kernel, rfl⟩
theorem q_X0_takeAway_183 : decode M_X0_takeAway.2.1 183 = .ok (.invokevirtual 85, 3) ∧ 183 + 3 = 186 := ⟨by decide +kernel, rfl⟩
theorem g_X0_takeAway_183 : en_C M_X0_takeAway M_X0_giveBack 85 2 := ⟨⟨by decide +kernel, by decide +kernel, by decide +kernel⟩, ⟨by decide, by decide, by decide +kernel⟩, by decide, by decide⟩
theorem w_X0_giveBack : Cond.instanceMethod M_X0_giveBack.1 ∈ en_tbl ∧ Cond.selects M_X0_giveBack.1.cls M_X0_giveBack.1 M_X0_giveBack.1 ∈ en_tbl := ⟨by decide +kernel, by decide +kernel⟩
theorem q_X0_takeAway_186 : decode M_X0_takeAway.2.1 186 = .ok (.lload_n 3, 1) ∧ 186 + 1 = 187 := ⟨by decide +kernel, rfl⟩
theorem q_X0_takeAway_187 : decode M_X0_takeAway.2.1 187 = .ok (.lconst 1, 1) ∧ 187 + 1 = 188 := ⟨by decide +kernel, rfl⟩
theorem q_X0_takeAway_188 : decode M_X0_takeAway.2.1 188 = .ok (.lsub, 1) ∧ 188 + 1 = 189 := ⟨by decide +kernel, rfl⟩
theorem q_X0_takeAway_189 : decode M_X0_takeAway.2.1 189 = .ok (.lstore_n 3, 1) ∧ 189 + 1 = 190 := ⟨by decide +kernel, rfl⟩
theorem q_X0_takeAway_190 : decode M_X0_takeAway.2.1 190 = .ok (.lload_n 3, 1) ∧ 190 + 1 = 191 := ⟨by decide +kernel, rfl⟩
theorem q_X0_takeAway_191 : decode M_X0_takeAway.2.1 191 = .ok (.l2i, 1) ∧ 191 + 1 = 192 := ⟨by decide +kernel, rfl⟩
theorem q_X0_takeAway_192 : decode M_X0_takeAway.2.1 192 = .ok (.ireturn, 1) ∧ 192 + 1 = 193 := ⟨by decide +kernel, rfl⟩
theorem q_X0_guessLimb_0 : decode M_X0_guessLimb.2.1 0 = .ok (.aload_n 0, 1) ∧ 0 + 1 = 1 := ⟨by decide +kernel, rfl⟩
theorem q_X0_guessLimb_1 : decode M_X0_guessLimb.2.1 1 = .ok (.getfield 18, 3) ∧ 1 + 3 = 4 := ⟨by decide +kernel, rfl⟩
theorem q_X0_guessLimb_4 : decode M_X0_guessLimb.2.1 4 = .ok (.getfield 69, 3) ∧ 4 + 3 = 7 := ⟨by decide +kernel, rfl⟩
theorem q_X0_guessLimb_7 : decode M_X0_guessLimb.2.1 7 = .ok (.iload_n 1, 1) ∧ 7 + 1 = 8 := ⟨by decide +kernel, rfl⟩
theorem q_X0_guessLimb_8 : decode M_X0_guessLimb.2.1 8 = .ok (.iconst 1, 1) ∧ 8 + 1 = 9 := ⟨by decide +kernel, rfl⟩
theorem q_X0_guessLimb_9 : decode M_X0_guessLimb.2.1 9 = .ok (.isub, 1) ∧ 9 + 1 = 10 := ⟨by decide +kernel, rfl⟩
theorem q_X0_guessLimb_10 : decode M_X0_guessLimb.2.1 10 = .ok (.iaload, 1) ∧ 10 + 1 = 11 := ⟨by decide +kernel, rfl⟩
theorem q_X0_guessLimb_11 : decode M_X0_guessLimb.2.1 11 = .ok (.i2l, 1) ∧ 11 + 1 = 12 := ⟨by decide +kernel, rfl⟩
theorem q_X0_guessLimb_12 : decode M_X0_guessLimb.2.1 12 = .ok (.lstore_n 3, 1) ∧ 12 + 1 = 13 := ⟨by decide +kernel, rfl⟩
theorem q_X0_guessLimb_13 : decode M_X0_guessLimb.2.1 13 = .ok (.aload_n 0, 1) ∧ 13 + 1 = 14 := ⟨by decide +kernel, rfl⟩
theorem q_X0_guessLimb_14 : decode M_X0_guessLimb.2.1 14 = .ok (.getfield 18, 3) ∧ 14 + 3 = 17 := ⟨by decide +kernel, rfl⟩
theorem q_X0_guessLimb_17 : decode M_X0_guessLimb.2.1 17 = .ok (.getfield 69, 3) ∧ 17 + 3 = 20 := ⟨by decide +kernel, rfl⟩
theorem q_X0_guessLimb_20 : decode M_X0_guessLimb.2.1 20 = .ok (.iload_n 1, 1) ∧ 20 + 1 = 21 := ⟨by decide +kernel, rfl⟩
theorem q_X0_guessLimb_21 : decode M_X0_guessLimb.2.1 21 = .ok (.iconst 2, 1) ∧ 21 + 1 = 22 := ⟨by decide +kernel, rfl⟩
theorem q_X0_guessLimb_22 : decode M_X0_guessLimb.2.1 22 = .ok (.isub, 1) ∧ 22 + 1 = 23 := ⟨by decide +kernel, rfl⟩
theorem q_X0_guessLimb_23 : decode M_X0_guessLimb.2.1 23 = .ok (.iaload, 1) ∧ 23 + 1 = 24 := ⟨by decide +kernel, rfl⟩
theorem q_X0_guessLimb_24 : decode M_X0_guessLimb.2.1 24 = .ok (.i2l, 1) ∧ 24 + 1 = 25 := ⟨by decide +kernel, rfl⟩
theorem q_X0_guessLimb_25 : decode M_X0_guessLimb.2.1 25 = .ok (.lstore 5, 2) ∧ 25 + 2 = 27 := ⟨by decide +kernel, rfl⟩
theorem q_X0_guessLimb_27 : decode M_X0_guessLimb.2.1 27 = .ok (.lload_n 3, 1) ∧ 27 + 1 = 28 := ⟨by decide +kernel, rfl⟩
theorem q_X0_guessLimb_28 : decode M_X0_guessLimb.2.1 28 = .ok (.lconst 0, 1) ∧ 28 + 1 = 29 := ⟨by decide +kernel, rfl⟩
theorem q_X0_guessLimb_29 : decode M_X0_guessLimb.2.1 29 = .ok (.lcmp, 1) ∧ 29 + 1 = 30 := ⟨by decide +kernel, rfl⟩
theorem q_X0_guessLimb_30 : decode M_X0_guessLimb.2.1 30 = .ok (.ifCond .gt 5, 3) ∧ 30 + 3 = 33 ∧ ((30 : Nat) : Int) + 5 = ((35 : Nat) : Int) := ⟨by decide +kernel, rfl, rfl⟩
theorem q_X0_guessLimb_33 : decode M_X0_guessLimb.2.1 33 = .ok (.lconst 0, 1) ∧ 33 + 1 = 34 := ⟨by decide +kernel, rfl⟩
theorem q_X0_guessLimb_34 : decode M_X0_guessLimb.2.1 34 = .ok (.lreturn, 1) ∧ 34 + 1 = 35 := ⟨by decide +kernel, rfl⟩
theorem q_X0_guessLimb_35 : decode M_X0_guessLimb.2.1 35 = .ok (.aload_n 0, 1) ∧ 35 + 1 = 36 := ⟨by decide +kernel, rfl⟩
theorem q_X0_guessLimb_36 : decode M_X0_guessLimb.2.1 36 = .ok (.getfield 12, 3) ∧ 36 + 3 = 39 := ⟨by decide +kernel, rfl⟩
theorem q_X0_guessLimb_39 : decode M_X0_guessLimb.2.1 39 = .ok (.getfield 69, 3) ∧ 39 + 3 = 42 := ⟨by decide +kernel, rfl⟩
theorem q_X0_guessLimb_42 : decode M_X0_guessLimb.2.1 42 = .ok (.iload_n 2, 1) ∧ 42 + 1 = 43 := ⟨by decide +kernel, rfl⟩
theorem q_X0_guessLimb_43 : decode M_X0_guessLimb.2.1 43 = .ok (.iaload, 1) ∧ 43 + 1 = 44 := ⟨by decide +kernel, rfl⟩
theorem q_X0_guessLimb_44 : decode M_X0_guessLimb.2.1 44 = .ok (.i2l, 1) ∧ 44 + 1 = 45 := ⟨by decide +kernel, rfl⟩
theorem q_X0_guessLimb_45 : decode M_X0_guessLimb.2.1 45 = .ok (.ldc2_w 83, 3) ∧ 45 + 3 = 48 := ⟨by decide +kernel, rfl⟩
theorem q_X0_guessLimb_48 : decode M_X0_guessLimb.2.1 48 = .ok (.lmul, 1) ∧ 48 + 1 = 49 := ⟨by decide +kernel, rfl⟩
theorem q_X0_guessLimb_49 : decode M_X0_guessLimb.2.1 49 = .ok (.aload_n 0, 1) ∧ 49 + 1 = 50 := ⟨by decide +kernel, rfl⟩
theorem q_X0_guessLimb_50 : decode M_X0_guessLimb.2.1 50 = .ok (.getfield 12, 3) ∧ 50 + 3 = 53 := ⟨by decide +kernel, rfl⟩
theorem q_X0_guessLimb_53 : decode M_X0_guessLimb.2.1 53 = .ok (.getfield 69, 3) ∧ 53 + 3 = 56 := ⟨by decide +kernel, rfl⟩
theorem q_X0_guessLimb_56 : decode M_X0_guessLimb.2.1 56 = .ok (.iload_n 2, 1) ∧ 56 + 1 = 57 := ⟨by decide +kernel, rfl⟩
theorem q_X0_guessLimb_57 : decode M_X0_guessLimb.2.1 57 = .ok (.iconst 1, 1) ∧ 57 + 1 = 58 := ⟨by decide +kernel, rfl⟩
theorem q_X0_guessLimb_58 : decode M_X0_guessLimb.2.1 58 = .ok (.isub, 1) ∧ 58 + 1 = 59 := ⟨by decide +kernel, rfl⟩
theorem q_X0_guessLimb_59 : decode M_X0_guessLimb.2.1 59 = .ok (.iaload, 1) ∧ 59 + 1 = 60 := ⟨by decide +kernel, rfl⟩
theorem q_X0_guessLimb_60 : decode M_X0_guessLimb.2.1 60 = .ok (.i2l, 1) ∧ 60 + 1 = 61 := ⟨by decide +kernel, rfl⟩
theorem q_X0_guessLimb_61 : decode M_X0_guessLimb.2.1 61 = .ok (.ladd, 1) ∧ 61 + 1 = 62 := ⟨by decide +kernel, rfl⟩
theorem q_X0_guessLimb_62 : decode M_X0_guessLimb.2.1 62 = .ok (.lstore 7, 2) ∧ 62 + 2 = 64 := ⟨by decide +kernel, rfl⟩
theorem q_X0_guessLimb_64 : decode M_X0_guessLimb.2.1 64 = .ok (.aload_n 0, 1) ∧ 64 + 1 = 65 := ⟨by decide +kernel, rfl⟩
theorem q_X0_guessLimb_65 : decode M_X0_guessLimb.2.1 65 = .ok (.getfield 12, 3) ∧ 65 + 3 = 68 := ⟨by decide +kernel, rfl⟩
theorem q_X0_guessLimb_68 : decode M_X0_guessLimb.2.1 68 = .ok (.getfield 69, 3) ∧ 68 + 3 = 71 := ⟨by decide +kernel, rfl⟩
theorem q_X0_guessLimb_71 : decode M_X0_guessLimb.2.1 71 = .ok (.iload_n 2, 1) ∧ 71 + 1 = 72 := ⟨by decide +kernel, rfl⟩
theorem q_X0_guessLimb_72 : decode M_X0_guessLimb.2.1 72 = .ok (.iconst 2, 1) ∧ 72 + 1 = 73 := ⟨by decide +kernel, rfl⟩
theorem q_X0_guessLimb_73 : decode M_X0_guessLimb.2.1 73 = .ok (.isub, 1) ∧ 73 + 1 = 74 := ⟨by decide +kernel, rfl⟩
theorem q_X0_guessLimb_74 : decode M_X0_guessLimb.2.1 74 = .ok (.iaload, 1) ∧ 74 + 1 = 75 := ⟨by decide +kernel, rfl⟩
theorem q_X0_guessLimb_75 : decode M_X0_guessLimb.2.1 75 = .ok (.i2l, 1) ∧ 75 + 1 = 76 := ⟨by decide +kernel, rfl⟩
theorem q_X0_guessLimb_76 : decode M_X0_guessLimb.2.1 76 = .ok (.lstore 9, 2) ∧ 76 + 2 = 78 := ⟨by decide +kernel, rfl⟩
theorem q_X0_guessLimb_78 : decode M_X0_guessLimb.2.1 78 = .ok (.lload 7, 2) ∧ 78 + 2 = 80 := ⟨by decide +kernel, rfl⟩
theorem q_X0_guessLimb_80 : decode M_X0_guessLimb.2.1 80 = .ok (.lload_n 3, 1) ∧ 80 + 1 = 81 := ⟨by decide +kernel, rfl⟩
theorem q_X0_guessLimb_81 : decode M_X0_guessLimb.2.1 81 = .ok (.ldiv, 1) ∧ 81 + 1 = 82 := ⟨by decide +kernel, rfl⟩
theorem q_X0_guessLimb_82 : decode M_X0_guessLimb.2.1 82 = .ok (.lstore 11, 2) ∧ 82 + 2 = 84 := ⟨by decide +kernel, rfl⟩
theorem q_X0_guessLimb_84 : decode M_X0_guessLimb.2.1 84 = .ok (.lload 7, 2) ∧ 84 + 2 = 86 := ⟨by decide +kernel, rfl⟩
theorem q_X0_guessLimb_86 : decode M_X0_guessLimb.2.1 86 = .ok (.lload 11, 2) ∧ 86 + 2 = 88 := ⟨by decide +kernel, rfl⟩
theorem q_X0_guessLimb_88 : decode M_X0_guessLimb.2.1 88 = .ok (.lload_n 3, 1) ∧ 88 + 1 = 89 := ⟨by decide +kernel, rfl⟩
theorem q_X0_guessLimb_89 : decode M_X0_guessLimb.2.1 89 = .ok (.lmul, 1) ∧ 89 + 1 = 90 := ⟨by decide +kernel, rfl⟩
theorem q_X0_guessLimb_90 : decode M_X0_guessLimb.2.1 90 = .ok (.lsub, 1) ∧ 90 + 1 = 91 := ⟨by decide +kernel, rfl⟩
theorem q_X0_guessLimb_91 : decode M_X0_guessLimb.2.1 91 = .ok (.lstore 13, 2) ∧ 91 + 2 = 93 := ⟨by decide +kernel, rfl⟩
theorem q_X0_guessLimb_93 : decode M_X0_guessLimb.2.1 93 = .ok (.iconst 0, 1) ∧ 93 + 1 = 94 := ⟨by decide +kernel, rfl⟩
theorem q_X0_guessLimb_94 : decode M_X0_guessLimb.2.1 94 = .ok (.istore 15, 2) ∧ 94 + 2 = 96 := ⟨by decide +kernel, rfl⟩
theorem q_X0_guessLimb_96 : decode M_X0_guessLimb.2.1 96 = .ok (.iload 15, 2) ∧ 96 + 2 = 98 := ⟨by decide +kernel, rfl⟩
theorem q_X0_guessLimb_98 : decode M_X0_guessLimb.2.1 98 = .ok (.iconst 4, 1) ∧ 98 + 1 = 99 := ⟨by decide +kernel, rfl⟩
theorem q_X0_guessLimb_99 : decode M_X0_guessLimb.2.1 99 = .ok (.if_icmp .ge 60, 3) ∧ 99 + 3 = 102 ∧ ((99 : Nat) : Int) + 60 = ((159 : Nat) : Int) := ⟨by decide +kernel, rfl, rfl⟩
theorem q_X0_guessLimb_102 : decode M_X0_guessLimb.2.1 102 = .ok (.lload 13, 2) ∧ 102 + 2 = 104 := ⟨by decide +kernel, rfl⟩
theorem q_X0_guessLimb_104 : decode M_X0_guessLimb.2.1 104 = .ok (.ldc2_w 83, 3) ∧ 104 + 3 = 107 := ⟨by decide +kernel, rfl⟩
theorem q_X0_guessLimb_107 : decode M_X0_guessLimb.2.1 107 = .ok (.lcmp, 1) ∧ 107 + 1 = 108 := ⟨by decide +kernel, rfl⟩
theorem q_X0_guessLimb_108 : decode M_X0_guessLimb.2.1 108 = .ok (.ifCond .ge 51, 3) ∧ 108 + 3 = 111 ∧ ((108 : Nat) : Int) + 51 = ((159 : Nat) : Int) := ⟨by decide +kernel, rfl, rfl⟩
theorem q_X0_guessLimb_111 : decode M_X0_guessLimb.2.1 111 = .ok (.lload 11, 2) ∧ 111 + 2 = 113 := ⟨by decide +kernel, rfl⟩
theorem q_X0_guessLimb_113 : decode M_X0_guessLimb.2.1 113 = .ok (.ldc2_w 83, 3) ∧ 113 + 3 = 116 := ⟨by decide +kernel, rfl⟩
theorem q_X0_guessLimb_116 : decode M_X0_guessLimb.2.1 116 = .ok (.lcmp, 1) ∧ 116 + 1 = 117 := ⟨by decide +kernel, rfl⟩
theorem q_X0_guessLimb_117 : decode M_X0_guessLimb.2.1 117 = .ok (.ifCond .ge 24, 3) ∧ 117 + 3 = 120 ∧ ((117 : Nat) : Int) + 24 = ((141 : Nat) : Int) := ⟨by decide +kernel, rfl, rfl⟩
theorem q_X0_guessLimb_120 : decode M_X0_guessLimb.2.1 120 = .ok (.lload 11, 2) ∧ 120 + 2 = 122 := ⟨by decide +kernel, rfl⟩
theorem q_X0_guessLimb_122 : decode M_X0_guessLimb.2.1 122 = .ok (.lload 5, 2) ∧ 122 + 2 = 124 := ⟨by decide +kernel, rfl⟩
theorem q_X0_guessLimb_124 : decode M_X0_guessLimb.2.1 124 = .ok (.lmul, 1) ∧ 124 + 1 = 125 := ⟨by decide +kernel, rfl⟩
theorem q_X0_guessLimb_125 : decode M_X0_guessLimb.2.1 125 = .ok (.lload 13, 2) ∧ 125 + 2 = 127 := ⟨by decide +kernel, rfl⟩
theorem q_X0_guessLimb_127 : decode M_X0_guessLimb.2.1 127 = .ok (.ldc2_w 83, 3) ∧ 127 + 3 = 130 := ⟨by decide +kernel, rfl⟩
theorem q_X0_guessLimb_130 : decode M_X0_guessLimb.2.1 130 = .ok (.lmul, 1) ∧ 130 + 1 = 131 := ⟨by decide +kernel, rfl⟩
theorem q_X0_guessLimb_131 : decode M_X0_guessLimb.2.1 131 = .ok (.lload 9, 2) ∧ 131 + 2 = 133 := ⟨by decide +kernel, rfl⟩
theorem q_X0_guessLimb_133 : decode M_X0_guessLimb.2.1 133 = .ok (.ladd, 1) ∧ 133 + 1 = 134 := ⟨by decide +kernel, rfl⟩
theorem q_X0_guessLimb_134 : decode M_X0_guessLimb.2.1 134 = .ok (.lcmp, 1) ∧ 134 + 1 = 135 := ⟨by decide +kernel, rfl⟩
theorem q_X0_guessLimb_135 : decode M_X0_guessLimb.2.1 135 = .ok (.ifCond .gt 6, 3) ∧ 135 + 3 = 138 ∧ ((135 : Nat) : Int) + 6 = ((141 : Nat) : Int) := ⟨by decide +kernel, rfl, rfl⟩
theorem q_X0_guessLimb_138 : decode M_X0_guessLimb.2.1 138 = .ok (.goto 21, 3) ∧ 138 + 3 = 141 ∧ ((138 : Nat) : Int) + 21 = ((159 : Nat) : Int) := ⟨by decide +kernel, rfl, rfl⟩
theorem q_X0_guessLimb_141 : decode M_X0_guessLimb.2.1 141 = .ok (.lload 11, 2) ∧ 141 + 2 = 143 := ⟨by decide +kernel, rfl⟩
theorem q_X0_guessLimb_143 : decode M_X0_guessLimb.2.1 143 = .ok (.lconst 1, 1) ∧ 143 + 1 = 144 := ⟨by decide +kernel, rfl⟩
theorem q_X0_guessLimb_144 : decode M_X0_guessLimb.2.1 144 = .ok (.lsub, 1) ∧ 144 + 1 = 145 := ⟨by decide +kernel, rfl⟩
theorem q_X0_guessLimb_145 : decode M_X0_guessLimb.2.1 145 = .ok (.lstore 11, 2) ∧ 145 + 2 = 147 := ⟨by decide +kernel, rfl⟩
theorem q_X0_guessLimb_147 : decode M_X0_guessLimb.2.1 147 = .ok (.lload 13, 2) ∧ 147 + 2 = 149 := ⟨by decide +kernel, rfl⟩
theorem q_X0_guessLimb_149 : decode M_X0_guessLimb.2.1 149 = .ok (.lload_n 3, 1) ∧ 149 + 1 = 150 := ⟨by decide +kernel, rfl⟩
theorem q_X0_guessLimb_150 : decode M_X0_guessLimb.2.1 150 = .ok (.ladd, 1) ∧ 150 + 1 = 151 := ⟨by decide +kernel, rfl⟩
theorem q_X0_guessLimb_151 : decode M_X0_guessLimb.2.1 151 = .ok (.lstore 13, 2) ∧ 151 + 2 = 153 := ⟨by decide +kernel, rfl⟩
theorem q_X0_guessLimb_153 : decode M_X0_guessLimb.2.1 153 = .ok (.iinc 15 1, 3) ∧ 153 + 3 = 156 := ⟨by decide +kernel, rfl⟩
theorem q_X0_guessLimb_156 : decode M_X0_guessLimb.2.1 156 = .ok (.goto (-60), 3) ∧ 156 + 3 = 159 ∧ ((156 : Nat) : Int) + (-60) = ((96 : Nat) : Int) := ⟨by decide +kernel, rfl, rfl⟩
theorem q_X0_guessLimb_159 : decode M_X0_guessLimb.2.1 159 = .ok (.lload 11, 2) ∧ 159 + 2 = 161 := ⟨by decide +kernel, rfl⟩
theorem q_X0_guessLimb_161 : decode M_X0_guessLimb.2.1 161 = .ok (.lreturn, 1) ∧ 161 + 1 = 162 := ⟨by decide +kernel, rfl⟩
theorem q_X0_giveBack_0 : decode M_X0_giveBack.2.1 0 = .ok (.iconst 0, 1) ∧ 0 + 1 = 1 := ⟨by decide +kernel, rfl⟩
theorem q_X0_giveBack_1 : decode M_X0_giveBack.2.1 1 = .ok (.istore_n 3, 1) ∧ 1 + 1 = 2 := ⟨by decide +kernel, rfl⟩
theorem q_X0_giveBack_2 : decode M_X0_giveBack.2.1 2 = .ok (.iconst 0, 1) ∧ 2 + 1 = 3 := ⟨by decide +kernel, rfl⟩
theorem q_X0_giveBack_3 : decode M_X0_giveBack.2.1 3 = .ok (.istore 4, 2) ∧ 3 + 2 = 5 := ⟨by decide +kernel, rfl⟩
theorem q_X0_giveBack_5 : decode M_X0_giveBack.2.1 5 = .ok (.iload 4, 2) ∧ 5 + 2 = 7 := ⟨by decide +kernel, rfl⟩
theorem q_X0_giveBack_7 : decode M_X0_giveBack.2.1 7 = .ok (.iload_n 1, 1) ∧ 7 + 1 = 8 := ⟨by decide +kernel, rfl⟩
theorem q_X0_giveBack_8 : decode M_X0_giveBack.2.1 8 = .ok (.if_icmp .ge 68, 3) ∧ 8 + 3 = 11 ∧ ((8 : Nat) : Int) + 68 = ((76 : Nat) : Int) := ⟨by decide +kernel, rfl, rfl⟩
theorem q_X0_giveBack_11 : decode M_X0_giveBack.2.1 11 = .ok (.aload_n 0, 1) ∧ 11 + 1 = 12 := ⟨by decide +kernel, rfl⟩
theorem q_X0_giveBack_12 : decode M_X0_giveBack.2.1 12 = .ok (.getfield 12, 3) ∧ 12 + 3 = 15 := ⟨by decide +kernel, rfl⟩
theorem q_X0_giveBack_15 : decode M_X0_giveBack.2.1 15 = .ok (.getfield 69, 3) ∧ 15 + 3 = 18 := ⟨by decide +kernel, rfl⟩
theorem q_X0_giveBack_18 : decode M_X0_giveBack.2.1 18 = .ok (.iload 4, 2) ∧ 18 + 2 = 20 := ⟨by decide +kernel, rfl⟩
theorem q_X0_giveBack_20 : decode M_X0_giveBack.2.1 20 = .ok (.iload_n 2, 1) ∧ 20 + 1 = 21 := ⟨by decide +kernel, rfl⟩
theorem q_X0_giveBack_21 : decode M_X0_giveBack.2.1 21 = .ok (.iadd, 1) ∧ 21 + 1 = 22 := ⟨by decide +kernel, rfl⟩
theorem q_X0_giveBack_22 : decode M_X0_giveBack.2.1 22 = .ok (.iaload, 1) ∧ 22 + 1 = 23 := ⟨by decide +kernel, rfl⟩
theorem q_X0_giveBack_23 : decode M_X0_giveBack.2.1 23 = .ok (.aload_n 0, 1) ∧ 23 + 1 = 24 := ⟨by decide +kernel, rfl⟩
theorem q_X0_giveBack_24 : decode M_X0_giveBack.2.1 24 = .ok (.getfield 18, 3) ∧ 24 + 3 = 27 := ⟨by decide +kernel, rfl⟩
theorem q_X0_giveBack_27 : decode M_X0_giveBack.2.1 27 = .ok (.getfield 69, 3) ∧ 27 + 3 = 30 := ⟨by decide +kernel, rfl⟩
theorem q_X0_giveBack_30 : decode M_X0_giveBack.2.1 30 = .ok (.iload 4, 2) ∧ 30 + 2 = 32 := ⟨by decide +kernel, rfl⟩
theorem q_X0_giveBack_32 : decode M_X0_giveBack.2.1 32 = .ok (.iaload, 1) ∧ 32 + 1 = 33 := ⟨by decide +kernel, rfl⟩
theorem q_X0_giveBack_33 : decode M_X0_giveBack.2.1 33 = .ok (.iadd, 1) ∧ 33 + 1 = 34 := ⟨by decide +kernel, rfl⟩
theorem q_X0_giveBack_34 : decode M_X0_giveBack.2.1 34 = .ok (.iload_n 3, 1) ∧ 34 + 1 = 35 := ⟨by decide +kernel, rfl⟩
theorem q_X0_giveBack_35 : decode M_X0_giveBack.2.1 35 = .ok (.iadd, 1) ∧ 35 + 1 = 36 := ⟨by decide +kernel, rfl⟩
theorem q_X0_giveBack_36 : decode M_X0_giveBack.2.1 36 = .ok (.istore 5, 2) ∧ 36 + 2 = 38 := ⟨by decide +kernel, rfl⟩
theorem q_X0_giveBack_38 : decode M_X0_giveBack.2.1 38 = .ok (.iload 5, 2) ∧ 38 + 2 = 40 := ⟨by decide +kernel, rfl⟩
theorem q_X0_giveBack_40 : decode M_X0_giveBack.2.1 40 = .ok (.ldc 61, 2) ∧ 40 + 2 = 42 := ⟨by decide +kernel, rfl⟩
theorem q_X0_giveBack_42 : decode M_X0_giveBack.2.1 42 = .ok (.if_icmp .lt 7, 3) ∧ 42 + 3 = 45 ∧ ((42 : Nat) : Int) + 7 = ((49 : Nat) : Int) := ⟨by decide +kernel, rfl, rfl⟩
theorem q_X0_giveBack_45 : decode M_X0_giveBack.2.1 45 = .ok (.iconst 1, 1) ∧ 45 + 1 = 46 := ⟨by decide +kernel, rfl⟩
theorem q_X0_giveBack_46 : decode M_X0_giveBack.2.1 46 = .ok (.goto 4, 3) ∧ 46 + 3 = 49 ∧ ((46 : Nat) : Int) + 4 = ((50 : Nat) : Int) := ⟨by decide +kernel, rfl, rfl⟩
theorem q_X0_giveBack_49 : decode M_X0_giveBack.2.1 49 = .ok (.iconst 0, 1) ∧ 49 + 1 = 50 := ⟨by decide +kernel, rfl⟩
theorem q_X0_giveBack_50 : decode M_X0_giveBack.2.1 50 = .ok (.istore_n 3, 1) ∧ 50 + 1 = 51 := ⟨by decide +kernel, rfl⟩
theorem q_X0_giveBack_51 : decode M_X0_giveBack.2.1 51 = .ok (.aload_n 0, 1) ∧ 51 + 1 = 52 := ⟨by decide +kernel, rfl⟩
theorem q_X0_giveBack_52 : decode M_X0_giveBack.2.1 52 = .ok (.getfield 12, 3) ∧ 52 + 3 = 55 := ⟨by decide +kernel, rfl⟩
theorem q_X0_giveBack_55 : decode M_X0_giveBack.2.1 55 = .ok (.getfield 69, 3) ∧ 55 + 3 = 58 := ⟨by decide +kernel, rfl⟩
theorem q_X0_giveBack_58 : decode M_X0_giveBack.2.1 58 = .ok (.iload 4, 2) ∧ 58 + 2 = 60 := ⟨by decide +kernel, rfl⟩
theorem q_X0_giveBack_60 : decode M_X0_giveBack.2.1 60 = .ok (.iload_n 2, 1) ∧ 60 + 1 = 61 := ⟨by decide +kernel, rfl⟩
theorem q_X0_giveBack_61 : decode M_X0_giveBack.2.1 61 = .ok (.iadd, 1) ∧ 61 + 1 = 62 := ⟨by decide +kernel, rfl⟩
theorem q_X0_giveBack_62 : decode M_X0_giveBack.2.1 62 = .ok (.iload 5, 2) ∧ 62 + 2 = 64 := ⟨by decide +kernel, rfl⟩
theorem q_X0_giveBack_64 : decode M_X0_giveBack.2.1 64 = .ok (.iload_n 3, 1) ∧ 64 + 1 = 65 := ⟨by decide +kernel, rfl⟩
theorem q_X0_giveBack_65 : decode M_X0_giveBack.2.1 65 = .ok (.ldc 61, 2) ∧ 65 + 2 = 67 := ⟨by decide +kernel, rfl⟩
theorem q_X0_giveBack_67 : decode M_X0_giveBack.2.1 67 = .ok (.imul, 1) ∧ 67 + 1 = 68 := ⟨by decide +kernel, rfl⟩
theorem q_X0_giveBack_68 : decode M_X0_giveBack.2.1 68 = .ok (.isub, 1) ∧ 68 + 1 = 69 := ⟨by decide +kernel, rfl⟩
theorem q_X0_giveBack_69 : decode M_X0_giveBack.2.1 69 = .ok (.iastore, 1) ∧ 69 + 1 = 70 := ⟨by decide +kernel, rfl⟩
theorem q_X0_giveBack_70 : decode M_X0_giveBack.2.1 70 = .ok (.iinc 4 1, 3) ∧ 70 + 3 = 73 := ⟨by decide +kernel, rfl⟩
theorem q_X0_giveBack_73 : decode M_X0_giveBack.2.1 73 = .ok (.goto (-68), 3) ∧ 73 + 3 = 76 ∧ ((73 : Nat) : Int) + (-68) = ((5 : Nat) : Int) := ⟨by decide +kernel, rfl, rfl⟩
theorem q_X0_giveBack_76 : decode M_X0_giveBack.2.1 76 = .ok (.aload_n 0, 1) ∧ 76 + 1 = 77 := ⟨by decide +kernel, rfl⟩
theorem q_X0_giveBack_77 : decode M_X0_giveBack.2.1 77 = .ok (.getfield 12, 3) ∧ 77 + 3 = 80 := ⟨by decide +kernel, rfl⟩
theorem q_X0_giveBack_80 : decode M_X0_giveBack.2.1 80 = .ok (.getfield 69, 3) ∧ 80 + 3 = 83 := ⟨by decide +kernel, rfl⟩
theorem q_X0_giveBack_83 : decode M_X0_giveBack.2.1 83 = .ok (.iload_n 1, 1) ∧ 83 + 1 = 84 := ⟨by decide +kernel, rfl⟩
theorem q_X0_giveBack_84 : decode M_X0_giveBack.2.1 84 = .ok (.iload_n 2, 1) ∧ 84 + 1 = 85 := ⟨by decide +kernel, rfl⟩
theorem q_X0_giveBack_85 : decode M_X0_giveBack.2.1 85 = .ok (.iadd, 1) ∧ 85 + 1 = 86 := ⟨by decide +kernel, rfl⟩
theorem q_X0_giveBack_86 : decode M_X0_giveBack.2.1 86 = .ok (.dup2, 1) ∧ 86 + 1 = 87 := ⟨by decide +kernel, rfl⟩
theorem q_X0_giveBack_87 : decode M_X0_giveBack.2.1 87 = .ok (.iaload, 1) ∧ 87 + 1 = 88 := ⟨by decide +kernel, rfl⟩
theorem q_X0_giveBack_88 : decode M_X0_giveBack.2.1 88 = .ok (.iload_n 3, 1) ∧ 88 + 1 = 89 := ⟨by decide +kernel, rfl⟩
theorem q_X0_giveBack_89 : decode M_X0_giveBack.2.1 89 = .ok (.iadd, 1) ∧ 89 + 1 = 90 := ⟨by decide +kernel, rfl⟩
theorem q_X0_giveBack_90 : decode M_X0_giveBack.2.1 90 = .ok (.iastore, 1) ∧ 90 + 1 = 91 := ⟨by decide +kernel, rfl⟩
theorem q_X0_giveBack_91 : decode M_X0_giveBack.2.1 91 = .ok (.return_, 1) ∧ 91 + 1 = 92 := ⟨by decide +kernel, rfl⟩
theorem q_X0_squareRoot_0 : decode M_X0_squareRoot.2.1 0 = .ok (.aload_n 2, 1) ∧ 0 + 1 = 1 := ⟨by decide +kernel, rfl⟩
theorem q_X0_squareRoot_1 : decode M_X0_squareRoot.2.1 1 = .ok (.invokevirtual 44, 3) ∧ 1 + 3 = 4 := ⟨by decide +kernel, rfl⟩
theorem g_X0_squareRoot_1 : en_C M_X0_squareRoot M_X1_clear 44 0 := ⟨⟨by decide +kernel, by decide +kernel, by decide +kernel⟩, ⟨by decide, by decide, by decide +kernel⟩, by decide, by decide⟩
theorem q_X0_squareRoot_4 : decode M_X0_squareRoot.2.1 4 = .ok (.aload_n 1, 1) ∧ 4 + 1 = 5 := ⟨by decide +kernel, rfl⟩
theorem q_X0_squareRoot_5 : decode M_X0_squareRoot.2.1 5 = .ok (.getfield 34, 3) ∧ 5 + 3 = 8 := ⟨by decide +kernel, rfl⟩
theorem q_X0_squareRoot_8 : decode M_X0_squareRoot.2.1 8 = .ok (.ifCond .gt 5, 3) ∧ 8 + 3 = 11 ∧ ((8 : Nat) : Int) + 5 = ((13 : Nat) : Int) := ⟨by decide +kernel, rfl, rfl⟩
theorem q_X0_squareRoot_11 : decode M_X0_squareRoot.2.1 11 = .ok (.iconst 0, 1) ∧ 11 + 1 = 12 := ⟨by decide +kernel, rfl⟩
theorem q_X0_squareRoot_12 : decode M_X0_squareRoot.2.1 12 = .ok (.ireturn, 1) ∧ 12 + 1 = 13 := ⟨by decide +kernel, rfl⟩
theorem q_X0_squareRoot_13 : decode M_X0_squareRoot.2.1 13 = .ok (.aload_n 1, 1) ∧ 13 + 1 = 14 := ⟨by decide +kernel, rfl⟩
theorem q_X0_squareRoot_14 : decode M_X0_squareRoot.2.1 14 = .ok (.getfield 47, 3) ∧ 14 + 3 = 17 := ⟨by decide +kernel, rfl⟩
theorem q_X0_squareRoot_17 : decode M_X0_squareRoot.2.1 17 = .ok (.iconst 1, 1) ∧ 17 + 1 = 18 := ⟨by decide +kernel, rfl⟩
theorem q_X0_squareRoot_18 : decode M_X0_squareRoot.2.1 18 = .ok (.isub, 1) ∧ 18 + 1 = 19 := ⟨by decide +kernel, rfl⟩
theorem q_X0_squareRoot_19 : decode M_X0_squareRoot.2.1 19 = .ok (.iconst 2, 1) ∧ 19 + 1 = 20 := ⟨by decide +kernel, rfl⟩
theorem q_X0_squareRoot_20 : decode M_X0_squareRoot.2.1 20 = .ok (.idiv, 1) ∧ 20 + 1 = 21 := ⟨by decide +kernel, rfl⟩
theorem q_X0_squareRoot_21 : decode M_X0_squareRoot.2.1 21 = .ok (.istore_n 3, 1) ∧ 21 + 1 = 22 := ⟨by decide +kernel, rfl⟩
theorem q_X0_squareRoot_22 : decode M_X0_squareRoot.2.1 22 = .ok (.iconst 1, 1) ∧ 22 + 1 = 23 := ⟨by decide +kernel, rfl⟩
theorem q_X0_squareRoot_23 : decode M_X0_squareRoot.2.1 23 = .ok (.istore 4, 2) ∧ 23 + 2 = 25 := ⟨by decide +kernel, rfl⟩
theorem q_X0_squareRoot_25 : decode M_X0_squareRoot.2.1 25 = .ok (.aload_n 2, 1) ∧ 25 + 1 = 26 := ⟨by decide +kernel, rfl⟩
theorem q_X0_squareRoot_26 : decode M_X0_squareRoot.2.1 26 = .ok (.aload_n 1, 1) ∧ 26 + 1 = 27 := ⟨by decide +kernel, rfl⟩
theorem q_X0_squareRoot_27 : decode M_X0_squareRoot.2.1 27 = .ok (.iload_n 3, 1) ∧ 27 + 1 = 28 := ⟨by decide +kernel, rfl⟩
theorem q_X0_squareRoot_28 : decode M_X0_squareRoot.2.1 28 = .ok (.invokestatic 89, 3) ∧ 28 + 3 = 31 := ⟨by decide +kernel, rfl⟩
theorem g_X0_squareRoot_28 : en_C M_X0_squareRoot M_X0_startAbove 89 2 := ⟨⟨by decide +kernel, by decide +kernel, by decide +kernel⟩, ⟨by decide, by decide, by decide +kernel⟩, by decide, by decide⟩
theorem w_X0_startAbove : Cond.static M_X0_startAbove.1 ∈ en_tbl := by decide +kernel
theorem q_X0_squareRoot_31 : decode M_X0_squareRoot.2.1 31 = .ok (.invokevirtual 57, 3) ∧ 31 + 3 = 34 := ⟨by decide +kernel, rfl⟩
theorem g_X0_squareRoot_31 : en_C M_X0_squareRoot M_X1_setLong 57 1 := ⟨⟨by decide +kernel, by decide +kernel, by decide +kernel⟩, ⟨by decide, by decide, by decide +kernel⟩, by decide, by decide⟩
theorem q_X0_squareRoot_34 : decode M_X0_squareRoot.2.1 34 = .ok (.iconst 0, 1) ∧ 34 + 1 = 35 := ⟨by decide +kernel, rfl⟩
theorem q_X0_squareRoot_35 : decode M_X0_squareRoot.2.1 35 = .ok (.istore 5, 2) ∧ 35 + 2 = 37 := ⟨by decide +kernel, rfl⟩
theorem q_X0_squareRoot_37 : decode M_X0_squareRoot.2.1 37 = .ok (.iload 5, 2) ∧ 37 + 2 = 39 := ⟨by decide +kernel, rfl⟩
theorem q_X0_squareRoot_39 : decode M_X0_squareRoot.2.1 39 = .ok (.sipush 200, 3) ∧ 39 + 3 = 42 := ⟨by decide +kernel, rfl⟩
theorem q_X0_squareRoot_42 : decode M_X0_squareRoot.2.1 42 = .ok (.if_icmp .ge 127, 3) ∧ 42 + 3 = 45 ∧ ((42 : Nat) : Int) + 127 = ((169 : Nat) : Int) := ⟨by decide +kernel, rfl, rfl⟩
theorem q_X0_squareRoot_45 : decode M_X0_squareRoot.2.1 45 = .ok (.aload_n 0, 1) ∧ 45 + 1 = 46 := ⟨by decide +kernel, rfl⟩
theorem q_X0_squareRoot_46 : decode M_X0_squareRoot.2.1 46 = .ok (.getfield 21, 3) ∧ 46 + 3 = 49 := ⟨by decide +kernel, rfl⟩
theorem f_RX0_21 : en_F RX0 21 0 2 := ⟨RX0, TX0, 5, rfl, by decide, rfl, by decide +kernel, by decide +kernel⟩
theorem q_X0_squareRoot_49 : decode M_X0_squareRoot.2.1 49 = .ok (.aload_n 1, 1) ∧ 49 + 1 = 50 := ⟨by decide +kernel, rfl⟩
theorem q_X0_squareRoot_50 : decode M_X0_squareRoot.2.1 50 = .ok (.invokevirtual 30, 3) ∧ 50 + 3 = 53 := ⟨by decide +kernel, rfl⟩
theorem g_X0_squareRoot_50 : en_C M_X0_squareRoot M_X1_copy 30 1 := ⟨⟨by decide +kernel, by decide +kernel, by decide +kernel⟩, ⟨by decide, by decide, by decide +kernel⟩, by decide, by decide⟩
theorem q_X0_squareRoot_53 : decode M_X0_squareRoot.2.1 53 = .ok (.aload_n 0, 1) ∧ 53 + 1 = 54 := ⟨by decide +kernel, rfl⟩
theorem q_X0_squareRoot_54 : decode M_X0_squareRoot.2.1 54 = .ok (.getfield 21, 3) ∧ 54 + 3 = 57 := ⟨by decide +kernel, rfl⟩
theorem q_X0_squareRoot_57 : decode M_X0_squareRoot.2.1 57 = .ok (.iconst 2, 1) ∧ 57 + 1 = 58 := ⟨by decide +kernel, rfl⟩
theorem q_X0_squareRoot_58 : decode M_X0_squareRoot.2.1 58 = .ok (.iload_n 3, 1) ∧ 58 + 1 = 59 := ⟨by decide +kernel, rfl⟩
theorem q_X0_squareRoot_59 : decode M_X0_squareRoot.2.1 59 = .ok (.imul, 1) ∧ 59 + 1 = 60 := ⟨by decide +kernel, rfl⟩
theorem q_X0_squareRoot_60 : decode M_X0_squareRoot.2.1 60 = .ok (.bipush 9, 2) ∧ 60 + 2 = 62 := ⟨by decide +kernel, rfl⟩
theorem q_X0_squareRoot_62 : decode M_X0_squareRoot.2.1 62 = .ok (.imul, 1) ∧ 62 + 1 = 63 := ⟨by decide +kernel, rfl⟩
theorem q_X0_squareRoot_63 : decode M_X0_squareRoot.2.1 63 = .ok (.iconst (-1), 1) ∧ 63 + 1 = 64 := ⟨by decide +kernel, rfl⟩
theorem q_X0_squareRoot_64 : decode M_X0_squareRoot.2.1 64 = .ok (.invokevirtual 93, 3) ∧ 64 + 3 = 67 := ⟨by decide +kernel, rfl⟩
theorem g_X0_squareRoot_64 : en_C M_X0_squareRoot M_X1_shrink 93 2 := ⟨⟨by decide +kernel, by decide +kernel, by decide +kernel⟩, ⟨by decide, by decide, by decide +kernel⟩, by decide, by decide⟩
theorem w_X1_shrink : Cond.instanceMethod M_X1_shrink.1 ∈ en_tbl ∧ Cond.selects M_X1_shrink.1.cls M_X1_shrink.1 M_X1_shrink.1 ∈ en_tbl := ⟨by decide +kernel, by decide +kernel⟩
theorem q_X0_squareRoot_67 : decode M_X0_squareRoot.2.1 67 = .ok (.aload_n 0, 1) ∧ 67 + 1 = 68 := ⟨by decide +kernel, rfl⟩
theorem q_X0_squareRoot_68 : decode M_X0_squareRoot.2.1 68 = .ok (.aload_n 0, 1) ∧ 68 + 1 = 69 := ⟨by decide +kernel, rfl⟩
theorem q_X0_squareRoot_69 : decode M_X0_squareRoot.2.1 69 = .ok (.getfield 21, 3) ∧ 69 + 3 = 72 := ⟨by decide +kernel, rfl⟩
theorem q_X0_squareRoot_72 : decode M_X0_squareRoot.2.1 72 = .ok (.aload_n 2, 1) ∧ 72 + 1 = 73 := ⟨by decide +kernel, rfl⟩
theorem q_X0_squareRoot_73 : decode M_X0_squareRoot.2.1 73 = .ok (.aload_n 0, 1) ∧ 73 + 1 = 74 := ⟨by decide +kernel, rfl⟩
theorem q_X0_squareRoot_74 : decode M_X0_squareRoot.2.1 74 = .ok (.getfield 24, 3) ∧ 74 + 3 = 77 := ⟨by decide +kernel, rfl⟩
theorem f_RX0_24 : en_F RX0 24 0 3 := ⟨RX0, TX0, 5, rfl, by decide, rfl, by decide +kernel, by decide +kernel⟩
theorem q_X0_squareRoot_77 : decode M_X0_squareRoot.2.1 77 = .ok (.aload_n 0, 1) ∧ 77 + 1 = 78 := ⟨by decide +kernel, rfl⟩
theorem q_X0_squareRoot_78 : decode M_X0_squareRoot.2.1 78 = .ok (.getfield 27, 3) ∧ 78 + 3 = 81 := ⟨by decide +kernel, rfl⟩
theorem f_RX0_27 : en_F RX0 27 0 4 := ⟨RX0, TX0, 5, rfl, by decide, rfl, by decide +kernel, by decide +kernel⟩
theorem q_X0_squareRoot_81 : decode M_X0_squareRoot.2.1 81 = .ok (.invokevirtual 96, 3) ∧ 81 + 3 = 84 := ⟨by decide +kernel, rfl⟩
theorem g_X0_squareRoot_81 : en_C M_X0_squareRoot M_X0_divide 96 4 := ⟨⟨by decide +kernel, by decide +kernel, by decide +kernel⟩, ⟨by decide, by decide, by decide +kernel⟩, by decide, by decide⟩
theorem w_X0_divide : Cond.instanceMethod M_X0_divide.1 ∈ en_tbl ∧ Cond.selects M_X0_divide.1.cls M_X0_divide.1 M_X0_divide.1 ∈ en_tbl := ⟨by decide +kernel, by decide +kernel⟩
theorem q_X0_squareRoot_84 : decode M_X0_squareRoot.2.1 84 = .ok (.aload_n 0, 1) ∧ 84 + 1 = 85 := ⟨by decide +kernel, rfl⟩
theorem q_X0_squareRoot_85 : decode M_X0_squareRoot.2.1 85 = .ok (.getfield 24, 3) ∧ 85 + 3 = 88 := ⟨by decide +kernel, rfl⟩
theorem q_X0_squareRoot_88 : decode M_X0_squareRoot.2.1 88 = .ok (.aload_n 2, 1) ∧ 88 + 1 = 89 := ⟨by decide +kernel, rfl⟩
theorem q_X0_squareRoot_89 : decode M_X0_squareRoot.2.1 89 = .ok (.invokevirtual 100, 3) ∧ 89 + 3 = 92 := ⟨by decide +kernel, rfl⟩
theorem g_X0_squareRoot_89 : en_C M_X0_squareRoot M_X1_add 100 1 := ⟨⟨by decide +kernel, by decide +kernel, by decide +kernel⟩, ⟨by decide, by decide, by decide +kernel⟩, by decide, by decide⟩
theorem q_X0_squareRoot_92 : decode M_X0_squareRoot.2.1 92 = .ok (.aload_n 0, 1) ∧ 92 + 1 = 93 := ⟨by decide +kernel, rfl⟩
theorem q_X0_squareRoot_93 : decode M_X0_squareRoot.2.1 93 = .ok (.getfield 24, 3) ∧ 93 + 3 = 96 := ⟨by decide +kernel, rfl⟩
theorem q_X0_squareRoot_96 : decode M_X0_squareRoot.2.1 96 = .ok (.ldc2_w 103, 3) ∧ 96 + 3 = 99 := ⟨by decide +kernel, rfl⟩
theorem k_RX0_103 : Cond.constantLong RX0 103 (lN 2) ∈ en_tbl := by decide +kernel
theorem q_X0_squareRoot_99 : decode M_X0_squareRoot.2.1 99 = .ok (.invokevirtual 53, 3) ∧ 99 + 3 = 102 := ⟨by decide +kernel, rfl⟩
theorem g_X0_squareRoot_99 : en_C M_X0_squareRoot M_X1_divideSmall 53 1 := ⟨⟨by decide +kernel, by decide +kernel, by decide +kernel⟩, ⟨by decide, by decide, by decide +kernel⟩, by decide, by decide⟩
theorem q_X0_squareRoot_102 : decode M_X0_squareRoot.2.1 102 = .ok (.pop2, 1) ∧ 102 + 1 = 103 := ⟨by decide +kernel, rfl⟩
theorem q_X0_squareRoot_103 : decode M_X0_squareRoot.2.1 103 = .ok (.aload_n 0, 1) ∧ 103 + 1 = 104 := ⟨by decide +kernel, rfl⟩
theorem q_X0_squareRoot_104 : decode M_X0_squareRoot.2.1 104 = .ok (.getfield 24, 3) ∧ 104 + 3 = 107 := ⟨by decide +kernel, rfl⟩
theorem q_X0_squareRoot_107 : decode M_X0_squareRoot.2.1 107 = .ok (.aload_n 2, 1) ∧ 107 + 1 = 108 := ⟨by decide +kernel, rfl⟩
theorem q_X0_squareRoot_108 : decode M_X0_squareRoot.2.1 108 = .ok (.invokevirtual 105, 3) ∧ 108 + 3 = 111 := ⟨by decide +kernel, rfl⟩
theorem g_X0_squareRoot_108 : en_C M_X0_squareRoot M_X1_compare 105 1 := ⟨⟨by decide +kernel, by decide +kernel, by decide +kernel⟩, ⟨by decide, by decide, by decide +kernel⟩, by decide, by decide⟩
theorem w_X1_compare : Cond.instanceMethod M_X1_compare.1 ∈ en_tbl ∧ Cond.selects M_X1_compare.1.cls M_X1_compare.1 M_X1_compare.1 ∈ en_tbl := ⟨by decide +kernel, by decide +kernel⟩
theorem q_X0_squareRoot_111 : decode M_X0_squareRoot.2.1 111 = .ok (.ifCond .ge 14, 3) ∧ 111 + 3 = 114 ∧ ((111 : Nat) : Int) + 14 = ((125 : Nat) : Int) := ⟨by decide +kernel, rfl, rfl⟩
theorem q_X0_squareRoot_114 : decode M_X0_squareRoot.2.1 114 = .ok (.aload_n 2, 1) ∧ 114 + 1 = 115 := ⟨by decide +kernel, rfl⟩
theorem q_X0_squareRoot_115 : decode M_X0_squareRoot.2.1 115 = .ok (.aload_n 0, 1) ∧ 115 + 1 = 116 := ⟨by decide +kernel, rfl⟩
theorem q_X0_squareRoot_116 : decode M_X0_squareRoot.2.1 116 = .ok (.getfield 24, 3) ∧ 116 + 3 = 119 := ⟨by decide +kernel, rfl⟩
theorem q_X0_squareRoot_119 : decode M_X0_squareRoot.2.1 119 = .ok (.invokevirtual 30, 3) ∧ 119 + 3 = 122 := ⟨by decide +kernel, rfl⟩
theorem g_X0_squareRoot_119 : en_C M_X0_squareRoot M_X1_copy 30 1 := ⟨⟨by decide +kernel, by decide +kernel, by decide +kernel⟩, ⟨by decide, by decide, by decide +kernel⟩, by decide, by decide⟩
theorem q_X0_squareRoot_122 : decode M_X0_squareRoot.2.1 122 = .ok (.goto 41, 3) ∧ 122 + 3 = 125 ∧ ((122 : Nat) : Int) + 41 = ((163 : Nat) : Int) := ⟨by decide +kernel, rfl, rfl⟩
theorem q_X0_squareRoot_125 : decode M_X0_squareRoot.2.1 125 = .ok (.iload_n 3, 1) ∧ 125 + 1 = 126 := ⟨by decide +kernel, rfl⟩
theorem q_X0_squareRoot_126 : decode M_X0_squareRoot.2.1 126 = .ok (.ifCond .le 43, 3) ∧ 126 + 3 = 129 ∧ ((126 : Nat) : Int) + 43 = ((169 : Nat) : Int) := ⟨by decide +kernel, rfl, rfl⟩
theorem q_X0_squareRoot_129 : decode M_X0_squareRoot.2.1 129 = .ok (.iload 4, 2) ∧ 129 + 2 = 131 := ⟨by decide +kernel, rfl⟩
theorem q_X0_squareRoot_131 : decode M_X0_squareRoot.2.1 131 = .ok (.iload_n 3, 1) ∧ 131 + 1 = 132 := ⟨by decide +kernel, rfl⟩
theorem q_X0_squareRoot_132 : decode M_X0_squareRoot.2.1 132 = .ok (.invokestatic 109, 3) ∧ 132 + 3 = 135 := ⟨by decide +kernel, rfl⟩
theorem a_RX0_109 : Cond.methodLink RX0 109 Lib.Math.min.name ∈ en_tbl := by decide +kernel
theorem q_X0_squareRoot_135 : decode M_X0_squareRoot.2.1 135 = .ok (.istore 6, 2) ∧ 135 + 2 = 137 := ⟨by decide +kernel, rfl⟩
theorem q_X0_squareRoot_137 : decode M_X0_squareRoot.2.1 137 = .ok (.aload_n 2, 1) ∧ 137 + 1 = 138 := ⟨by decide +kernel, rfl⟩
theorem q_X0_squareRoot_138 : decode M_X0_squareRoot.2.1 138 = .ok (.iconst 1, 1) ∧ 138 + 1 = 139 := ⟨by decide +kernel, rfl⟩
theorem q_X0_squareRoot_139 : decode M_X0_squareRoot.2.1 139 = .ok (.invokevirtual 113, 3) ∧ 139 + 3 = 142 := ⟨by decide +kernel, rfl⟩
theorem g_X0_squareRoot_139 : en_C M_X0_squareRoot M_X1_grow 113 1 := ⟨⟨by decide +kernel, by decide +kernel, by decide +kernel⟩, ⟨by decide, by decide, by decide +kernel⟩, by decide, by decide⟩
theorem q_X0_squareRoot_142 : decode M_X0_squareRoot.2.1 142 = .ok (.aload_n 2, 1) ∧ 142 + 1 = 143 := ⟨by decide +kernel, rfl⟩
theorem q_X0_squareRoot_143 : decode M_X0_squareRoot.2.1 143 = .ok (.iload 6, 2) ∧ 143 + 2 = 145 := ⟨by decide +kernel, rfl⟩
theorem q_X0_squareRoot_145 : decode M_X0_squareRoot.2.1 145 = .ok (.bipush 9, 2) ∧ 145 + 2 = 147 := ⟨by decide +kernel, rfl⟩
theorem q_X0_squareRoot_147 : decode M_X0_squareRoot.2.1 147 = .ok (.imul, 1) ∧ 147 + 1 = 148 := ⟨by decide +kernel, rfl⟩
theorem q_X0_squareRoot_148 : decode M_X0_squareRoot.2.1 148 = .ok (.invokevirtual 116, 3) ∧ 148 + 3 = 151 := ⟨by decide +kernel, rfl⟩
theorem g_X0_squareRoot_148 : en_C M_X0_squareRoot M_X1_shiftUp 116 1 := ⟨⟨by decide +kernel, by decide +kernel, by decide +kernel⟩, ⟨by decide, by decide, by decide +kernel⟩, by decide, by decide⟩
theorem w_X1_shiftUp : Cond.instanceMethod M_X1_shiftUp.1 ∈ en_tbl ∧ Cond.selects M_X1_shiftUp.1.cls M_X1_shiftUp.1 M_X1_shiftUp.1 ∈ en_tbl := ⟨by decide +kernel, by decide +kernel⟩
theorem q_X0_squareRoot_151 : decode M_X0_squareRoot.2.1 151 = .ok (.iload 4, 2) ∧ 151 + 2 = 153 := ⟨by decide +kernel, rfl⟩
theorem q_X0_squareRoot_153 : decode M_X0_squareRoot.2.1 153 = .ok (.iload 6, 2) ∧ 153 + 2 = 155 := ⟨by decide +kernel, rfl⟩
theorem q_X0_squareRoot_155 : decode M_X0_squareRoot.2.1 155 = .ok (.iadd, 1) ∧ 155 + 1 = 156 := ⟨by decide +kernel, rfl⟩
theorem q_X0_squareRoot_156 : decode M_X0_squareRoot.2.1 156 = .ok (.istore 4, 2) ∧ 156 + 2 = 158 := ⟨by decide +kernel, rfl⟩
theorem q_X0_squareRoot_158 : decode M_X0_squareRoot.2.1 158 = .ok (.iload_n 3, 1) ∧ 158 + 1 = 159 := ⟨by decide +kernel, rfl⟩
theorem q_X0_squareRoot_159 : decode M_X0_squareRoot.2.1 159 = .ok (.iload 6, 2) ∧ 159 + 2 = 161 := ⟨by decide +kernel, rfl⟩
theorem q_X0_squareRoot_161 : decode M_X0_squareRoot.2.1 161 = .ok (.isub, 1) ∧ 161 + 1 = 162 := ⟨by decide +kernel, rfl⟩
theorem q_X0_squareRoot_162 : decode M_X0_squareRoot.2.1 162 = .ok (.istore_n 3, 1) ∧ 162 + 1 = 163 := ⟨by decide +kernel, rfl⟩
theorem q_X0_squareRoot_163 : decode M_X0_squareRoot.2.1 163 = .ok (.iinc 5 1, 3) ∧ 163 + 3 = 166 := ⟨by decide +kernel, rfl⟩
theorem q_X0_squareRoot_166 : decode M_X0_squareRoot.2.1 166 = .ok (.goto (-129), 3) ∧ 166 + 3 = 169 ∧ ((166 : Nat) : Int) + (-129) = ((37 : Nat) : Int) := ⟨by decide +kernel, rfl, rfl⟩
theorem q_X0_squareRoot_169 : decode M_X0_squareRoot.2.1 169 = .ok (.aload_n 0, 1) ∧ 169 + 1 = 170 := ⟨by decide +kernel, rfl⟩
theorem q_X0_squareRoot_170 : decode M_X0_squareRoot.2.1 170 = .ok (.getfield 24, 3) ∧ 170 + 3 = 173 := ⟨by decide +kernel, rfl⟩
theorem q_X0_squareRoot_173 : decode M_X0_squareRoot.2.1 173 = .ok (.aload_n 2, 1) ∧ 173 + 1 = 174 := ⟨by decide +kernel, rfl⟩
theorem q_X0_squareRoot_174 : decode M_X0_squareRoot.2.1 174 = .ok (.aload_n 2, 1) ∧ 174 + 1 = 175 := ⟨by decide +kernel, rfl⟩
theorem q_X0_squareRoot_175 : decode M_X0_squareRoot.2.1 175 = .ok (.invokevirtual 119, 3) ∧ 175 + 3 = 178 := ⟨by decide +kernel, rfl⟩
theorem g_X0_squareRoot_175 : en_C M_X0_squareRoot M_X1_setProduct 119 2 := ⟨⟨by decide +kernel, by decide +kernel, by decide +kernel⟩, ⟨by decide, by decide, by decide +kernel⟩, by decide, by decide⟩
theorem w_X1_setProduct : Cond.instanceMethod M_X1_setProduct.1 ∈ en_tbl ∧ Cond.selects M_X1_setProduct.1.cls M_X1_setProduct.1 M_X1_setProduct.1 ∈ en_tbl := ⟨by decide +kernel, by decide +kernel⟩
theorem q_X0_squareRoot_178 : decode M_X0_squareRoot.2.1 178 = .ok (.aload_n 0, 1) ∧ 178 + 1 = 179 := ⟨by decide +kernel, rfl⟩
theorem q_X0_squareRoot_179 : decode M_X0_squareRoot.2.1 179 = .ok (.getfield 24, 3) ∧ 179 + 3 = 182 := ⟨by decide +kernel, rfl⟩
theorem q_X0_squareRoot_182 : decode M_X0_squareRoot.2.1 182 = .ok (.aload_n 1, 1) ∧ 182 + 1 = 183 := ⟨by decide +kernel, rfl⟩
theorem q_X0_squareRoot_183 : decode M_X0_squareRoot.2.1 183 = .ok (.invokevirtual 105, 3) ∧ 183 + 3 = 186 := ⟨by decide +kernel, rfl⟩
theorem g_X0_squareRoot_183 : en_C M_X0_squareRoot M_X1_compare 105 1 := ⟨⟨by decide +kernel, by decide +kernel, by decide +kernel⟩, ⟨by decide, by decide, by decide +kernel⟩, by decide, by decide⟩
theorem q_X0_squareRoot_186 : decode M_X0_squareRoot.2.1 186 = .ok (.ifCond .ge 7, 3) ∧ 186 + 3 = 189 ∧ ((186 : Nat) : Int) + 7 = ((193 : Nat) : Int) := ⟨by decide +kernel, rfl, rfl⟩
theorem q_X0_squareRoot_189 : decode M_X0_squareRoot.2.1 189 = .ok (.iconst 1, 1) ∧ 189 + 1 = 190 := ⟨by decide +kernel, rfl⟩
theorem q_X0_squareRoot_190 : decode M_X0_squareRoot.2.1 190 = .ok (.goto 4, 3) ∧ 190 + 3 = 193 ∧ ((190 : Nat) : Int) + 4 = ((194 : Nat) : Int) := ⟨by decide +kernel, rfl, rfl⟩
theorem q_X0_squareRoot_193 : decode M_X0_squareRoot.2.1 193 = .ok (.iconst 0, 1) ∧ 193 + 1 = 194 := ⟨by decide +kernel, rfl⟩
theorem q_X0_squareRoot_194 : decode M_X0_squareRoot.2.1 194 = .ok (.ireturn, 1) ∧ 194 + 1 = 195 := ⟨by decide +kernel, rfl⟩
theorem q_X0_startAbove_0 : decode M_X0_startAbove.2.1 0 = .ok (.aload_n 0, 1) ∧ 0 + 1 = 1 := ⟨by decide +kernel, rfl⟩
theorem q_X0_startAbove_1 : decode M_X0_startAbove.2.1 1 = .ok (.iconst 2, 1) ∧ 1 + 1 = 2 := ⟨by decide +kernel, rfl⟩
theorem q_X0_startAbove_2 : decode M_X0_startAbove.2.1 2 = .ok (.iload_n 1, 1) ∧ 2 + 1 = 3 := ⟨by decide +kernel, rfl⟩
theorem q_X0_startAbove_3 : decode M_X0_startAbove.2.1 3 = .ok (.imul, 1) ∧ 3 + 1 = 4 := ⟨by decide +kernel, rfl⟩
theorem q_X0_startAbove_4 : decode M_X0_startAbove.2.1 4 = .ok (.iconst 1, 1) ∧ 4 + 1 = 5 := ⟨by decide +kernel, rfl⟩
theorem q_X0_startAbove_5 : decode M_X0_startAbove.2.1 5 = .ok (.iadd, 1) ∧ 5 + 1 = 6 := ⟨by decide +kernel, rfl⟩
theorem q_X0_startAbove_6 : decode M_X0_startAbove.2.1 6 = .ok (.invokevirtual 50, 3) ∧ 6 + 3 = 9 := ⟨by decide +kernel, rfl⟩
theorem g_X0_startAbove_6 : en_C M_X0_startAbove M_X1_limbAt 50 1 := ⟨⟨by decide +kernel, by decide +kernel, by decide +kernel⟩, ⟨by decide, by decide, by decide +kernel⟩, by decide, by decide⟩
theorem q_X0_startAbove_9 : decode M_X0_startAbove.2.1 9 = .ok (.i2l, 1) ∧ 9 + 1 = 10 := ⟨by decide +kernel, rfl⟩
theorem q_X0_startAbove_10 : decode M_X0_startAbove.2.1 10 = .ok (.ldc2_w 83, 3) ∧ 10 + 3 = 13 := ⟨by decide +kernel, rfl⟩
theorem q_X0_startAbove_13 : decode M_X0_startAbove.2.1 13 = .ok (.lmul, 1) ∧ 13 + 1 = 14 := ⟨by decide +kernel, rfl⟩
theorem q_X0_startAbove_14 : decode M_X0_startAbove.2.1 14 = .ok (.aload_n 0, 1) ∧ 14 + 1 = 15 := ⟨by decide +kernel, rfl⟩
theorem q_X0_startAbove_15 : decode M_X0_startAbove.2.1 15 = .ok (.iconst 2, 1) ∧ 15 + 1 = 16 := ⟨by decide +kernel, rfl⟩
theorem q_X0_startAbove_16 : decode M_X0_startAbove.2.1 16 = .ok (.iload_n 1, 1) ∧ 16 + 1 = 17 := ⟨by decide +kernel, rfl⟩
theorem q_X0_startAbove_17 : decode M_X0_startAbove.2.1 17 = .ok (.imul, 1) ∧ 17 + 1 = 18 := ⟨by decide +kernel, rfl⟩
theorem q_X0_startAbove_18 : decode M_X0_startAbove.2.1 18 = .ok (.invokevirtual 50, 3) ∧ 18 + 3 = 21 := ⟨by decide +kernel, rfl⟩
theorem g_X0_startAbove_18 : en_C M_X0_startAbove M_X1_limbAt 50 1 := ⟨⟨by decide +kernel, by decide +kernel, by decide +kernel⟩, ⟨by decide, by decide, by decide +kernel⟩, by decide, by decide⟩
theorem q_X0_startAbove_21 : decode M_X0_startAbove.2.1 21 = .ok (.i2l, 1) ∧ 21 + 1 = 22 := ⟨by decide +kernel, rfl⟩
theorem q_X0_startAbove_22 : decode M_X0_startAbove.2.1 22 = .ok (.ladd, 1) ∧ 22 + 1 = 23 := ⟨by decide +kernel, rfl⟩
theorem q_X0_startAbove_23 : decode M_X0_startAbove.2.1 23 = .ok (.lstore_n 2, 1) ∧ 23 + 1 = 24 := ⟨by decide +kernel, rfl⟩
theorem q_X0_startAbove_24 : decode M_X0_startAbove.2.1 24 = .ok (.lconst 0, 1) ∧ 24 + 1 = 25 := ⟨by decide +kernel, rfl⟩
theorem q_X0_startAbove_25 : decode M_X0_startAbove.2.1 25 = .ok (.lstore 4, 2) ∧ 25 + 2 = 27 := ⟨by decide +kernel, rfl⟩
theorem q_X0_startAbove_27 : decode M_X0_startAbove.2.1 27 = .ok (.bipush 29, 2) ∧ 27 + 2 = 29 := ⟨by decide +kernel, rfl⟩
theorem q_X0_startAbove_29 : decode M_X0_startAbove.2.1 29 = .ok (.istore 6, 2) ∧ 29 + 2 = 31 := ⟨by decide +kernel, rfl⟩
theorem q_X0_startAbove_31 : decode M_X0_startAbove.2.1 31 = .ok (.iload 6, 2) ∧ 31 + 2 = 33 := ⟨by decide +kernel, rfl⟩
theorem q_X0_startAbove_33 : decode M_X0_startAbove.2.1 33 = .ok (.ifCond .lt 32, 3) ∧ 33 + 3 = 36 ∧ ((33 : Nat) : Int) + 32 = ((65 : Nat) : Int) := ⟨by decide +kernel, rfl, rfl⟩
theorem q_X0_startAbove_36 : decode M_X0_startAbove.2.1 36 = .ok (.lload 4, 2) ∧ 36 + 2 = 38 := ⟨by decide +kernel, rfl⟩
theorem q_X0_startAbove_38 : decode M_X0_startAbove.2.1 38 = .ok (.lconst 1, 1) ∧ 38 + 1 = 39 := ⟨by decide +kernel, rfl⟩
theorem q_X0_startAbove_39 : decode M_X0_startAbove.2.1 39 = .ok (.iload 6, 2) ∧ 39 + 2 = 41 := ⟨by decide +kernel, rfl⟩
theorem q_X0_startAbove_41 : decode M_X0_startAbove.2.1 41 = .ok (.lshl, 1) ∧ 41 + 1 = 42 := ⟨by decide +kernel, rfl⟩
theorem q_X0_startAbove_42 : decode M_X0_startAbove.2.1 42 = .ok (.ladd, 1) ∧ 42 + 1 = 43 := ⟨by decide +kernel, rfl⟩
theorem q_X0_startAbove_43 : decode M_X0_startAbove.2.1 43 = .ok (.lstore 7, 2) ∧ 43 + 2 = 45 := ⟨by decide +kernel, rfl⟩
theorem q_X0_startAbove_45 : decode M_X0_startAbove.2.1 45 = .ok (.lload 7, 2) ∧ 45 + 2 = 47 := ⟨by decide +kernel, rfl⟩
theorem q_X0_startAbove_47 : decode M_X0_startAbove.2.1 47 = .ok (.lload 7, 2) ∧ 47 + 2 = 49 := ⟨by decide +kernel, rfl⟩
theorem q_X0_startAbove_49 : decode M_X0_startAbove.2.1 49 = .ok (.lmul, 1) ∧ 49 + 1 = 50 := ⟨by decide +kernel, rfl⟩
theorem q_X0_startAbove_50 : decode M_X0_startAbove.2.1 50 = .ok (.lload_n 2, 1) ∧ 50 + 1 = 51 := ⟨by decide +kernel, rfl⟩
theorem q_X0_startAbove_51 : decode M_X0_startAbove.2.1 51 = .ok (.lcmp, 1) ∧ 51 + 1 = 52 := ⟨by decide +kernel, rfl⟩
theorem q_X0_startAbove_52 : decode M_X0_startAbove.2.1 52 = .ok (.ifCond .gt 7, 3) ∧ 52 + 3 = 55 ∧ ((52 : Nat) : Int) + 7 = ((59 : Nat) : Int) := ⟨by decide +kernel, rfl, rfl⟩
theorem q_X0_startAbove_55 : decode M_X0_startAbove.2.1 55 = .ok (.lload 7, 2) ∧ 55 + 2 = 57 := ⟨by decide +kernel, rfl⟩
theorem q_X0_startAbove_57 : decode M_X0_startAbove.2.1 57 = .ok (.lstore 4, 2) ∧ 57 + 2 = 59 := ⟨by decide +kernel, rfl⟩
theorem q_X0_startAbove_59 : decode M_X0_startAbove.2.1 59 = .ok (.iinc 6 (-1), 3) ∧ 59 + 3 = 62 := ⟨by decide +kernel, rfl⟩
theorem q_X0_startAbove_62 : decode M_X0_startAbove.2.1 62 = .ok (.goto (-31), 3) ∧ 62 + 3 = 65 ∧ ((62 : Nat) : Int) + (-31) = ((31 : Nat) : Int) := ⟨by decide +kernel, rfl, rfl⟩
theorem q_X0_startAbove_65 : decode M_X0_startAbove.2.1 65 = .ok (.lload 4, 2) ∧ 65 + 2 = 67 := ⟨by decide +kernel, rfl⟩
theorem q_X0_startAbove_67 : decode M_X0_startAbove.2.1 67 = .ok (.lconst 1, 1) ∧ 67 + 1 = 68 := ⟨by decide +kernel, rfl⟩
theorem q_X0_startAbove_68 : decode M_X0_startAbove.2.1 68 = .ok (.ladd, 1) ∧ 68 + 1 = 69 := ⟨by decide +kernel, rfl⟩
theorem q_X0_startAbove_69 : decode M_X0_startAbove.2.1 69 = .ok (.lreturn, 1) ∧ 69 + 1 = 70 := ⟨by decide +kernel, rfl⟩
end
section
/-! instructions, fields, calls -/
theorem q_X3_init_0 : decode M_X3_init.2.1 0 = .ok (.aload_n 0, 1) ∧ 0 + 1 = 1 := ⟨by decide +kernel, rfl⟩
theorem q_X3_init_1 : decode M_X3_init.2.1 1 = .ok (.invokespecial 1, 3) ∧ 1 + 3 = 4 := ⟨by decide +kernel, rfl⟩
theorem o_RX3_1 : Cond.methodLink RX3 1 Lib.objectInit ∈ en_tbl := by decide +kernel
theorem q_X3_init_4 : decode M_X3_init.2.1 4 = .ok (.aload_n 0, 1) ∧ 4 + 1 = 5 := ⟨by decide +kernel, rfl⟩
theorem q_X3_init_5 : decode M_X3_init.2.1 5 = .ok (.new 7, 3) ∧ 5 + 3 = 8 := ⟨by decide +kernel, rfl⟩
theorem n_RX3_7 : en_N RX3 7 1 3 [.int 0, .int 0, .null] := ⟨RX1, TX1, tyX1, rfl, by decide +kernel, by decide +kernel, by decide +kernel, by decide +kernel, tyX1_ok, fun j hj => by match j, hj with | 0, _ => rfl | 1, _ => rfl | 2, _ => rfl | j + 3, h => omega⟩
theorem q_X3_init_8 : decode M_X3_init.2.1 8 = .ok (.dup, 1) ∧ 8 + 1 = 9 := ⟨by decide +kernel, rfl⟩
theorem q_X3_init_9 : decode M_X3_init.2.1 9 = .ok (.invokespecial 9, 3) ∧ 9 + 3 = 12 := ⟨by decide +kernel, rfl⟩
theorem g_X3_init_9 : en_CN M_X3_init M_X1_init 9 0 "EnclosedDigits" := ⟨⟨by decide +kernel, by decide +kernel, by decide +kernel⟩, ⟨by decide, by decide, by decide +kernel⟩, by decide, by decide⟩
theorem q_X3_init_12 : decode M_X3_init.2.1 12 = .ok (.putfield 10, 3) ∧ 12 + 3 = 15 := ⟨by decide +kernel, rfl⟩
theorem p_RX3_10 : en_Fp RX3 10 3 0 false (.object "EnclosedDigits$Big") := ⟨RX3, TX3, 4, tyX3, rfl, by decide, rfl, by decide +kernel, by decide +kernel, tyX3_ok, nmX3, rfl, by decide +kernel⟩
theorem q_X3_init_15 : decode M_X3_init.2.1 15 = .ok (.aload_n 0, 1) ∧ 15 + 1 = 16 := ⟨by decide +kernel, rfl⟩
theorem q_X3_init_16 : decode M_X3_init.2.1 16 = .ok (.new 7, 3) ∧ 16 + 3 = 19 := ⟨by decide +kernel, rfl⟩
theorem q_X3_init_19 : decode M_X3_init.2.1 19 = .ok (.dup, 1) ∧ 19 + 1 = 20 := ⟨by decide +kernel, rfl⟩
theorem q_X3_init_20 : decode M_X3_init.2.1 20 = .ok (.invokespecial 9, 3) ∧ 20 + 3 = 23 := ⟨by decide +kernel, rfl⟩
theorem g_X3_init_20 : en_CN M_X3_init M_X1_init 9 0 "EnclosedDigits" := ⟨⟨by decide +kernel, by decide +kernel, by decide +kernel⟩, ⟨by decide, by decide, by decide +kernel⟩, by decide, by decide⟩
theorem q_X3_init_23 : decode M_X3_init.2.1 23 = .ok (.putfield 16, 3) ∧ 23 + 3 = 26 := ⟨by decide +kernel, rfl⟩
theorem p_RX3_16 : en_Fp RX3 16 3 1 false (.object "EnclosedDigits$Big") := ⟨RX3, TX3, 4, tyX3, rfl, by decide, rfl, by decide +kernel, by decide +kernel, tyX3_ok, nmX3, rfl, by decide +kernel⟩
theorem q_X3_init_26 : decode M_X3_init.2.1 26 = .ok (.aload_n 0, 1) ∧ 26 + 1 = 27 := ⟨by decide +kernel, rfl⟩
theorem q_X3_init_27 : decode M_X3_init.2.1 27 = .ok (.new 7, 3) ∧ 27 + 3 = 30 := ⟨by decide +kernel, rfl⟩
theorem q_X3_init_30 : decode M_X3_init.2.1 30 = .ok (.dup, 1) ∧ 30 + 1 = 31 := ⟨by decide +kernel, rfl⟩
theorem q_X3_init_31 : decode M_X3_init.2.1 31 = .ok (.invokespecial 9, 3) ∧ 31 + 3 = 34 := ⟨by decide +kernel, rfl⟩
theorem g_X3_init_31 : en_CN M_X3_init M_X1_init 9 0 "EnclosedDigits" := ⟨⟨by decide +kernel, by decide +kernel, by decide +kernel⟩, ⟨by decide, by decide, by decide +kernel⟩, by decide, by decide⟩
theorem q_X3_init_34 : decode M_X3_init.2.1 34 = .ok (.putfield 19, 3) ∧ 34 + 3 = 37 := ⟨by decide +kernel, rfl⟩
theorem p_RX3_19 : en_Fp RX3 19 3 2 false (.object "EnclosedDigits$Big") := ⟨RX3, TX3, 4, tyX3, rfl, by decide, rfl, by decide +kernel, by decide +kernel, tyX3_ok, nmX3, rfl, by decide +kernel⟩
theorem q_X3_init_37 : decode M_X3_init.2.1 37 = .ok (.aload_n 0, 1) ∧ 37 + 1 = 38 := ⟨by decide +kernel, rfl⟩
theorem q_X3_init_38 : decode M_X3_init.2.1 38 = .ok (.new 7, 3) ∧ 38 + 3 = 41 := ⟨by decide +kernel, rfl⟩
theorem q_X3_init_41 : decode M_X3_init.2.1 41 = .ok (.dup, 1) ∧ 41 + 1 = 42 := ⟨by decide +kernel, rfl⟩
theorem q_X3_init_42 : decode M_X3_init.2.1 42 = .ok (.invokespecial 9, 3) ∧ 42 + 3 = 45 := ⟨by decide +kernel, rfl⟩
theorem g_X3_init_42 : en_CN M_X3_init M_X1_init 9 0 "EnclosedDigits" := ⟨⟨by decide +kernel, by decide +kernel, by decide +kernel⟩, ⟨by decide, by decide, by decide +kernel⟩, by decide, by decide⟩
theorem q_X3_init_45 : decode M_X3_init.2.1 45 = .ok (.putfield 22, 3) ∧ 45 + 3 = 48 := ⟨by decide +kernel, rfl⟩
theorem p_RX3_22 : en_Fp RX3 22 3 3 true (.object "EnclosedDigits$Big") := ⟨RX3, TX3, 4, tyX3, rfl, by decide, rfl, by decide +kernel, by decide +kernel, tyX3_ok, nmX3, rfl, by decide +kernel⟩
theorem q_X3_init_48 : decode M_X3_init.2.1 48 = .ok (.return_, 1) ∧ 48 + 1 = 49 := ⟨by decide +kernel, rfl⟩
theorem q_X3_start_0 : decode M_X3_start.2.1 0 = .ok (.aload_n 0, 1) ∧ 0 + 1 = 1 := ⟨by decide +kernel, rfl⟩
theorem q_X3_start_1 : decode M_X3_start.2.1 1 = .ok (.getfield 10, 3) ∧ 1 + 3 = 4 := ⟨by decide +kernel, rfl⟩
theorem f_RX3_10 : en_F RX3 10 3 0 := ⟨RX3, TX3, 4, rfl, by decide, rfl, by decide +kernel, by decide +kernel⟩
theorem q_X3_start_4 : decode M_X3_start.2.1 4 = .ok (.aload_n 1, 1) ∧ 4 + 1 = 5 := ⟨by decide +kernel, rfl⟩
theorem q_X3_start_5 : decode M_X3_start.2.1 5 = .ok (.invokevirtual 25, 3) ∧ 5 + 3 = 8 := ⟨by decide +kernel, rfl⟩
theorem g_X3_start_5 : en_C M_X3_start M_X1_copy 25 1 := ⟨⟨by decide +kernel, by decide +kernel, by decide +kernel⟩, ⟨by decide, by decide, by decide +kernel⟩, by decide, by decide⟩
theorem q_X3_start_8 : decode M_X3_start.2.1 8 = .ok (.aload_n 0, 1) ∧ 8 + 1 = 9 := ⟨by decide +kernel, rfl⟩
theorem q_X3_start_9 : decode M_X3_start.2.1 9 = .ok (.getfield 16, 3) ∧ 9 + 3 = 12 := ⟨by decide +kernel, rfl⟩
theorem f_RX3_16 : en_F RX3 16 3 1 := ⟨RX3, TX3, 4, rfl, by decide, rfl, by decide +kernel, by decide +kernel⟩
theorem q_X3_start_12 : decode M_X3_start.2.1 12 = .ok (.lconst 1, 1) ∧ 12 + 1 = 13 := ⟨by decide +kernel, rfl⟩
theorem q_X3_start_13 : decode M_X3_start.2.1 13 = .ok (.invokevirtual 29, 3) ∧ 13 + 3 = 16 := ⟨by decide +kernel, rfl⟩
theorem g_X3_start_13 : en_C M_X3_start M_X1_setLong 29 1 := ⟨⟨by decide +kernel, by decide +kernel, by decide +kernel⟩, ⟨by decide, by decide, by decide +kernel⟩, by decide, by decide⟩
theorem q_X3_start_16 : decode M_X3_start.2.1 16 = .ok (.aload_n 0, 1) ∧ 16 + 1 = 17 := ⟨by decide +kernel, rfl⟩
theorem q_X3_start_17 : decode M_X3_start.2.1 17 = .ok (.getfield 16, 3) ∧ 17 + 3 = 20 := ⟨by decide +kernel, rfl⟩
theorem q_X3_start_20 : decode M_X3_start.2.1 20 = .ok (.iload_n 2, 1) ∧ 20 + 1 = 21 := ⟨by decide +kernel, rfl⟩
theorem q_X3_start_21 : decode M_X3_start.2.1 21 = .ok (.invokevirtual 33, 3) ∧ 21 + 3 = 24 := ⟨by decide +kernel, rfl⟩
theorem g_X3_start_21 : en_C M_X3_start M_X1_shiftUp 33 1 := ⟨⟨by decide +kernel, by decide +kernel, by decide +kernel⟩, ⟨by decide, by decide, by decide +kernel⟩, by decide, by decide⟩
theorem q_X3_start_24 : decode M_X3_start.2.1 24 = .ok (.return_, 1) ∧ 24 + 1 = 25 := ⟨by decide +kernel, rfl⟩
theorem q_X3_step_0 : decode M_X3_step.2.1 0 = .ok (.aload_n 0, 1) ∧ 0 + 1 = 1 := ⟨by decide +kernel, rfl⟩
theorem q_X3_step_1 : decode M_X3_step.2.1 1 = .ok (.getfield 16, 3) ∧ 1 + 3 = 4 := ⟨by decide +kernel, rfl⟩
theorem q_X3_step_4 : decode M_X3_step.2.1 4 = .ok (.getfield 37, 3) ∧ 4 + 3 = 7 := ⟨by decide +kernel, rfl⟩
theorem f_RX3_37 : en_F RX3 37 1 0 := ⟨RX1, TX1, 3, rfl, by decide, rfl, by decide +kernel, by decide +kernel⟩
theorem q_X3_step_7 : decode M_X3_step.2.1 7 = .ok (.ifCond .ne 5, 3) ∧ 7 + 3 = 10 ∧ ((7 : Nat) : Int) + 5 = ((12 : Nat) : Int) := ⟨by decide +kernel, rfl, rfl⟩
theorem q_X3_step_10 : decode M_X3_step.2.1 10 = .ok (.iconst 0, 1) ∧ 10 + 1 = 11 := ⟨by decide +kernel, rfl⟩
theorem q_X3_step_11 : decode M_X3_step.2.1 11 = .ok (.ireturn, 1) ∧ 11 + 1 = 12 := ⟨by decide +kernel, rfl⟩
theorem q_X3_step_12 : decode M_X3_step.2.1 12 = .ok (.aload_n 1, 1) ∧ 12 + 1 = 13 := ⟨by decide +kernel, rfl⟩
theorem q_X3_step_13 : decode M_X3_step.2.1 13 = .ok (.aload_n 0, 1) ∧ 13 + 1 = 14 := ⟨by decide +kernel, rfl⟩
theorem q_X3_step_14 : decode M_X3_step.2.1 14 = .ok (.getfield 10, 3) ∧ 14 + 3 = 17 := ⟨by decide +kernel, rfl⟩
theorem q_X3_step_17 : decode M_X3_step.2.1 17 = .ok (.aload_n 0, 1) ∧ 17 + 1 = 18 := ⟨by decide +kernel, rfl⟩
theorem q_X3_step_18 : decode M_X3_step.2.1 18 = .ok (.getfield 16, 3) ∧ 18 + 3 = 21 := ⟨by decide +kernel, rfl⟩
theorem q_X3_step_21 : decode M_X3_step.2.1 21 = .ok (.aload_n 0, 1) ∧ 21 + 1 = 22 := ⟨by decide +kernel, rfl⟩
theorem q_X3_step_22 : decode M_X3_step.2.1 22 = .ok (.getfield 22, 3) ∧ 22 + 3 = 25 := ⟨by decide +kernel, rfl⟩
theorem f_RX3_22 : en_F RX3 22 3 3 := ⟨RX3, TX3, 4, rfl, by decide, rfl, by decide +kernel, by decide +kernel⟩
theorem q_X3_step_25 : decode M_X3_step.2.1 25 = .ok (.aload_n 0, 1) ∧ 25 + 1 = 26 := ⟨by decide +kernel, rfl⟩
theorem q_X3_step_26 : decode M_X3_step.2.1 26 = .ok (.getfield 19, 3) ∧ 26 + 3 = 29 := ⟨by decide +kernel, rfl⟩
theorem f_RX3_19 : en_F RX3 19 3 2 := ⟨RX3, TX3, 4, rfl, by decide, rfl, by decide +kernel, by decide +kernel⟩
theorem q_X3_step_29 : decode M_X3_step.2.1 29 = .ok (.invokevirtual 41, 3) ∧ 29 + 3 = 32 := ⟨by decide +kernel, rfl⟩
theorem g_X3_step_29 : en_C M_X3_step M_X0_divide 41 4 := ⟨⟨by decide +kernel, by decide +kernel, by decide +kernel⟩, ⟨by decide, by decide, by decide +kernel⟩, by decide, by decide⟩
theorem q_X3_step_32 : decode M_X3_step.2.1 32 = .ok (.aload_n 0, 1) ∧ 32 + 1 = 33 := ⟨by decide +kernel, rfl⟩
theorem q_X3_step_33 : decode M_X3_step.2.1 33 = .ok (.getfield 10, 3) ∧ 33 + 3 = 36 := ⟨by decide +kernel, rfl⟩
theorem q_X3_step_36 : decode M_X3_step.2.1 36 = .ok (.getfield 37, 3) ∧ 36 + 3 = 39 := ⟨by decide +kernel, rfl⟩
theorem q_X3_step_39 : decode M_X3_step.2.1 39 = .ok (.ifCond .ge 7, 3) ∧ 39 + 3 = 42 ∧ ((39 : Nat) : Int) + 7 = ((46 : Nat) : Int) := ⟨by decide +kernel, rfl, rfl⟩
theorem q_X3_step_42 : decode M_X3_step.2.1 42 = .ok (.aload_n 0, 1) ∧ 42 + 1 = 43 := ⟨by decide +kernel, rfl⟩
theorem q_X3_step_43 : decode M_X3_step.2.1 43 = .ok (.invokevirtual 47, 3) ∧ 43 + 3 = 46 := ⟨by decide +kernel, rfl⟩
theorem g_X3_step_43 : en_C M_X3_step M_X3_roundDown 47 0 := ⟨⟨by decide +kernel, by decide +kernel, by decide +kernel⟩, ⟨by decide, by decide, by decide +kernel⟩, by decide, by decide⟩
theorem w_X3_roundDown : Cond.instanceMethod M_X3_roundDown.1 ∈ en_tbl ∧ Cond.selects M_X3_roundDown.1.cls M_X3_roundDown.1 M_X3_roundDown.1 ∈ en_tbl := ⟨by decide +kernel, by decide +kernel⟩
theorem q_X3_step_46 : decode M_X3_step.2.1 46 = .ok (.aload_n 0, 1) ∧ 46 + 1 = 47 := ⟨by decide +kernel, rfl⟩
theorem q_X3_step_47 : decode M_X3_step.2.1 47 = .ok (.getfield 10, 3) ∧ 47 + 3 = 50 := ⟨by decide +kernel, rfl⟩
theorem q_X3_step_50 : decode M_X3_step.2.1 50 = .ok (.astore_n 2, 1) ∧ 50 + 1 = 51 := ⟨by decide +kernel, rfl⟩
theorem q_X3_step_51 : decode M_X3_step.2.1 51 = .ok (.aload_n 0, 1) ∧ 51 + 1 = 52 := ⟨by decide +kernel, rfl⟩
theorem q_X3_step_52 : decode M_X3_step.2.1 52 = .ok (.aload_n 0, 1) ∧ 52 + 1 = 53 := ⟨by decide +kernel, rfl⟩
theorem q_X3_step_53 : decode M_X3_step.2.1 53 = .ok (.getfield 16, 3) ∧ 53 + 3 = 56 := ⟨by decide +kernel, rfl⟩
theorem q_X3_step_56 : decode M_X3_step.2.1 56 = .ok (.putfield 10, 3) ∧ 56 + 3 = 59 := ⟨by decide +kernel, rfl⟩
theorem q_X3_step_59 : decode M_X3_step.2.1 59 = .ok (.aload_n 0, 1) ∧ 59 + 1 = 60 := ⟨by decide +kernel, rfl⟩
theorem q_X3_step_60 : decode M_X3_step.2.1 60 = .ok (.aload_n 0, 1) ∧ 60 + 1 = 61 := ⟨by decide +kernel, rfl⟩
theorem q_X3_step_61 : decode M_X3_step.2.1 61 = .ok (.getfield 19, 3) ∧ 61 + 3 = 64 := ⟨by decide +kernel, rfl⟩
theorem q_X3_step_64 : decode M_X3_step.2.1 64 = .ok (.putfield 16, 3) ∧ 64 + 3 = 67 := ⟨by decide +kernel, rfl⟩
theorem q_X3_step_67 : decode M_X3_step.2.1 67 = .ok (.aload_n 0, 1) ∧ 67 + 1 = 68 := ⟨by decide +kernel, rfl⟩
theorem q_X3_step_68 : decode M_X3_step.2.1 68 = .ok (.aload_n 2, 1) ∧ 68 + 1 = 69 := ⟨by decide +kernel, rfl⟩
theorem q_X3_step_69 : decode M_X3_step.2.1 69 = .ok (.putfield 19, 3) ∧ 69 + 3 = 72 := ⟨by decide +kernel, rfl⟩
theorem q_X3_step_72 : decode M_X3_step.2.1 72 = .ok (.iconst 1, 1) ∧ 72 + 1 = 73 := ⟨by decide +kernel, rfl⟩
theorem q_X3_step_73 : decode M_X3_step.2.1 73 = .ok (.ireturn, 1) ∧ 73 + 1 = 74 := ⟨by decide +kernel, rfl⟩
theorem q_X3_roundDown_0 : decode M_X3_roundDown.2.1 0 = .ok (.aload_n 0, 1) ∧ 0 + 1 = 1 := ⟨by decide +kernel, rfl⟩
theorem q_X3_roundDown_1 : decode M_X3_roundDown.2.1 1 = .ok (.getfield 22, 3) ∧ 1 + 3 = 4 := ⟨by decide +kernel, rfl⟩
theorem q_X3_roundDown_4 : decode M_X3_roundDown.2.1 4 = .ok (.aload_n 0, 1) ∧ 4 + 1 = 5 := ⟨by decide +kernel, rfl⟩
theorem q_X3_roundDown_5 : decode M_X3_roundDown.2.1 5 = .ok (.getfield 22, 3) ∧ 5 + 3 = 8 := ⟨by decide +kernel, rfl⟩
theorem q_X3_roundDown_8 : decode M_X3_roundDown.2.1 8 = .ok (.getfield 37, 3) ∧ 8 + 3 = 11 := ⟨by decide +kernel, rfl⟩
theorem q_X3_roundDown_11 : decode M_X3_roundDown.2.1 11 = .ok (.ineg, 1) ∧ 11 + 1 = 12 := ⟨by decide +kernel, rfl⟩
theorem q_X3_roundDown_12 : decode M_X3_roundDown.2.1 12 = .ok (.putfield 37, 3) ∧ 12 + 3 = 15 := ⟨by decide +kernel, rfl⟩
theorem p_RX3_37 : en_Fp RX3 37 1 0 false .int := ⟨RX1, TX1, 3, tyX1, rfl, by decide, rfl, by decide +kernel, by decide +kernel, tyX1_ok, nmX1, rfl, by decide +kernel⟩
theorem q_X3_roundDown_15 : decode M_X3_roundDown.2.1 15 = .ok (.aload_n 0, 1) ∧ 15 + 1 = 16 := ⟨by decide +kernel, rfl⟩
theorem q_X3_roundDown_16 : decode M_X3_roundDown.2.1 16 = .ok (.getfield 19, 3) ∧ 16 + 3 = 19 := ⟨by decide +kernel, rfl⟩
theorem q_X3_roundDown_19 : decode M_X3_roundDown.2.1 19 = .ok (.getfield 37, 3) ∧ 19 + 3 = 22 := ⟨by decide +kernel, rfl⟩
theorem q_X3_roundDown_22 : decode M_X3_roundDown.2.1 22 = .ok (.ifCond .eq 37, 3) ∧ 22 + 3 = 25 ∧ ((22 : Nat) : Int) + 37 = ((59 : Nat) : Int) := ⟨by decide +kernel, rfl, rfl⟩
theorem q_X3_roundDown_25 : decode M_X3_roundDown.2.1 25 = .ok (.aload_n 0, 1) ∧ 25 + 1 = 26 := ⟨by decide +kernel, rfl⟩
theorem q_X3_roundDown_26 : decode M_X3_roundDown.2.1 26 = .ok (.getfield 22, 3) ∧ 26 + 3 = 29 := ⟨by decide +kernel, rfl⟩
theorem q_X3_roundDown_29 : decode M_X3_roundDown.2.1 29 = .ok (.iconst (-1), 1) ∧ 29 + 1 = 30 := ⟨by decide +kernel, rfl⟩
theorem q_X3_roundDown_30 : decode M_X3_roundDown.2.1 30 = .ok (.invokevirtual 50, 3) ∧ 30 + 3 = 33 := ⟨by decide +kernel, rfl⟩
theorem g_X3_roundDown_30 : en_C M_X3_roundDown M_X1_grow 50 1 := ⟨⟨by decide +kernel, by decide +kernel, by decide +kernel⟩, ⟨by decide, by decide, by decide +kernel⟩, by decide, by decide⟩
theorem q_X3_roundDown_33 : decode M_X3_roundDown.2.1 33 = .ok (.aload_n 0, 1) ∧ 33 + 1 = 34 := ⟨by decide +kernel, rfl⟩
theorem q_X3_roundDown_34 : decode M_X3_roundDown.2.1 34 = .ok (.getfield 19, 3) ∧ 34 + 3 = 37 := ⟨by decide +kernel, rfl⟩
theorem q_X3_roundDown_37 : decode M_X3_roundDown.2.1 37 = .ok (.aload_n 0, 1) ∧ 37 + 1 = 38 := ⟨by decide +kernel, rfl⟩
theorem q_X3_roundDown_38 : decode M_X3_roundDown.2.1 38 = .ok (.getfield 19, 3) ∧ 38 + 3 = 41 := ⟨by decide +kernel, rfl⟩
theorem q_X3_roundDown_41 : decode M_X3_roundDown.2.1 41 = .ok (.getfield 37, 3) ∧ 41 + 3 = 44 := ⟨by decide +kernel, rfl⟩
theorem q_X3_roundDown_44 : decode M_X3_roundDown.2.1 44 = .ok (.ineg, 1) ∧ 44 + 1 = 45 := ⟨by decide +kernel, rfl⟩
theorem q_X3_roundDown_45 : decode M_X3_roundDown.2.1 45 = .ok (.putfield 37, 3) ∧ 45 + 3 = 48 := ⟨by decide +kernel, rfl⟩
theorem q_X3_roundDown_48 : decode M_X3_roundDown.2.1 48 = .ok (.aload_n 0, 1) ∧ 48 + 1 = 49 := ⟨by decide +kernel, rfl⟩
theorem q_X3_roundDown_49 : decode M_X3_roundDown.2.1 49 = .ok (.getfield 19, 3) ∧ 49 + 3 = 52 := ⟨by decide +kernel, rfl⟩
theorem q_X3_roundDown_52 : decode M_X3_roundDown.2.1 52 = .ok (.aload_n 0, 1) ∧ 52 + 1 = 53 := ⟨by decide +kernel, rfl⟩
theorem q_X3_roundDown_53 : decode M_X3_roundDown.2.1 53 = .ok (.getfield 16, 3) ∧ 53 + 3 = 56 := ⟨by decide +kernel, rfl⟩
theorem q_X3_roundDown_56 : decode M_X3_roundDown.2.1 56 = .ok (.invokevirtual 53, 3) ∧ 56 + 3 = 59 := ⟨by decide +kernel, rfl⟩
theorem g_X3_roundDown_56 : en_C M_X3_roundDown M_X1_add 53 1 := ⟨⟨by decide +kernel, by decide +kernel, by decide +kernel⟩, ⟨by decide, by decide, by decide +kernel⟩, by decide, by decide⟩
theorem q_X3_roundDown_59 : decode M_X3_roundDown.2.1 59 = .ok (.return_, 1) ∧ 59 + 1 = 60 := ⟨by decide +kernel, rfl⟩
theorem q_X4_init_0 : decode M_X4_init.2.1 0 = .ok (.aload_n 0, 1) ∧ 0 + 1 = 1 := ⟨by decide +kernel, rfl⟩
theorem q_X4_init_1 : decode M_X4_init.2.1 1 = .ok (.invokespecial 3, 3) ∧ 1 + 3 = 4 := ⟨by decide +kernel, rfl⟩
theorem o_RX4_3 : Cond.methodLink RX4 3 Lib.objectInit ∈ en_tbl := by decide +kernel
theorem q_X4_init_4 : decode M_X4_init.2.1 4 = .ok (.aload_n 0, 1) ∧ 4 + 1 = 5 := ⟨by decide +kernel, rfl⟩
theorem q_X4_init_5 : decode M_X4_init.2.1 5 = .ok (.new 9, 3) ∧ 5 + 3 = 8 := ⟨by decide +kernel, rfl⟩
theorem n_RX4_9 : en_N RX4 9 1 3 [.int 0, .int 0, .null] := ⟨RX1, TX1, tyX1, rfl, by decide +kernel, by decide +kernel, by decide +kernel, by decide +kernel, tyX1_ok, fun j hj => by match j, hj with | 0, _ => rfl | 1, _ => rfl | 2, _ => rfl | j + 3, h => omega⟩
theorem q_X4_init_8 : decode M_X4_init.2.1 8 = .ok (.dup, 1) ∧ 8 + 1 = 9 := ⟨by decide +kernel, rfl⟩
theorem q_X4_init_9 : decode M_X4_init.2.1 9 = .ok (.invokespecial 11, 3) ∧ 9 + 3 = 12 := ⟨by decide +kernel, rfl⟩
theorem g_X4_init_9 : en_CN M_X4_init M_X1_init 11 0 "EnclosedDigits" := ⟨⟨by decide +kernel, by decide +kernel, by decide +kernel⟩, ⟨by decide, by decide, by decide +kernel⟩, by decide, by decide⟩
theorem q_X4_init_12 : decode M_X4_init.2.1 12 = .ok (.putfield 12, 3) ∧ 12 + 3 = 15 := ⟨by decide +kernel, rfl⟩
theorem p_RX4_12 : en_Fp RX4 12 4 0 true (.object "EnclosedDigits$Big") := ⟨RX4, TX4, 5, tyX4, rfl, by decide, rfl, by decide +kernel, by decide +kernel, tyX4_ok, nmX4, rfl, by decide +kernel⟩
theorem q_X4_init_15 : decode M_X4_init.2.1 15 = .ok (.aload_n 0, 1) ∧ 15 + 1 = 16 := ⟨by decide +kernel, rfl⟩
theorem q_X4_init_16 : decode M_X4_init.2.1 16 = .ok (.new 9, 3) ∧ 16 + 3 = 19 := ⟨by decide +kernel, rfl⟩
theorem q_X4_init_19 : decode M_X4_init.2.1 19 = .ok (.dup, 1) ∧ 19 + 1 = 20 := ⟨by decide +kernel, rfl⟩
theorem q_X4_init_20 : decode M_X4_init.2.1 20 = .ok (.invokespecial 11, 3) ∧ 20 + 3 = 23 := ⟨by decide +kernel, rfl⟩
theorem g_X4_init_20 : en_CN M_X4_init M_X1_init 11 0 "EnclosedDigits" := ⟨⟨by decide +kernel, by decide +kernel, by decide +kernel⟩, ⟨by decide, by decide, by decide +kernel⟩, by decide, by decide⟩
theorem q_X4_init_23 : decode M_X4_init.2.1 23 = .ok (.putfield 18, 3) ∧ 23 + 3 = 26 := ⟨by decide +kernel, rfl⟩
theorem p_RX4_18 : en_Fp RX4 18 4 1 true (.object "EnclosedDigits$Big") := ⟨RX4, TX4, 5, tyX4, rfl, by decide, rfl, by decide +kernel, by decide +kernel, tyX4_ok, nmX4, rfl, by decide +kernel⟩
theorem q_X4_init_26 : decode M_X4_init.2.1 26 = .ok (.aload_n 0, 1) ∧ 26 + 1 = 27 := ⟨by decide +kernel, rfl⟩
theorem q_X4_init_27 : decode M_X4_init.2.1 27 = .ok (.new 9, 3) ∧ 27 + 3 = 30 := ⟨by decide +kernel, rfl⟩
theorem q_X4_init_30 : decode M_X4_init.2.1 30 = .ok (.dup, 1) ∧ 30 + 1 = 31 := ⟨by decide +kernel, rfl⟩
theorem q_X4_init_31 : decode M_X4_init.2.1 31 = .ok (.invokespecial 11, 3) ∧ 31 + 3 = 34 := ⟨by decide +kernel, rfl⟩
theorem g_X4_init_31 : en_CN M_X4_init M_X1_init 11 0 "EnclosedDigits" := ⟨⟨by decide +kernel, by decide +kernel, by decide +kernel⟩, ⟨by decide, by decide, by decide +kernel⟩, by decide, by decide⟩
theorem q_X4_init_34 : decode M_X4_init.2.1 34 = .ok (.putfield 21, 3) ∧ 34 + 3 = 37 := ⟨by decide +kernel, rfl⟩
theorem p_RX4_21 : en_Fp RX4 21 4 2 true (.object "EnclosedDigits$Big") := ⟨RX4, TX4, 5, tyX4, rfl, by decide, rfl, by decide +kernel, by decide +kernel, tyX4_ok, nmX4, rfl, by decide +kernel⟩
theorem q_X4_init_37 : decode M_X4_init.2.1 37 = .ok (.aload_n 0, 1) ∧ 37 + 1 = 38 := ⟨by decide +kernel, rfl⟩
theorem q_X4_init_38 : decode M_X4_init.2.1 38 = .ok (.new 9, 3) ∧ 38 + 3 = 41 := ⟨by decide +kernel, rfl⟩
theorem q_X4_init_41 : decode M_X4_init.2.1 41 = .ok (.dup, 1) ∧ 41 + 1 = 42 := ⟨by decide +kernel, rfl⟩
theorem q_X4_init_42 : decode M_X4_init.2.1 42 = .ok (.invokespecial 11, 3) ∧ 42 + 3 = 45 := ⟨by decide +kernel, rfl⟩
theorem g_X4_init_42 : en_CN M_X4_init M_X1_init 11 0 "EnclosedDigits" := ⟨⟨by decide +kernel, by decide +kernel, by decide +kernel⟩, ⟨by decide, by decide, by decide +kernel⟩, by decide, by decide⟩
theorem q_X4_init_45 : decode M_X4_init.2.1 45 = .ok (.putfield 24, 3) ∧ 45 + 3 = 48 := ⟨by decide +kernel, rfl⟩
theorem p_RX4_24 : en_Fp RX4 24 4 3 true (.object "EnclosedDigits$Big") := ⟨RX4, TX4, 5, tyX4, rfl, by decide, rfl, by decide +kernel, by decide +kernel, tyX4_ok, nmX4, rfl, by decide +kernel⟩
theorem q_X4_init_48 : decode M_X4_init.2.1 48 = .ok (.aload_n 0, 1) ∧ 48 + 1 = 49 := ⟨by decide +kernel, rfl⟩
theorem q_X4_init_49 : decode M_X4_init.2.1 49 = .ok (.new 9, 3) ∧ 49 + 3 = 52 := ⟨by decide +kernel, rfl⟩
theorem q_X4_init_52 : decode M_X4_init.2.1 52 = .ok (.dup, 1) ∧ 52 + 1 = 53 := ⟨by decide +kernel, rfl⟩
theorem q_X4_init_53 : decode M_X4_init.2.1 53 = .ok (.invokespecial 11, 3) ∧ 53 + 3 = 56 := ⟨by decide +kernel, rfl⟩
theorem g_X4_init_53 : en_CN M_X4_init M_X1_init 11 0 "EnclosedDigits" := ⟨⟨by decide +kernel, by decide +kernel, by decide +kernel⟩, ⟨by decide, by decide, by decide +kernel⟩, by decide, by decide⟩
theorem q_X4_init_56 : decode M_X4_init.2.1 56 = .ok (.putfield 27, 3) ∧ 56 + 3 = 59 := ⟨by decide +kernel, rfl⟩
theorem p_RX4_27 : en_Fp RX4 27 4 4 true (.object "EnclosedDigits$Big") := ⟨RX4, TX4, 5, tyX4, rfl, by decide, rfl, by decide +kernel, by decide +kernel, tyX4_ok, nmX4, rfl, by decide +kernel⟩
theorem q_X4_init_59 : decode M_X4_init.2.1 59 = .ok (.return_, 1) ∧ 59 + 1 = 60 := ⟨by decide +kernel, rfl⟩
theorem q_X4_refine_0 : decode M_X4_refine.2.1 0 = .ok (.bipush 18, 2) ∧ 0 + 2 = 2 := ⟨by decide +kernel, rfl⟩
theorem q_X4_refine_2 : decode M_X4_refine.2.1 2 = .ok (.istore_n 3, 1) ∧ 2 + 1 = 3 := ⟨by decide +kernel, rfl⟩
theorem q_X4_refine_3 : decode M_X4_refine.2.1 3 = .ok (.aload_n 0, 1) ∧ 3 + 1 = 4 := ⟨by decide +kernel, rfl⟩
theorem q_X4_refine_4 : decode M_X4_refine.2.1 4 = .ok (.getfield 27, 3) ∧ 4 + 3 = 7 := ⟨by decide +kernel, rfl⟩
theorem f_RX4_27 : en_F RX4 27 4 4 := ⟨RX4, TX4, 5, rfl, by decide, rfl, by decide +kernel, by decide +kernel⟩
theorem q_X4_refine_7 : decode M_X4_refine.2.1 7 = .ok (.ldc2_w 30, 3) ∧ 7 + 3 = 10 := ⟨by decide +kernel, rfl⟩
theorem k_RX4_30 : Cond.constantLong RX4 30 (lN 1000000) ∈ en_tbl := by decide +kernel
theorem q_X4_refine_10 : decode M_X4_refine.2.1 10 = .ok (.invokevirtual 32, 3) ∧ 10 + 3 = 13 := ⟨by decide +kernel, rfl⟩
theorem g_X4_refine_10 : en_C M_X4_refine M_X1_setLong 32 1 := ⟨⟨by decide +kernel, by decide +kernel, by decide +kernel⟩, ⟨by decide, by decide, by decide +kernel⟩, by decide, by decide⟩
theorem q_X4_refine_13 : decode M_X4_refine.2.1 13 = .ok (.iconst 0, 1) ∧ 13 + 1 = 14 := ⟨by decide +kernel, rfl⟩
theorem q_X4_refine_14 : decode M_X4_refine.2.1 14 = .ok (.istore 4, 2) ∧ 14 + 2 = 16 := ⟨by decide +kernel, rfl⟩
theorem q_X4_refine_16 : decode M_X4_refine.2.1 16 = .ok (.iload 4, 2) ∧ 16 + 2 = 18 := ⟨by decide +kernel, rfl⟩
theorem q_X4_refine_18 : decode M_X4_refine.2.1 18 = .ok (.iconst 5, 1) ∧ 18 + 1 = 19 := ⟨by decide +kernel, rfl⟩
theorem q_X4_refine_19 : decode M_X4_refine.2.1 19 = .ok (.if_icmp .ge 172, 3) ∧ 19 + 3 = 22 ∧ ((19 : Nat) : Int) + 172 = ((191 : Nat) : Int) := ⟨by decide +kernel, rfl, rfl⟩
theorem q_X4_refine_22 : decode M_X4_refine.2.1 22 = .ok (.aload_n 1, 1) ∧ 22 + 1 = 23 := ⟨by decide +kernel, rfl⟩
theorem q_X4_refine_23 : decode M_X4_refine.2.1 23 = .ok (.getfield 36, 3) ∧ 23 + 3 = 26 := ⟨by decide +kernel, rfl⟩
theorem f_RX4_36 : en_F RX4 36 5 9 := ⟨RX5, TX5, 11, rfl, by decide, rfl, by decide +kernel, by decide +kernel⟩
theorem q_X4_refine_26 : decode M_X4_refine.2.1 26 = .ok (.iload_n 2, 1) ∧ 26 + 1 = 27 := ⟨by decide +kernel, rfl⟩
theorem q_X4_refine_27 : decode M_X4_refine.2.1 27 = .ok (.if_icmp .ge 164, 3) ∧ 27 + 3 = 30 ∧ ((27 : Nat) : Int) + 164 = ((191 : Nat) : Int) := ⟨by decide +kernel, rfl, rfl⟩
theorem q_X4_refine_30 : decode M_X4_refine.2.1 30 = .ok (.aload_n 0, 1) ∧ 30 + 1 = 31 := ⟨by decide +kernel, rfl⟩
theorem q_X4_refine_31 : decode M_X4_refine.2.1 31 = .ok (.getfield 21, 3) ∧ 31 + 3 = 34 := ⟨by decide +kernel, rfl⟩
theorem f_RX4_21 : en_F RX4 21 4 2 := ⟨RX4, TX4, 5, rfl, by decide, rfl, by decide +kernel, by decide +kernel⟩
theorem q_X4_refine_34 : decode M_X4_refine.2.1 34 = .ok (.invokevirtual 42, 3) ∧ 34 + 3 = 37 := ⟨by decide +kernel, rfl⟩
theorem g_X4_refine_34 : en_C M_X4_refine M_X1_clear 42 0 := ⟨⟨by decide +kernel, by decide +kernel, by decide +kernel⟩, ⟨by decide, by decide, by decide +kernel⟩, by decide, by decide⟩
theorem q_X4_refine_37 : decode M_X4_refine.2.1 37 = .ok (.aload_n 0, 1) ∧ 37 + 1 = 38 := ⟨by decide +kernel, rfl⟩
theorem q_X4_refine_38 : decode M_X4_refine.2.1 38 = .ok (.getfield 24, 3) ∧ 38 + 3 = 41 := ⟨by decide +kernel, rfl⟩
theorem f_RX4_24 : en_F RX4 24 4 3 := ⟨RX4, TX4, 5, rfl, by decide, rfl, by decide +kernel, by decide +kernel⟩
theorem q_X4_refine_41 : decode M_X4_refine.2.1 41 = .ok (.invokevirtual 42, 3) ∧ 41 + 3 = 44 := ⟨by decide +kernel, rfl⟩
theorem g_X4_refine_41 : en_C M_X4_refine M_X1_clear 42 0 := ⟨⟨by decide +kernel, by decide +kernel, by decide +kernel⟩, ⟨by decide, by decide, by decide +kernel⟩, by decide, by decide⟩
theorem q_X4_refine_44 : decode M_X4_refine.2.1 44 = .ok (.aload_n 1, 1) ∧ 44 + 1 = 45 := ⟨by decide +kernel, rfl⟩
theorem q_X4_refine_45 : decode M_X4_refine.2.1 45 = .ok (.getfield 45, 3) ∧ 45 + 3 = 48 := ⟨by decide +kernel, rfl⟩
theorem f_RX4_45 : en_F RX4 45 5 0 := ⟨RX5, TX5, 11, rfl, by decide, rfl, by decide +kernel, by decide +kernel⟩
theorem q_X4_refine_48 : decode M_X4_refine.2.1 48 = .ok (.iconst 4, 1) ∧ 48 + 1 = 49 := ⟨by decide +kernel, rfl⟩
theorem q_X4_refine_49 : decode M_X4_refine.2.1 49 = .ok (.if_icmp .ne 21, 3) ∧ 49 + 3 = 52 ∧ ((49 : Nat) : Int) + 21 = ((70 : Nat) : Int) := ⟨by decide +kernel, rfl, rfl⟩
theorem q_X4_refine_52 : decode M_X4_refine.2.1 52 = .ok (.aload_n 0, 1) ∧ 52 + 1 = 53 := ⟨by decide +kernel, rfl⟩
theorem q_X4_refine_53 : decode M_X4_refine.2.1 53 = .ok (.aload_n 1, 1) ∧ 53 + 1 = 54 := ⟨by decide +kernel, rfl⟩
theorem q_X4_refine_54 : decode M_X4_refine.2.1 54 = .ok (.getfield 48, 3) ∧ 54 + 3 = 57 := ⟨by decide +kernel, rfl⟩
theorem f_RX4_48 : en_F RX4 48 5 1 := ⟨RX5, TX5, 11, rfl, by decide, rfl, by decide +kernel, by decide +kernel⟩
theorem q_X4_refine_57 : decode M_X4_refine.2.1 57 = .ok (.aload_n 1, 1) ∧ 57 + 1 = 58 := ⟨by decide +kernel, rfl⟩
theorem q_X4_refine_58 : decode M_X4_refine.2.1 58 = .ok (.getfield 52, 3) ∧ 58 + 3 = 61 := ⟨by decide +kernel, rfl⟩
theorem f_RX4_52 : en_F RX4 52 5 2 := ⟨RX5, TX5, 11, rfl, by decide, rfl, by decide +kernel, by decide +kernel⟩
theorem q_X4_refine_61 : decode M_X4_refine.2.1 61 = .ok (.iload_n 2, 1) ∧ 61 + 1 = 62 := ⟨by decide +kernel, rfl⟩
theorem q_X4_refine_62 : decode M_X4_refine.2.1 62 = .ok (.iload_n 3, 1) ∧ 62 + 1 = 63 := ⟨by decide +kernel, rfl⟩
theorem q_X4_refine_63 : decode M_X4_refine.2.1 63 = .ok (.iadd, 1) ∧ 63 + 1 = 64 := ⟨by decide +kernel, rfl⟩
theorem q_X4_refine_64 : decode M_X4_refine.2.1 64 = .ok (.invokevirtual 55, 3) ∧ 64 + 3 = 67 := ⟨by decide +kernel, rfl⟩
theorem g_X4_refine_64 : en_C M_X4_refine M_X4_sumPower 55 3 := ⟨⟨by decide +kernel, by decide +kernel, by decide +kernel⟩, ⟨by decide, by decide, by decide +kernel⟩, by decide, by decide⟩
theorem w_X4_sumPower : Cond.instanceMethod M_X4_sumPower.1 ∈ en_tbl ∧ Cond.selects M_X4_sumPower.1.cls M_X4_sumPower.1 M_X4_sumPower.1 ∈ en_tbl := ⟨by decide +kernel, by decide +kernel⟩
theorem q_X4_refine_67 : decode M_X4_refine.2.1 67 = .ok (.goto 27, 3) ∧ 67 + 3 = 70 ∧ ((67 : Nat) : Int) + 27 = ((94 : Nat) : Int) := ⟨by decide +kernel, rfl, rfl⟩
theorem q_X4_refine_70 : decode M_X4_refine.2.1 70 = .ok (.aload_n 0, 1) ∧ 70 + 1 = 71 := ⟨by decide +kernel, rfl⟩
theorem q_X4_refine_71 : decode M_X4_refine.2.1 71 = .ok (.aload_n 1, 1) ∧ 71 + 1 = 72 := ⟨by decide +kernel, rfl⟩
theorem q_X4_refine_72 : decode M_X4_refine.2.1 72 = .ok (.getfield 48, 3) ∧ 72 + 3 = 75 := ⟨by decide +kernel, rfl⟩
theorem q_X4_refine_75 : decode M_X4_refine.2.1 75 = .ok (.aload_n 1, 1) ∧ 75 + 1 = 76 := ⟨by decide +kernel, rfl⟩
theorem q_X4_refine_76 : decode M_X4_refine.2.1 76 = .ok (.getfield 45, 3) ∧ 76 + 3 = 79 := ⟨by decide +kernel, rfl⟩
theorem q_X4_refine_79 : decode M_X4_refine.2.1 79 = .ok (.iconst 2, 1) ∧ 79 + 1 = 80 := ⟨by decide +kernel, rfl⟩
theorem q_X4_refine_80 : decode M_X4_refine.2.1 80 = .ok (.if_icmp .ne 7, 3) ∧ 80 + 3 = 83 ∧ ((80 : Nat) : Int) + 7 = ((87 : Nat) : Int) := ⟨by decide +kernel, rfl, rfl⟩
theorem q_X4_refine_83 : decode M_X4_refine.2.1 83 = .ok (.iconst 1, 1) ∧ 83 + 1 = 84 := ⟨by decide +kernel, rfl⟩
theorem q_X4_refine_84 : decode M_X4_refine.2.1 84 = .ok (.goto 4, 3) ∧ 84 + 3 = 87 ∧ ((84 : Nat) : Int) + 4 = ((88 : Nat) : Int) := ⟨by decide +kernel, rfl, rfl⟩
theorem q_X4_refine_87 : decode M_X4_refine.2.1 87 = .ok (.iconst 0, 1) ∧ 87 + 1 = 88 := ⟨by decide +kernel, rfl⟩
theorem q_X4_refine_88 : decode M_X4_refine.2.1 88 = .ok (.iload_n 2, 1) ∧ 88 + 1 = 89 := ⟨by decide +kernel, rfl⟩
theorem q_X4_refine_89 : decode M_X4_refine.2.1 89 = .ok (.iload_n 3, 1) ∧ 89 + 1 = 90 := ⟨by decide +kernel, rfl⟩
theorem q_X4_refine_90 : decode M_X4_refine.2.1 90 = .ok (.iadd, 1) ∧ 90 + 1 = 91 := ⟨by decide +kernel, rfl⟩
theorem q_X4_refine_91 : decode M_X4_refine.2.1 91 = .ok (.invokevirtual 59, 3) ∧ 91 + 3 = 94 := ⟨by decide +kernel, rfl⟩
theorem g_X4_refine_91 : en_C M_X4_refine M_X4_sumTangent 59 3 := ⟨⟨by decide +kernel, by decide +kernel, by decide +kernel⟩, ⟨by decide, by decide, by decide +kernel⟩, by decide, by decide⟩
theorem w_X4_sumTangent : Cond.instanceMethod M_X4_sumTangent.1 ∈ en_tbl ∧ Cond.selects M_X4_sumTangent.1.cls M_X4_sumTangent.1 M_X4_sumTangent.1 ∈ en_tbl := ⟨by decide +kernel, by decide +kernel⟩
theorem q_X4_refine_94 : decode M_X4_refine.2.1 94 = .ok (.aload_n 0, 1) ∧ 94 + 1 = 95 := ⟨by decide +kernel, rfl⟩
theorem q_X4_refine_95 : decode M_X4_refine.2.1 95 = .ok (.getfield 21, 3) ∧ 95 + 3 = 98 := ⟨by decide +kernel, rfl⟩
theorem q_X4_refine_98 : decode M_X4_refine.2.1 98 = .ok (.aload_n 0, 1) ∧ 98 + 1 = 99 := ⟨by decide +kernel, rfl⟩
theorem q_X4_refine_99 : decode M_X4_refine.2.1 99 = .ok (.getfield 24, 3) ∧ 99 + 3 = 102 := ⟨by decide +kernel, rfl⟩
theorem q_X4_refine_102 : decode M_X4_refine.2.1 102 = .ok (.invokevirtual 63, 3) ∧ 102 + 3 = 105 := ⟨by decide +kernel, rfl⟩
theorem g_X4_refine_102 : en_C M_X4_refine M_X1_subtract 63 1 := ⟨⟨by decide +kernel, by decide +kernel, by decide +kernel⟩, ⟨by decide, by decide, by decide +kernel⟩, by decide, by decide⟩
theorem w_X1_subtract : Cond.instanceMethod M_X1_subtract.1 ∈ en_tbl ∧ Cond.selects M_X1_subtract.1.cls M_X1_subtract.1 M_X1_subtract.1 ∈ en_tbl := ⟨by decide +kernel, by decide +kernel⟩
theorem q_X4_refine_105 : decode M_X4_refine.2.1 105 = .ok (.aload_n 1, 1) ∧ 105 + 1 = 106 := ⟨by decide +kernel, rfl⟩
theorem q_X4_refine_106 : decode M_X4_refine.2.1 106 = .ok (.getfield 67, 3) ∧ 106 + 3 = 109 := ⟨by decide +kernel, rfl⟩
theorem f_RX4_67 : en_F RX4 67 5 10 := ⟨RX5, TX5, 11, rfl, by decide, rfl, by decide +kernel, by decide +kernel⟩
theorem q_X4_refine_109 : decode M_X4_refine.2.1 109 = .ok (.aload_n 0, 1) ∧ 109 + 1 = 110 := ⟨by decide +kernel, rfl⟩
theorem q_X4_refine_110 : decode M_X4_refine.2.1 110 = .ok (.getfield 21, 3) ∧ 110 + 3 = 113 := ⟨by decide +kernel, rfl⟩
theorem q_X4_refine_113 : decode M_X4_refine.2.1 113 = .ok (.invokevirtual 70, 3) ∧ 113 + 3 = 116 := ⟨by decide +kernel, rfl⟩
theorem g_X4_refine_113 : en_C M_X4_refine M_X1_copy 70 1 := ⟨⟨by decide +kernel, by decide +kernel, by decide +kernel⟩, ⟨by decide, by decide, by decide +kernel⟩, by decide, by decide⟩
theorem q_X4_refine_116 : decode M_X4_refine.2.1 116 = .ok (.aload_n 1, 1) ∧ 116 + 1 = 117 := ⟨by decide +kernel, rfl⟩
theorem q_X4_refine_117 : decode M_X4_refine.2.1 117 = .ok (.getfield 67, 3) ∧ 117 + 3 = 120 := ⟨by decide +kernel, rfl⟩
theorem q_X4_refine_120 : decode M_X4_refine.2.1 120 = .ok (.aload_n 0, 1) ∧ 120 + 1 = 121 := ⟨by decide +kernel, rfl⟩
theorem q_X4_refine_121 : decode M_X4_refine.2.1 121 = .ok (.getfield 27, 3) ∧ 121 + 3 = 124 := ⟨by decide +kernel, rfl⟩
theorem q_X4_refine_124 : decode M_X4_refine.2.1 124 = .ok (.invokevirtual 63, 3) ∧ 124 + 3 = 127 := ⟨by decide +kernel, rfl⟩
theorem g_X4_refine_124 : en_C M_X4_refine M_X1_subtract 63 1 := ⟨⟨by decide +kernel, by decide +kernel, by decide +kernel⟩, ⟨by decide, by decide, by decide +kernel⟩, by decide, by decide⟩
theorem q_X4_refine_127 : decode M_X4_refine.2.1 127 = .ok (.aload_n 1, 1) ∧ 127 + 1 = 128 := ⟨by decide +kernel, rfl⟩
theorem q_X4_refine_128 : decode M_X4_refine.2.1 128 = .ok (.getfield 67, 3) ∧ 128 + 3 = 131 := ⟨by decide +kernel, rfl⟩
theorem q_X4_refine_131 : decode M_X4_refine.2.1 131 = .ok (.iload_n 3, 1) ∧ 131 + 1 = 132 := ⟨by decide +kernel, rfl⟩
theorem q_X4_refine_132 : decode M_X4_refine.2.1 132 = .ok (.iconst (-1), 1) ∧ 132 + 1 = 133 := ⟨by decide +kernel, rfl⟩
theorem q_X4_refine_133 : decode M_X4_refine.2.1 133 = .ok (.invokevirtual 73, 3) ∧ 133 + 3 = 136 := ⟨by decide +kernel, rfl⟩
theorem g_X4_refine_133 : en_C M_X4_refine M_X1_shrink 73 2 := ⟨⟨by decide +kernel, by decide +kernel, by decide +kernel⟩, ⟨by decide, by decide, by decide +kernel⟩, by decide, by decide⟩
theorem q_X4_refine_136 : decode M_X4_refine.2.1 136 = .ok (.aload_n 0, 1) ∧ 136 + 1 = 137 := ⟨by decide +kernel, rfl⟩
theorem q_X4_refine_137 : decode M_X4_refine.2.1 137 = .ok (.getfield 21, 3) ∧ 137 + 3 = 140 := ⟨by decide +kernel, rfl⟩
theorem q_X4_refine_140 : decode M_X4_refine.2.1 140 = .ok (.aload_n 0, 1) ∧ 140 + 1 = 141 := ⟨by decide +kernel, rfl⟩
theorem q_X4_refine_141 : decode M_X4_refine.2.1 141 = .ok (.getfield 27, 3) ∧ 141 + 3 = 144 := ⟨by decide +kernel, rfl⟩
theorem q_X4_refine_144 : decode M_X4_refine.2.1 144 = .ok (.invokevirtual 77, 3) ∧ 144 + 3 = 147 := ⟨by decide +kernel, rfl⟩
theorem g_X4_refine_144 : en_C M_X4_refine M_X1_add 77 1 := ⟨⟨by decide +kernel, by decide +kernel, by decide +kernel⟩, ⟨by decide, by decide, by decide +kernel⟩, by decide, by decide⟩
theorem q_X4_refine_147 : decode M_X4_refine.2.1 147 = .ok (.aload_n 0, 1) ∧ 147 + 1 = 148 := ⟨by decide +kernel, rfl⟩
theorem q_X4_refine_148 : decode M_X4_refine.2.1 148 = .ok (.getfield 21, 3) ∧ 148 + 3 = 151 := ⟨by decide +kernel, rfl⟩
theorem q_X4_refine_151 : decode M_X4_refine.2.1 151 = .ok (.iload_n 3, 1) ∧ 151 + 1 = 152 := ⟨by decide +kernel, rfl⟩
theorem q_X4_refine_152 : decode M_X4_refine.2.1 152 = .ok (.iconst (-1), 1) ∧ 152 + 1 = 153 := ⟨by decide +kernel, rfl⟩
theorem q_X4_refine_153 : decode M_X4_refine.2.1 153 = .ok (.invokevirtual 73, 3) ∧ 153 + 3 = 156 := ⟨by decide +kernel, rfl⟩
theorem g_X4_refine_153 : en_C M_X4_refine M_X1_shrink 73 2 := ⟨⟨by decide +kernel, by decide +kernel, by decide +kernel⟩, ⟨by decide, by decide, by decide +kernel⟩, by decide, by decide⟩
theorem q_X4_refine_156 : decode M_X4_refine.2.1 156 = .ok (.aload_n 0, 1) ∧ 156 + 1 = 157 := ⟨by decide +kernel, rfl⟩
theorem q_X4_refine_157 : decode M_X4_refine.2.1 157 = .ok (.getfield 21, 3) ∧ 157 + 3 = 160 := ⟨by decide +kernel, rfl⟩
theorem q_X4_refine_160 : decode M_X4_refine.2.1 160 = .ok (.aload_n 1, 1) ∧ 160 + 1 = 161 := ⟨by decide +kernel, rfl⟩
theorem q_X4_refine_161 : decode M_X4_refine.2.1 161 = .ok (.getfield 67, 3) ∧ 161 + 3 = 164 := ⟨by decide +kernel, rfl⟩
theorem q_X4_refine_164 : decode M_X4_refine.2.1 164 = .ok (.invokevirtual 80, 3) ∧ 164 + 3 = 167 := ⟨by decide +kernel, rfl⟩
theorem g_X4_refine_164 : en_C M_X4_refine M_X1_compare 80 1 := ⟨⟨by decide +kernel, by decide +kernel, by decide +kernel⟩, ⟨by decide, by decide, by decide +kernel⟩, by decide, by decide⟩
theorem q_X4_refine_167 : decode M_X4_refine.2.1 167 = .ok (.ifCond .eq 9, 3) ∧ 167 + 3 = 170 ∧ ((167 : Nat) : Int) + 9 = ((176 : Nat) : Int) := ⟨by decide +kernel, rfl, rfl⟩
theorem q_X4_refine_170 : decode M_X4_refine.2.1 170 = .ok (.iload 4, 2) ∧ 170 + 2 = 172 := ⟨by decide +kernel, rfl⟩
theorem q_X4_refine_172 : decode M_X4_refine.2.1 172 = .ok (.iconst 4, 1) ∧ 172 + 1 = 173 := ⟨by decide +kernel, rfl⟩
theorem q_X4_refine_173 : decode M_X4_refine.2.1 173 = .ok (.if_icmp .ne 8, 3) ∧ 173 + 3 = 176 ∧ ((173 : Nat) : Int) + 8 = ((181 : Nat) : Int) := ⟨by decide +kernel, rfl, rfl⟩
theorem q_X4_refine_176 : decode M_X4_refine.2.1 176 = .ok (.aload_n 1, 1) ∧ 176 + 1 = 177 := ⟨by decide +kernel, rfl⟩
theorem q_X4_refine_177 : decode M_X4_refine.2.1 177 = .ok (.iload_n 2, 1) ∧ 177 + 1 = 178 := ⟨by decide +kernel, rfl⟩
theorem q_X4_refine_178 : decode M_X4_refine.2.1 178 = .ok (.putfield 36, 3) ∧ 178 + 3 = 181 := ⟨by decide +kernel, rfl⟩
theorem p_RX4_36 : en_Fp RX4 36 5 9 false .int := ⟨RX5, TX5, 11, tyX5, rfl, by decide, rfl, by decide +kernel, by decide +kernel, tyX5_ok, nmX5, rfl, by decide +kernel⟩
theorem q_X4_refine_181 : decode M_X4_refine.2.1 181 = .ok (.iload_n 3, 1) ∧ 181 + 1 = 182 := ⟨by decide +kernel, rfl⟩
theorem q_X4_refine_182 : decode M_X4_refine.2.1 182 = .ok (.iconst 2, 1) ∧ 182 + 1 = 183 := ⟨by decide +kernel, rfl⟩
theorem q_X4_refine_183 : decode M_X4_refine.2.1 183 = .ok (.imul, 1) ∧ 183 + 1 = 184 := ⟨by decide +kernel, rfl⟩
theorem q_X4_refine_184 : decode M_X4_refine.2.1 184 = .ok (.istore_n 3, 1) ∧ 184 + 1 = 185 := ⟨by decide +kernel, rfl⟩
theorem q_X4_refine_185 : decode M_X4_refine.2.1 185 = .ok (.iinc 4 1, 3) ∧ 185 + 3 = 188 := ⟨by decide +kernel, rfl⟩
theorem q_X4_refine_188 : decode M_X4_refine.2.1 188 = .ok (.goto (-172), 3) ∧ 188 + 3 = 191 ∧ ((188 : Nat) : Int) + (-172) = ((16 : Nat) : Int) := ⟨by decide +kernel, rfl, rfl⟩
theorem q_X4_refine_191 : decode M_X4_refine.2.1 191 = .ok (.return_, 1) ∧ 191 + 1 = 192 := ⟨by decide +kernel, rfl⟩
theorem q_X4_sumTangent_0 : decode M_X4_sumTangent.2.1 0 = .ok (.lload_n 1, 1) ∧ 0 + 1 = 1 := ⟨by decide +kernel, rfl⟩
theorem q_X4_sumTangent_1 : decode M_X4_sumTangent.2.1 1 = .ok (.ldc2_w 84, 3) ∧ 1 + 3 = 4 := ⟨by decide +kernel, rfl⟩
theorem k_RX4_84 : Cond.constantLong RX4 84 (lN 90000) ∈ en_tbl := by decide +kernel
theorem q_X4_sumTangent_4 : decode M_X4_sumTangent.2.1 4 = .ok (.lcmp, 1) ∧ 4 + 1 = 5 := ⟨by decide +kernel, rfl⟩
theorem q_X4_sumTangent_5 : decode M_X4_sumTangent.2.1 5 = .ok (.ifCond .gt 7, 3) ∧ 5 + 3 = 8 ∧ ((5 : Nat) : Int) + 7 = ((12 : Nat) : Int) := ⟨by decide +kernel, rfl, rfl⟩
theorem q_X4_sumTangent_8 : decode M_X4_sumTangent.2.1 8 = .ok (.iconst 1, 1) ∧ 8 + 1 = 9 := ⟨by decide +kernel, rfl⟩
theorem q_X4_sumTangent_9 : decode M_X4_sumTangent.2.1 9 = .ok (.goto 4, 3) ∧ 9 + 3 = 12 ∧ ((9 : Nat) : Int) + 4 = ((13 : Nat) : Int) := ⟨by decide +kernel, rfl, rfl⟩
theorem q_X4_sumTangent_12 : decode M_X4_sumTangent.2.1 12 = .ok (.iconst 0, 1) ∧ 12 + 1 = 13 := ⟨by decide +kernel, rfl⟩
theorem q_X4_sumTangent_13 : decode M_X4_sumTangent.2.1 13 = .ok (.istore 5, 2) ∧ 13 + 2 = 15 := ⟨by decide +kernel, rfl⟩
theorem q_X4_sumTangent_15 : decode M_X4_sumTangent.2.1 15 = .ok (.aload_n 0, 1) ∧ 15 + 1 = 16 := ⟨by decide +kernel, rfl⟩
theorem q_X4_sumTangent_16 : decode M_X4_sumTangent.2.1 16 = .ok (.getfield 12, 3) ∧ 16 + 3 = 19 := ⟨by decide +kernel, rfl⟩
theorem f_RX4_12 : en_F RX4 12 4 0 := ⟨RX4, TX4, 5, rfl, by decide, rfl, by decide +kernel, by decide +kernel⟩
theorem q_X4_sumTangent_19 : decode M_X4_sumTangent.2.1 19 = .ok (.lconst 1, 1) ∧ 19 + 1 = 20 := ⟨by decide +kernel, rfl⟩
theorem q_X4_sumTangent_20 : decode M_X4_sumTangent.2.1 20 = .ok (.invokevirtual 32, 3) ∧ 20 + 3 = 23 := ⟨by decide +kernel, rfl⟩
theorem g_X4_sumTangent_20 : en_C M_X4_sumTangent M_X1_setLong 32 1 := ⟨⟨by decide +kernel, by decide +kernel, by decide +kernel⟩, ⟨by decide, by decide, by decide +kernel⟩, by decide, by decide⟩
theorem q_X4_sumTangent_23 : decode M_X4_sumTangent.2.1 23 = .ok (.aload_n 0, 1) ∧ 23 + 1 = 24 := ⟨by decide +kernel, rfl⟩
theorem q_X4_sumTangent_24 : decode M_X4_sumTangent.2.1 24 = .ok (.getfield 12, 3) ∧ 24 + 3 = 27 := ⟨by decide +kernel, rfl⟩
theorem q_X4_sumTangent_27 : decode M_X4_sumTangent.2.1 27 = .ok (.iload 4, 2) ∧ 27 + 2 = 29 := ⟨by decide +kernel, rfl⟩
theorem q_X4_sumTangent_29 : decode M_X4_sumTangent.2.1 29 = .ok (.invokevirtual 86, 3) ∧ 29 + 3 = 32 := ⟨by decide +kernel, rfl⟩
theorem g_X4_sumTangent_29 : en_C M_X4_sumTangent M_X1_shiftUp 86 1 := ⟨⟨by decide +kernel, by decide +kernel, by decide +kernel⟩, ⟨by decide, by decide, by decide +kernel⟩, by decide, by decide⟩
theorem q_X4_sumTangent_32 : decode M_X4_sumTangent.2.1 32 = .ok (.aload_n 0, 1) ∧ 32 + 1 = 33 := ⟨by decide +kernel, rfl⟩
theorem q_X4_sumTangent_33 : decode M_X4_sumTangent.2.1 33 = .ok (.getfield 12, 3) ∧ 33 + 3 = 36 := ⟨by decide +kernel, rfl⟩
theorem q_X4_sumTangent_36 : decode M_X4_sumTangent.2.1 36 = .ok (.lload_n 1, 1) ∧ 36 + 1 = 37 := ⟨by decide +kernel, rfl⟩
theorem q_X4_sumTangent_37 : decode M_X4_sumTangent.2.1 37 = .ok (.invokevirtual 90, 3) ∧ 37 + 3 = 40 := ⟨by decide +kernel, rfl⟩
theorem g_X4_sumTangent_37 : en_C M_X4_sumTangent M_X1_divideSmall 90 1 := ⟨⟨by decide +kernel, by decide +kernel, by decide +kernel⟩, ⟨by decide, by decide, by decide +kernel⟩, by decide, by decide⟩
theorem q_X4_sumTangent_40 : decode M_X4_sumTangent.2.1 40 = .ok (.pop2, 1) ∧ 40 + 1 = 41 := ⟨by decide +kernel, rfl⟩
theorem q_X4_sumTangent_41 : decode M_X4_sumTangent.2.1 41 = .ok (.iconst 0, 1) ∧ 41 + 1 = 42 := ⟨by decide +kernel, rfl⟩
theorem q_X4_sumTangent_42 : decode M_X4_sumTangent.2.1 42 = .ok (.istore 6, 2) ∧ 42 + 2 = 44 := ⟨by decide +kernel, rfl⟩
theorem q_X4_sumTangent_44 : decode M_X4_sumTangent.2.1 44 = .ok (.iload 6, 2) ∧ 44 + 2 = 46 := ⟨by decide +kernel, rfl⟩
theorem q_X4_sumTangent_46 : decode M_X4_sumTangent.2.1 46 = .ok (.sipush 10000, 3) ∧ 46 + 3 = 49 := ⟨by decide +kernel, rfl⟩
theorem q_X4_sumTangent_49 : decode M_X4_sumTangent.2.1 49 = .ok (.if_icmp .ge 115, 3) ∧ 49 + 3 = 52 ∧ ((49 : Nat) : Int) + 115 = ((164 : Nat) : Int) := ⟨by decide +kernel, rfl, rfl⟩
theorem q_X4_sumTangent_52 : decode M_X4_sumTangent.2.1 52 = .ok (.aload_n 0, 1) ∧ 52 + 1 = 53 := ⟨by decide +kernel, rfl⟩
theorem q_X4_sumTangent_53 : decode M_X4_sumTangent.2.1 53 = .ok (.getfield 12, 3) ∧ 53 + 3 = 56 := ⟨by decide +kernel, rfl⟩
theorem q_X4_sumTangent_56 : decode M_X4_sumTangent.2.1 56 = .ok (.getfield 94, 3) ∧ 56 + 3 = 59 := ⟨by decide +kernel, rfl⟩
theorem f_RX4_94 : en_F RX4 94 1 0 := ⟨RX1, TX1, 3, rfl, by decide, rfl, by decide +kernel, by decide +kernel⟩
theorem q_X4_sumTangent_59 : decode M_X4_sumTangent.2.1 59 = .ok (.ifCond .eq 105, 3) ∧ 59 + 3 = 62 ∧ ((59 : Nat) : Int) + 105 = ((164 : Nat) : Int) := ⟨by decide +kernel, rfl, rfl⟩
theorem q_X4_sumTangent_62 : decode M_X4_sumTangent.2.1 62 = .ok (.aload_n 0, 1) ∧ 62 + 1 = 63 := ⟨by decide +kernel, rfl⟩
theorem q_X4_sumTangent_63 : decode M_X4_sumTangent.2.1 63 = .ok (.getfield 18, 3) ∧ 63 + 3 = 66 := ⟨by decide +kernel, rfl⟩
theorem f_RX4_18 : en_F RX4 18 4 1 := ⟨RX4, TX4, 5, rfl, by decide, rfl, by decide +kernel, by decide +kernel⟩
theorem q_X4_sumTangent_66 : decode M_X4_sumTangent.2.1 66 = .ok (.aload_n 0, 1) ∧ 66 + 1 = 67 := ⟨by decide +kernel, rfl⟩
theorem q_X4_sumTangent_67 : decode M_X4_sumTangent.2.1 67 = .ok (.getfield 12, 3) ∧ 67 + 3 = 70 := ⟨by decide +kernel, rfl⟩
theorem q_X4_sumTangent_70 : decode M_X4_sumTangent.2.1 70 = .ok (.invokevirtual 70, 3) ∧ 70 + 3 = 73 := ⟨by decide +kernel, rfl⟩
theorem g_X4_sumTangent_70 : en_C M_X4_sumTangent M_X1_copy 70 1 := ⟨⟨by decide +kernel, by decide +kernel, by decide +kernel⟩, ⟨by decide, by decide, by decide +kernel⟩, by decide, by decide⟩
theorem q_X4_sumTangent_73 : decode M_X4_sumTangent.2.1 73 = .ok (.aload_n 0, 1) ∧ 73 + 1 = 74 := ⟨by decide +kernel, rfl⟩
theorem q_X4_sumTangent_74 : decode M_X4_sumTangent.2.1 74 = .ok (.getfield 18, 3) ∧ 74 + 3 = 77 := ⟨by decide +kernel, rfl⟩
theorem q_X4_sumTangent_77 : decode M_X4_sumTangent.2.1 77 = .ok (.ldc2_w 97, 3) ∧ 77 + 3 = 80 := ⟨by decide +kernel, rfl⟩
theorem k_RX4_97 : Cond.constantLong RX4 97 (lN 2) ∈ en_tbl := by decide +kernel
theorem q_X4_sumTangent_80 : decode M_X4_sumTangent.2.1 80 = .ok (.iload 6, 2) ∧ 80 + 2 = 82 := ⟨by decide +kernel, rfl⟩
theorem q_X4_sumTangent_82 : decode M_X4_sumTangent.2.1 82 = .ok (.i2l, 1) ∧ 82 + 1 = 83 := ⟨by decide +kernel, rfl⟩
theorem q_X4_sumTangent_83 : decode M_X4_sumTangent.2.1 83 = .ok (.lmul, 1) ∧ 83 + 1 = 84 := ⟨by decide +kernel, rfl⟩
theorem q_X4_sumTangent_84 : decode M_X4_sumTangent.2.1 84 = .ok (.lconst 1, 1) ∧ 84 + 1 = 85 := ⟨by decide +kernel, rfl⟩
theorem q_X4_sumTangent_85 : decode M_X4_sumTangent.2.1 85 = .ok (.ladd, 1) ∧ 85 + 1 = 86 := ⟨by decide +kernel, rfl⟩
theorem q_X4_sumTangent_86 : decode M_X4_sumTangent.2.1 86 = .ok (.invokevirtual 90, 3) ∧ 86 + 3 = 89 := ⟨by decide +kernel, rfl⟩
theorem g_X4_sumTangent_86 : en_C M_X4_sumTangent M_X1_divideSmall 90 1 := ⟨⟨by decide +kernel, by decide +kernel, by decide +kernel⟩, ⟨by decide, by decide, by decide +kernel⟩, by decide, by decide⟩
theorem q_X4_sumTangent_89 : decode M_X4_sumTangent.2.1 89 = .ok (.pop2, 1) ∧ 89 + 1 = 90 := ⟨by decide +kernel, rfl⟩
theorem q_X4_sumTangent_90 : decode M_X4_sumTangent.2.1 90 = .ok (.iload_n 3, 1) ∧ 90 + 1 = 91 := ⟨by decide +kernel, rfl⟩
theorem q_X4_sumTangent_91 : decode M_X4_sumTangent.2.1 91 = .ok (.ifCond .eq 18, 3) ∧ 91 + 3 = 94 ∧ ((91 : Nat) : Int) + 18 = ((109 : Nat) : Int) := ⟨by decide +kernel, rfl, rfl⟩
theorem q_X4_sumTangent_94 : decode M_X4_sumTangent.2.1 94 = .ok (.iload 6, 2) ∧ 94 + 2 = 96 := ⟨by decide +kernel, rfl⟩
theorem q_X4_sumTangent_96 : decode M_X4_sumTangent.2.1 96 = .ok (.iconst 2, 1) ∧ 96 + 1 = 97 := ⟨by decide +kernel, rfl⟩
theorem q_X4_sumTangent_97 : decode M_X4_sumTangent.2.1 97 = .ok (.irem, 1) ∧ 97 + 1 = 98 := ⟨by decide +kernel, rfl⟩
theorem q_X4_sumTangent_98 : decode M_X4_sumTangent.2.1 98 = .ok (.iconst 1, 1) ∧ 98 + 1 = 99 := ⟨by decide +kernel, rfl⟩
theorem q_X4_sumTangent_99 : decode M_X4_sumTangent.2.1 99 = .ok (.if_icmp .ne 10, 3) ∧ 99 + 3 = 102 ∧ ((99 : Nat) : Int) + 10 = ((109 : Nat) : Int) := ⟨by decide +kernel, rfl, rfl⟩
theorem q_X4_sumTangent_102 : decode M_X4_sumTangent.2.1 102 = .ok (.aload_n 0, 1) ∧ 102 + 1 = 103 := ⟨by decide +kernel, rfl⟩
theorem q_X4_sumTangent_103 : decode M_X4_sumTangent.2.1 103 = .ok (.getfield 24, 3) ∧ 103 + 3 = 106 := ⟨by decide +kernel, rfl⟩
theorem q_X4_sumTangent_106 : decode M_X4_sumTangent.2.1 106 = .ok (.goto 7, 3) ∧ 106 + 3 = 109 ∧ ((106 : Nat) : Int) + 7 = ((113 : Nat) : Int) := ⟨by decide +kernel, rfl, rfl⟩
theorem q_X4_sumTangent_109 : decode M_X4_sumTangent.2.1 109 = .ok (.aload_n 0, 1) ∧ 109 + 1 = 110 := ⟨by decide +kernel, rfl⟩
theorem q_X4_sumTangent_110 : decode M_X4_sumTangent.2.1 110 = .ok (.getfield 21, 3) ∧ 110 + 3 = 113 := ⟨by decide +kernel, rfl⟩
theorem q_X4_sumTangent_113 : decode M_X4_sumTangent.2.1 113 = .ok (.astore 7, 2) ∧ 113 + 2 = 115 := ⟨by decide +kernel, rfl⟩
theorem q_X4_sumTangent_115 : decode M_X4_sumTangent.2.1 115 = .ok (.aload 7, 2) ∧ 115 + 2 = 117 := ⟨by decide +kernel, rfl⟩
theorem q_X4_sumTangent_117 : decode M_X4_sumTangent.2.1 117 = .ok (.aload_n 0, 1) ∧ 117 + 1 = 118 := ⟨by decide +kernel, rfl⟩
theorem q_X4_sumTangent_118 : decode M_X4_sumTangent.2.1 118 = .ok (.getfield 18, 3) ∧ 118 + 3 = 121 := ⟨by decide +kernel, rfl⟩
theorem q_X4_sumTangent_121 : decode M_X4_sumTangent.2.1 121 = .ok (.invokevirtual 77, 3) ∧ 121 + 3 = 124 := ⟨by decide +kernel, rfl⟩
theorem g_X4_sumTangent_121 : en_C M_X4_sumTangent M_X1_add 77 1 := ⟨⟨by decide +kernel, by decide +kernel, by decide +kernel⟩, ⟨by decide, by decide, by decide +kernel⟩, by decide, by decide⟩
theorem q_X4_sumTangent_124 : decode M_X4_sumTangent.2.1 124 = .ok (.aload_n 0, 1) ∧ 124 + 1 = 125 := ⟨by decide +kernel, rfl⟩
theorem q_X4_sumTangent_125 : decode M_X4_sumTangent.2.1 125 = .ok (.getfield 12, 3) ∧ 125 + 3 = 128 := ⟨by decide +kernel, rfl⟩
theorem q_X4_sumTangent_128 : decode M_X4_sumTangent.2.1 128 = .ok (.iload 5, 2) ∧ 128 + 2 = 130 := ⟨by decide +kernel, rfl⟩
theorem q_X4_sumTangent_130 : decode M_X4_sumTangent.2.1 130 = .ok (.ifCond .eq 9, 3) ∧ 130 + 3 = 133 ∧ ((130 : Nat) : Int) + 9 = ((139 : Nat) : Int) := ⟨by decide +kernel, rfl, rfl⟩
theorem q_X4_sumTangent_133 : decode M_X4_sumTangent.2.1 133 = .ok (.lload_n 1, 1) ∧ 133 + 1 = 134 := ⟨by decide +kernel, rfl⟩
theorem q_X4_sumTangent_134 : decode M_X4_sumTangent.2.1 134 = .ok (.lload_n 1, 1) ∧ 134 + 1 = 135 := ⟨by decide +kernel, rfl⟩
theorem q_X4_sumTangent_135 : decode M_X4_sumTangent.2.1 135 = .ok (.lmul, 1) ∧ 135 + 1 = 136 := ⟨by decide +kernel, rfl⟩
theorem q_X4_sumTangent_136 : decode M_X4_sumTangent.2.1 136 = .ok (.goto 4, 3) ∧ 136 + 3 = 139 ∧ ((136 : Nat) : Int) + 4 = ((140 : Nat) : Int) := ⟨by decide +kernel, rfl, rfl⟩
theorem q_X4_sumTangent_139 : decode M_X4_sumTangent.2.1 139 = .ok (.lload_n 1, 1) ∧ 139 + 1 = 140 := ⟨by decide +kernel, rfl⟩
theorem q_X4_sumTangent_140 : decode M_X4_sumTangent.2.1 140 = .ok (.invokevirtual 90, 3) ∧ 140 + 3 = 143 := ⟨by decide +kernel, rfl⟩
theorem g_X4_sumTangent_140 : en_C M_X4_sumTangent M_X1_divideSmall 90 1 := ⟨⟨by decide +kernel, by decide +kernel, by decide +kernel⟩, ⟨by decide, by decide, by decide +kernel⟩, by decide, by decide⟩
theorem q_X4_sumTangent_143 : decode M_X4_sumTangent.2.1 143 = .ok (.pop2, 1) ∧ 143 + 1 = 144 := ⟨by decide +kernel, rfl⟩
theorem q_X4_sumTangent_144 : decode M_X4_sumTangent.2.1 144 = .ok (.iload 5, 2) ∧ 144 + 2 = 146 := ⟨by decide +kernel, rfl⟩
theorem q_X4_sumTangent_146 : decode M_X4_sumTangent.2.1 146 = .ok (.ifCond .ne 12, 3) ∧ 146 + 3 = 149 ∧ ((146 : Nat) : Int) + 12 = ((158 : Nat) : Int) := ⟨by decide +kernel, rfl, rfl⟩
theorem q_X4_sumTangent_149 : decode M_X4_sumTangent.2.1 149 = .ok (.aload_n 0, 1) ∧ 149 + 1 = 150 := ⟨by decide +kernel, rfl⟩
theorem q_X4_sumTangent_150 : decode M_X4_sumTangent.2.1 150 = .ok (.getfield 12, 3) ∧ 150 + 3 = 153 := ⟨by decide +kernel, rfl⟩
theorem q_X4_sumTangent_153 : decode M_X4_sumTangent.2.1 153 = .ok (.lload_n 1, 1) ∧ 153 + 1 = 154 := ⟨by decide +kernel, rfl⟩
theorem q_X4_sumTangent_154 : decode M_X4_sumTangent.2.1 154 = .ok (.invokevirtual 90, 3) ∧ 154 + 3 = 157 := ⟨by decide +kernel, rfl⟩
theorem g_X4_sumTangent_154 : en_C M_X4_sumTangent M_X1_divideSmall 90 1 := ⟨⟨by decide +kernel, by decide +kernel, by decide +kernel⟩, ⟨by decide, by decide, by decide +kernel⟩, by decide, by decide⟩
theorem q_X4_sumTangent_157 : decode M_X4_sumTangent.2.1 157 = .ok (.pop2, 1) ∧ 157 + 1 = 158 := ⟨by decide +kernel, rfl⟩
theorem q_X4_sumTangent_158 : decode M_X4_sumTangent.2.1 158 = .ok (.iinc 6 1, 3) ∧ 158 + 3 = 161 := ⟨by decide +kernel, rfl⟩
theorem q_X4_sumTangent_161 : decode M_X4_sumTangent.2.1 161 = .ok (.goto (-117), 3) ∧ 161 + 3 = 164 ∧ ((161 : Nat) : Int) + (-117) = ((44 : Nat) : Int) := ⟨by decide +kernel, rfl, rfl⟩
theorem q_X4_sumTangent_164 : decode M_X4_sumTangent.2.1 164 = .ok (.return_, 1) ∧ 164 + 1 = 165 := ⟨by decide +kernel, rfl⟩
theorem q_X4_sumPower_0 : decode M_X4_sumPower.2.1 0 = .ok (.aload_n 0, 1) ∧ 0 + 1 = 1 := ⟨by decide +kernel, rfl⟩
theorem q_X4_sumPower_1 : decode M_X4_sumPower.2.1 1 = .ok (.getfield 12, 3) ∧ 1 + 3 = 4 := ⟨by decide +kernel, rfl⟩
theorem q_X4_sumPower_4 : decode M_X4_sumPower.2.1 4 = .ok (.lconst 1, 1) ∧ 4 + 1 = 5 := ⟨by decide +kernel, rfl⟩
theorem q_X4_sumPower_5 : decode M_X4_sumPower.2.1 5 = .ok (.invokevirtual 32, 3) ∧ 5 + 3 = 8 := ⟨by decide +kernel, rfl⟩
theorem g_X4_sumPower_5 : en_C M_X4_sumPower M_X1_setLong 32 1 := ⟨⟨by decide +kernel, by decide +kernel, by decide +kernel⟩, ⟨by decide, by decide, by decide +kernel⟩, by decide, by decide⟩
theorem q_X4_sumPower_8 : decode M_X4_sumPower.2.1 8 = .ok (.aload_n 0, 1) ∧ 8 + 1 = 9 := ⟨by decide +kernel, rfl⟩
theorem q_X4_sumPower_9 : decode M_X4_sumPower.2.1 9 = .ok (.getfield 12, 3) ∧ 9 + 3 = 12 := ⟨by decide +kernel, rfl⟩
theorem q_X4_sumPower_12 : decode M_X4_sumPower.2.1 12 = .ok (.iload 5, 2) ∧ 12 + 2 = 14 := ⟨by decide +kernel, rfl⟩
theorem q_X4_sumPower_14 : decode M_X4_sumPower.2.1 14 = .ok (.invokevirtual 86, 3) ∧ 14 + 3 = 17 := ⟨by decide +kernel, rfl⟩
theorem g_X4_sumPower_14 : en_C M_X4_sumPower M_X1_shiftUp 86 1 := ⟨⟨by decide +kernel, by decide +kernel, by decide +kernel⟩, ⟨by decide, by decide, by decide +kernel⟩, by decide, by decide⟩
theorem q_X4_sumPower_17 : decode M_X4_sumPower.2.1 17 = .ok (.iconst 0, 1) ∧ 17 + 1 = 18 := ⟨by decide +kernel, rfl⟩
theorem q_X4_sumPower_18 : decode M_X4_sumPower.2.1 18 = .ok (.istore 6, 2) ∧ 18 + 2 = 20 := ⟨by decide +kernel, rfl⟩
theorem q_X4_sumPower_20 : decode M_X4_sumPower.2.1 20 = .ok (.iload 6, 2) ∧ 20 + 2 = 22 := ⟨by decide +kernel, rfl⟩
theorem q_X4_sumPower_22 : decode M_X4_sumPower.2.1 22 = .ok (.sipush 10000, 3) ∧ 22 + 3 = 25 := ⟨by decide +kernel, rfl⟩
theorem q_X4_sumPower_25 : decode M_X4_sumPower.2.1 25 = .ok (.if_icmp .ge 81, 3) ∧ 25 + 3 = 28 ∧ ((25 : Nat) : Int) + 81 = ((106 : Nat) : Int) := ⟨by decide +kernel, rfl, rfl⟩
theorem q_X4_sumPower_28 : decode M_X4_sumPower.2.1 28 = .ok (.aload_n 0, 1) ∧ 28 + 1 = 29 := ⟨by decide +kernel, rfl⟩
theorem q_X4_sumPower_29 : decode M_X4_sumPower.2.1 29 = .ok (.getfield 12, 3) ∧ 29 + 3 = 32 := ⟨by decide +kernel, rfl⟩
theorem q_X4_sumPower_32 : decode M_X4_sumPower.2.1 32 = .ok (.getfield 94, 3) ∧ 32 + 3 = 35 := ⟨by decide +kernel, rfl⟩
theorem q_X4_sumPower_35 : decode M_X4_sumPower.2.1 35 = .ok (.ifCond .eq 71, 3) ∧ 35 + 3 = 38 ∧ ((35 : Nat) : Int) + 71 = ((106 : Nat) : Int) := ⟨by decide +kernel, rfl, rfl⟩
theorem q_X4_sumPower_38 : decode M_X4_sumPower.2.1 38 = .ok (.lload_n 1, 1) ∧ 38 + 1 = 39 := ⟨by decide +kernel, rfl⟩
theorem q_X4_sumPower_39 : decode M_X4_sumPower.2.1 39 = .ok (.lconst 0, 1) ∧ 39 + 1 = 40 := ⟨by decide +kernel, rfl⟩
theorem q_X4_sumPower_40 : decode M_X4_sumPower.2.1 40 = .ok (.lcmp, 1) ∧ 40 + 1 = 41 := ⟨by decide +kernel, rfl⟩
theorem q_X4_sumPower_41 : decode M_X4_sumPower.2.1 41 = .ok (.ifCond .ge 18, 3) ∧ 41 + 3 = 44 ∧ ((41 : Nat) : Int) + 18 = ((59 : Nat) : Int) := ⟨by decide +kernel, rfl, rfl⟩
theorem q_X4_sumPower_44 : decode M_X4_sumPower.2.1 44 = .ok (.iload 6, 2) ∧ 44 + 2 = 46 := ⟨by decide +kernel, rfl⟩
theorem q_X4_sumPower_46 : decode M_X4_sumPower.2.1 46 = .ok (.iconst 2, 1) ∧ 46 + 1 = 47 := ⟨by decide +kernel, rfl⟩
theorem q_X4_sumPower_47 : decode M_X4_sumPower.2.1 47 = .ok (.irem, 1) ∧ 47 + 1 = 48 := ⟨by decide +kernel, rfl⟩
theorem q_X4_sumPower_48 : decode M_X4_sumPower.2.1 48 = .ok (.iconst 1, 1) ∧ 48 + 1 = 49 := ⟨by decide +kernel, rfl⟩
theorem q_X4_sumPower_49 : decode M_X4_sumPower.2.1 49 = .ok (.if_icmp .ne 10, 3) ∧ 49 + 3 = 52 ∧ ((49 : Nat) : Int) + 10 = ((59 : Nat) : Int) := ⟨by decide +kernel, rfl, rfl⟩
theorem q_X4_sumPower_52 : decode M_X4_sumPower.2.1 52 = .ok (.aload_n 0, 1) ∧ 52 + 1 = 53 := ⟨by decide +kernel, rfl⟩
theorem q_X4_sumPower_53 : decode M_X4_sumPower.2.1 53 = .ok (.getfield 24, 3) ∧ 53 + 3 = 56 := ⟨by decide +kernel, rfl⟩
theorem q_X4_sumPower_56 : decode M_X4_sumPower.2.1 56 = .ok (.goto 7, 3) ∧ 56 + 3 = 59 ∧ ((56 : Nat) : Int) + 7 = ((63 : Nat) : Int) := ⟨by decide +kernel, rfl, rfl⟩
theorem q_X4_sumPower_59 : decode M_X4_sumPower.2.1 59 = .ok (.aload_n 0, 1) ∧ 59 + 1 = 60 := ⟨by decide +kernel, rfl⟩
theorem q_X4_sumPower_60 : decode M_X4_sumPower.2.1 60 = .ok (.getfield 21, 3) ∧ 60 + 3 = 63 := ⟨by decide +kernel, rfl⟩
theorem q_X4_sumPower_63 : decode M_X4_sumPower.2.1 63 = .ok (.astore 7, 2) ∧ 63 + 2 = 65 := ⟨by decide +kernel, rfl⟩
theorem q_X4_sumPower_65 : decode M_X4_sumPower.2.1 65 = .ok (.aload 7, 2) ∧ 65 + 2 = 67 := ⟨by decide +kernel, rfl⟩
theorem q_X4_sumPower_67 : decode M_X4_sumPower.2.1 67 = .ok (.aload_n 0, 1) ∧ 67 + 1 = 68 := ⟨by decide +kernel, rfl⟩
theorem q_X4_sumPower_68 : decode M_X4_sumPower.2.1 68 = .ok (.getfield 12, 3) ∧ 68 + 3 = 71 := ⟨by decide +kernel, rfl⟩
theorem q_X4_sumPower_71 : decode M_X4_sumPower.2.1 71 = .ok (.invokevirtual 77, 3) ∧ 71 + 3 = 74 := ⟨by decide +kernel, rfl⟩
theorem g_X4_sumPower_71 : en_C M_X4_sumPower M_X1_add 77 1 := ⟨⟨by decide +kernel, by decide +kernel, by decide +kernel⟩, ⟨by decide, by decide, by decide +kernel⟩, by decide, by decide⟩
theorem q_X4_sumPower_74 : decode M_X4_sumPower.2.1 74 = .ok (.aload_n 0, 1) ∧ 74 + 1 = 75 := ⟨by decide +kernel, rfl⟩
theorem q_X4_sumPower_75 : decode M_X4_sumPower.2.1 75 = .ok (.getfield 12, 3) ∧ 75 + 3 = 78 := ⟨by decide +kernel, rfl⟩
theorem q_X4_sumPower_78 : decode M_X4_sumPower.2.1 78 = .ok (.lload_n 1, 1) ∧ 78 + 1 = 79 := ⟨by decide +kernel, rfl⟩
theorem q_X4_sumPower_79 : decode M_X4_sumPower.2.1 79 = .ok (.invokestatic 99, 3) ∧ 79 + 3 = 82 := ⟨by decide +kernel, rfl⟩
theorem a_RX4_99 : Cond.methodLink RX4 99 Lib.MathLoose.abs_long.x ∈ en_tbl := by decide +kernel
theorem q_X4_sumPower_82 : decode M_X4_sumPower.2.1 82 = .ok (.invokevirtual 104, 3) ∧ 82 + 3 = 85 := ⟨by decide +kernel, rfl⟩
theorem g_X4_sumPower_82 : en_C M_X4_sumPower M_X1_multiplySmall 104 1 := ⟨⟨by decide +kernel, by decide +kernel, by decide +kernel⟩, ⟨by decide, by decide, by decide +kernel⟩, by decide, by decide⟩
theorem q_X4_sumPower_85 : decode M_X4_sumPower.2.1 85 = .ok (.aload_n 0, 1) ∧ 85 + 1 = 86 := ⟨by decide +kernel, rfl⟩
theorem q_X4_sumPower_86 : decode M_X4_sumPower.2.1 86 = .ok (.getfield 12, 3) ∧ 86 + 3 = 89 := ⟨by decide +kernel, rfl⟩
theorem q_X4_sumPower_89 : decode M_X4_sumPower.2.1 89 = .ok (.lload_n 3, 1) ∧ 89 + 1 = 90 := ⟨by decide +kernel, rfl⟩
theorem q_X4_sumPower_90 : decode M_X4_sumPower.2.1 90 = .ok (.iload 6, 2) ∧ 90 + 2 = 92 := ⟨by decide +kernel, rfl⟩
theorem q_X4_sumPower_92 : decode M_X4_sumPower.2.1 92 = .ok (.iconst 1, 1) ∧ 92 + 1 = 93 := ⟨by decide +kernel, rfl⟩
theorem q_X4_sumPower_93 : decode M_X4_sumPower.2.1 93 = .ok (.iadd, 1) ∧ 93 + 1 = 94 := ⟨by decide +kernel, rfl⟩
theorem q_X4_sumPower_94 : decode M_X4_sumPower.2.1 94 = .ok (.i2l, 1) ∧ 94 + 1 = 95 := ⟨by decide +kernel, rfl⟩
theorem q_X4_sumPower_95 : decode M_X4_sumPower.2.1 95 = .ok (.lmul, 1) ∧ 95 + 1 = 96 := ⟨by decide +kernel, rfl⟩
theorem q_X4_sumPower_96 : decode M_X4_sumPower.2.1 96 = .ok (.invokevirtual 90, 3) ∧ 96 + 3 = 99 := ⟨by decide +kernel, rfl⟩
theorem g_X4_sumPower_96 : en_C M_X4_sumPower M_X1_divideSmall 90 1 := ⟨⟨by decide +kernel, by decide +kernel, by decide +kernel⟩, ⟨by decide, by decide, by decide +kernel⟩, by decide, by decide⟩
theorem q_X4_sumPower_99 : decode M_X4_sumPower.2.1 99 = .ok (.pop2, 1) ∧ 99 + 1 = 100 := ⟨by decide +kernel, rfl⟩
theorem q_X4_sumPower_100 : decode M_X4_sumPower.2.1 100 = .ok (.iinc 6 1, 3) ∧ 100 + 3 = 103 := ⟨by decide +kernel, rfl⟩
theorem q_X4_sumPower_103 : decode M_X4_sumPower.2.1 103 = .ok (.goto (-83), 3) ∧ 103 + 3 = 106 ∧ ((103 : Nat) : Int) + (-83) = ((20 : Nat) : Int) := ⟨by decide +kernel, rfl, rfl⟩
theorem q_X4_sumPower_106 : decode M_X4_sumPower.2.1 106 = .ok (.return_, 1) ∧ 106 + 1 = 107 := ⟨by decide +kernel, rfl⟩
theorem q_X5_init_0 : decode M_X5_init.2.1 0 = .ok (.aload_n 0, 1) ∧ 0 + 1 = 1 := ⟨by decide +kernel, rfl⟩
theorem q_X5_init_1 : decode M_X5_init.2.1 1 = .ok (.invokespecial 1, 3) ∧ 1 + 3 = 4 := ⟨by decide +kernel, rfl⟩
theorem o_RX5_1 : Cond.methodLink RX5 1 Lib.objectInit ∈ en_tbl := by decide +kernel
theorem q_X5_init_4 : decode M_X5_init.2.1 4 = .ok (.aload_n 0, 1) ∧ 4 + 1 = 5 := ⟨by decide +kernel, rfl⟩
theorem q_X5_init_5 : decode M_X5_init.2.1 5 = .ok (.new 7, 3) ∧ 5 + 3 = 8 := ⟨by decide +kernel, rfl⟩
theorem n_RX5_7 : en_N RX5 7 1 3 [.int 0, .int 0, .null] := ⟨RX1, TX1, tyX1, rfl, by decide +kernel, by decide +kernel, by decide +kernel, by decide +kernel, tyX1_ok, fun j hj => by match j, hj with | 0, _ => rfl | 1, _ => rfl | 2, _ => rfl | j + 3, h => omega⟩
theorem q_X5_init_8 : decode M_X5_init.2.1 8 = .ok (.dup, 1) ∧ 8 + 1 = 9 := ⟨by decide +kernel, rfl⟩
theorem q_X5_init_9 : decode M_X5_init.2.1 9 = .ok (.invokespecial 9, 3) ∧ 9 + 3 = 12 := ⟨by decide +kernel, rfl⟩
theorem g_X5_init_9 : en_CN M_X5_init M_X1_init 9 0 "EnclosedDigits" := ⟨⟨by decide +kernel, by decide +kernel, by decide +kernel⟩, ⟨by decide, by decide, by decide +kernel⟩, by decide, by decide⟩
theorem q_X5_init_12 : decode M_X5_init.2.1 12 = .ok (.putfield 10, 3) ∧ 12 + 3 = 15 := ⟨by decide +kernel, rfl⟩
theorem p_RX5_10 : en_Fp RX5 10 5 7 true (.object "EnclosedDigits$Big") := ⟨RX5, TX5, 11, tyX5, rfl, by decide, rfl, by decide +kernel, by decide +kernel, tyX5_ok, nmX5, rfl, by decide +kernel⟩
theorem q_X5_init_15 : decode M_X5_init.2.1 15 = .ok (.aload_n 0, 1) ∧ 15 + 1 = 16 := ⟨by decide +kernel, rfl⟩
theorem q_X5_init_16 : decode M_X5_init.2.1 16 = .ok (.new 7, 3) ∧ 16 + 3 = 19 := ⟨by decide +kernel, rfl⟩
theorem q_X5_init_19 : decode M_X5_init.2.1 19 = .ok (.dup, 1) ∧ 19 + 1 = 20 := ⟨by decide +kernel, rfl⟩
theorem q_X5_init_20 : decode M_X5_init.2.1 20 = .ok (.invokespecial 9, 3) ∧ 20 + 3 = 23 := ⟨by decide +kernel, rfl⟩
theorem g_X5_init_20 : en_CN M_X5_init M_X1_init 9 0 "EnclosedDigits" := ⟨⟨by decide +kernel, by decide +kernel, by decide +kernel⟩, ⟨by decide, by decide, by decide +kernel⟩, by decide, by decide⟩
theorem q_X5_init_23 : decode M_X5_init.2.1 23 = .ok (.putfield 16, 3) ∧ 23 + 3 = 26 := ⟨by decide +kernel, rfl⟩
theorem p_RX5_16 : en_Fp RX5 16 5 8 true (.object "EnclosedDigits$Big") := ⟨RX5, TX5, 11, tyX5, rfl, by decide, rfl, by decide +kernel, by decide +kernel, tyX5_ok, nmX5, rfl, by decide +kernel⟩
theorem q_X5_init_26 : decode M_X5_init.2.1 26 = .ok (.aload_n 0, 1) ∧ 26 + 1 = 27 := ⟨by decide +kernel, rfl⟩
theorem q_X5_init_27 : decode M_X5_init.2.1 27 = .ok (.new 7, 3) ∧ 27 + 3 = 30 := ⟨by decide +kernel, rfl⟩
theorem q_X5_init_30 : decode M_X5_init.2.1 30 = .ok (.dup, 1) ∧ 30 + 1 = 31 := ⟨by decide +kernel, rfl⟩
theorem q_X5_init_31 : decode M_X5_init.2.1 31 = .ok (.invokespecial 9, 3) ∧ 31 + 3 = 34 := ⟨by decide +kernel, rfl⟩
theorem g_X5_init_31 : en_CN M_X5_init M_X1_init 9 0 "EnclosedDigits" := ⟨⟨by decide +kernel, by decide +kernel, by decide +kernel⟩, ⟨by decide, by decide, by decide +kernel⟩, by decide, by decide⟩
theorem q_X5_init_34 : decode M_X5_init.2.1 34 = .ok (.putfield 19, 3) ∧ 34 + 3 = 37 := ⟨by decide +kernel, rfl⟩
theorem p_RX5_19 : en_Fp RX5 19 5 10 true (.object "EnclosedDigits$Big") := ⟨RX5, TX5, 11, tyX5, rfl, by decide, rfl, by decide +kernel, by decide +kernel, tyX5_ok, nmX5, rfl, by decide +kernel⟩
theorem q_X5_init_37 : decode M_X5_init.2.1 37 = .ok (.return_, 1) ∧ 37 + 1 = 38 := ⟨by decide +kernel, rfl⟩
theorem q_X5_become_0 : decode M_X5_become.2.1 0 = .ok (.aload_n 0, 1) ∧ 0 + 1 = 1 := ⟨by decide +kernel, rfl⟩
theorem q_X5_become_1 : decode M_X5_become.2.1 1 = .ok (.iload_n 1, 1) ∧ 1 + 1 = 2 := ⟨by decide +kernel, rfl⟩
theorem q_X5_become_2 : decode M_X5_become.2.1 2 = .ok (.putfield 22, 3) ∧ 2 + 3 = 5 := ⟨by decide +kernel, rfl⟩
theorem p_RX5_22 : en_Fp RX5 22 5 0 false .int := ⟨RX5, TX5, 11, tyX5, rfl, by decide, rfl, by decide +kernel, by decide +kernel, tyX5_ok, nmX5, rfl, by decide +kernel⟩
theorem q_X5_become_5 : decode M_X5_become.2.1 5 = .ok (.aload_n 0, 1) ∧ 5 + 1 = 6 := ⟨by decide +kernel, rfl⟩
theorem q_X5_become_6 : decode M_X5_become.2.1 6 = .ok (.lload_n 2, 1) ∧ 6 + 1 = 7 := ⟨by decide +kernel, rfl⟩
theorem q_X5_become_7 : decode M_X5_become.2.1 7 = .ok (.putfield 26, 3) ∧ 7 + 3 = 10 := ⟨by decide +kernel, rfl⟩
theorem p_RX5_26 : en_Fp RX5 26 5 1 false .long := ⟨RX5, TX5, 11, tyX5, rfl, by decide, rfl, by decide +kernel, by decide +kernel, tyX5_ok, nmX5, rfl, by decide +kernel⟩
theorem q_X5_become_10 : decode M_X5_become.2.1 10 = .ok (.aload_n 0, 1) ∧ 10 + 1 = 11 := ⟨by decide +kernel, rfl⟩
theorem q_X5_become_11 : decode M_X5_become.2.1 11 = .ok (.lload 4, 2) ∧ 11 + 2 = 13 := ⟨by decide +kernel, rfl⟩
theorem q_X5_become_13 : decode M_X5_become.2.1 13 = .ok (.putfield 30, 3) ∧ 13 + 3 = 16 := ⟨by decide +kernel, rfl⟩
theorem p_RX5_30 : en_Fp RX5 30 5 2 false .long := ⟨RX5, TX5, 11, tyX5, rfl, by decide, rfl, by decide +kernel, by decide +kernel, tyX5_ok, nmX5, rfl, by decide +kernel⟩
theorem q_X5_become_16 : decode M_X5_become.2.1 16 = .ok (.aload_n 0, 1) ∧ 16 + 1 = 17 := ⟨by decide +kernel, rfl⟩
theorem q_X5_become_17 : decode M_X5_become.2.1 17 = .ok (.iconst 0, 1) ∧ 17 + 1 = 18 := ⟨by decide +kernel, rfl⟩
theorem q_X5_become_18 : decode M_X5_become.2.1 18 = .ok (.putfield 33, 3) ∧ 18 + 3 = 21 := ⟨by decide +kernel, rfl⟩
theorem p_RX5_33 : en_Fp RX5 33 5 5 false .int := ⟨RX5, TX5, 11, tyX5, rfl, by decide, rfl, by decide +kernel, by decide +kernel, tyX5_ok, nmX5, rfl, by decide +kernel⟩
theorem q_X5_become_21 : decode M_X5_become.2.1 21 = .ok (.aload_n 0, 1) ∧ 21 + 1 = 22 := ⟨by decide +kernel, rfl⟩
theorem q_X5_become_22 : decode M_X5_become.2.1 22 = .ok (.iconst 0, 1) ∧ 22 + 1 = 23 := ⟨by decide +kernel, rfl⟩
theorem q_X5_become_23 : decode M_X5_become.2.1 23 = .ok (.putfield 36, 3) ∧ 23 + 3 = 26 := ⟨by decide +kernel, rfl⟩
theorem p_RX5_36 : en_Fp RX5 36 5 9 false .int := ⟨RX5, TX5, 11, tyX5, rfl, by decide, rfl, by decide +kernel, by decide +kernel, tyX5_ok, nmX5, rfl, by decide +kernel⟩
theorem q_X5_become_26 : decode M_X5_become.2.1 26 = .ok (.return_, 1) ∧ 26 + 1 = 27 := ⟨by decide +kernel, rfl⟩
theorem q_X5_stemFrom_0 : decode M_X5_stemFrom.2.1 0 = .ok (.aload_n 0, 1) ∧ 0 + 1 = 1 := ⟨by decide +kernel, rfl⟩
theorem q_X5_stemFrom_1 : decode M_X5_stemFrom.2.1 1 = .ok (.iload_n 1, 1) ∧ 1 + 1 = 2 := ⟨by decide +kernel, rfl⟩
theorem q_X5_stemFrom_2 : decode M_X5_stemFrom.2.1 2 = .ok (.putfield 39, 3) ∧ 2 + 3 = 5 := ⟨by decide +kernel, rfl⟩
theorem p_RX5_39 : en_Fp RX5 39 5 3 false .int := ⟨RX5, TX5, 11, tyX5, rfl, by decide, rfl, by decide +kernel, by decide +kernel, tyX5_ok, nmX5, rfl, by decide +kernel⟩
theorem q_X5_stemFrom_5 : decode M_X5_stemFrom.2.1 5 = .ok (.aload_n 0, 1) ∧ 5 + 1 = 6 := ⟨by decide +kernel, rfl⟩
theorem q_X5_stemFrom_6 : decode M_X5_stemFrom.2.1 6 = .ok (.iload_n 2, 1) ∧ 6 + 1 = 7 := ⟨by decide +kernel, rfl⟩
theorem q_X5_stemFrom_7 : decode M_X5_stemFrom.2.1 7 = .ok (.putfield 42, 3) ∧ 7 + 3 = 10 := ⟨by decide +kernel, rfl⟩
theorem p_RX5_42 : en_Fp RX5 42 5 4 false .int := ⟨RX5, TX5, 11, tyX5, rfl, by decide, rfl, by decide +kernel, by decide +kernel, tyX5_ok, nmX5, rfl, by decide +kernel⟩
theorem q_X5_stemFrom_10 : decode M_X5_stemFrom.2.1 10 = .ok (.return_, 1) ∧ 10 + 1 = 11 := ⟨by decide +kernel, rfl⟩
end
section
/-! instructions, fields, calls -/
theorem q_X2_init_0 : decode M_X2_init.2.1 0 = .ok (.aload_n 0, 1) ∧ 0 + 1 = 1 := ⟨by decide +kernel, rfl⟩
theorem q_X2_init_1 : decode M_X2_init.2.1 1 = .ok (.invokespecial 3, 3) ∧ 1 + 3 = 4 := ⟨by decide +kernel, rfl⟩
theorem o_RX2_3 : Cond.methodLink RX2 3 Lib.objectInit ∈ en_tbl := by decide +kernel
theorem q_X2_init_4 : decode M_X2_init.2.1 4 = .ok (.aload_n 0, 1) ∧ 4 + 1 = 5 := ⟨by decide +kernel, rfl⟩
theorem q_X2_init_5 : decode M_X2_init.2.1 5 = .ok (.new 9, 3) ∧ 5 + 3 = 8 := ⟨by decide +kernel, rfl⟩
theorem n_RX2_9 : en_N RX2 9 0 5 [.null, .null, .null, .null, .null] := ⟨RX0, TX0, tyX0, rfl, by decide +kernel, by decide +kernel, by decide +kernel, by decide +kernel, tyX0_ok, fun j hj => by match j, hj with | 0, _ => rfl | 1, _ => rfl | 2, _ => rfl | 3, _ => rfl | 4, _ => rfl | j + 5, h => omega⟩
theorem q_X2_init_8 : decode M_X2_init.2.1 8 = .ok (.dup, 1) ∧ 8 + 1 = 9 := ⟨by decide +kernel, rfl⟩
theorem q_X2_init_9 : decode M_X2_init.2.1 9 = .ok (.invokespecial 11, 3) ∧ 9 + 3 = 12 := ⟨by decide +kernel, rfl⟩
theorem g_X2_init_9 : en_CN M_X2_init M_X0_init 11 0 "EnclosedDigits" := ⟨⟨by decide +kernel, by decide +kernel, by decide +kernel⟩, ⟨by decide, by decide, by decide +kernel⟩, by decide, by decide⟩
theorem w_X0_init : Cond.instanceMethod M_X0_init.1 ∈ en_tbl := by decide +kernel
theorem q_X2_init_12 : decode M_X2_init.2.1 12 = .ok (.putfield 12, 3) ∧ 12 + 3 = 15 := ⟨by decide +kernel, rfl⟩
theorem p_RX2_12 : en_Fp RX2 12 2 0 true (.object "EnclosedDigits$Bench") := ⟨RX2, TX2, 7, tyX2, rfl, by decide, rfl, by decide +kernel, by decide +kernel, tyX2_ok, nmX2, rfl, by decide +kernel⟩
theorem q_X2_init_15 : decode M_X2_init.2.1 15 = .ok (.aload_n 0, 1) ∧ 15 + 1 = 16 := ⟨by decide +kernel, rfl⟩
theorem q_X2_init_16 : decode M_X2_init.2.1 16 = .ok (.new 18, 3) ∧ 16 + 3 = 19 := ⟨by decide +kernel, rfl⟩
theorem n_RX2_18 : en_N RX2 18 4 5 [.null, .null, .null, .null, .null] := ⟨RX4, TX4, tyX4, rfl, by decide +kernel, by decide +kernel, by decide +kernel, by decide +kernel, tyX4_ok, fun j hj => by match j, hj with | 0, _ => rfl | 1, _ => rfl | 2, _ => rfl | 3, _ => rfl | 4, _ => rfl | j + 5, h => omega⟩
theorem q_X2_init_19 : decode M_X2_init.2.1 19 = .ok (.dup, 1) ∧ 19 + 1 = 20 := ⟨by decide +kernel, rfl⟩
theorem q_X2_init_20 : decode M_X2_init.2.1 20 = .ok (.invokespecial 20, 3) ∧ 20 + 3 = 23 := ⟨by decide +kernel, rfl⟩
theorem g_X2_init_20 : en_CN M_X2_init M_X4_init 20 0 "EnclosedDigits" := ⟨⟨by decide +kernel, by decide +kernel, by decide +kernel⟩, ⟨by decide, by decide, by decide +kernel⟩, by decide, by decide⟩
theorem w_X4_init : Cond.instanceMethod M_X4_init.1 ∈ en_tbl := by decide +kernel
theorem q_X2_init_23 : decode M_X2_init.2.1 23 = .ok (.putfield 21, 3) ∧ 23 + 3 = 26 := ⟨by decide +kernel, rfl⟩
theorem p_RX2_21 : en_Fp RX2 21 2 1 true (.object "EnclosedDigits$Series") := ⟨RX2, TX2, 7, tyX2, rfl, by decide, rfl, by decide +kernel, by decide +kernel, tyX2_ok, nmX2, rfl, by decide +kernel⟩
theorem q_X2_init_26 : decode M_X2_init.2.1 26 = .ok (.aload_n 0, 1) ∧ 26 + 1 = 27 := ⟨by decide +kernel, rfl⟩
theorem q_X2_init_27 : decode M_X2_init.2.1 27 = .ok (.new 25, 3) ∧ 27 + 3 = 30 := ⟨by decide +kernel, rfl⟩
theorem n_RX2_25 : en_N RX2 25 1 3 [.int 0, .int 0, .null] := ⟨RX1, TX1, tyX1, rfl, by decide +kernel, by decide +kernel, by decide +kernel, by decide +kernel, tyX1_ok, fun j hj => by match j, hj with | 0, _ => rfl | 1, _ => rfl | 2, _ => rfl | j + 3, h => omega⟩
theorem q_X2_init_30 : decode M_X2_init.2.1 30 = .ok (.dup, 1) ∧ 30 + 1 = 31 := ⟨by decide +kernel, rfl⟩
theorem q_X2_init_31 : decode M_X2_init.2.1 31 = .ok (.invokespecial 27, 3) ∧ 31 + 3 = 34 := ⟨by decide +kernel, rfl⟩
theorem g_X2_init_31 : en_CN M_X2_init M_X1_init 27 0 "EnclosedDigits" := ⟨⟨by decide +kernel, by decide +kernel, by decide +kernel⟩, ⟨by decide, by decide, by decide +kernel⟩, by decide, by decide⟩
theorem q_X2_init_34 : decode M_X2_init.2.1 34 = .ok (.putfield 28, 3) ∧ 34 + 3 = 37 := ⟨by decide +kernel, rfl⟩
theorem p_RX2_28 : en_Fp RX2 28 2 2 true (.object "EnclosedDigits$Big") := ⟨RX2, TX2, 7, tyX2, rfl, by decide, rfl, by decide +kernel, by decide +kernel, tyX2_ok, nmX2, rfl, by decide +kernel⟩
theorem q_X2_init_37 : decode M_X2_init.2.1 37 = .ok (.aload_n 0, 1) ∧ 37 + 1 = 38 := ⟨by decide +kernel, rfl⟩
theorem q_X2_init_38 : decode M_X2_init.2.1 38 = .ok (.new 25, 3) ∧ 38 + 3 = 41 := ⟨by decide +kernel, rfl⟩
theorem q_X2_init_41 : decode M_X2_init.2.1 41 = .ok (.dup, 1) ∧ 41 + 1 = 42 := ⟨by decide +kernel, rfl⟩
theorem q_X2_init_42 : decode M_X2_init.2.1 42 = .ok (.invokespecial 27, 3) ∧ 42 + 3 = 45 := ⟨by decide +kernel, rfl⟩
theorem g_X2_init_42 : en_CN M_X2_init M_X1_init 27 0 "EnclosedDigits" := ⟨⟨by decide +kernel, by decide +kernel, by decide +kernel⟩, ⟨by decide, by decide, by decide +kernel⟩, by decide, by decide⟩
theorem q_X2_init_45 : decode M_X2_init.2.1 45 = .ok (.putfield 32, 3) ∧ 45 + 3 = 48 := ⟨by decide +kernel, rfl⟩
theorem p_RX2_32 : en_Fp RX2 32 2 3 true (.object "EnclosedDigits$Big") := ⟨RX2, TX2, 7, tyX2, rfl, by decide, rfl, by decide +kernel, by decide +kernel, tyX2_ok, nmX2, rfl, by decide +kernel⟩
theorem q_X2_init_48 : decode M_X2_init.2.1 48 = .ok (.aload_n 0, 1) ∧ 48 + 1 = 49 := ⟨by decide +kernel, rfl⟩
theorem q_X2_init_49 : decode M_X2_init.2.1 49 = .ok (.new 25, 3) ∧ 49 + 3 = 52 := ⟨by decide +kernel, rfl⟩
theorem q_X2_init_52 : decode M_X2_init.2.1 52 = .ok (.dup, 1) ∧ 52 + 1 = 53 := ⟨by decide +kernel, rfl⟩
theorem q_X2_init_53 : decode M_X2_init.2.1 53 = .ok (.invokespecial 27, 3) ∧ 53 + 3 = 56 := ⟨by decide +kernel, rfl⟩
theorem g_X2_init_53 : en_CN M_X2_init M_X1_init 27 0 "EnclosedDigits" := ⟨⟨by decide +kernel, by decide +kernel, by decide +kernel⟩, ⟨by decide, by decide, by decide +kernel⟩, by decide, by decide⟩
theorem q_X2_init_56 : decode M_X2_init.2.1 56 = .ok (.putfield 35, 3) ∧ 56 + 3 = 59 := ⟨by decide +kernel, rfl⟩
theorem p_RX2_35 : en_Fp RX2 35 2 4 true (.object "EnclosedDigits$Big") := ⟨RX2, TX2, 7, tyX2, rfl, by decide, rfl, by decide +kernel, by decide +kernel, tyX2_ok, nmX2, rfl, by decide +kernel⟩
theorem q_X2_init_59 : decode M_X2_init.2.1 59 = .ok (.aload_n 0, 1) ∧ 59 + 1 = 60 := ⟨by decide +kernel, rfl⟩
theorem q_X2_init_60 : decode M_X2_init.2.1 60 = .ok (.new 25, 3) ∧ 60 + 3 = 63 := ⟨by decide +kernel, rfl⟩
theorem q_X2_init_63 : decode M_X2_init.2.1 63 = .ok (.dup, 1) ∧ 63 + 1 = 64 := ⟨by decide +kernel, rfl⟩
theorem q_X2_init_64 : decode M_X2_init.2.1 64 = .ok (.invokespecial 27, 3) ∧ 64 + 3 = 67 := ⟨by decide +kernel, rfl⟩
theorem g_X2_init_64 : en_CN M_X2_init M_X1_init 27 0 "EnclosedDigits" := ⟨⟨by decide +kernel, by decide +kernel, by decide +kernel⟩, ⟨by decide, by decide, by decide +kernel⟩, by decide, by decide⟩
theorem q_X2_init_67 : decode M_X2_init.2.1 67 = .ok (.putfield 38, 3) ∧ 67 + 3 = 70 := ⟨by decide +kernel, rfl⟩
theorem p_RX2_38 : en_Fp RX2 38 2 5 true (.object "EnclosedDigits$Big") := ⟨RX2, TX2, 7, tyX2, rfl, by decide, rfl, by decide +kernel, by decide +kernel, tyX2_ok, nmX2, rfl, by decide +kernel⟩
theorem q_X2_init_70 : decode M_X2_init.2.1 70 = .ok (.aload_n 0, 1) ∧ 70 + 1 = 71 := ⟨by decide +kernel, rfl⟩
theorem q_X2_init_71 : decode M_X2_init.2.1 71 = .ok (.new 25, 3) ∧ 71 + 3 = 74 := ⟨by decide +kernel, rfl⟩
theorem q_X2_init_74 : decode M_X2_init.2.1 74 = .ok (.dup, 1) ∧ 74 + 1 = 75 := ⟨by decide +kernel, rfl⟩
theorem q_X2_init_75 : decode M_X2_init.2.1 75 = .ok (.invokespecial 27, 3) ∧ 75 + 3 = 78 := ⟨by decide +kernel, rfl⟩
theorem g_X2_init_75 : en_CN M_X2_init M_X1_init 27 0 "EnclosedDigits" := ⟨⟨by decide +kernel, by decide +kernel, by decide +kernel⟩, ⟨by decide, by decide, by decide +kernel⟩, by decide, by decide⟩
theorem q_X2_init_78 : decode M_X2_init.2.1 78 = .ok (.putfield 41, 3) ∧ 78 + 3 = 81 := ⟨by decide +kernel, rfl⟩
theorem p_RX2_41 : en_Fp RX2 41 2 6 true (.object "EnclosedDigits$Big") := ⟨RX2, TX2, 7, tyX2, rfl, by decide, rfl, by decide +kernel, by decide +kernel, tyX2_ok, nmX2, rfl, by decide +kernel⟩
theorem q_X2_init_81 : decode M_X2_init.2.1 81 = .ok (.return_, 1) ∧ 81 + 1 = 82 := ⟨by decide +kernel, rfl⟩
theorem q_X2_enclosed_0 : decode M_X2_enclosed.2.1 0 = .ok (.iload_n 2, 1) ∧ 0 + 1 = 1 := ⟨by decide +kernel, rfl⟩
theorem q_X2_enclosed_1 : decode M_X2_enclosed.2.1 1 = .ok (.ifCond .lt 9, 3) ∧ 1 + 3 = 4 ∧ ((1 : Nat) : Int) + 9 = ((10 : Nat) : Int) := ⟨by decide +kernel, rfl, rfl⟩
theorem q_X2_enclosed_4 : decode M_X2_enclosed.2.1 4 = .ok (.iload_n 2, 1) ∧ 4 + 1 = 5 := ⟨by decide +kernel, rfl⟩
theorem q_X2_enclosed_5 : decode M_X2_enclosed.2.1 5 = .ok (.aload_n 1, 1) ∧ 5 + 1 = 6 := ⟨by decide +kernel, rfl⟩
theorem q_X2_enclosed_6 : decode M_X2_enclosed.2.1 6 = .ok (.arraylength, 1) ∧ 6 + 1 = 7 := ⟨by decide +kernel, rfl⟩
theorem q_X2_enclosed_7 : decode M_X2_enclosed.2.1 7 = .ok (.if_icmp .lt 5, 3) ∧ 7 + 3 = 10 ∧ ((7 : Nat) : Int) + 5 = ((12 : Nat) : Int) := ⟨by decide +kernel, rfl, rfl⟩
theorem q_X2_enclosed_10 : decode M_X2_enclosed.2.1 10 = .ok (.aconst_null, 1) ∧ 10 + 1 = 11 := ⟨by decide +kernel, rfl⟩
theorem q_X2_enclosed_11 : decode M_X2_enclosed.2.1 11 = .ok (.areturn, 1) ∧ 11 + 1 = 12 := ⟨by decide +kernel, rfl⟩
theorem q_X2_enclosed_12 : decode M_X2_enclosed.2.1 12 = .ok (.aload_n 1, 1) ∧ 12 + 1 = 13 := ⟨by decide +kernel, rfl⟩
theorem q_X2_enclosed_13 : decode M_X2_enclosed.2.1 13 = .ok (.iload_n 2, 1) ∧ 13 + 1 = 14 := ⟨by decide +kernel, rfl⟩
theorem q_X2_enclosed_14 : decode M_X2_enclosed.2.1 14 = .ok (.iload_n 3, 1) ∧ 14 + 1 = 15 := ⟨by decide +kernel, rfl⟩
theorem q_X2_enclosed_15 : decode M_X2_enclosed.2.1 15 = .ok (.invokestatic 44, 3) ∧ 15 + 3 = 18 := ⟨by decide +kernel, rfl⟩
theorem g_X2_enclosed_15 : en_C M_X2_enclosed M_X2_neededFor 44 3 := ⟨⟨by decide +kernel, by decide +kernel, by decide +kernel⟩, ⟨by decide, by decide, by decide +kernel⟩, by decide, by decide⟩
theorem w_X2_neededFor : Cond.static M_X2_neededFor.1 ∈ en_tbl := by decide +kernel
theorem q_X2_enclosed_18 : decode M_X2_enclosed.2.1 18 = .ok (.lstore 4, 2) ∧ 18 + 2 = 20 := ⟨by decide +kernel, rfl⟩
theorem q_X2_enclosed_20 : decode M_X2_enclosed.2.1 20 = .ok (.iconst 0, 1) ∧ 20 + 1 = 21 := ⟨by decide +kernel, rfl⟩
theorem q_X2_enclosed_21 : decode M_X2_enclosed.2.1 21 = .ok (.istore 6, 2) ∧ 21 + 2 = 23 := ⟨by decide +kernel, rfl⟩
theorem q_X2_enclosed_23 : decode M_X2_enclosed.2.1 23 = .ok (.iload 6, 2) ∧ 23 + 2 = 25 := ⟨by decide +kernel, rfl⟩
theorem q_X2_enclosed_25 : decode M_X2_enclosed.2.1 25 = .ok (.iload_n 2, 1) ∧ 25 + 1 = 26 := ⟨by decide +kernel, rfl⟩
theorem q_X2_enclosed_26 : decode M_X2_enclosed.2.1 26 = .ok (.if_icmp .gt 289, 3) ∧ 26 + 3 = 29 ∧ ((26 : Nat) : Int) + 289 = ((315 : Nat) : Int) := ⟨by decide +kernel, rfl, rfl⟩
theorem q_X2_enclosed_29 : decode M_X2_enclosed.2.1 29 = .ok (.aload_n 1, 1) ∧ 29 + 1 = 30 := ⟨by decide +kernel, rfl⟩
theorem q_X2_enclosed_30 : decode M_X2_enclosed.2.1 30 = .ok (.iload 6, 2) ∧ 30 + 2 = 32 := ⟨by decide +kernel, rfl⟩
theorem q_X2_enclosed_32 : decode M_X2_enclosed.2.1 32 = .ok (.aaload, 1) ∧ 32 + 1 = 33 := ⟨by decide +kernel, rfl⟩
theorem q_X2_enclosed_33 : decode M_X2_enclosed.2.1 33 = .ok (.astore 7, 2) ∧ 33 + 2 = 35 := ⟨by decide +kernel, rfl⟩
theorem q_X2_enclosed_35 : decode M_X2_enclosed.2.1 35 = .ok (.aload 7, 2) ∧ 35 + 2 = 37 := ⟨by decide +kernel, rfl⟩
theorem q_X2_enclosed_37 : decode M_X2_enclosed.2.1 37 = .ok (.ifnull 272, 3) ∧ 37 + 3 = 40 ∧ ((37 : Nat) : Int) + 272 = ((309 : Nat) : Int) := ⟨by decide +kernel, rfl, rfl⟩
theorem q_X2_enclosed_40 : decode M_X2_enclosed.2.1 40 = .ok (.lload 4, 2) ∧ 40 + 2 = 42 := ⟨by decide +kernel, rfl⟩
theorem q_X2_enclosed_42 : decode M_X2_enclosed.2.1 42 = .ok (.iload 6, 2) ∧ 42 + 2 = 44 := ⟨by decide +kernel, rfl⟩
theorem q_X2_enclosed_44 : decode M_X2_enclosed.2.1 44 = .ok (.invokestatic 48, 3) ∧ 44 + 3 = 47 := ⟨by decide +kernel, rfl⟩
theorem g_X2_enclosed_44 : en_C M_X2_enclosed M_X2_isMarked 48 2 := ⟨⟨by decide +kernel, by decide +kernel, by decide +kernel⟩, ⟨by decide, by decide, by decide +kernel⟩, by decide, by decide⟩
theorem w_X2_isMarked : Cond.static M_X2_isMarked.1 ∈ en_tbl := by decide +kernel
theorem q_X2_enclosed_47 : decode M_X2_enclosed.2.1 47 = .ok (.ifCond .ne 6, 3) ∧ 47 + 3 = 50 ∧ ((47 : Nat) : Int) + 6 = ((53 : Nat) : Int) := ⟨by decide +kernel, rfl, rfl⟩
theorem q_X2_enclosed_50 : decode M_X2_enclosed.2.1 50 = .ok (.goto 259, 3) ∧ 50 + 3 = 53 ∧ ((50 : Nat) : Int) + 259 = ((309 : Nat) : Int) := ⟨by decide +kernel, rfl, rfl⟩
theorem q_X2_enclosed_53 : decode M_X2_enclosed.2.1 53 = .ok (.aload_n 1, 1) ∧ 53 + 1 = 54 := ⟨by decide +kernel, rfl⟩
theorem q_X2_enclosed_54 : decode M_X2_enclosed.2.1 54 = .ok (.aload 7, 2) ∧ 54 + 2 = 56 := ⟨by decide +kernel, rfl⟩
theorem q_X2_enclosed_56 : decode M_X2_enclosed.2.1 56 = .ok (.getfield 52, 3) ∧ 56 + 3 = 59 := ⟨by decide +kernel, rfl⟩
theorem f_RX2_52 : en_F RX2 52 5 3 := ⟨RX5, TX5, 11, rfl, by decide, rfl, by decide +kernel, by decide +kernel⟩
theorem q_X2_enclosed_59 : decode M_X2_enclosed.2.1 59 = .ok (.iload 6, 2) ∧ 59 + 2 = 61 := ⟨by decide +kernel, rfl⟩
theorem q_X2_enclosed_61 : decode M_X2_enclosed.2.1 61 = .ok (.invokestatic 58, 3) ∧ 61 + 3 = 64 := ⟨by decide +kernel, rfl⟩
theorem g_X2_enclosed_61 : en_C M_X2_enclosed M_X2_partOf 58 3 := ⟨⟨by decide +kernel, by decide +kernel, by decide +kernel⟩, ⟨by decide, by decide, by decide +kernel⟩, by decide, by decide⟩
theorem w_X2_partOf : Cond.static M_X2_partOf.1 ∈ en_tbl := by decide +kernel
theorem q_X2_enclosed_64 : decode M_X2_enclosed.2.1 64 = .ok (.astore 8, 2) ∧ 64 + 2 = 66 := ⟨by decide +kernel, rfl⟩
theorem q_X2_enclosed_66 : decode M_X2_enclosed.2.1 66 = .ok (.aload_n 1, 1) ∧ 66 + 1 = 67 := ⟨by decide +kernel, rfl⟩
theorem q_X2_enclosed_67 : decode M_X2_enclosed.2.1 67 = .ok (.aload 7, 2) ∧ 67 + 2 = 69 := ⟨by decide +kernel, rfl⟩
theorem q_X2_enclosed_69 : decode M_X2_enclosed.2.1 69 = .ok (.getfield 62, 3) ∧ 69 + 3 = 72 := ⟨by decide +kernel, rfl⟩
theorem f_RX2_62 : en_F RX2 62 5 4 := ⟨RX5, TX5, 11, rfl, by decide, rfl, by decide +kernel, by decide +kernel⟩
theorem q_X2_enclosed_72 : decode M_X2_enclosed.2.1 72 = .ok (.iload 6, 2) ∧ 72 + 2 = 74 := ⟨by decide +kernel, rfl⟩
theorem q_X2_enclosed_74 : decode M_X2_enclosed.2.1 74 = .ok (.invokestatic 58, 3) ∧ 74 + 3 = 77 := ⟨by decide +kernel, rfl⟩
theorem g_X2_enclosed_74 : en_C M_X2_enclosed M_X2_partOf 58 3 := ⟨⟨by decide +kernel, by decide +kernel, by decide +kernel⟩, ⟨by decide, by decide, by decide +kernel⟩, by decide, by decide⟩
theorem q_X2_enclosed_77 : decode M_X2_enclosed.2.1 77 = .ok (.astore 9, 2) ∧ 77 + 2 = 79 := ⟨by decide +kernel, rfl⟩
theorem q_X2_enclosed_79 : decode M_X2_enclosed.2.1 79 = .ok (.aload 7, 2) ∧ 79 + 2 = 81 := ⟨by decide +kernel, rfl⟩
theorem q_X2_enclosed_81 : decode M_X2_enclosed.2.1 81 = .ok (.iload_n 3, 1) ∧ 81 + 1 = 82 := ⟨by decide +kernel, rfl⟩
theorem q_X2_enclosed_82 : decode M_X2_enclosed.2.1 82 = .ok (.putfield 65, 3) ∧ 82 + 3 = 85 := ⟨by decide +kernel, rfl⟩
theorem p_RX2_65 : en_Fp RX2 65 5 5 false .int := ⟨RX5, TX5, 11, tyX5, rfl, by decide, rfl, by decide +kernel, by decide +kernel, tyX5_ok, nmX5, rfl, by decide +kernel⟩
theorem q_X2_enclosed_85 : decode M_X2_enclosed.2.1 85 = .ok (.aload 7, 2) ∧ 85 + 2 = 87 := ⟨by decide +kernel, rfl⟩
theorem q_X2_enclosed_87 : decode M_X2_enclosed.2.1 87 = .ok (.aload 7, 2) ∧ 87 + 2 = 89 := ⟨by decide +kernel, rfl⟩
theorem q_X2_enclosed_89 : decode M_X2_enclosed.2.1 89 = .ok (.getfield 68, 3) ∧ 89 + 3 = 92 := ⟨by decide +kernel, rfl⟩
theorem f_RX2_68 : en_F RX2 68 5 0 := ⟨RX5, TX5, 11, rfl, by decide, rfl, by decide +kernel, by decide +kernel⟩
theorem q_X2_enclosed_92 : decode M_X2_enclosed.2.1 92 = .ok (.iconst 5, 1) ∧ 92 + 1 = 93 := ⟨by decide +kernel, rfl⟩
theorem q_X2_enclosed_93 : decode M_X2_enclosed.2.1 93 = .ok (.if_icmp .lt 23, 3) ∧ 93 + 3 = 96 ∧ ((93 : Nat) : Int) + 23 = ((116 : Nat) : Int) := ⟨by decide +kernel, rfl, rfl⟩
theorem q_X2_enclosed_96 : decode M_X2_enclosed.2.1 96 = .ok (.aload 8, 2) ∧ 96 + 2 = 98 := ⟨by decide +kernel, rfl⟩
theorem q_X2_enclosed_98 : decode M_X2_enclosed.2.1 98 = .ok (.invokestatic 71, 3) ∧ 98 + 3 = 101 := ⟨by decide +kernel, rfl⟩
theorem g_X2_enclosed_98 : en_C M_X2_enclosed M_X2_isOpen 71 1 := ⟨⟨by decide +kernel, by decide +kernel, by decide +kernel⟩, ⟨by decide, by decide, by decide +kernel⟩, by decide, by decide⟩
theorem w_X2_isOpen : Cond.static M_X2_isOpen.1 ∈ en_tbl := by decide +kernel
theorem q_X2_enclosed_101 : decode M_X2_enclosed.2.1 101 = .ok (.ifCond .ne 11, 3) ∧ 101 + 3 = 104 ∧ ((101 : Nat) : Int) + 11 = ((112 : Nat) : Int) := ⟨by decide +kernel, rfl, rfl⟩
theorem q_X2_enclosed_104 : decode M_X2_enclosed.2.1 104 = .ok (.aload 9, 2) ∧ 104 + 2 = 106 := ⟨by decide +kernel, rfl⟩
theorem q_X2_enclosed_106 : decode M_X2_enclosed.2.1 106 = .ok (.invokestatic 71, 3) ∧ 106 + 3 = 109 := ⟨by decide +kernel, rfl⟩
theorem g_X2_enclosed_106 : en_C M_X2_enclosed M_X2_isOpen 71 1 := ⟨⟨by decide +kernel, by decide +kernel, by decide +kernel⟩, ⟨by decide, by decide, by decide +kernel⟩, by decide, by decide⟩
theorem q_X2_enclosed_109 : decode M_X2_enclosed.2.1 109 = .ok (.ifCond .eq 7, 3) ∧ 109 + 3 = 112 ∧ ((109 : Nat) : Int) + 7 = ((116 : Nat) : Int) := ⟨by decide +kernel, rfl, rfl⟩
theorem q_X2_enclosed_112 : decode M_X2_enclosed.2.1 112 = .ok (.iconst 1, 1) ∧ 112 + 1 = 113 := ⟨by decide +kernel, rfl⟩
theorem q_X2_enclosed_113 : decode M_X2_enclosed.2.1 113 = .ok (.goto 4, 3) ∧ 113 + 3 = 116 ∧ ((113 : Nat) : Int) + 4 = ((117 : Nat) : Int) := ⟨by decide +kernel, rfl, rfl⟩
theorem q_X2_enclosed_116 : decode M_X2_enclosed.2.1 116 = .ok (.iconst 0, 1) ∧ 116 + 1 = 117 := ⟨by decide +kernel, rfl⟩
theorem q_X2_enclosed_117 : decode M_X2_enclosed.2.1 117 = .ok (.putfield 75, 3) ∧ 117 + 3 = 120 := ⟨by decide +kernel, rfl⟩
theorem p_RX2_75 : en_Fp RX2 75 5 6 false .boolean := ⟨RX5, TX5, 11, tyX5, rfl, by decide, rfl, by decide +kernel, by decide +kernel, tyX5_ok, nmX5, rfl, by decide +kernel⟩
theorem q_X2_enclosed_120 : decode M_X2_enclosed.2.1 120 = .ok (.aload 7, 2) ∧ 120 + 2 = 122 := ⟨by decide +kernel, rfl⟩
theorem q_X2_enclosed_122 : decode M_X2_enclosed.2.1 122 = .ok (.getfield 75, 3) ∧ 122 + 3 = 125 := ⟨by decide +kernel, rfl⟩
theorem f_RX2_75 : en_F RX2 75 5 6 := ⟨RX5, TX5, 11, rfl, by decide, rfl, by decide +kernel, by decide +kernel⟩
theorem q_X2_enclosed_125 : decode M_X2_enclosed.2.1 125 = .ok (.ifCond .eq 6, 3) ∧ 125 + 3 = 128 ∧ ((125 : Nat) : Int) + 6 = ((131 : Nat) : Int) := ⟨by decide +kernel, rfl, rfl⟩
theorem q_X2_enclosed_128 : decode M_X2_enclosed.2.1 128 = .ok (.goto 181, 3) ∧ 128 + 3 = 131 ∧ ((128 : Nat) : Int) + 181 = ((309 : Nat) : Int) := ⟨by decide +kernel, rfl, rfl⟩
theorem q_X2_enclosed_131 : decode M_X2_enclosed.2.1 131 = .ok (.aload 7, 2) ∧ 131 + 2 = 133 := ⟨by decide +kernel, rfl⟩
theorem q_X2_enclosed_133 : decode M_X2_enclosed.2.1 133 = .ok (.getfield 68, 3) ∧ 133 + 3 = 136 := ⟨by decide +kernel, rfl⟩
theorem q_X2_enclosed_136 : decode M_X2_enclosed.2.1 136 = .ok (.tableswitch 122 0 7 #[48, 57, 67, 67, 67, 86, 98, 110], 48) := by decide +kernel
theorem q_X2_enclosed_184 : decode M_X2_enclosed.2.1 184 = .ok (.aload 7, 2) ∧ 184 + 2 = 186 := ⟨by decide +kernel, rfl⟩
theorem q_X2_enclosed_186 : decode M_X2_enclosed.2.1 186 = .ok (.iload_n 3, 1) ∧ 186 + 1 = 187 := ⟨by decide +kernel, rfl⟩
theorem q_X2_enclosed_187 : decode M_X2_enclosed.2.1 187 = .ok (.invokestatic 79, 3) ∧ 187 + 3 = 190 := ⟨by decide +kernel, rfl⟩
theorem g_X2_enclosed_187 : en_C M_X2_enclosed M_X2_fillWhole 79 2 := ⟨⟨by decide +kernel, by decide +kernel, by decide +kernel⟩, ⟨by decide, by decide, by decide +kernel⟩, by decide, by decide⟩
theorem w_X2_fillWhole : Cond.static M_X2_fillWhole.1 ∈ en_tbl := by decide +kernel
theorem q_X2_enclosed_190 : decode M_X2_enclosed.2.1 190 = .ok (.goto 79, 3) ∧ 190 + 3 = 193 ∧ ((190 : Nat) : Int) + 79 = ((269 : Nat) : Int) := ⟨by decide +kernel, rfl, rfl⟩
theorem q_X2_enclosed_193 : decode M_X2_enclosed.2.1 193 = .ok (.aload_n 0, 1) ∧ 193 + 1 = 194 := ⟨by decide +kernel, rfl⟩
theorem q_X2_enclosed_194 : decode M_X2_enclosed.2.1 194 = .ok (.aload 7, 2) ∧ 194 + 2 = 196 := ⟨by decide +kernel, rfl⟩
theorem q_X2_enclosed_196 : decode M_X2_enclosed.2.1 196 = .ok (.iload_n 3, 1) ∧ 196 + 1 = 197 := ⟨by decide +kernel, rfl⟩
theorem q_X2_enclosed_197 : decode M_X2_enclosed.2.1 197 = .ok (.invokevirtual 83, 3) ∧ 197 + 3 = 200 := ⟨by decide +kernel, rfl⟩
theorem g_X2_enclosed_197 : en_C M_X2_enclosed M_X2_fillRatio 83 2 := ⟨⟨by decide +kernel, by decide +kernel, by decide +kernel⟩, ⟨by decide, by decide, by decide +kernel⟩, by decide, by decide⟩
theorem w_X2_fillRatio : Cond.instanceMethod M_X2_fillRatio.1 ∈ en_tbl ∧ Cond.selects M_X2_fillRatio.1.cls M_X2_fillRatio.1 M_X2_fillRatio.1 ∈ en_tbl := ⟨by decide +kernel, by decide +kernel⟩
theorem q_X2_enclosed_200 : decode M_X2_enclosed.2.1 200 = .ok (.goto 69, 3) ∧ 200 + 3 = 203 ∧ ((200 : Nat) : Int) + 69 = ((269 : Nat) : Int) := ⟨by decide +kernel, rfl, rfl⟩
theorem q_X2_enclosed_203 : decode M_X2_enclosed.2.1 203 = .ok (.aload_n 0, 1) ∧ 203 + 1 = 204 := ⟨by decide +kernel, rfl⟩
theorem q_X2_enclosed_204 : decode M_X2_enclosed.2.1 204 = .ok (.getfield 21, 3) ∧ 204 + 3 = 207 := ⟨by decide +kernel, rfl⟩
theorem f_RX2_21 : en_F RX2 21 2 1 := ⟨RX2, TX2, 7, rfl, by decide, rfl, by decide +kernel, by decide +kernel⟩
theorem q_X2_enclosed_207 : decode M_X2_enclosed.2.1 207 = .ok (.aload 7, 2) ∧ 207 + 2 = 209 := ⟨by decide +kernel, rfl⟩
theorem q_X2_enclosed_209 : decode M_X2_enclosed.2.1 209 = .ok (.iload_n 3, 1) ∧ 209 + 1 = 210 := ⟨by decide +kernel, rfl⟩
theorem q_X2_enclosed_210 : decode M_X2_enclosed.2.1 210 = .ok (.invokevirtual 86, 3) ∧ 210 + 3 = 213 := ⟨by decide +kernel, rfl⟩
theorem g_X2_enclosed_210 : en_C M_X2_enclosed M_X4_refine 86 2 := ⟨⟨by decide +kernel, by decide +kernel, by decide +kernel⟩, ⟨by decide, by decide, by decide +kernel⟩, by decide, by decide⟩
theorem w_X4_refine : Cond.instanceMethod M_X4_refine.1 ∈ en_tbl ∧ Cond.selects M_X4_refine.1.cls M_X4_refine.1 M_X4_refine.1 ∈ en_tbl := ⟨by decide +kernel, by decide +kernel⟩
theorem q_X2_enclosed_213 : decode M_X2_enclosed.2.1 213 = .ok (.aload 7, 2) ∧ 213 + 2 = 215 := ⟨by decide +kernel, rfl⟩
theorem q_X2_enclosed_215 : decode M_X2_enclosed.2.1 215 = .ok (.iload_n 3, 1) ∧ 215 + 1 = 216 := ⟨by decide +kernel, rfl⟩
theorem q_X2_enclosed_216 : decode M_X2_enclosed.2.1 216 = .ok (.invokestatic 89, 3) ∧ 216 + 3 = 219 := ⟨by decide +kernel, rfl⟩
theorem g_X2_enclosed_216 : en_C M_X2_enclosed M_X2_fillFromFine 89 2 := ⟨⟨by decide +kernel, by decide +kernel, by decide +kernel⟩, ⟨by decide, by decide, by decide +kernel⟩, by decide, by decide⟩
theorem w_X2_fillFromFine : Cond.static M_X2_fillFromFine.1 ∈ en_tbl := by decide +kernel
theorem q_X2_enclosed_219 : decode M_X2_enclosed.2.1 219 = .ok (.goto 50, 3) ∧ 219 + 3 = 222 ∧ ((219 : Nat) : Int) + 50 = ((269 : Nat) : Int) := ⟨by decide +kernel, rfl, rfl⟩
theorem q_X2_enclosed_222 : decode M_X2_enclosed.2.1 222 = .ok (.aload_n 0, 1) ∧ 222 + 1 = 223 := ⟨by decide +kernel, rfl⟩
theorem q_X2_enclosed_223 : decode M_X2_enclosed.2.1 223 = .ok (.aload 7, 2) ∧ 223 + 2 = 225 := ⟨by decide +kernel, rfl⟩
theorem q_X2_enclosed_225 : decode M_X2_enclosed.2.1 225 = .ok (.aload 8, 2) ∧ 225 + 2 = 227 := ⟨by decide +kernel, rfl⟩
theorem q_X2_enclosed_227 : decode M_X2_enclosed.2.1 227 = .ok (.iload_n 3, 1) ∧ 227 + 1 = 228 := ⟨by decide +kernel, rfl⟩
theorem q_X2_enclosed_228 : decode M_X2_enclosed.2.1 228 = .ok (.invokevirtual 92, 3) ∧ 228 + 3 = 231 := ⟨by decide +kernel, rfl⟩
theorem g_X2_enclosed_228 : en_C M_X2_enclosed M_X2_fillRoot 92 3 := ⟨⟨by decide +kernel, by decide +kernel, by decide +kernel⟩, ⟨by decide, by decide, by decide +kernel⟩, by decide, by decide⟩
theorem w_X2_fillRoot : Cond.instanceMethod M_X2_fillRoot.1 ∈ en_tbl ∧ Cond.selects M_X2_fillRoot.1.cls M_X2_fillRoot.1 M_X2_fillRoot.1 ∈ en_tbl := ⟨by decide +kernel, by decide +kernel⟩
theorem q_X2_enclosed_231 : decode M_X2_enclosed.2.1 231 = .ok (.goto 38, 3) ∧ 231 + 3 = 234 ∧ ((231 : Nat) : Int) + 38 = ((269 : Nat) : Int) := ⟨by decide +kernel, rfl, rfl⟩
theorem q_X2_enclosed_234 : decode M_X2_enclosed.2.1 234 = .ok (.aload 7, 2) ∧ 234 + 2 = 236 := ⟨by decide +kernel, rfl⟩
theorem q_X2_enclosed_236 : decode M_X2_enclosed.2.1 236 = .ok (.aload 8, 2) ∧ 236 + 2 = 238 := ⟨by decide +kernel, rfl⟩
theorem q_X2_enclosed_238 : decode M_X2_enclosed.2.1 238 = .ok (.aload 9, 2) ∧ 238 + 2 = 240 := ⟨by decide +kernel, rfl⟩
theorem q_X2_enclosed_240 : decode M_X2_enclosed.2.1 240 = .ok (.invokestatic 96, 3) ∧ 240 + 3 = 243 := ⟨by decide +kernel, rfl⟩
theorem g_X2_enclosed_240 : en_C M_X2_enclosed M_X2_fillSum 96 3 := ⟨⟨by decide +kernel, by decide +kernel, by decide +kernel⟩, ⟨by decide, by decide, by decide +kernel⟩, by decide, by decide⟩
theorem w_X2_fillSum : Cond.static M_X2_fillSum.1 ∈ en_tbl := by decide +kernel
theorem q_X2_enclosed_243 : decode M_X2_enclosed.2.1 243 = .ok (.goto 26, 3) ∧ 243 + 3 = 246 ∧ ((243 : Nat) : Int) + 26 = ((269 : Nat) : Int) := ⟨by decide +kernel, rfl, rfl⟩
theorem q_X2_enclosed_246 : decode M_X2_enclosed.2.1 246 = .ok (.aload 7, 2) ∧ 246 + 2 = 248 := ⟨by decide +kernel, rfl⟩
theorem q_X2_enclosed_248 : decode M_X2_enclosed.2.1 248 = .ok (.aload 8, 2) ∧ 248 + 2 = 250 := ⟨by decide +kernel, rfl⟩
theorem q_X2_enclosed_250 : decode M_X2_enclosed.2.1 250 = .ok (.aload 9, 2) ∧ 250 + 2 = 252 := ⟨by decide +kernel, rfl⟩
theorem q_X2_enclosed_252 : decode M_X2_enclosed.2.1 252 = .ok (.invokestatic 100, 3) ∧ 252 + 3 = 255 := ⟨by decide +kernel, rfl⟩
theorem g_X2_enclosed_252 : en_C M_X2_enclosed M_X2_fillDifference 100 3 := ⟨⟨by decide +kernel, by decide +kernel, by decide +kernel⟩, ⟨by decide, by decide, by decide +kernel⟩, by decide, by decide⟩
theorem w_X2_fillDifference : Cond.static M_X2_fillDifference.1 ∈ en_tbl := by decide +kernel
theorem q_X2_enclosed_255 : decode M_X2_enclosed.2.1 255 = .ok (.goto 14, 3) ∧ 255 + 3 = 258 ∧ ((255 : Nat) : Int) + 14 = ((269 : Nat) : Int) := ⟨by decide +kernel, rfl, rfl⟩
theorem q_X2_enclosed_258 : decode M_X2_enclosed.2.1 258 = .ok (.aload_n 0, 1) ∧ 258 + 1 = 259 := ⟨by decide +kernel, rfl⟩
theorem q_X2_enclosed_259 : decode M_X2_enclosed.2.1 259 = .ok (.aload 7, 2) ∧ 259 + 2 = 261 := ⟨by decide +kernel, rfl⟩
theorem q_X2_enclosed_261 : decode M_X2_enclosed.2.1 261 = .ok (.aload 8, 2) ∧ 261 + 2 = 263 := ⟨by decide +kernel, rfl⟩
theorem q_X2_enclosed_263 : decode M_X2_enclosed.2.1 263 = .ok (.aload 9, 2) ∧ 263 + 2 = 265 := ⟨by decide +kernel, rfl⟩
theorem q_X2_enclosed_265 : decode M_X2_enclosed.2.1 265 = .ok (.iload_n 3, 1) ∧ 265 + 1 = 266 := ⟨by decide +kernel, rfl⟩
theorem q_X2_enclosed_266 : decode M_X2_enclosed.2.1 266 = .ok (.invokevirtual 103, 3) ∧ 266 + 3 = 269 := ⟨by decide +kernel, rfl⟩
theorem g_X2_enclosed_266 : en_C M_X2_enclosed M_X2_fillCorners 103 4 := ⟨⟨by decide +kernel, by decide +kernel, by decide +kernel⟩, ⟨by decide, by decide, by decide +kernel⟩, by decide, by decide⟩
theorem w_X2_fillCorners : Cond.instanceMethod M_X2_fillCorners.1 ∈ en_tbl ∧ Cond.selects M_X2_fillCorners.1.cls M_X2_fillCorners.1 M_X2_fillCorners.1 ∈ en_tbl := ⟨by decide +kernel, by decide +kernel⟩
theorem q_X2_enclosed_269 : decode M_X2_enclosed.2.1 269 = .ok (.aload 7, 2) ∧ 269 + 2 = 271 := ⟨by decide +kernel, rfl⟩
theorem q_X2_enclosed_271 : decode M_X2_enclosed.2.1 271 = .ok (.aload 7, 2) ∧ 271 + 2 = 273 := ⟨by decide +kernel, rfl⟩
theorem q_X2_enclosed_273 : decode M_X2_enclosed.2.1 273 = .ok (.getfield 75, 3) ∧ 273 + 3 = 276 := ⟨by decide +kernel, rfl⟩
theorem q_X2_enclosed_276 : decode M_X2_enclosed.2.1 276 = .ok (.ifCond .ne 25, 3) ∧ 276 + 3 = 279 ∧ ((276 : Nat) : Int) + 25 = ((301 : Nat) : Int) := ⟨by decide +kernel, rfl, rfl⟩
theorem q_X2_enclosed_279 : decode M_X2_enclosed.2.1 279 = .ok (.aload 7, 2) ∧ 279 + 2 = 281 := ⟨by decide +kernel, rfl⟩
theorem q_X2_enclosed_281 : decode M_X2_enclosed.2.1 281 = .ok (.getfield 107, 3) ∧ 281 + 3 = 284 := ⟨by decide +kernel, rfl⟩
theorem f_RX2_107 : en_F RX2 107 5 7 := ⟨RX5, TX5, 11, rfl, by decide, rfl, by decide +kernel, by decide +kernel⟩
theorem q_X2_enclosed_284 : decode M_X2_enclosed.2.1 284 = .ok (.invokestatic 110, 3) ∧ 284 + 3 = 287 := ⟨by decide +kernel, rfl⟩
theorem g_X2_enclosed_284 : en_C M_X2_enclosed M_X2_isTooLong 110 1 := ⟨⟨by decide +kernel, by decide +kernel, by decide +kernel⟩, ⟨by decide, by decide, by decide +kernel⟩, by decide, by decide⟩
theorem w_X2_isTooLong : Cond.static M_X2_isTooLong.1 ∈ en_tbl := by decide +kernel
theorem q_X2_enclosed_287 : decode M_X2_enclosed.2.1 287 = .ok (.ifCond .ne 14, 3) ∧ 287 + 3 = 290 ∧ ((287 : Nat) : Int) + 14 = ((301 : Nat) : Int) := ⟨by decide +kernel, rfl, rfl⟩
theorem q_X2_enclosed_290 : decode M_X2_enclosed.2.1 290 = .ok (.aload 7, 2) ∧ 290 + 2 = 292 := ⟨by decide +kernel, rfl⟩
theorem q_X2_enclosed_292 : decode M_X2_enclosed.2.1 292 = .ok (.getfield 114, 3) ∧ 292 + 3 = 295 := ⟨by decide +kernel, rfl⟩
theorem f_RX2_114 : en_F RX2 114 5 8 := ⟨RX5, TX5, 11, rfl, by decide, rfl, by decide +kernel, by decide +kernel⟩
theorem q_X2_enclosed_295 : decode M_X2_enclosed.2.1 295 = .ok (.invokestatic 110, 3) ∧ 295 + 3 = 298 := ⟨by decide +kernel, rfl⟩
theorem g_X2_enclosed_295 : en_C M_X2_enclosed M_X2_isTooLong 110 1 := ⟨⟨by decide +kernel, by decide +kernel, by decide +kernel⟩, ⟨by decide, by decide, by decide +kernel⟩, by decide, by decide⟩
theorem q_X2_enclosed_298 : decode M_X2_enclosed.2.1 298 = .ok (.ifCond .eq 7, 3) ∧ 298 + 3 = 301 ∧ ((298 : Nat) : Int) + 7 = ((305 : Nat) : Int) := ⟨by decide +kernel, rfl, rfl⟩
theorem q_X2_enclosed_301 : decode M_X2_enclosed.2.1 301 = .ok (.iconst 1, 1) ∧ 301 + 1 = 302 := ⟨by decide +kernel, rfl⟩
theorem q_X2_enclosed_302 : decode M_X2_enclosed.2.1 302 = .ok (.goto 4, 3) ∧ 302 + 3 = 305 ∧ ((302 : Nat) : Int) + 4 = ((306 : Nat) : Int) := ⟨by decide +kernel, rfl, rfl⟩
theorem q_X2_enclosed_305 : decode M_X2_enclosed.2.1 305 = .ok (.iconst 0, 1) ∧ 305 + 1 = 306 := ⟨by decide +kernel, rfl⟩
theorem q_X2_enclosed_306 : decode M_X2_enclosed.2.1 306 = .ok (.putfield 75, 3) ∧ 306 + 3 = 309 := ⟨by decide +kernel, rfl⟩
theorem q_X2_enclosed_309 : decode M_X2_enclosed.2.1 309 = .ok (.iinc 6 1, 3) ∧ 309 + 3 = 312 := ⟨by decide +kernel, rfl⟩
theorem q_X2_enclosed_312 : decode M_X2_enclosed.2.1 312 = .ok (.goto (-289), 3) ∧ 312 + 3 = 315 ∧ ((312 : Nat) : Int) + (-289) = ((23 : Nat) : Int) := ⟨by decide +kernel, rfl, rfl⟩
theorem q_X2_enclosed_315 : decode M_X2_enclosed.2.1 315 = .ok (.aload_n 1, 1) ∧ 315 + 1 = 316 := ⟨by decide +kernel, rfl⟩
theorem q_X2_enclosed_316 : decode M_X2_enclosed.2.1 316 = .ok (.iload_n 2, 1) ∧ 316 + 1 = 317 := ⟨by decide +kernel, rfl⟩
theorem q_X2_enclosed_317 : decode M_X2_enclosed.2.1 317 = .ok (.aaload, 1) ∧ 317 + 1 = 318 := ⟨by decide +kernel, rfl⟩
theorem q_X2_enclosed_318 : decode M_X2_enclosed.2.1 318 = .ok (.areturn, 1) ∧ 318 + 1 = 319 := ⟨by decide +kernel, rfl⟩
theorem q_X2_neededFor_0 : decode M_X2_neededFor.2.1 0 = .ok (.lconst 1, 1) ∧ 0 + 1 = 1 := ⟨by decide +kernel, rfl⟩
theorem q_X2_neededFor_1 : decode M_X2_neededFor.2.1 1 = .ok (.iload_n 1, 1) ∧ 1 + 1 = 2 := ⟨by decide +kernel, rfl⟩
theorem q_X2_neededFor_2 : decode M_X2_neededFor.2.1 2 = .ok (.lshl, 1) ∧ 2 + 1 = 3 := ⟨by decide +kernel, rfl⟩
theorem q_X2_neededFor_3 : decode M_X2_neededFor.2.1 3 = .ok (.lstore_n 3, 1) ∧ 3 + 1 = 4 := ⟨by decide +kernel, rfl⟩
theorem q_X2_neededFor_4 : decode M_X2_neededFor.2.1 4 = .ok (.iload_n 1, 1) ∧ 4 + 1 = 5 := ⟨by decide +kernel, rfl⟩
theorem q_X2_neededFor_5 : decode M_X2_neededFor.2.1 5 = .ok (.istore 5, 2) ∧ 5 + 2 = 7 := ⟨by decide +kernel, rfl⟩
theorem q_X2_neededFor_7 : decode M_X2_neededFor.2.1 7 = .ok (.iload 5, 2) ∧ 7 + 2 = 9 := ⟨by decide +kernel, rfl⟩
theorem q_X2_neededFor_9 : decode M_X2_neededFor.2.1 9 = .ok (.ifCond .lt 82, 3) ∧ 9 + 3 = 12 ∧ ((9 : Nat) : Int) + 82 = ((91 : Nat) : Int) := ⟨by decide +kernel, rfl, rfl⟩
theorem q_X2_neededFor_12 : decode M_X2_neededFor.2.1 12 = .ok (.aload_n 0, 1) ∧ 12 + 1 = 13 := ⟨by decide +kernel, rfl⟩
theorem q_X2_neededFor_13 : decode M_X2_neededFor.2.1 13 = .ok (.iload 5, 2) ∧ 13 + 2 = 15 := ⟨by decide +kernel, rfl⟩
theorem q_X2_neededFor_15 : decode M_X2_neededFor.2.1 15 = .ok (.aaload, 1) ∧ 15 + 1 = 16 := ⟨by decide +kernel, rfl⟩
theorem q_X2_neededFor_16 : decode M_X2_neededFor.2.1 16 = .ok (.astore 6, 2) ∧ 16 + 2 = 18 := ⟨by decide +kernel, rfl⟩
theorem q_X2_neededFor_18 : decode M_X2_neededFor.2.1 18 = .ok (.aload 6, 2) ∧ 18 + 2 = 20 := ⟨by decide +kernel, rfl⟩
theorem q_X2_neededFor_20 : decode M_X2_neededFor.2.1 20 = .ok (.ifnull 65, 3) ∧ 20 + 3 = 23 ∧ ((20 : Nat) : Int) + 65 = ((85 : Nat) : Int) := ⟨by decide +kernel, rfl, rfl⟩
theorem q_X2_neededFor_23 : decode M_X2_neededFor.2.1 23 = .ok (.lload_n 3, 1) ∧ 23 + 1 = 24 := ⟨by decide +kernel, rfl⟩
theorem q_X2_neededFor_24 : decode M_X2_neededFor.2.1 24 = .ok (.iload 5, 2) ∧ 24 + 2 = 26 := ⟨by decide +kernel, rfl⟩
theorem q_X2_neededFor_26 : decode M_X2_neededFor.2.1 26 = .ok (.invokestatic 48, 3) ∧ 26 + 3 = 29 := ⟨by decide +kernel, rfl⟩
theorem g_X2_neededFor_26 : en_C M_X2_neededFor M_X2_isMarked 48 2 := ⟨⟨by decide +kernel, by decide +kernel, by decide +kernel⟩, ⟨by decide, by decide, by decide +kernel⟩, by decide, by decide⟩
theorem q_X2_neededFor_29 : decode M_X2_neededFor.2.1 29 = .ok (.ifCond .ne 6, 3) ∧ 29 + 3 = 32 ∧ ((29 : Nat) : Int) + 6 = ((35 : Nat) : Int) := ⟨by decide +kernel, rfl, rfl⟩
theorem q_X2_neededFor_32 : decode M_X2_neededFor.2.1 32 = .ok (.goto 53, 3) ∧ 32 + 3 = 35 ∧ ((32 : Nat) : Int) + 53 = ((85 : Nat) : Int) := ⟨by decide +kernel, rfl, rfl⟩
theorem q_X2_neededFor_35 : decode M_X2_neededFor.2.1 35 = .ok (.aload 6, 2) ∧ 35 + 2 = 37 := ⟨by decide +kernel, rfl⟩
theorem q_X2_neededFor_37 : decode M_X2_neededFor.2.1 37 = .ok (.getfield 65, 3) ∧ 37 + 3 = 40 := ⟨by decide +kernel, rfl⟩
theorem f_RX2_65 : en_F RX2 65 5 5 := ⟨RX5, TX5, 11, rfl, by decide, rfl, by decide +kernel, by decide +kernel⟩
theorem q_X2_neededFor_40 : decode M_X2_neededFor.2.1 40 = .ok (.iload_n 2, 1) ∧ 40 + 1 = 41 := ⟨by decide +kernel, rfl⟩
theorem q_X2_neededFor_41 : decode M_X2_neededFor.2.1 41 = .ok (.if_icmp .ne 17, 3) ∧ 41 + 3 = 44 ∧ ((41 : Nat) : Int) + 17 = ((58 : Nat) : Int) := ⟨by decide +kernel, rfl, rfl⟩
theorem q_X2_neededFor_44 : decode M_X2_neededFor.2.1 44 = .ok (.lload_n 3, 1) ∧ 44 + 1 = 45 := ⟨by decide +kernel, rfl⟩
theorem q_X2_neededFor_45 : decode M_X2_neededFor.2.1 45 = .ok (.lconst 1, 1) ∧ 45 + 1 = 46 := ⟨by decide +kernel, rfl⟩
theorem q_X2_neededFor_46 : decode M_X2_neededFor.2.1 46 = .ok (.iload 5, 2) ∧ 46 + 2 = 48 := ⟨by decide +kernel, rfl⟩
theorem q_X2_neededFor_48 : decode M_X2_neededFor.2.1 48 = .ok (.lshl, 1) ∧ 48 + 1 = 49 := ⟨by decide +kernel, rfl⟩
theorem q_X2_neededFor_49 : decode M_X2_neededFor.2.1 49 = .ok (.ldc2_w 117, 3) ∧ 49 + 3 = 52 := ⟨by decide +kernel, rfl⟩
theorem k_RX2_117 : Cond.constantLong RX2 117 (-1) ∈ en_tbl := by decide +kernel
theorem q_X2_neededFor_52 : decode M_X2_neededFor.2.1 52 = .ok (.lxor, 1) ∧ 52 + 1 = 53 := ⟨by decide +kernel, rfl⟩
theorem q_X2_neededFor_53 : decode M_X2_neededFor.2.1 53 = .ok (.land, 1) ∧ 53 + 1 = 54 := ⟨by decide +kernel, rfl⟩
theorem q_X2_neededFor_54 : decode M_X2_neededFor.2.1 54 = .ok (.lstore_n 3, 1) ∧ 54 + 1 = 55 := ⟨by decide +kernel, rfl⟩
theorem q_X2_neededFor_55 : decode M_X2_neededFor.2.1 55 = .ok (.goto 30, 3) ∧ 55 + 3 = 58 ∧ ((55 : Nat) : Int) + 30 = ((85 : Nat) : Int) := ⟨by decide +kernel, rfl, rfl⟩
theorem q_X2_neededFor_58 : decode M_X2_neededFor.2.1 58 = .ok (.aload 6, 2) ∧ 58 + 2 = 60 := ⟨by decide +kernel, rfl⟩
theorem q_X2_neededFor_60 : decode M_X2_neededFor.2.1 60 = .ok (.getfield 68, 3) ∧ 60 + 3 = 63 := ⟨by decide +kernel, rfl⟩
theorem q_X2_neededFor_63 : decode M_X2_neededFor.2.1 63 = .ok (.iconst 5, 1) ∧ 63 + 1 = 64 := ⟨by decide +kernel, rfl⟩
theorem q_X2_neededFor_64 : decode M_X2_neededFor.2.1 64 = .ok (.if_icmp .lt 21, 3) ∧ 64 + 3 = 67 ∧ ((64 : Nat) : Int) + 21 = ((85 : Nat) : Int) := ⟨by decide +kernel, rfl, rfl⟩
theorem q_X2_neededFor_67 : decode M_X2_neededFor.2.1 67 = .ok (.lload_n 3, 1) ∧ 67 + 1 = 68 := ⟨by decide +kernel, rfl⟩
theorem q_X2_neededFor_68 : decode M_X2_neededFor.2.1 68 = .ok (.lconst 1, 1) ∧ 68 + 1 = 69 := ⟨by decide +kernel, rfl⟩
theorem q_X2_neededFor_69 : decode M_X2_neededFor.2.1 69 = .ok (.aload 6, 2) ∧ 69 + 2 = 71 := ⟨by decide +kernel, rfl⟩
theorem q_X2_neededFor_71 : decode M_X2_neededFor.2.1 71 = .ok (.getfield 52, 3) ∧ 71 + 3 = 74 := ⟨by decide +kernel, rfl⟩
theorem q_X2_neededFor_74 : decode M_X2_neededFor.2.1 74 = .ok (.lshl, 1) ∧ 74 + 1 = 75 := ⟨by decide +kernel, rfl⟩
theorem q_X2_neededFor_75 : decode M_X2_neededFor.2.1 75 = .ok (.lconst 1, 1) ∧ 75 + 1 = 76 := ⟨by decide +kernel, rfl⟩
theorem q_X2_neededFor_76 : decode M_X2_neededFor.2.1 76 = .ok (.aload 6, 2) ∧ 76 + 2 = 78 := ⟨by decide +kernel, rfl⟩
theorem q_X2_neededFor_78 : decode M_X2_neededFor.2.1 78 = .ok (.getfield 62, 3) ∧ 78 + 3 = 81 := ⟨by decide +kernel, rfl⟩
theorem q_X2_neededFor_81 : decode M_X2_neededFor.2.1 81 = .ok (.lshl, 1) ∧ 81 + 1 = 82 := ⟨by decide +kernel, rfl⟩
theorem q_X2_neededFor_82 : decode M_X2_neededFor.2.1 82 = .ok (.lor, 1) ∧ 82 + 1 = 83 := ⟨by decide +kernel, rfl⟩
theorem q_X2_neededFor_83 : decode M_X2_neededFor.2.1 83 = .ok (.lor, 1) ∧ 83 + 1 = 84 := ⟨by decide +kernel, rfl⟩
theorem q_X2_neededFor_84 : decode M_X2_neededFor.2.1 84 = .ok (.lstore_n 3, 1) ∧ 84 + 1 = 85 := ⟨by decide +kernel, rfl⟩
theorem q_X2_neededFor_85 : decode M_X2_neededFor.2.1 85 = .ok (.iinc 5 (-1), 3) ∧ 85 + 3 = 88 := ⟨by decide +kernel, rfl⟩
theorem q_X2_neededFor_88 : decode M_X2_neededFor.2.1 88 = .ok (.goto (-81), 3) ∧ 88 + 3 = 91 ∧ ((88 : Nat) : Int) + (-81) = ((7 : Nat) : Int) := ⟨by decide +kernel, rfl, rfl⟩
theorem q_X2_neededFor_91 : decode M_X2_neededFor.2.1 91 = .ok (.lload_n 3, 1) ∧ 91 + 1 = 92 := ⟨by decide +kernel, rfl⟩
theorem q_X2_neededFor_92 : decode M_X2_neededFor.2.1 92 = .ok (.lreturn, 1) ∧ 92 + 1 = 93 := ⟨by decide +kernel, rfl⟩
theorem q_X2_isMarked_0 : decode M_X2_isMarked.2.1 0 = .ok (.lload_n 0, 1) ∧ 0 + 1 = 1 := ⟨by decide +kernel, rfl⟩
theorem q_X2_isMarked_1 : decode M_X2_isMarked.2.1 1 = .ok (.iload_n 2, 1) ∧ 1 + 1 = 2 := ⟨by decide +kernel, rfl⟩
theorem q_X2_isMarked_2 : decode M_X2_isMarked.2.1 2 = .ok (.lushr, 1) ∧ 2 + 1 = 3 := ⟨by decide +kernel, rfl⟩
theorem q_X2_isMarked_3 : decode M_X2_isMarked.2.1 3 = .ok (.lconst 1, 1) ∧ 3 + 1 = 4 := ⟨by decide +kernel, rfl⟩
theorem q_X2_isMarked_4 : decode M_X2_isMarked.2.1 4 = .ok (.land, 1) ∧ 4 + 1 = 5 := ⟨by decide +kernel, rfl⟩
theorem q_X2_isMarked_5 : decode M_X2_isMarked.2.1 5 = .ok (.lconst 0, 1) ∧ 5 + 1 = 6 := ⟨by decide +kernel, rfl⟩
theorem q_X2_isMarked_6 : decode M_X2_isMarked.2.1 6 = .ok (.lcmp, 1) ∧ 6 + 1 = 7 := ⟨by decide +kernel, rfl⟩
theorem q_X2_isMarked_7 : decode M_X2_isMarked.2.1 7 = .ok (.ifCond .eq 7, 3) ∧ 7 + 3 = 10 ∧ ((7 : Nat) : Int) + 7 = ((14 : Nat) : Int) := ⟨by decide +kernel, rfl, rfl⟩
theorem q_X2_isMarked_10 : decode M_X2_isMarked.2.1 10 = .ok (.iconst 1, 1) ∧ 10 + 1 = 11 := ⟨by decide +kernel, rfl⟩
theorem q_X2_isMarked_11 : decode M_X2_isMarked.2.1 11 = .ok (.goto 4, 3) ∧ 11 + 3 = 14 ∧ ((11 : Nat) : Int) + 4 = ((15 : Nat) : Int) := ⟨by decide +kernel, rfl, rfl⟩
theorem q_X2_isMarked_14 : decode M_X2_isMarked.2.1 14 = .ok (.iconst 0, 1) ∧ 14 + 1 = 15 := ⟨by decide +kernel, rfl⟩
theorem q_X2_isMarked_15 : decode M_X2_isMarked.2.1 15 = .ok (.ireturn, 1) ∧ 15 + 1 = 16 := ⟨by decide +kernel, rfl⟩
theorem q_X2_partOf_0 : decode M_X2_partOf.2.1 0 = .ok (.iload_n 1, 1) ∧ 0 + 1 = 1 := ⟨by decide +kernel, rfl⟩
theorem q_X2_partOf_1 : decode M_X2_partOf.2.1 1 = .ok (.ifCond .lt 14, 3) ∧ 1 + 3 = 4 ∧ ((1 : Nat) : Int) + 14 = ((15 : Nat) : Int) := ⟨by decide +kernel, rfl, rfl⟩
theorem q_X2_partOf_4 : decode M_X2_partOf.2.1 4 = .ok (.iload_n 1, 1) ∧ 4 + 1 = 5 := ⟨by decide +kernel, rfl⟩
theorem q_X2_partOf_5 : decode M_X2_partOf.2.1 5 = .ok (.iload_n 2, 1) ∧ 5 + 1 = 6 := ⟨by decide +kernel, rfl⟩
theorem q_X2_partOf_6 : decode M_X2_partOf.2.1 6 = .ok (.if_icmp .ge 9, 3) ∧ 6 + 3 = 9 ∧ ((6 : Nat) : Int) + 9 = ((15 : Nat) : Int) := ⟨by decide +kernel, rfl, rfl⟩
theorem q_X2_partOf_9 : decode M_X2_partOf.2.1 9 = .ok (.iload_n 1, 1) ∧ 9 + 1 = 10 := ⟨by decide +kernel, rfl⟩
theorem q_X2_partOf_10 : decode M_X2_partOf.2.1 10 = .ok (.aload_n 0, 1) ∧ 10 + 1 = 11 := ⟨by decide +kernel, rfl⟩
theorem q_X2_partOf_11 : decode M_X2_partOf.2.1 11 = .ok (.arraylength, 1) ∧ 11 + 1 = 12 := ⟨by decide +kernel, rfl⟩
theorem q_X2_partOf_12 : decode M_X2_partOf.2.1 12 = .ok (.if_icmp .lt 7, 3) ∧ 12 + 3 = 15 ∧ ((12 : Nat) : Int) + 7 = ((19 : Nat) : Int) := ⟨by decide +kernel, rfl, rfl⟩
theorem q_X2_partOf_15 : decode M_X2_partOf.2.1 15 = .ok (.aconst_null, 1) ∧ 15 + 1 = 16 := ⟨by decide +kernel, rfl⟩
theorem q_X2_partOf_16 : decode M_X2_partOf.2.1 16 = .ok (.goto 6, 3) ∧ 16 + 3 = 19 ∧ ((16 : Nat) : Int) + 6 = ((22 : Nat) : Int) := ⟨by decide +kernel, rfl, rfl⟩
theorem q_X2_partOf_19 : decode M_X2_partOf.2.1 19 = .ok (.aload_n 0, 1) ∧ 19 + 1 = 20 := ⟨by decide +kernel, rfl⟩
theorem q_X2_partOf_20 : decode M_X2_partOf.2.1 20 = .ok (.iload_n 1, 1) ∧ 20 + 1 = 21 := ⟨by decide +kernel, rfl⟩
theorem q_X2_partOf_21 : decode M_X2_partOf.2.1 21 = .ok (.aaload, 1) ∧ 21 + 1 = 22 := ⟨by decide +kernel, rfl⟩
theorem q_X2_partOf_22 : decode M_X2_partOf.2.1 22 = .ok (.areturn, 1) ∧ 22 + 1 = 23 := ⟨by decide +kernel, rfl⟩
theorem q_X2_isOpen_0 : decode M_X2_isOpen.2.1 0 = .ok (.aload_n 0, 1) ∧ 0 + 1 = 1 := ⟨by decide +kernel, rfl⟩
theorem q_X2_isOpen_1 : decode M_X2_isOpen.2.1 1 = .ok (.ifnull 10, 3) ∧ 1 + 3 = 4 ∧ ((1 : Nat) : Int) + 10 = ((11 : Nat) : Int) := ⟨by decide +kernel, rfl, rfl⟩
theorem q_X2_isOpen_4 : decode M_X2_isOpen.2.1 4 = .ok (.aload_n 0, 1) ∧ 4 + 1 = 5 := ⟨by decide +kernel, rfl⟩
theorem q_X2_isOpen_5 : decode M_X2_isOpen.2.1 5 = .ok (.getfield 75, 3) ∧ 5 + 3 = 8 := ⟨by decide +kernel, rfl⟩
theorem q_X2_isOpen_8 : decode M_X2_isOpen.2.1 8 = .ok (.ifCond .eq 7, 3) ∧ 8 + 3 = 11 ∧ ((8 : Nat) : Int) + 7 = ((15 : Nat) : Int) := ⟨by decide +kernel, rfl, rfl⟩
theorem q_X2_isOpen_11 : decode M_X2_isOpen.2.1 11 = .ok (.iconst 1, 1) ∧ 11 + 1 = 12 := ⟨by decide +kernel, rfl⟩
theorem q_X2_isOpen_12 : decode M_X2_isOpen.2.1 12 = .ok (.goto 4, 3) ∧ 12 + 3 = 15 ∧ ((12 : Nat) : Int) + 4 = ((16 : Nat) : Int) := ⟨by decide +kernel, rfl, rfl⟩
theorem q_X2_isOpen_15 : decode M_X2_isOpen.2.1 15 = .ok (.iconst 0, 1) ∧ 15 + 1 = 16 := ⟨by decide +kernel, rfl⟩
theorem q_X2_isOpen_16 : decode M_X2_isOpen.2.1 16 = .ok (.ireturn, 1) ∧ 16 + 1 = 17 := ⟨by decide +kernel, rfl⟩
theorem q_X2_isExact_0 : decode M_X2_isExact.2.1 0 = .ok (.aload_n 0, 1) ∧ 0 + 1 = 1 := ⟨by decide +kernel, rfl⟩
theorem q_X2_isExact_1 : decode M_X2_isExact.2.1 1 = .ok (.getfield 107, 3) ∧ 1 + 3 = 4 := ⟨by decide +kernel, rfl⟩
theorem q_X2_isExact_4 : decode M_X2_isExact.2.1 4 = .ok (.aload_n 0, 1) ∧ 4 + 1 = 5 := ⟨by decide +kernel, rfl⟩
theorem q_X2_isExact_5 : decode M_X2_isExact.2.1 5 = .ok (.getfield 114, 3) ∧ 5 + 3 = 8 := ⟨by decide +kernel, rfl⟩
theorem q_X2_isExact_8 : decode M_X2_isExact.2.1 8 = .ok (.invokevirtual 119, 3) ∧ 8 + 3 = 11 := ⟨by decide +kernel, rfl⟩
theorem g_X2_isExact_8 : en_C M_X2_isExact M_X1_compare 119 1 := ⟨⟨by decide +kernel, by decide +kernel, by decide +kernel⟩, ⟨by decide, by decide, by decide +kernel⟩, by decide, by decide⟩
theorem q_X2_isExact_11 : decode M_X2_isExact.2.1 11 = .ok (.ifCond .ne 7, 3) ∧ 11 + 3 = 14 ∧ ((11 : Nat) : Int) + 7 = ((18 : Nat) : Int) := ⟨by decide +kernel, rfl, rfl⟩
theorem q_X2_isExact_14 : decode M_X2_isExact.2.1 14 = .ok (.iconst 1, 1) ∧ 14 + 1 = 15 := ⟨by decide +kernel, rfl⟩
theorem q_X2_isExact_15 : decode M_X2_isExact.2.1 15 = .ok (.goto 4, 3) ∧ 15 + 3 = 18 ∧ ((15 : Nat) : Int) + 4 = ((19 : Nat) : Int) := ⟨by decide +kernel, rfl, rfl⟩
theorem q_X2_isExact_18 : decode M_X2_isExact.2.1 18 = .ok (.iconst 0, 1) ∧ 18 + 1 = 19 := ⟨by decide +kernel, rfl⟩
theorem q_X2_isExact_19 : decode M_X2_isExact.2.1 19 = .ok (.ireturn, 1) ∧ 19 + 1 = 20 := ⟨by decide +kernel, rfl⟩
theorem q_X2_isTooLong_0 : decode M_X2_isTooLong.2.1 0 = .ok (.aload_n 0, 1) ∧ 0 + 1 = 1 := ⟨by decide +kernel, rfl⟩
theorem q_X2_isTooLong_1 : decode M_X2_isTooLong.2.1 1 = .ok (.invokevirtual 123, 3) ∧ 1 + 3 = 4 := ⟨by decide +kernel, rfl⟩
theorem g_X2_isTooLong_1 : en_C M_X2_isTooLong M_X1_digitCount 123 0 := ⟨⟨by decide +kernel, by decide +kernel, by decide +kernel⟩, ⟨by decide, by decide, by decide +kernel⟩, by decide, by decide⟩
theorem w_X1_digitCount : Cond.instanceMethod M_X1_digitCount.1 ∈ en_tbl ∧ Cond.selects M_X1_digitCount.1.cls M_X1_digitCount.1 M_X1_digitCount.1 ∈ en_tbl := ⟨by decide +kernel, by decide +kernel⟩
theorem q_X2_isTooLong_4 : decode M_X2_isTooLong.2.1 4 = .ok (.sipush 800, 3) ∧ 4 + 3 = 7 := ⟨by decide +kernel, rfl⟩
theorem q_X2_isTooLong_7 : decode M_X2_isTooLong.2.1 7 = .ok (.if_icmp .le 7, 3) ∧ 7 + 3 = 10 ∧ ((7 : Nat) : Int) + 7 = ((14 : Nat) : Int) := ⟨by decide +kernel, rfl, rfl⟩
theorem q_X2_isTooLong_10 : decode M_X2_isTooLong.2.1 10 = .ok (.iconst 1, 1) ∧ 10 + 1 = 11 := ⟨by decide +kernel, rfl⟩
theorem q_X2_isTooLong_11 : decode M_X2_isTooLong.2.1 11 = .ok (.goto 4, 3) ∧ 11 + 3 = 14 ∧ ((11 : Nat) : Int) + 4 = ((15 : Nat) : Int) := ⟨by decide +kernel, rfl, rfl⟩
theorem q_X2_isTooLong_14 : decode M_X2_isTooLong.2.1 14 = .ok (.iconst 0, 1) ∧ 14 + 1 = 15 := ⟨by decide +kernel, rfl⟩
theorem q_X2_isTooLong_15 : decode M_X2_isTooLong.2.1 15 = .ok (.ireturn, 1) ∧ 15 + 1 = 16 := ⟨by decide +kernel, rfl⟩
theorem q_X2_fillWhole_0 : decode M_X2_fillWhole.2.1 0 = .ok (.aload_n 0, 1) ∧ 0 + 1 = 1 := ⟨by decide +kernel, rfl⟩
theorem q_X2_fillWhole_1 : decode M_X2_fillWhole.2.1 1 = .ok (.getfield 107, 3) ∧ 1 + 3 = 4 := ⟨by decide +kernel, rfl⟩
theorem q_X2_fillWhole_4 : decode M_X2_fillWhole.2.1 4 = .ok (.aload_n 0, 1) ∧ 4 + 1 = 5 := ⟨by decide +kernel, rfl⟩
theorem q_X2_fillWhole_5 : decode M_X2_fillWhole.2.1 5 = .ok (.getfield 127, 3) ∧ 5 + 3 = 8 := ⟨by decide +kernel, rfl⟩
theorem f_RX2_127 : en_F RX2 127 5 1 := ⟨RX5, TX5, 11, rfl, by decide, rfl, by decide +kernel, by decide +kernel⟩
theorem q_X2_fillWhole_8 : decode M_X2_fillWhole.2.1 8 = .ok (.invokevirtual 131, 3) ∧ 8 + 3 = 11 := ⟨by decide +kernel, rfl⟩
theorem g_X2_fillWhole_8 : en_C M_X2_fillWhole M_X1_setLong 131 1 := ⟨⟨by decide +kernel, by decide +kernel, by decide +kernel⟩, ⟨by decide, by decide, by decide +kernel⟩, by decide, by decide⟩
theorem q_X2_fillWhole_11 : decode M_X2_fillWhole.2.1 11 = .ok (.aload_n 0, 1) ∧ 11 + 1 = 12 := ⟨by decide +kernel, rfl⟩
theorem q_X2_fillWhole_12 : decode M_X2_fillWhole.2.1 12 = .ok (.getfield 107, 3) ∧ 12 + 3 = 15 := ⟨by decide +kernel, rfl⟩
theorem q_X2_fillWhole_15 : decode M_X2_fillWhole.2.1 15 = .ok (.iload_n 1, 1) ∧ 15 + 1 = 16 := ⟨by decide +kernel, rfl⟩
theorem q_X2_fillWhole_16 : decode M_X2_fillWhole.2.1 16 = .ok (.invokevirtual 135, 3) ∧ 16 + 3 = 19 := ⟨by decide +kernel, rfl⟩
theorem g_X2_fillWhole_16 : en_C M_X2_fillWhole M_X1_shiftUp 135 1 := ⟨⟨by decide +kernel, by decide +kernel, by decide +kernel⟩, ⟨by decide, by decide, by decide +kernel⟩, by decide, by decide⟩
theorem q_X2_fillWhole_19 : decode M_X2_fillWhole.2.1 19 = .ok (.aload_n 0, 1) ∧ 19 + 1 = 20 := ⟨by decide +kernel, rfl⟩
theorem q_X2_fillWhole_20 : decode M_X2_fillWhole.2.1 20 = .ok (.getfield 114, 3) ∧ 20 + 3 = 23 := ⟨by decide +kernel, rfl⟩
theorem q_X2_fillWhole_23 : decode M_X2_fillWhole.2.1 23 = .ok (.aload_n 0, 1) ∧ 23 + 1 = 24 := ⟨by decide +kernel, rfl⟩
theorem q_X2_fillWhole_24 : decode M_X2_fillWhole.2.1 24 = .ok (.getfield 107, 3) ∧ 24 + 3 = 27 := ⟨by decide +kernel, rfl⟩
theorem q_X2_fillWhole_27 : decode M_X2_fillWhole.2.1 27 = .ok (.invokevirtual 139, 3) ∧ 27 + 3 = 30 := ⟨by decide +kernel, rfl⟩
theorem g_X2_fillWhole_27 : en_C M_X2_fillWhole M_X1_copy 139 1 := ⟨⟨by decide +kernel, by decide +kernel, by decide +kernel⟩, ⟨by decide, by decide, by decide +kernel⟩, by decide, by decide⟩
theorem q_X2_fillWhole_30 : decode M_X2_fillWhole.2.1 30 = .ok (.return_, 1) ∧ 30 + 1 = 31 := ⟨by decide +kernel, rfl⟩
theorem q_X2_fillRatio_0 : decode M_X2_fillRatio.2.1 0 = .ok (.aload_n 0, 1) ∧ 0 + 1 = 1 := ⟨by decide +kernel, rfl⟩
theorem q_X2_fillRatio_1 : decode M_X2_fillRatio.2.1 1 = .ok (.getfield 35, 3) ∧ 1 + 3 = 4 := ⟨by decide +kernel, rfl⟩
theorem f_RX2_35 : en_F RX2 35 2 4 := ⟨RX2, TX2, 7, rfl, by decide, rfl, by decide +kernel, by decide +kernel⟩
theorem q_X2_fillRatio_4 : decode M_X2_fillRatio.2.1 4 = .ok (.aload_n 1, 1) ∧ 4 + 1 = 5 := ⟨by decide +kernel, rfl⟩
theorem q_X2_fillRatio_5 : decode M_X2_fillRatio.2.1 5 = .ok (.getfield 127, 3) ∧ 5 + 3 = 8 := ⟨by decide +kernel, rfl⟩
theorem q_X2_fillRatio_8 : decode M_X2_fillRatio.2.1 8 = .ok (.invokevirtual 131, 3) ∧ 8 + 3 = 11 := ⟨by decide +kernel, rfl⟩
theorem g_X2_fillRatio_8 : en_C M_X2_fillRatio M_X1_setLong 131 1 := ⟨⟨by decide +kernel, by decide +kernel, by decide +kernel⟩, ⟨by decide, by decide, by decide +kernel⟩, by decide, by decide⟩
theorem q_X2_fillRatio_11 : decode M_X2_fillRatio.2.1 11 = .ok (.aload_n 0, 1) ∧ 11 + 1 = 12 := ⟨by decide +kernel, rfl⟩
theorem q_X2_fillRatio_12 : decode M_X2_fillRatio.2.1 12 = .ok (.getfield 35, 3) ∧ 12 + 3 = 15 := ⟨by decide +kernel, rfl⟩
theorem q_X2_fillRatio_15 : decode M_X2_fillRatio.2.1 15 = .ok (.iload_n 2, 1) ∧ 15 + 1 = 16 := ⟨by decide +kernel, rfl⟩
theorem q_X2_fillRatio_16 : decode M_X2_fillRatio.2.1 16 = .ok (.invokevirtual 135, 3) ∧ 16 + 3 = 19 := ⟨by decide +kernel, rfl⟩
theorem g_X2_fillRatio_16 : en_C M_X2_fillRatio M_X1_shiftUp 135 1 := ⟨⟨by decide +kernel, by decide +kernel, by decide +kernel⟩, ⟨by decide, by decide, by decide +kernel⟩, by decide, by decide⟩
theorem q_X2_fillRatio_19 : decode M_X2_fillRatio.2.1 19 = .ok (.aload_n 0, 1) ∧ 19 + 1 = 20 := ⟨by decide +kernel, rfl⟩
theorem q_X2_fillRatio_20 : decode M_X2_fillRatio.2.1 20 = .ok (.getfield 38, 3) ∧ 20 + 3 = 23 := ⟨by decide +kernel, rfl⟩
theorem f_RX2_38 : en_F RX2 38 2 5 := ⟨RX2, TX2, 7, rfl, by decide, rfl, by decide +kernel, by decide +kernel⟩
theorem q_X2_fillRatio_23 : decode M_X2_fillRatio.2.1 23 = .ok (.aload_n 1, 1) ∧ 23 + 1 = 24 := ⟨by decide +kernel, rfl⟩
theorem q_X2_fillRatio_24 : decode M_X2_fillRatio.2.1 24 = .ok (.getfield 143, 3) ∧ 24 + 3 = 27 := ⟨by decide +kernel, rfl⟩
theorem f_RX2_143 : en_F RX2 143 5 2 := ⟨RX5, TX5, 11, rfl, by decide, rfl, by decide +kernel, by decide +kernel⟩
theorem q_X2_fillRatio_27 : decode M_X2_fillRatio.2.1 27 = .ok (.invokevirtual 131, 3) ∧ 27 + 3 = 30 := ⟨by decide +kernel, rfl⟩
theorem g_X2_fillRatio_27 : en_C M_X2_fillRatio M_X1_setLong 131 1 := ⟨⟨by decide +kernel, by decide +kernel, by decide +kernel⟩, ⟨by decide, by decide, by decide +kernel⟩, by decide, by decide⟩
theorem q_X2_fillRatio_30 : decode M_X2_fillRatio.2.1 30 = .ok (.aload_n 0, 1) ∧ 30 + 1 = 31 := ⟨by decide +kernel, rfl⟩
theorem q_X2_fillRatio_31 : decode M_X2_fillRatio.2.1 31 = .ok (.aload_n 0, 1) ∧ 31 + 1 = 32 := ⟨by decide +kernel, rfl⟩
theorem q_X2_fillRatio_32 : decode M_X2_fillRatio.2.1 32 = .ok (.getfield 35, 3) ∧ 32 + 3 = 35 := ⟨by decide +kernel, rfl⟩
theorem q_X2_fillRatio_35 : decode M_X2_fillRatio.2.1 35 = .ok (.aload_n 0, 1) ∧ 35 + 1 = 36 := ⟨by decide +kernel, rfl⟩
theorem q_X2_fillRatio_36 : decode M_X2_fillRatio.2.1 36 = .ok (.getfield 38, 3) ∧ 36 + 3 = 39 := ⟨by decide +kernel, rfl⟩
theorem q_X2_fillRatio_39 : decode M_X2_fillRatio.2.1 39 = .ok (.invokevirtual 146, 3) ∧ 39 + 3 = 42 := ⟨by decide +kernel, rfl⟩
theorem g_X2_fillRatio_39 : en_C M_X2_fillRatio M_X2_divideBothWays 146 2 := ⟨⟨by decide +kernel, by decide +kernel, by decide +kernel⟩, ⟨by decide, by decide, by decide +kernel⟩, by decide, by decide⟩
theorem w_X2_divideBothWays : Cond.instanceMethod M_X2_divideBothWays.1 ∈ en_tbl ∧ Cond.selects M_X2_divideBothWays.1.cls M_X2_divideBothWays.1 M_X2_divideBothWays.1 ∈ en_tbl := ⟨by decide +kernel, by decide +kernel⟩
theorem q_X2_fillRatio_42 : decode M_X2_fillRatio.2.1 42 = .ok (.aload_n 1, 1) ∧ 42 + 1 = 43 := ⟨by decide +kernel, rfl⟩
theorem q_X2_fillRatio_43 : decode M_X2_fillRatio.2.1 43 = .ok (.getfield 107, 3) ∧ 43 + 3 = 46 := ⟨by decide +kernel, rfl⟩
theorem q_X2_fillRatio_46 : decode M_X2_fillRatio.2.1 46 = .ok (.aload_n 0, 1) ∧ 46 + 1 = 47 := ⟨by decide +kernel, rfl⟩
theorem q_X2_fillRatio_47 : decode M_X2_fillRatio.2.1 47 = .ok (.getfield 28, 3) ∧ 47 + 3 = 50 := ⟨by decide +kernel, rfl⟩
theorem f_RX2_28 : en_F RX2 28 2 2 := ⟨RX2, TX2, 7, rfl, by decide, rfl, by decide +kernel, by decide +kernel⟩
theorem q_X2_fillRatio_50 : decode M_X2_fillRatio.2.1 50 = .ok (.invokevirtual 139, 3) ∧ 50 + 3 = 53 := ⟨by decide +kernel, rfl⟩
theorem g_X2_fillRatio_50 : en_C M_X2_fillRatio M_X1_copy 139 1 := ⟨⟨by decide +kernel, by decide +kernel, by decide +kernel⟩, ⟨by decide, by decide, by decide +kernel⟩, by decide, by decide⟩
theorem q_X2_fillRatio_53 : decode M_X2_fillRatio.2.1 53 = .ok (.aload_n 1, 1) ∧ 53 + 1 = 54 := ⟨by decide +kernel, rfl⟩
theorem q_X2_fillRatio_54 : decode M_X2_fillRatio.2.1 54 = .ok (.getfield 114, 3) ∧ 54 + 3 = 57 := ⟨by decide +kernel, rfl⟩
theorem q_X2_fillRatio_57 : decode M_X2_fillRatio.2.1 57 = .ok (.aload_n 0, 1) ∧ 57 + 1 = 58 := ⟨by decide +kernel, rfl⟩
theorem q_X2_fillRatio_58 : decode M_X2_fillRatio.2.1 58 = .ok (.getfield 32, 3) ∧ 58 + 3 = 61 := ⟨by decide +kernel, rfl⟩
theorem f_RX2_32 : en_F RX2 32 2 3 := ⟨RX2, TX2, 7, rfl, by decide, rfl, by decide +kernel, by decide +kernel⟩
theorem q_X2_fillRatio_61 : decode M_X2_fillRatio.2.1 61 = .ok (.invokevirtual 139, 3) ∧ 61 + 3 = 64 := ⟨by decide +kernel, rfl⟩
theorem g_X2_fillRatio_61 : en_C M_X2_fillRatio M_X1_copy 139 1 := ⟨⟨by decide +kernel, by decide +kernel, by decide +kernel⟩, ⟨by decide, by decide, by decide +kernel⟩, by decide, by decide⟩
theorem q_X2_fillRatio_64 : decode M_X2_fillRatio.2.1 64 = .ok (.return_, 1) ∧ 64 + 1 = 65 := ⟨by decide +kernel, rfl⟩
theorem q_X2_fillFromFine_0 : decode M_X2_fillFromFine.2.1 0 = .ok (.aload_n 0, 1) ∧ 0 + 1 = 1 := ⟨by decide +kernel, rfl⟩
theorem q_X2_fillFromFine_1 : decode M_X2_fillFromFine.2.1 1 = .ok (.getfield 107, 3) ∧ 1 + 3 = 4 := ⟨by decide +kernel, rfl⟩
theorem q_X2_fillFromFine_4 : decode M_X2_fillFromFine.2.1 4 = .ok (.aload_n 0, 1) ∧ 4 + 1 = 5 := ⟨by decide +kernel, rfl⟩
theorem q_X2_fillFromFine_5 : decode M_X2_fillFromFine.2.1 5 = .ok (.getfield 150, 3) ∧ 5 + 3 = 8 := ⟨by decide +kernel, rfl⟩
theorem f_RX2_150 : en_F RX2 150 5 10 := ⟨RX5, TX5, 11, rfl, by decide, rfl, by decide +kernel, by decide +kernel⟩
theorem q_X2_fillFromFine_8 : decode M_X2_fillFromFine.2.1 8 = .ok (.invokevirtual 139, 3) ∧ 8 + 3 = 11 := ⟨by decide +kernel, rfl⟩
theorem g_X2_fillFromFine_8 : en_C M_X2_fillFromFine M_X1_copy 139 1 := ⟨⟨by decide +kernel, by decide +kernel, by decide +kernel⟩, ⟨by decide, by decide, by decide +kernel⟩, by decide, by decide⟩
theorem q_X2_fillFromFine_11 : decode M_X2_fillFromFine.2.1 11 = .ok (.aload_n 0, 1) ∧ 11 + 1 = 12 := ⟨by decide +kernel, rfl⟩
theorem q_X2_fillFromFine_12 : decode M_X2_fillFromFine.2.1 12 = .ok (.getfield 107, 3) ∧ 12 + 3 = 15 := ⟨by decide +kernel, rfl⟩
theorem q_X2_fillFromFine_15 : decode M_X2_fillFromFine.2.1 15 = .ok (.aload_n 0, 1) ∧ 15 + 1 = 16 := ⟨by decide +kernel, rfl⟩
theorem q_X2_fillFromFine_16 : decode M_X2_fillFromFine.2.1 16 = .ok (.getfield 153, 3) ∧ 16 + 3 = 19 := ⟨by decide +kernel, rfl⟩
theorem f_RX2_153 : en_F RX2 153 5 9 := ⟨RX5, TX5, 11, rfl, by decide, rfl, by decide +kernel, by decide +kernel⟩
theorem q_X2_fillFromFine_19 : decode M_X2_fillFromFine.2.1 19 = .ok (.iload_n 1, 1) ∧ 19 + 1 = 20 := ⟨by decide +kernel, rfl⟩
theorem q_X2_fillFromFine_20 : decode M_X2_fillFromFine.2.1 20 = .ok (.isub, 1) ∧ 20 + 1 = 21 := ⟨by decide +kernel, rfl⟩
theorem q_X2_fillFromFine_21 : decode M_X2_fillFromFine.2.1 21 = .ok (.iconst (-1), 1) ∧ 21 + 1 = 22 := ⟨by decide +kernel, rfl⟩
theorem q_X2_fillFromFine_22 : decode M_X2_fillFromFine.2.1 22 = .ok (.invokevirtual 156, 3) ∧ 22 + 3 = 25 := ⟨by decide +kernel, rfl⟩
theorem g_X2_fillFromFine_22 : en_C M_X2_fillFromFine M_X1_shrink 156 2 := ⟨⟨by decide +kernel, by decide +kernel, by decide +kernel⟩, ⟨by decide, by decide, by decide +kernel⟩, by decide, by decide⟩
theorem q_X2_fillFromFine_25 : decode M_X2_fillFromFine.2.1 25 = .ok (.aload_n 0, 1) ∧ 25 + 1 = 26 := ⟨by decide +kernel, rfl⟩
theorem q_X2_fillFromFine_26 : decode M_X2_fillFromFine.2.1 26 = .ok (.getfield 114, 3) ∧ 26 + 3 = 29 := ⟨by decide +kernel, rfl⟩
theorem q_X2_fillFromFine_29 : decode M_X2_fillFromFine.2.1 29 = .ok (.aload_n 0, 1) ∧ 29 + 1 = 30 := ⟨by decide +kernel, rfl⟩
theorem q_X2_fillFromFine_30 : decode M_X2_fillFromFine.2.1 30 = .ok (.getfield 107, 3) ∧ 30 + 3 = 33 := ⟨by decide +kernel, rfl⟩
theorem q_X2_fillFromFine_33 : decode M_X2_fillFromFine.2.1 33 = .ok (.invokevirtual 139, 3) ∧ 33 + 3 = 36 := ⟨by decide +kernel, rfl⟩
theorem g_X2_fillFromFine_33 : en_C M_X2_fillFromFine M_X1_copy 139 1 := ⟨⟨by decide +kernel, by decide +kernel, by decide +kernel⟩, ⟨by decide, by decide, by decide +kernel⟩, by decide, by decide⟩
theorem q_X2_fillFromFine_36 : decode M_X2_fillFromFine.2.1 36 = .ok (.aload_n 0, 1) ∧ 36 + 1 = 37 := ⟨by decide +kernel, rfl⟩
theorem q_X2_fillFromFine_37 : decode M_X2_fillFromFine.2.1 37 = .ok (.getfield 114, 3) ∧ 37 + 3 = 40 := ⟨by decide +kernel, rfl⟩
theorem q_X2_fillFromFine_40 : decode M_X2_fillFromFine.2.1 40 = .ok (.iconst 1, 1) ∧ 40 + 1 = 41 := ⟨by decide +kernel, rfl⟩
theorem q_X2_fillFromFine_41 : decode M_X2_fillFromFine.2.1 41 = .ok (.invokevirtual 160, 3) ∧ 41 + 3 = 44 := ⟨by decide +kernel, rfl⟩
theorem g_X2_fillFromFine_41 : en_C M_X2_fillFromFine M_X1_grow 160 1 := ⟨⟨by decide +kernel, by decide +kernel, by decide +kernel⟩, ⟨by decide, by decide, by decide +kernel⟩, by decide, by decide⟩
theorem q_X2_fillFromFine_44 : decode M_X2_fillFromFine.2.1 44 = .ok (.return_, 1) ∧ 44 + 1 = 45 := ⟨by decide +kernel, rfl⟩
theorem q_X2_fillSum_0 : decode M_X2_fillSum.2.1 0 = .ok (.aload_n 0, 1) ∧ 0 + 1 = 1 := ⟨by decide +kernel, rfl⟩
theorem q_X2_fillSum_1 : decode M_X2_fillSum.2.1 1 = .ok (.getfield 107, 3) ∧ 1 + 3 = 4 := ⟨by decide +kernel, rfl⟩
theorem q_X2_fillSum_4 : decode M_X2_fillSum.2.1 4 = .ok (.aload_n 1, 1) ∧ 4 + 1 = 5 := ⟨by decide +kernel, rfl⟩
theorem q_X2_fillSum_5 : decode M_X2_fillSum.2.1 5 = .ok (.getfield 107, 3) ∧ 5 + 3 = 8 := ⟨by decide +kernel, rfl⟩
theorem q_X2_fillSum_8 : decode M_X2_fillSum.2.1 8 = .ok (.invokevirtual 139, 3) ∧ 8 + 3 = 11 := ⟨by decide +kernel, rfl⟩
theorem g_X2_fillSum_8 : en_C M_X2_fillSum M_X1_copy 139 1 := ⟨⟨by decide +kernel, by decide +kernel, by decide +kernel⟩, ⟨by decide, by decide, by decide +kernel⟩, by decide, by decide⟩
theorem q_X2_fillSum_11 : decode M_X2_fillSum.2.1 11 = .ok (.aload_n 0, 1) ∧ 11 + 1 = 12 := ⟨by decide +kernel, rfl⟩
theorem q_X2_fillSum_12 : decode M_X2_fillSum.2.1 12 = .ok (.getfield 107, 3) ∧ 12 + 3 = 15 := ⟨by decide +kernel, rfl⟩
theorem q_X2_fillSum_15 : decode M_X2_fillSum.2.1 15 = .ok (.aload_n 2, 1) ∧ 15 + 1 = 16 := ⟨by decide +kernel, rfl⟩
theorem q_X2_fillSum_16 : decode M_X2_fillSum.2.1 16 = .ok (.getfield 107, 3) ∧ 16 + 3 = 19 := ⟨by decide +kernel, rfl⟩
theorem q_X2_fillSum_19 : decode M_X2_fillSum.2.1 19 = .ok (.invokevirtual 163, 3) ∧ 19 + 3 = 22 := ⟨by decide +kernel, rfl⟩
theorem g_X2_fillSum_19 : en_C M_X2_fillSum M_X1_add 163 1 := ⟨⟨by decide +kernel, by decide +kernel, by decide +kernel⟩, ⟨by decide, by decide, by decide +kernel⟩, by decide, by decide⟩
theorem q_X2_fillSum_22 : decode M_X2_fillSum.2.1 22 = .ok (.aload_n 0, 1) ∧ 22 + 1 = 23 := ⟨by decide +kernel, rfl⟩
theorem q_X2_fillSum_23 : decode M_X2_fillSum.2.1 23 = .ok (.getfield 114, 3) ∧ 23 + 3 = 26 := ⟨by decide +kernel, rfl⟩
theorem q_X2_fillSum_26 : decode M_X2_fillSum.2.1 26 = .ok (.aload_n 1, 1) ∧ 26 + 1 = 27 := ⟨by decide +kernel, rfl⟩
theorem q_X2_fillSum_27 : decode M_X2_fillSum.2.1 27 = .ok (.getfield 114, 3) ∧ 27 + 3 = 30 := ⟨by decide +kernel, rfl⟩
theorem q_X2_fillSum_30 : decode M_X2_fillSum.2.1 30 = .ok (.invokevirtual 139, 3) ∧ 30 + 3 = 33 := ⟨by decide +kernel, rfl⟩
theorem g_X2_fillSum_30 : en_C M_X2_fillSum M_X1_copy 139 1 := ⟨⟨by decide +kernel, by decide +kernel, by decide +kernel⟩, ⟨by decide, by decide, by decide +kernel⟩, by decide, by decide⟩
theorem q_X2_fillSum_33 : decode M_X2_fillSum.2.1 33 = .ok (.aload_n 0, 1) ∧ 33 + 1 = 34 := ⟨by decide +kernel, rfl⟩
theorem q_X2_fillSum_34 : decode M_X2_fillSum.2.1 34 = .ok (.getfield 114, 3) ∧ 34 + 3 = 37 := ⟨by decide +kernel, rfl⟩
theorem q_X2_fillSum_37 : decode M_X2_fillSum.2.1 37 = .ok (.aload_n 2, 1) ∧ 37 + 1 = 38 := ⟨by decide +kernel, rfl⟩
theorem q_X2_fillSum_38 : decode M_X2_fillSum.2.1 38 = .ok (.getfield 114, 3) ∧ 38 + 3 = 41 := ⟨by decide +kernel, rfl⟩
theorem q_X2_fillSum_41 : decode M_X2_fillSum.2.1 41 = .ok (.invokevirtual 163, 3) ∧ 41 + 3 = 44 := ⟨by decide +kernel, rfl⟩
theorem g_X2_fillSum_41 : en_C M_X2_fillSum M_X1_add 163 1 := ⟨⟨by decide +kernel, by decide +kernel, by decide +kernel⟩, ⟨by decide, by decide, by decide +kernel⟩, by decide, by decide⟩
theorem q_X2_fillSum_44 : decode M_X2_fillSum.2.1 44 = .ok (.return_, 1) ∧ 44 + 1 = 45 := ⟨by decide +kernel, rfl⟩
theorem q_X2_fillDifference_0 : decode M_X2_fillDifference.2.1 0 = .ok (.aload_n 0, 1) ∧ 0 + 1 = 1 := ⟨by decide +kernel, rfl⟩
theorem q_X2_fillDifference_1 : decode M_X2_fillDifference.2.1 1 = .ok (.getfield 107, 3) ∧ 1 + 3 = 4 := ⟨by decide +kernel, rfl⟩
theorem q_X2_fillDifference_4 : decode M_X2_fillDifference.2.1 4 = .ok (.aload_n 1, 1) ∧ 4 + 1 = 5 := ⟨by decide +kernel, rfl⟩
theorem q_X2_fillDifference_5 : decode M_X2_fillDifference.2.1 5 = .ok (.getfield 107, 3) ∧ 5 + 3 = 8 := ⟨by decide +kernel, rfl⟩
theorem q_X2_fillDifference_8 : decode M_X2_fillDifference.2.1 8 = .ok (.invokevirtual 139, 3) ∧ 8 + 3 = 11 := ⟨by decide +kernel, rfl⟩
theorem g_X2_fillDifference_8 : en_C M_X2_fillDifference M_X1_copy 139 1 := ⟨⟨by decide +kernel, by decide +kernel, by decide +kernel⟩, ⟨by decide, by decide, by decide +kernel⟩, by decide, by decide⟩
theorem q_X2_fillDifference_11 : decode M_X2_fillDifference.2.1 11 = .ok (.aload_n 0, 1) ∧ 11 + 1 = 12 := ⟨by decide +kernel, rfl⟩
theorem q_X2_fillDifference_12 : decode M_X2_fillDifference.2.1 12 = .ok (.getfield 107, 3) ∧ 12 + 3 = 15 := ⟨by decide +kernel, rfl⟩
theorem q_X2_fillDifference_15 : decode M_X2_fillDifference.2.1 15 = .ok (.aload_n 2, 1) ∧ 15 + 1 = 16 := ⟨by decide +kernel, rfl⟩
theorem q_X2_fillDifference_16 : decode M_X2_fillDifference.2.1 16 = .ok (.getfield 114, 3) ∧ 16 + 3 = 19 := ⟨by decide +kernel, rfl⟩
theorem q_X2_fillDifference_19 : decode M_X2_fillDifference.2.1 19 = .ok (.invokevirtual 166, 3) ∧ 19 + 3 = 22 := ⟨by decide +kernel, rfl⟩
theorem g_X2_fillDifference_19 : en_C M_X2_fillDifference M_X1_subtract 166 1 := ⟨⟨by decide +kernel, by decide +kernel, by decide +kernel⟩, ⟨by decide, by decide, by decide +kernel⟩, by decide, by decide⟩
theorem q_X2_fillDifference_22 : decode M_X2_fillDifference.2.1 22 = .ok (.aload_n 0, 1) ∧ 22 + 1 = 23 := ⟨by decide +kernel, rfl⟩
theorem q_X2_fillDifference_23 : decode M_X2_fillDifference.2.1 23 = .ok (.getfield 114, 3) ∧ 23 + 3 = 26 := ⟨by decide +kernel, rfl⟩
theorem q_X2_fillDifference_26 : decode M_X2_fillDifference.2.1 26 = .ok (.aload_n 1, 1) ∧ 26 + 1 = 27 := ⟨by decide +kernel, rfl⟩
theorem q_X2_fillDifference_27 : decode M_X2_fillDifference.2.1 27 = .ok (.getfield 114, 3) ∧ 27 + 3 = 30 := ⟨by decide +kernel, rfl⟩
theorem q_X2_fillDifference_30 : decode M_X2_fillDifference.2.1 30 = .ok (.invokevirtual 139, 3) ∧ 30 + 3 = 33 := ⟨by decide +kernel, rfl⟩
theorem g_X2_fillDifference_30 : en_C M_X2_fillDifference M_X1_copy 139 1 := ⟨⟨by decide +kernel, by decide +kernel, by decide +kernel⟩, ⟨by decide, by decide, by decide +kernel⟩, by decide, by decide⟩
theorem q_X2_fillDifference_33 : decode M_X2_fillDifference.2.1 33 = .ok (.aload_n 0, 1) ∧ 33 + 1 = 34 := ⟨by decide +kernel, rfl⟩
theorem q_X2_fillDifference_34 : decode M_X2_fillDifference.2.1 34 = .ok (.getfield 114, 3) ∧ 34 + 3 = 37 := ⟨by decide +kernel, rfl⟩
theorem q_X2_fillDifference_37 : decode M_X2_fillDifference.2.1 37 = .ok (.aload_n 2, 1) ∧ 37 + 1 = 38 := ⟨by decide +kernel, rfl⟩
theorem q_X2_fillDifference_38 : decode M_X2_fillDifference.2.1 38 = .ok (.getfield 107, 3) ∧ 38 + 3 = 41 := ⟨by decide +kernel, rfl⟩
theorem q_X2_fillDifference_41 : decode M_X2_fillDifference.2.1 41 = .ok (.invokevirtual 166, 3) ∧ 41 + 3 = 44 := ⟨by decide +kernel, rfl⟩
theorem g_X2_fillDifference_41 : en_C M_X2_fillDifference M_X1_subtract 166 1 := ⟨⟨by decide +kernel, by decide +kernel, by decide +kernel⟩, ⟨by decide, by decide, by decide +kernel⟩, by decide, by decide⟩
theorem q_X2_fillDifference_44 : decode M_X2_fillDifference.2.1 44 = .ok (.return_, 1) ∧ 44 + 1 = 45 := ⟨by decide +kernel, rfl⟩
theorem q_X2_fillRoot_0 : decode M_X2_fillRoot.2.1 0 = .ok (.aload_n 2, 1) ∧ 0 + 1 = 1 := ⟨by decide +kernel, rfl⟩
theorem q_X2_fillRoot_1 : decode M_X2_fillRoot.2.1 1 = .ok (.getfield 114, 3) ∧ 1 + 3 = 4 := ⟨by decide +kernel, rfl⟩
theorem q_X2_fillRoot_4 : decode M_X2_fillRoot.2.1 4 = .ok (.getfield 169, 3) ∧ 4 + 3 = 7 := ⟨by decide +kernel, rfl⟩
theorem f_RX2_169 : en_F RX2 169 1 0 := ⟨RX1, TX1, 3, rfl, by decide, rfl, by decide +kernel, by decide +kernel⟩
theorem q_X2_fillRoot_7 : decode M_X2_fillRoot.2.1 7 = .ok (.ifCond .ge 9, 3) ∧ 7 + 3 = 10 ∧ ((7 : Nat) : Int) + 9 = ((16 : Nat) : Int) := ⟨by decide +kernel, rfl, rfl⟩
theorem q_X2_fillRoot_10 : decode M_X2_fillRoot.2.1 10 = .ok (.aload_n 1, 1) ∧ 10 + 1 = 11 := ⟨by decide +kernel, rfl⟩
theorem q_X2_fillRoot_11 : decode M_X2_fillRoot.2.1 11 = .ok (.iconst 1, 1) ∧ 11 + 1 = 12 := ⟨by decide +kernel, rfl⟩
theorem q_X2_fillRoot_12 : decode M_X2_fillRoot.2.1 12 = .ok (.putfield 75, 3) ∧ 12 + 3 = 15 := ⟨by decide +kernel, rfl⟩
theorem q_X2_fillRoot_15 : decode M_X2_fillRoot.2.1 15 = .ok (.return_, 1) ∧ 15 + 1 = 16 := ⟨by decide +kernel, rfl⟩
theorem q_X2_fillRoot_16 : decode M_X2_fillRoot.2.1 16 = .ok (.aload_n 0, 1) ∧ 16 + 1 = 17 := ⟨by decide +kernel, rfl⟩
theorem q_X2_fillRoot_17 : decode M_X2_fillRoot.2.1 17 = .ok (.getfield 35, 3) ∧ 17 + 3 = 20 := ⟨by decide +kernel, rfl⟩
theorem q_X2_fillRoot_20 : decode M_X2_fillRoot.2.1 20 = .ok (.aload_n 2, 1) ∧ 20 + 1 = 21 := ⟨by decide +kernel, rfl⟩
theorem q_X2_fillRoot_21 : decode M_X2_fillRoot.2.1 21 = .ok (.getfield 107, 3) ∧ 21 + 3 = 24 := ⟨by decide +kernel, rfl⟩
theorem q_X2_fillRoot_24 : decode M_X2_fillRoot.2.1 24 = .ok (.invokevirtual 139, 3) ∧ 24 + 3 = 27 := ⟨by decide +kernel, rfl⟩
theorem g_X2_fillRoot_24 : en_C M_X2_fillRoot M_X1_copy 139 1 := ⟨⟨by decide +kernel, by decide +kernel, by decide +kernel⟩, ⟨by decide, by decide, by decide +kernel⟩, by decide, by decide⟩
theorem q_X2_fillRoot_27 : decode M_X2_fillRoot.2.1 27 = .ok (.aload_n 0, 1) ∧ 27 + 1 = 28 := ⟨by decide +kernel, rfl⟩
theorem q_X2_fillRoot_28 : decode M_X2_fillRoot.2.1 28 = .ok (.getfield 35, 3) ∧ 28 + 3 = 31 := ⟨by decide +kernel, rfl⟩
theorem q_X2_fillRoot_31 : decode M_X2_fillRoot.2.1 31 = .ok (.iload_n 3, 1) ∧ 31 + 1 = 32 := ⟨by decide +kernel, rfl⟩
theorem q_X2_fillRoot_32 : decode M_X2_fillRoot.2.1 32 = .ok (.invokevirtual 135, 3) ∧ 32 + 3 = 35 := ⟨by decide +kernel, rfl⟩
theorem g_X2_fillRoot_32 : en_C M_X2_fillRoot M_X1_shiftUp 135 1 := ⟨⟨by decide +kernel, by decide +kernel, by decide +kernel⟩, ⟨by decide, by decide, by decide +kernel⟩, by decide, by decide⟩
theorem q_X2_fillRoot_35 : decode M_X2_fillRoot.2.1 35 = .ok (.aload_n 0, 1) ∧ 35 + 1 = 36 := ⟨by decide +kernel, rfl⟩
theorem q_X2_fillRoot_36 : decode M_X2_fillRoot.2.1 36 = .ok (.getfield 12, 3) ∧ 36 + 3 = 39 := ⟨by decide +kernel, rfl⟩
theorem f_RX2_12 : en_F RX2 12 2 0 := ⟨RX2, TX2, 7, rfl, by decide, rfl, by decide +kernel, by decide +kernel⟩
theorem q_X2_fillRoot_39 : decode M_X2_fillRoot.2.1 39 = .ok (.aload_n 0, 1) ∧ 39 + 1 = 40 := ⟨by decide +kernel, rfl⟩
theorem q_X2_fillRoot_40 : decode M_X2_fillRoot.2.1 40 = .ok (.getfield 35, 3) ∧ 40 + 3 = 43 := ⟨by decide +kernel, rfl⟩
theorem q_X2_fillRoot_43 : decode M_X2_fillRoot.2.1 43 = .ok (.aload_n 1, 1) ∧ 43 + 1 = 44 := ⟨by decide +kernel, rfl⟩
theorem q_X2_fillRoot_44 : decode M_X2_fillRoot.2.1 44 = .ok (.getfield 107, 3) ∧ 44 + 3 = 47 := ⟨by decide +kernel, rfl⟩
theorem q_X2_fillRoot_47 : decode M_X2_fillRoot.2.1 47 = .ok (.invokevirtual 172, 3) ∧ 47 + 3 = 50 := ⟨by decide +kernel, rfl⟩
theorem g_X2_fillRoot_47 : en_C M_X2_fillRoot M_X0_squareRoot 172 2 := ⟨⟨by decide +kernel, by decide +kernel, by decide +kernel⟩, ⟨by decide, by decide, by decide +kernel⟩, by decide, by decide⟩
theorem w_X0_squareRoot : Cond.instanceMethod M_X0_squareRoot.1 ∈ en_tbl ∧ Cond.selects M_X0_squareRoot.1.cls M_X0_squareRoot.1 M_X0_squareRoot.1 ∈ en_tbl := ⟨by decide +kernel, by decide +kernel⟩
theorem q_X2_fillRoot_50 : decode M_X2_fillRoot.2.1 50 = .ok (.istore 4, 2) ∧ 50 + 2 = 52 := ⟨by decide +kernel, rfl⟩
theorem q_X2_fillRoot_52 : decode M_X2_fillRoot.2.1 52 = .ok (.aload_n 1, 1) ∧ 52 + 1 = 53 := ⟨by decide +kernel, rfl⟩
theorem q_X2_fillRoot_53 : decode M_X2_fillRoot.2.1 53 = .ok (.getfield 114, 3) ∧ 53 + 3 = 56 := ⟨by decide +kernel, rfl⟩
theorem q_X2_fillRoot_56 : decode M_X2_fillRoot.2.1 56 = .ok (.aload_n 1, 1) ∧ 56 + 1 = 57 := ⟨by decide +kernel, rfl⟩
theorem q_X2_fillRoot_57 : decode M_X2_fillRoot.2.1 57 = .ok (.getfield 107, 3) ∧ 57 + 3 = 60 := ⟨by decide +kernel, rfl⟩
theorem q_X2_fillRoot_60 : decode M_X2_fillRoot.2.1 60 = .ok (.invokevirtual 139, 3) ∧ 60 + 3 = 63 := ⟨by decide +kernel, rfl⟩
theorem g_X2_fillRoot_60 : en_C M_X2_fillRoot M_X1_copy 139 1 := ⟨⟨by decide +kernel, by decide +kernel, by decide +kernel⟩, ⟨by decide, by decide, by decide +kernel⟩, by decide, by decide⟩
theorem q_X2_fillRoot_63 : decode M_X2_fillRoot.2.1 63 = .ok (.aload_n 2, 1) ∧ 63 + 1 = 64 := ⟨by decide +kernel, rfl⟩
theorem q_X2_fillRoot_64 : decode M_X2_fillRoot.2.1 64 = .ok (.invokestatic 176, 3) ∧ 64 + 3 = 67 := ⟨by decide +kernel, rfl⟩
theorem g_X2_fillRoot_64 : en_C M_X2_fillRoot M_X2_isExact 176 1 := ⟨⟨by decide +kernel, by decide +kernel, by decide +kernel⟩, ⟨by decide, by decide, by decide +kernel⟩, by decide, by decide⟩
theorem w_X2_isExact : Cond.static M_X2_isExact.1 ∈ en_tbl := by decide +kernel
theorem q_X2_fillRoot_67 : decode M_X2_fillRoot.2.1 67 = .ok (.ifCond .ne 39, 3) ∧ 67 + 3 = 70 ∧ ((67 : Nat) : Int) + 39 = ((106 : Nat) : Int) := ⟨by decide +kernel, rfl, rfl⟩
theorem q_X2_fillRoot_70 : decode M_X2_fillRoot.2.1 70 = .ok (.aload_n 0, 1) ∧ 70 + 1 = 71 := ⟨by decide +kernel, rfl⟩
theorem q_X2_fillRoot_71 : decode M_X2_fillRoot.2.1 71 = .ok (.getfield 35, 3) ∧ 71 + 3 = 74 := ⟨by decide +kernel, rfl⟩
theorem q_X2_fillRoot_74 : decode M_X2_fillRoot.2.1 74 = .ok (.aload_n 2, 1) ∧ 74 + 1 = 75 := ⟨by decide +kernel, rfl⟩
theorem q_X2_fillRoot_75 : decode M_X2_fillRoot.2.1 75 = .ok (.getfield 114, 3) ∧ 75 + 3 = 78 := ⟨by decide +kernel, rfl⟩
theorem q_X2_fillRoot_78 : decode M_X2_fillRoot.2.1 78 = .ok (.invokevirtual 139, 3) ∧ 78 + 3 = 81 := ⟨by decide +kernel, rfl⟩
theorem g_X2_fillRoot_78 : en_C M_X2_fillRoot M_X1_copy 139 1 := ⟨⟨by decide +kernel, by decide +kernel, by decide +kernel⟩, ⟨by decide, by decide, by decide +kernel⟩, by decide, by decide⟩
theorem q_X2_fillRoot_81 : decode M_X2_fillRoot.2.1 81 = .ok (.aload_n 0, 1) ∧ 81 + 1 = 82 := ⟨by decide +kernel, rfl⟩
theorem q_X2_fillRoot_82 : decode M_X2_fillRoot.2.1 82 = .ok (.getfield 35, 3) ∧ 82 + 3 = 85 := ⟨by decide +kernel, rfl⟩
theorem q_X2_fillRoot_85 : decode M_X2_fillRoot.2.1 85 = .ok (.iload_n 3, 1) ∧ 85 + 1 = 86 := ⟨by decide +kernel, rfl⟩
theorem q_X2_fillRoot_86 : decode M_X2_fillRoot.2.1 86 = .ok (.invokevirtual 135, 3) ∧ 86 + 3 = 89 := ⟨by decide +kernel, rfl⟩
theorem g_X2_fillRoot_86 : en_C M_X2_fillRoot M_X1_shiftUp 135 1 := ⟨⟨by decide +kernel, by decide +kernel, by decide +kernel⟩, ⟨by decide, by decide, by decide +kernel⟩, by decide, by decide⟩
theorem q_X2_fillRoot_89 : decode M_X2_fillRoot.2.1 89 = .ok (.aload_n 0, 1) ∧ 89 + 1 = 90 := ⟨by decide +kernel, rfl⟩
theorem q_X2_fillRoot_90 : decode M_X2_fillRoot.2.1 90 = .ok (.getfield 12, 3) ∧ 90 + 3 = 93 := ⟨by decide +kernel, rfl⟩
theorem q_X2_fillRoot_93 : decode M_X2_fillRoot.2.1 93 = .ok (.aload_n 0, 1) ∧ 93 + 1 = 94 := ⟨by decide +kernel, rfl⟩
theorem q_X2_fillRoot_94 : decode M_X2_fillRoot.2.1 94 = .ok (.getfield 35, 3) ∧ 94 + 3 = 97 := ⟨by decide +kernel, rfl⟩
theorem q_X2_fillRoot_97 : decode M_X2_fillRoot.2.1 97 = .ok (.aload_n 1, 1) ∧ 97 + 1 = 98 := ⟨by decide +kernel, rfl⟩
theorem q_X2_fillRoot_98 : decode M_X2_fillRoot.2.1 98 = .ok (.getfield 114, 3) ∧ 98 + 3 = 101 := ⟨by decide +kernel, rfl⟩
theorem q_X2_fillRoot_101 : decode M_X2_fillRoot.2.1 101 = .ok (.invokevirtual 172, 3) ∧ 101 + 3 = 104 := ⟨by decide +kernel, rfl⟩
theorem g_X2_fillRoot_101 : en_C M_X2_fillRoot M_X0_squareRoot 172 2 := ⟨⟨by decide +kernel, by decide +kernel, by decide +kernel⟩, ⟨by decide, by decide, by decide +kernel⟩, by decide, by decide⟩
theorem q_X2_fillRoot_104 : decode M_X2_fillRoot.2.1 104 = .ok (.istore 4, 2) ∧ 104 + 2 = 106 := ⟨by decide +kernel, rfl⟩
theorem q_X2_fillRoot_106 : decode M_X2_fillRoot.2.1 106 = .ok (.iload 4, 2) ∧ 106 + 2 = 108 := ⟨by decide +kernel, rfl⟩
theorem q_X2_fillRoot_108 : decode M_X2_fillRoot.2.1 108 = .ok (.ifCond .eq 11, 3) ∧ 108 + 3 = 111 ∧ ((108 : Nat) : Int) + 11 = ((119 : Nat) : Int) := ⟨by decide +kernel, rfl, rfl⟩
theorem q_X2_fillRoot_111 : decode M_X2_fillRoot.2.1 111 = .ok (.aload_n 1, 1) ∧ 111 + 1 = 112 := ⟨by decide +kernel, rfl⟩
theorem q_X2_fillRoot_112 : decode M_X2_fillRoot.2.1 112 = .ok (.getfield 114, 3) ∧ 112 + 3 = 115 := ⟨by decide +kernel, rfl⟩
theorem q_X2_fillRoot_115 : decode M_X2_fillRoot.2.1 115 = .ok (.iconst 1, 1) ∧ 115 + 1 = 116 := ⟨by decide +kernel, rfl⟩
theorem q_X2_fillRoot_116 : decode M_X2_fillRoot.2.1 116 = .ok (.invokevirtual 160, 3) ∧ 116 + 3 = 119 := ⟨by decide +kernel, rfl⟩
theorem g_X2_fillRoot_116 : en_C M_X2_fillRoot M_X1_grow 160 1 := ⟨⟨by decide +kernel, by decide +kernel, by decide +kernel⟩, ⟨by decide, by decide, by decide +kernel⟩, by decide, by decide⟩
theorem q_X2_fillRoot_119 : decode M_X2_fillRoot.2.1 119 = .ok (.return_, 1) ∧ 119 + 1 = 120 := ⟨by decide +kernel, rfl⟩
theorem q_X2_fillCorners_0 : decode M_X2_fillCorners.2.1 0 = .ok (.aload_n 1, 1) ∧ 0 + 1 = 1 := ⟨by decide +kernel, rfl⟩
theorem q_X2_fillCorners_1 : decode M_X2_fillCorners.2.1 1 = .ok (.getfield 68, 3) ∧ 1 + 3 = 4 := ⟨by decide +kernel, rfl⟩
theorem q_X2_fillCorners_4 : decode M_X2_fillCorners.2.1 4 = .ok (.bipush 8, 2) ∧ 4 + 2 = 6 := ⟨by decide +kernel, rfl⟩
theorem q_X2_fillCorners_6 : decode M_X2_fillCorners.2.1 6 = .ok (.if_icmp .eq 7, 3) ∧ 6 + 3 = 9 ∧ ((6 : Nat) : Int) + 7 = ((13 : Nat) : Int) := ⟨by decide +kernel, rfl, rfl⟩
theorem q_X2_fillCorners_9 : decode M_X2_fillCorners.2.1 9 = .ok (.iconst 1, 1) ∧ 9 + 1 = 10 := ⟨by decide +kernel, rfl⟩
theorem q_X2_fillCorners_10 : decode M_X2_fillCorners.2.1 10 = .ok (.goto 4, 3) ∧ 10 + 3 = 13 ∧ ((10 : Nat) : Int) + 4 = ((14 : Nat) : Int) := ⟨by decide +kernel, rfl, rfl⟩
theorem q_X2_fillCorners_13 : decode M_X2_fillCorners.2.1 13 = .ok (.iconst 0, 1) ∧ 13 + 1 = 14 := ⟨by decide +kernel, rfl⟩
theorem q_X2_fillCorners_14 : decode M_X2_fillCorners.2.1 14 = .ok (.istore 5, 2) ∧ 14 + 2 = 16 := ⟨by decide +kernel, rfl⟩
theorem q_X2_fillCorners_16 : decode M_X2_fillCorners.2.1 16 = .ok (.iload 5, 2) ∧ 16 + 2 = 18 := ⟨by decide +kernel, rfl⟩
theorem q_X2_fillCorners_18 : decode M_X2_fillCorners.2.1 18 = .ok (.ifCond .eq 29, 3) ∧ 18 + 3 = 21 ∧ ((18 : Nat) : Int) + 29 = ((47 : Nat) : Int) := ⟨by decide +kernel, rfl, rfl⟩
theorem q_X2_fillCorners_21 : decode M_X2_fillCorners.2.1 21 = .ok (.aload_n 3, 1) ∧ 21 + 1 = 22 := ⟨by decide +kernel, rfl⟩
theorem q_X2_fillCorners_22 : decode M_X2_fillCorners.2.1 22 = .ok (.getfield 107, 3) ∧ 22 + 3 = 25 := ⟨by decide +kernel, rfl⟩
theorem q_X2_fillCorners_25 : decode M_X2_fillCorners.2.1 25 = .ok (.getfield 169, 3) ∧ 25 + 3 = 28 := ⟨by decide +kernel, rfl⟩
theorem q_X2_fillCorners_28 : decode M_X2_fillCorners.2.1 28 = .ok (.ifCond .gt 19, 3) ∧ 28 + 3 = 31 ∧ ((28 : Nat) : Int) + 19 = ((47 : Nat) : Int) := ⟨by decide +kernel, rfl, rfl⟩
theorem q_X2_fillCorners_31 : decode M_X2_fillCorners.2.1 31 = .ok (.aload_n 3, 1) ∧ 31 + 1 = 32 := ⟨by decide +kernel, rfl⟩
theorem q_X2_fillCorners_32 : decode M_X2_fillCorners.2.1 32 = .ok (.getfield 114, 3) ∧ 32 + 3 = 35 := ⟨by decide +kernel, rfl⟩
theorem q_X2_fillCorners_35 : decode M_X2_fillCorners.2.1 35 = .ok (.getfield 169, 3) ∧ 35 + 3 = 38 := ⟨by decide +kernel, rfl⟩
theorem q_X2_fillCorners_38 : decode M_X2_fillCorners.2.1 38 = .ok (.ifCond .lt 9, 3) ∧ 38 + 3 = 41 ∧ ((38 : Nat) : Int) + 9 = ((47 : Nat) : Int) := ⟨by decide +kernel, rfl, rfl⟩
theorem q_X2_fillCorners_41 : decode M_X2_fillCorners.2.1 41 = .ok (.aload_n 1, 1) ∧ 41 + 1 = 42 := ⟨by decide +kernel, rfl⟩
theorem q_X2_fillCorners_42 : decode M_X2_fillCorners.2.1 42 = .ok (.iconst 1, 1) ∧ 42 + 1 = 43 := ⟨by decide +kernel, rfl⟩
theorem q_X2_fillCorners_43 : decode M_X2_fillCorners.2.1 43 = .ok (.putfield 75, 3) ∧ 43 + 3 = 46 := ⟨by decide +kernel, rfl⟩
theorem q_X2_fillCorners_46 : decode M_X2_fillCorners.2.1 46 = .ok (.return_, 1) ∧ 46 + 1 = 47 := ⟨by decide +kernel, rfl⟩
theorem q_X2_fillCorners_47 : decode M_X2_fillCorners.2.1 47 = .ok (.aload_n 2, 1) ∧ 47 + 1 = 48 := ⟨by decide +kernel, rfl⟩
theorem q_X2_fillCorners_48 : decode M_X2_fillCorners.2.1 48 = .ok (.invokestatic 176, 3) ∧ 48 + 3 = 51 := ⟨by decide +kernel, rfl⟩
theorem g_X2_fillCorners_48 : en_C M_X2_fillCorners M_X2_isExact 176 1 := ⟨⟨by decide +kernel, by decide +kernel, by decide +kernel⟩, ⟨by decide, by decide, by decide +kernel⟩, by decide, by decide⟩
theorem q_X2_fillCorners_51 : decode M_X2_fillCorners.2.1 51 = .ok (.ifCond .eq 7, 3) ∧ 51 + 3 = 54 ∧ ((51 : Nat) : Int) + 7 = ((58 : Nat) : Int) := ⟨by decide +kernel, rfl, rfl⟩
theorem q_X2_fillCorners_54 : decode M_X2_fillCorners.2.1 54 = .ok (.iconst 1, 1) ∧ 54 + 1 = 55 := ⟨by decide +kernel, rfl⟩
theorem q_X2_fillCorners_55 : decode M_X2_fillCorners.2.1 55 = .ok (.goto 4, 3) ∧ 55 + 3 = 58 ∧ ((55 : Nat) : Int) + 4 = ((59 : Nat) : Int) := ⟨by decide +kernel, rfl, rfl⟩
theorem q_X2_fillCorners_58 : decode M_X2_fillCorners.2.1 58 = .ok (.iconst 2, 1) ∧ 58 + 1 = 59 := ⟨by decide +kernel, rfl⟩
theorem q_X2_fillCorners_59 : decode M_X2_fillCorners.2.1 59 = .ok (.istore 6, 2) ∧ 59 + 2 = 61 := ⟨by decide +kernel, rfl⟩
theorem q_X2_fillCorners_61 : decode M_X2_fillCorners.2.1 61 = .ok (.aload_n 3, 1) ∧ 61 + 1 = 62 := ⟨by decide +kernel, rfl⟩
theorem q_X2_fillCorners_62 : decode M_X2_fillCorners.2.1 62 = .ok (.invokestatic 176, 3) ∧ 62 + 3 = 65 := ⟨by decide +kernel, rfl⟩
theorem g_X2_fillCorners_62 : en_C M_X2_fillCorners M_X2_isExact 176 1 := ⟨⟨by decide +kernel, by decide +kernel, by decide +kernel⟩, ⟨by decide, by decide, by decide +kernel⟩, by decide, by decide⟩
theorem q_X2_fillCorners_65 : decode M_X2_fillCorners.2.1 65 = .ok (.ifCond .eq 7, 3) ∧ 65 + 3 = 68 ∧ ((65 : Nat) : Int) + 7 = ((72 : Nat) : Int) := ⟨by decide +kernel, rfl, rfl⟩
theorem q_X2_fillCorners_68 : decode M_X2_fillCorners.2.1 68 = .ok (.iconst 1, 1) ∧ 68 + 1 = 69 := ⟨by decide +kernel, rfl⟩
theorem q_X2_fillCorners_69 : decode M_X2_fillCorners.2.1 69 = .ok (.goto 4, 3) ∧ 69 + 3 = 72 ∧ ((69 : Nat) : Int) + 4 = ((73 : Nat) : Int) := ⟨by decide +kernel, rfl, rfl⟩
theorem q_X2_fillCorners_72 : decode M_X2_fillCorners.2.1 72 = .ok (.iconst 2, 1) ∧ 72 + 1 = 73 := ⟨by decide +kernel, rfl⟩
theorem q_X2_fillCorners_73 : decode M_X2_fillCorners.2.1 73 = .ok (.istore 7, 2) ∧ 73 + 2 = 75 := ⟨by decide +kernel, rfl⟩
theorem q_X2_fillCorners_75 : decode M_X2_fillCorners.2.1 75 = .ok (.iconst 0, 1) ∧ 75 + 1 = 76 := ⟨by decide +kernel, rfl⟩
theorem q_X2_fillCorners_76 : decode M_X2_fillCorners.2.1 76 = .ok (.istore 8, 2) ∧ 76 + 2 = 78 := ⟨by decide +kernel, rfl⟩
theorem q_X2_fillCorners_78 : decode M_X2_fillCorners.2.1 78 = .ok (.iload 8, 2) ∧ 78 + 2 = 80 := ⟨by decide +kernel, rfl⟩
theorem q_X2_fillCorners_80 : decode M_X2_fillCorners.2.1 80 = .ok (.iload 6, 2) ∧ 80 + 2 = 82 := ⟨by decide +kernel, rfl⟩
theorem q_X2_fillCorners_82 : decode M_X2_fillCorners.2.1 82 = .ok (.if_icmp .ge 173, 3) ∧ 82 + 3 = 85 ∧ ((82 : Nat) : Int) + 173 = ((255 : Nat) : Int) := ⟨by decide +kernel, rfl, rfl⟩
theorem q_X2_fillCorners_85 : decode M_X2_fillCorners.2.1 85 = .ok (.iconst 0, 1) ∧ 85 + 1 = 86 := ⟨by decide +kernel, rfl⟩
theorem q_X2_fillCorners_86 : decode M_X2_fillCorners.2.1 86 = .ok (.istore 9, 2) ∧ 86 + 2 = 88 := ⟨by decide +kernel, rfl⟩
theorem q_X2_fillCorners_88 : decode M_X2_fillCorners.2.1 88 = .ok (.iload 9, 2) ∧ 88 + 2 = 90 := ⟨by decide +kernel, rfl⟩
theorem q_X2_fillCorners_90 : decode M_X2_fillCorners.2.1 90 = .ok (.iload 7, 2) ∧ 90 + 2 = 92 := ⟨by decide +kernel, rfl⟩
theorem q_X2_fillCorners_92 : decode M_X2_fillCorners.2.1 92 = .ok (.if_icmp .ge 157, 3) ∧ 92 + 3 = 95 ∧ ((92 : Nat) : Int) + 157 = ((249 : Nat) : Int) := ⟨by decide +kernel, rfl, rfl⟩
theorem q_X2_fillCorners_95 : decode M_X2_fillCorners.2.1 95 = .ok (.iload 8, 2) ∧ 95 + 2 = 97 := ⟨by decide +kernel, rfl⟩
theorem q_X2_fillCorners_97 : decode M_X2_fillCorners.2.1 97 = .ok (.ifCond .ne 10, 3) ∧ 97 + 3 = 100 ∧ ((97 : Nat) : Int) + 10 = ((107 : Nat) : Int) := ⟨by decide +kernel, rfl, rfl⟩
theorem q_X2_fillCorners_100 : decode M_X2_fillCorners.2.1 100 = .ok (.aload_n 2, 1) ∧ 100 + 1 = 101 := ⟨by decide +kernel, rfl⟩
theorem q_X2_fillCorners_101 : decode M_X2_fillCorners.2.1 101 = .ok (.getfield 107, 3) ∧ 101 + 3 = 104 := ⟨by decide +kernel, rfl⟩
theorem q_X2_fillCorners_104 : decode M_X2_fillCorners.2.1 104 = .ok (.goto 7, 3) ∧ 104 + 3 = 107 ∧ ((104 : Nat) : Int) + 7 = ((111 : Nat) : Int) := ⟨by decide +kernel, rfl, rfl⟩
theorem q_X2_fillCorners_107 : decode M_X2_fillCorners.2.1 107 = .ok (.aload_n 2, 1) ∧ 107 + 1 = 108 := ⟨by decide +kernel, rfl⟩
theorem q_X2_fillCorners_108 : decode M_X2_fillCorners.2.1 108 = .ok (.getfield 114, 3) ∧ 108 + 3 = 111 := ⟨by decide +kernel, rfl⟩
theorem q_X2_fillCorners_111 : decode M_X2_fillCorners.2.1 111 = .ok (.astore 10, 2) ∧ 111 + 2 = 113 := ⟨by decide +kernel, rfl⟩
theorem q_X2_fillCorners_113 : decode M_X2_fillCorners.2.1 113 = .ok (.iload 9, 2) ∧ 113 + 2 = 115 := ⟨by decide +kernel, rfl⟩
theorem q_X2_fillCorners_115 : decode M_X2_fillCorners.2.1 115 = .ok (.ifCond .ne 10, 3) ∧ 115 + 3 = 118 ∧ ((115 : Nat) : Int) + 10 = ((125 : Nat) : Int) := ⟨by decide +kernel, rfl, rfl⟩
theorem q_X2_fillCorners_118 : decode M_X2_fillCorners.2.1 118 = .ok (.aload_n 3, 1) ∧ 118 + 1 = 119 := ⟨by decide +kernel, rfl⟩
theorem q_X2_fillCorners_119 : decode M_X2_fillCorners.2.1 119 = .ok (.getfield 107, 3) ∧ 119 + 3 = 122 := ⟨by decide +kernel, rfl⟩
theorem q_X2_fillCorners_122 : decode M_X2_fillCorners.2.1 122 = .ok (.goto 7, 3) ∧ 122 + 3 = 125 ∧ ((122 : Nat) : Int) + 7 = ((129 : Nat) : Int) := ⟨by decide +kernel, rfl, rfl⟩
theorem q_X2_fillCorners_125 : decode M_X2_fillCorners.2.1 125 = .ok (.aload_n 3, 1) ∧ 125 + 1 = 126 := ⟨by decide +kernel, rfl⟩
theorem q_X2_fillCorners_126 : decode M_X2_fillCorners.2.1 126 = .ok (.getfield 114, 3) ∧ 126 + 3 = 129 := ⟨by decide +kernel, rfl⟩
theorem q_X2_fillCorners_129 : decode M_X2_fillCorners.2.1 129 = .ok (.astore 11, 2) ∧ 129 + 2 = 131 := ⟨by decide +kernel, rfl⟩
theorem q_X2_fillCorners_131 : decode M_X2_fillCorners.2.1 131 = .ok (.iload 5, 2) ∧ 131 + 2 = 133 := ⟨by decide +kernel, rfl⟩
theorem q_X2_fillCorners_133 : decode M_X2_fillCorners.2.1 133 = .ok (.ifCond .eq 34, 3) ∧ 133 + 3 = 136 ∧ ((133 : Nat) : Int) + 34 = ((167 : Nat) : Int) := ⟨by decide +kernel, rfl, rfl⟩
theorem q_X2_fillCorners_136 : decode M_X2_fillCorners.2.1 136 = .ok (.aload_n 0, 1) ∧ 136 + 1 = 137 := ⟨by decide +kernel, rfl⟩
theorem q_X2_fillCorners_137 : decode M_X2_fillCorners.2.1 137 = .ok (.getfield 35, 3) ∧ 137 + 3 = 140 := ⟨by decide +kernel, rfl⟩
theorem q_X2_fillCorners_140 : decode M_X2_fillCorners.2.1 140 = .ok (.aload 10, 2) ∧ 140 + 2 = 142 := ⟨by decide +kernel, rfl⟩
theorem q_X2_fillCorners_142 : decode M_X2_fillCorners.2.1 142 = .ok (.invokevirtual 139, 3) ∧ 142 + 3 = 145 := ⟨by decide +kernel, rfl⟩
theorem g_X2_fillCorners_142 : en_C M_X2_fillCorners M_X1_copy 139 1 := ⟨⟨by decide +kernel, by decide +kernel, by decide +kernel⟩, ⟨by decide, by decide, by decide +kernel⟩, by decide, by decide⟩
theorem q_X2_fillCorners_145 : decode M_X2_fillCorners.2.1 145 = .ok (.aload_n 0, 1) ∧ 145 + 1 = 146 := ⟨by decide +kernel, rfl⟩
theorem q_X2_fillCorners_146 : decode M_X2_fillCorners.2.1 146 = .ok (.getfield 35, 3) ∧ 146 + 3 = 149 := ⟨by decide +kernel, rfl⟩
theorem q_X2_fillCorners_149 : decode M_X2_fillCorners.2.1 149 = .ok (.iload 4, 2) ∧ 149 + 2 = 151 := ⟨by decide +kernel, rfl⟩
theorem q_X2_fillCorners_151 : decode M_X2_fillCorners.2.1 151 = .ok (.invokevirtual 135, 3) ∧ 151 + 3 = 154 := ⟨by decide +kernel, rfl⟩
theorem g_X2_fillCorners_151 : en_C M_X2_fillCorners M_X1_shiftUp 135 1 := ⟨⟨by decide +kernel, by decide +kernel, by decide +kernel⟩, ⟨by decide, by decide, by decide +kernel⟩, by decide, by decide⟩
theorem q_X2_fillCorners_154 : decode M_X2_fillCorners.2.1 154 = .ok (.aload_n 0, 1) ∧ 154 + 1 = 155 := ⟨by decide +kernel, rfl⟩
theorem q_X2_fillCorners_155 : decode M_X2_fillCorners.2.1 155 = .ok (.aload_n 0, 1) ∧ 155 + 1 = 156 := ⟨by decide +kernel, rfl⟩
theorem q_X2_fillCorners_156 : decode M_X2_fillCorners.2.1 156 = .ok (.getfield 35, 3) ∧ 156 + 3 = 159 := ⟨by decide +kernel, rfl⟩
theorem q_X2_fillCorners_159 : decode M_X2_fillCorners.2.1 159 = .ok (.aload 11, 2) ∧ 159 + 2 = 161 := ⟨by decide +kernel, rfl⟩
theorem q_X2_fillCorners_161 : decode M_X2_fillCorners.2.1 161 = .ok (.invokevirtual 146, 3) ∧ 161 + 3 = 164 := ⟨by decide +kernel, rfl⟩
theorem g_X2_fillCorners_161 : en_C M_X2_fillCorners M_X2_divideBothWays 146 2 := ⟨⟨by decide +kernel, by decide +kernel, by decide +kernel⟩, ⟨by decide, by decide, by decide +kernel⟩, by decide, by decide⟩
theorem q_X2_fillCorners_164 : decode M_X2_fillCorners.2.1 164 = .ok (.goto 13, 3) ∧ 164 + 3 = 167 ∧ ((164 : Nat) : Int) + 13 = ((177 : Nat) : Int) := ⟨by decide +kernel, rfl, rfl⟩
theorem q_X2_fillCorners_167 : decode M_X2_fillCorners.2.1 167 = .ok (.aload_n 0, 1) ∧ 167 + 1 = 168 := ⟨by decide +kernel, rfl⟩
theorem q_X2_fillCorners_168 : decode M_X2_fillCorners.2.1 168 = .ok (.aload 10, 2) ∧ 168 + 2 = 170 := ⟨by decide +kernel, rfl⟩
theorem q_X2_fillCorners_170 : decode M_X2_fillCorners.2.1 170 = .ok (.aload 11, 2) ∧ 170 + 2 = 172 := ⟨by decide +kernel, rfl⟩
theorem q_X2_fillCorners_172 : decode M_X2_fillCorners.2.1 172 = .ok (.iload 4, 2) ∧ 172 + 2 = 174 := ⟨by decide +kernel, rfl⟩
theorem q_X2_fillCorners_174 : decode M_X2_fillCorners.2.1 174 = .ok (.invokevirtual 179, 3) ∧ 174 + 3 = 177 := ⟨by decide +kernel, rfl⟩
theorem g_X2_fillCorners_174 : en_C M_X2_fillCorners M_X2_multiplyBothWays 179 3 := ⟨⟨by decide +kernel, by decide +kernel, by decide +kernel⟩, ⟨by decide, by decide, by decide +kernel⟩, by decide, by decide⟩
theorem w_X2_multiplyBothWays : Cond.instanceMethod M_X2_multiplyBothWays.1 ∈ en_tbl ∧ Cond.selects M_X2_multiplyBothWays.1.cls M_X2_multiplyBothWays.1 M_X2_multiplyBothWays.1 ∈ en_tbl := ⟨by decide +kernel, by decide +kernel⟩
theorem q_X2_fillCorners_177 : decode M_X2_fillCorners.2.1 177 = .ok (.iload 8, 2) ∧ 177 + 2 = 179 := ⟨by decide +kernel, rfl⟩
theorem q_X2_fillCorners_179 : decode M_X2_fillCorners.2.1 179 = .ok (.iload 9, 2) ∧ 179 + 2 = 181 := ⟨by decide +kernel, rfl⟩
theorem q_X2_fillCorners_181 : decode M_X2_fillCorners.2.1 181 = .ok (.iadd, 1) ∧ 181 + 1 = 182 := ⟨by decide +kernel, rfl⟩
theorem q_X2_fillCorners_182 : decode M_X2_fillCorners.2.1 182 = .ok (.ifCond .eq 17, 3) ∧ 182 + 3 = 185 ∧ ((182 : Nat) : Int) + 17 = ((199 : Nat) : Int) := ⟨by decide +kernel, rfl, rfl⟩
theorem q_X2_fillCorners_185 : decode M_X2_fillCorners.2.1 185 = .ok (.aload_n 0, 1) ∧ 185 + 1 = 186 := ⟨by decide +kernel, rfl⟩
theorem q_X2_fillCorners_186 : decode M_X2_fillCorners.2.1 186 = .ok (.getfield 28, 3) ∧ 186 + 3 = 189 := ⟨by decide +kernel, rfl⟩
theorem q_X2_fillCorners_189 : decode M_X2_fillCorners.2.1 189 = .ok (.aload_n 1, 1) ∧ 189 + 1 = 190 := ⟨by decide +kernel, rfl⟩
theorem q_X2_fillCorners_190 : decode M_X2_fillCorners.2.1 190 = .ok (.getfield 107, 3) ∧ 190 + 3 = 193 := ⟨by decide +kernel, rfl⟩
theorem q_X2_fillCorners_193 : decode M_X2_fillCorners.2.1 193 = .ok (.invokevirtual 119, 3) ∧ 193 + 3 = 196 := ⟨by decide +kernel, rfl⟩
theorem g_X2_fillCorners_193 : en_C M_X2_fillCorners M_X1_compare 119 1 := ⟨⟨by decide +kernel, by decide +kernel, by decide +kernel⟩, ⟨by decide, by decide, by decide +kernel⟩, by decide, by decide⟩
theorem q_X2_fillCorners_196 : decode M_X2_fillCorners.2.1 196 = .ok (.ifCond .ge 14, 3) ∧ 196 + 3 = 199 ∧ ((196 : Nat) : Int) + 14 = ((210 : Nat) : Int) := ⟨by decide +kernel, rfl, rfl⟩
theorem q_X2_fillCorners_199 : decode M_X2_fillCorners.2.1 199 = .ok (.aload_n 1, 1) ∧ 199 + 1 = 200 := ⟨by decide +kernel, rfl⟩
theorem q_X2_fillCorners_200 : decode M_X2_fillCorners.2.1 200 = .ok (.getfield 107, 3) ∧ 200 + 3 = 203 := ⟨by decide +kernel, rfl⟩
theorem q_X2_fillCorners_203 : decode M_X2_fillCorners.2.1 203 = .ok (.aload_n 0, 1) ∧ 203 + 1 = 204 := ⟨by decide +kernel, rfl⟩
theorem q_X2_fillCorners_204 : decode M_X2_fillCorners.2.1 204 = .ok (.getfield 28, 3) ∧ 204 + 3 = 207 := ⟨by decide +kernel, rfl⟩
theorem q_X2_fillCorners_207 : decode M_X2_fillCorners.2.1 207 = .ok (.invokevirtual 139, 3) ∧ 207 + 3 = 210 := ⟨by decide +kernel, rfl⟩
theorem g_X2_fillCorners_207 : en_C M_X2_fillCorners M_X1_copy 139 1 := ⟨⟨by decide +kernel, by decide +kernel, by decide +kernel⟩, ⟨by decide, by decide, by decide +kernel⟩, by decide, by decide⟩
theorem q_X2_fillCorners_210 : decode M_X2_fillCorners.2.1 210 = .ok (.iload 8, 2) ∧ 210 + 2 = 212 := ⟨by decide +kernel, rfl⟩
theorem q_X2_fillCorners_212 : decode M_X2_fillCorners.2.1 212 = .ok (.iload 9, 2) ∧ 212 + 2 = 214 := ⟨by decide +kernel, rfl⟩
theorem q_X2_fillCorners_214 : decode M_X2_fillCorners.2.1 214 = .ok (.iadd, 1) ∧ 214 + 1 = 215 := ⟨by decide +kernel, rfl⟩
theorem q_X2_fillCorners_215 : decode M_X2_fillCorners.2.1 215 = .ok (.ifCond .eq 17, 3) ∧ 215 + 3 = 218 ∧ ((215 : Nat) : Int) + 17 = ((232 : Nat) : Int) := ⟨by decide +kernel, rfl, rfl⟩
theorem q_X2_fillCorners_218 : decode M_X2_fillCorners.2.1 218 = .ok (.aload_n 0, 1) ∧ 218 + 1 = 219 := ⟨by decide +kernel, rfl⟩
theorem q_X2_fillCorners_219 : decode M_X2_fillCorners.2.1 219 = .ok (.getfield 32, 3) ∧ 219 + 3 = 222 := ⟨by decide +kernel, rfl⟩
theorem q_X2_fillCorners_222 : decode M_X2_fillCorners.2.1 222 = .ok (.aload_n 1, 1) ∧ 222 + 1 = 223 := ⟨by decide +kernel, rfl⟩
theorem q_X2_fillCorners_223 : decode M_X2_fillCorners.2.1 223 = .ok (.getfield 114, 3) ∧ 223 + 3 = 226 := ⟨by decide +kernel, rfl⟩
theorem q_X2_fillCorners_226 : decode M_X2_fillCorners.2.1 226 = .ok (.invokevirtual 119, 3) ∧ 226 + 3 = 229 := ⟨by decide +kernel, rfl⟩
theorem g_X2_fillCorners_226 : en_C M_X2_fillCorners M_X1_compare 119 1 := ⟨⟨by decide +kernel, by decide +kernel, by decide +kernel⟩, ⟨by decide, by decide, by decide +kernel⟩, by decide, by decide⟩
theorem q_X2_fillCorners_229 : decode M_X2_fillCorners.2.1 229 = .ok (.ifCond .le 14, 3) ∧ 229 + 3 = 232 ∧ ((229 : Nat) : Int) + 14 = ((243 : Nat) : Int) := ⟨by decide +kernel, rfl, rfl⟩
theorem q_X2_fillCorners_232 : decode M_X2_fillCorners.2.1 232 = .ok (.aload_n 1, 1) ∧ 232 + 1 = 233 := ⟨by decide +kernel, rfl⟩
theorem q_X2_fillCorners_233 : decode M_X2_fillCorners.2.1 233 = .ok (.getfield 114, 3) ∧ 233 + 3 = 236 := ⟨by decide +kernel, rfl⟩
theorem q_X2_fillCorners_236 : decode M_X2_fillCorners.2.1 236 = .ok (.aload_n 0, 1) ∧ 236 + 1 = 237 := ⟨by decide +kernel, rfl⟩
theorem q_X2_fillCorners_237 : decode M_X2_fillCorners.2.1 237 = .ok (.getfield 32, 3) ∧ 237 + 3 = 240 := ⟨by decide +kernel, rfl⟩
theorem q_X2_fillCorners_240 : decode M_X2_fillCorners.2.1 240 = .ok (.invokevirtual 139, 3) ∧ 240 + 3 = 243 := ⟨by decide +kernel, rfl⟩
theorem g_X2_fillCorners_240 : en_C M_X2_fillCorners M_X1_copy 139 1 := ⟨⟨by decide +kernel, by decide +kernel, by decide +kernel⟩, ⟨by decide, by decide, by decide +kernel⟩, by decide, by decide⟩
theorem q_X2_fillCorners_243 : decode M_X2_fillCorners.2.1 243 = .ok (.iinc 9 1, 3) ∧ 243 + 3 = 246 := ⟨by decide +kernel, rfl⟩
theorem q_X2_fillCorners_246 : decode M_X2_fillCorners.2.1 246 = .ok (.goto (-158), 3) ∧ 246 + 3 = 249 ∧ ((246 : Nat) : Int) + (-158) = ((88 : Nat) : Int) := ⟨by decide +kernel, rfl, rfl⟩
theorem q_X2_fillCorners_249 : decode M_X2_fillCorners.2.1 249 = .ok (.iinc 8 1, 3) ∧ 249 + 3 = 252 := ⟨by decide +kernel, rfl⟩
theorem q_X2_fillCorners_252 : decode M_X2_fillCorners.2.1 252 = .ok (.goto (-174), 3) ∧ 252 + 3 = 255 ∧ ((252 : Nat) : Int) + (-174) = ((78 : Nat) : Int) := ⟨by decide +kernel, rfl, rfl⟩
theorem q_X2_fillCorners_255 : decode M_X2_fillCorners.2.1 255 = .ok (.return_, 1) ∧ 255 + 1 = 256 := ⟨by decide +kernel, rfl⟩
theorem q_X2_multiplyBothWays_0 : decode M_X2_multiplyBothWays.2.1 0 = .ok (.aload_n 0, 1) ∧ 0 + 1 = 1 := ⟨by decide +kernel, rfl⟩
theorem q_X2_multiplyBothWays_1 : decode M_X2_multiplyBothWays.2.1 1 = .ok (.getfield 28, 3) ∧ 1 + 3 = 4 := ⟨by decide +kernel, rfl⟩
theorem q_X2_multiplyBothWays_4 : decode M_X2_multiplyBothWays.2.1 4 = .ok (.aload_n 1, 1) ∧ 4 + 1 = 5 := ⟨by decide +kernel, rfl⟩
theorem q_X2_multiplyBothWays_5 : decode M_X2_multiplyBothWays.2.1 5 = .ok (.aload_n 2, 1) ∧ 5 + 1 = 6 := ⟨by decide +kernel, rfl⟩
theorem q_X2_multiplyBothWays_6 : decode M_X2_multiplyBothWays.2.1 6 = .ok (.invokevirtual 183, 3) ∧ 6 + 3 = 9 := ⟨by decide +kernel, rfl⟩
theorem g_X2_multiplyBothWays_6 : en_C M_X2_multiplyBothWays M_X1_setProduct 183 2 := ⟨⟨by decide +kernel, by decide +kernel, by decide +kernel⟩, ⟨by decide, by decide, by decide +kernel⟩, by decide, by decide⟩
theorem q_X2_multiplyBothWays_9 : decode M_X2_multiplyBothWays.2.1 9 = .ok (.aload_n 0, 1) ∧ 9 + 1 = 10 := ⟨by decide +kernel, rfl⟩
theorem q_X2_multiplyBothWays_10 : decode M_X2_multiplyBothWays.2.1 10 = .ok (.getfield 32, 3) ∧ 10 + 3 = 13 := ⟨by decide +kernel, rfl⟩
theorem q_X2_multiplyBothWays_13 : decode M_X2_multiplyBothWays.2.1 13 = .ok (.aload_n 0, 1) ∧ 13 + 1 = 14 := ⟨by decide +kernel, rfl⟩
theorem q_X2_multiplyBothWays_14 : decode M_X2_multiplyBothWays.2.1 14 = .ok (.getfield 28, 3) ∧ 14 + 3 = 17 := ⟨by decide +kernel, rfl⟩
theorem q_X2_multiplyBothWays_17 : decode M_X2_multiplyBothWays.2.1 17 = .ok (.invokevirtual 139, 3) ∧ 17 + 3 = 20 := ⟨by decide +kernel, rfl⟩
theorem g_X2_multiplyBothWays_17 : en_C M_X2_multiplyBothWays M_X1_copy 139 1 := ⟨⟨by decide +kernel, by decide +kernel, by decide +kernel⟩, ⟨by decide, by decide, by decide +kernel⟩, by decide, by decide⟩
theorem q_X2_multiplyBothWays_20 : decode M_X2_multiplyBothWays.2.1 20 = .ok (.aload_n 0, 1) ∧ 20 + 1 = 21 := ⟨by decide +kernel, rfl⟩
theorem q_X2_multiplyBothWays_21 : decode M_X2_multiplyBothWays.2.1 21 = .ok (.getfield 28, 3) ∧ 21 + 3 = 24 := ⟨by decide +kernel, rfl⟩
theorem q_X2_multiplyBothWays_24 : decode M_X2_multiplyBothWays.2.1 24 = .ok (.iload_n 3, 1) ∧ 24 + 1 = 25 := ⟨by decide +kernel, rfl⟩
theorem q_X2_multiplyBothWays_25 : decode M_X2_multiplyBothWays.2.1 25 = .ok (.iconst (-1), 1) ∧ 25 + 1 = 26 := ⟨by decide +kernel, rfl⟩
theorem q_X2_multiplyBothWays_26 : decode M_X2_multiplyBothWays.2.1 26 = .ok (.invokevirtual 156, 3) ∧ 26 + 3 = 29 := ⟨by decide +kernel, rfl⟩
theorem g_X2_multiplyBothWays_26 : en_C M_X2_multiplyBothWays M_X1_shrink 156 2 := ⟨⟨by decide +kernel, by decide +kernel, by decide +kernel⟩, ⟨by decide, by decide, by decide +kernel⟩, by decide, by decide⟩
theorem q_X2_multiplyBothWays_29 : decode M_X2_multiplyBothWays.2.1 29 = .ok (.aload_n 0, 1) ∧ 29 + 1 = 30 := ⟨by decide +kernel, rfl⟩
theorem q_X2_multiplyBothWays_30 : decode M_X2_multiplyBothWays.2.1 30 = .ok (.getfield 32, 3) ∧ 30 + 3 = 33 := ⟨by decide +kernel, rfl⟩
theorem q_X2_multiplyBothWays_33 : decode M_X2_multiplyBothWays.2.1 33 = .ok (.iload_n 3, 1) ∧ 33 + 1 = 34 := ⟨by decide +kernel, rfl⟩
theorem q_X2_multiplyBothWays_34 : decode M_X2_multiplyBothWays.2.1 34 = .ok (.iconst 1, 1) ∧ 34 + 1 = 35 := ⟨by decide +kernel, rfl⟩
theorem q_X2_multiplyBothWays_35 : decode M_X2_multiplyBothWays.2.1 35 = .ok (.invokevirtual 156, 3) ∧ 35 + 3 = 38 := ⟨by decide +kernel, rfl⟩
theorem g_X2_multiplyBothWays_35 : en_C M_X2_multiplyBothWays M_X1_shrink 156 2 := ⟨⟨by decide +kernel, by decide +kernel, by decide +kernel⟩, ⟨by decide, by decide, by decide +kernel⟩, by decide, by decide⟩
theorem q_X2_multiplyBothWays_38 : decode M_X2_multiplyBothWays.2.1 38 = .ok (.return_, 1) ∧ 38 + 1 = 39 := ⟨by decide +kernel, rfl⟩
theorem q_X2_divideBothWays_0 : decode M_X2_divideBothWays.2.1 0 = .ok (.aload_n 1, 1) ∧ 0 + 1 = 1 := ⟨by decide +kernel, rfl⟩
theorem q_X2_divideBothWays_1 : decode M_X2_divideBothWays.2.1 1 = .ok (.getfield 169, 3) ∧ 1 + 3 = 4 := ⟨by decide +kernel, rfl⟩
theorem q_X2_divideBothWays_4 : decode M_X2_divideBothWays.2.1 4 = .ok (.aload_n 2, 1) ∧ 4 + 1 = 5 := ⟨by decide +kernel, rfl⟩
theorem q_X2_divideBothWays_5 : decode M_X2_divideBothWays.2.1 5 = .ok (.getfield 169, 3) ∧ 5 + 3 = 8 := ⟨by decide +kernel, rfl⟩
theorem q_X2_divideBothWays_8 : decode M_X2_divideBothWays.2.1 8 = .ok (.imul, 1) ∧ 8 + 1 = 9 := ⟨by decide +kernel, rfl⟩
theorem q_X2_divideBothWays_9 : decode M_X2_divideBothWays.2.1 9 = .ok (.istore_n 3, 1) ∧ 9 + 1 = 10 := ⟨by decide +kernel, rfl⟩
theorem q_X2_divideBothWays_10 : decode M_X2_divideBothWays.2.1 10 = .ok (.aload_n 0, 1) ∧ 10 + 1 = 11 := ⟨by decide +kernel, rfl⟩
theorem q_X2_divideBothWays_11 : decode M_X2_divideBothWays.2.1 11 = .ok (.getfield 12, 3) ∧ 11 + 3 = 14 := ⟨by decide +kernel, rfl⟩
theorem q_X2_divideBothWays_14 : decode M_X2_divideBothWays.2.1 14 = .ok (.aload_n 1, 1) ∧ 14 + 1 = 15 := ⟨by decide +kernel, rfl⟩
theorem q_X2_divideBothWays_15 : decode M_X2_divideBothWays.2.1 15 = .ok (.aload_n 2, 1) ∧ 15 + 1 = 16 := ⟨by decide +kernel, rfl⟩
theorem q_X2_divideBothWays_16 : decode M_X2_divideBothWays.2.1 16 = .ok (.aload_n 0, 1) ∧ 16 + 1 = 17 := ⟨by decide +kernel, rfl⟩
theorem q_X2_divideBothWays_17 : decode M_X2_divideBothWays.2.1 17 = .ok (.getfield 28, 3) ∧ 17 + 3 = 20 := ⟨by decide +kernel, rfl⟩
theorem q_X2_divideBothWays_20 : decode M_X2_divideBothWays.2.1 20 = .ok (.aload_n 0, 1) ∧ 20 + 1 = 21 := ⟨by decide +kernel, rfl⟩
theorem q_X2_divideBothWays_21 : decode M_X2_divideBothWays.2.1 21 = .ok (.getfield 41, 3) ∧ 21 + 3 = 24 := ⟨by decide +kernel, rfl⟩
theorem f_RX2_41 : en_F RX2 41 2 6 := ⟨RX2, TX2, 7, rfl, by decide, rfl, by decide +kernel, by decide +kernel⟩
theorem q_X2_divideBothWays_24 : decode M_X2_divideBothWays.2.1 24 = .ok (.invokevirtual 186, 3) ∧ 24 + 3 = 27 := ⟨by decide +kernel, rfl⟩
theorem g_X2_divideBothWays_24 : en_C M_X2_divideBothWays M_X0_divide 186 4 := ⟨⟨by decide +kernel, by decide +kernel, by decide +kernel⟩, ⟨by decide, by decide, by decide +kernel⟩, by decide, by decide⟩
theorem q_X2_divideBothWays_27 : decode M_X2_divideBothWays.2.1 27 = .ok (.aload_n 0, 1) ∧ 27 + 1 = 28 := ⟨by decide +kernel, rfl⟩
theorem q_X2_divideBothWays_28 : decode M_X2_divideBothWays.2.1 28 = .ok (.getfield 28, 3) ∧ 28 + 3 = 31 := ⟨by decide +kernel, rfl⟩
theorem q_X2_divideBothWays_31 : decode M_X2_divideBothWays.2.1 31 = .ok (.dup, 1) ∧ 31 + 1 = 32 := ⟨by decide +kernel, rfl⟩
theorem q_X2_divideBothWays_32 : decode M_X2_divideBothWays.2.1 32 = .ok (.getfield 169, 3) ∧ 32 + 3 = 35 := ⟨by decide +kernel, rfl⟩
theorem q_X2_divideBothWays_35 : decode M_X2_divideBothWays.2.1 35 = .ok (.iload_n 3, 1) ∧ 35 + 1 = 36 := ⟨by decide +kernel, rfl⟩
theorem q_X2_divideBothWays_36 : decode M_X2_divideBothWays.2.1 36 = .ok (.imul, 1) ∧ 36 + 1 = 37 := ⟨by decide +kernel, rfl⟩
theorem q_X2_divideBothWays_37 : decode M_X2_divideBothWays.2.1 37 = .ok (.putfield 169, 3) ∧ 37 + 3 = 40 := ⟨by decide +kernel, rfl⟩
theorem p_RX2_169 : en_Fp RX2 169 1 0 false .int := ⟨RX1, TX1, 3, tyX1, rfl, by decide, rfl, by decide +kernel, by decide +kernel, tyX1_ok, nmX1, rfl, by decide +kernel⟩
theorem q_X2_divideBothWays_40 : decode M_X2_divideBothWays.2.1 40 = .ok (.aload_n 0, 1) ∧ 40 + 1 = 41 := ⟨by decide +kernel, rfl⟩
theorem q_X2_divideBothWays_41 : decode M_X2_divideBothWays.2.1 41 = .ok (.getfield 32, 3) ∧ 41 + 3 = 44 := ⟨by decide +kernel, rfl⟩
theorem q_X2_divideBothWays_44 : decode M_X2_divideBothWays.2.1 44 = .ok (.aload_n 0, 1) ∧ 44 + 1 = 45 := ⟨by decide +kernel, rfl⟩
theorem q_X2_divideBothWays_45 : decode M_X2_divideBothWays.2.1 45 = .ok (.getfield 28, 3) ∧ 45 + 3 = 48 := ⟨by decide +kernel, rfl⟩
theorem q_X2_divideBothWays_48 : decode M_X2_divideBothWays.2.1 48 = .ok (.invokevirtual 139, 3) ∧ 48 + 3 = 51 := ⟨by decide +kernel, rfl⟩
theorem g_X2_divideBothWays_48 : en_C M_X2_divideBothWays M_X1_copy 139 1 := ⟨⟨by decide +kernel, by decide +kernel, by decide +kernel⟩, ⟨by decide, by decide, by decide +kernel⟩, by decide, by decide⟩
theorem q_X2_divideBothWays_51 : decode M_X2_divideBothWays.2.1 51 = .ok (.aload_n 0, 1) ∧ 51 + 1 = 52 := ⟨by decide +kernel, rfl⟩
theorem q_X2_divideBothWays_52 : decode M_X2_divideBothWays.2.1 52 = .ok (.getfield 41, 3) ∧ 52 + 3 = 55 := ⟨by decide +kernel, rfl⟩
theorem q_X2_divideBothWays_55 : decode M_X2_divideBothWays.2.1 55 = .ok (.getfield 169, 3) ∧ 55 + 3 = 58 := ⟨by decide +kernel, rfl⟩
theorem q_X2_divideBothWays_58 : decode M_X2_divideBothWays.2.1 58 = .ok (.ifCond .eq 26, 3) ∧ 58 + 3 = 61 ∧ ((58 : Nat) : Int) + 26 = ((84 : Nat) : Int) := ⟨by decide +kernel, rfl, rfl⟩
theorem q_X2_divideBothWays_61 : decode M_X2_divideBothWays.2.1 61 = .ok (.iload_n 3, 1) ∧ 61 + 1 = 62 := ⟨by decide +kernel, rfl⟩
theorem q_X2_divideBothWays_62 : decode M_X2_divideBothWays.2.1 62 = .ok (.ifCond .ge 10, 3) ∧ 62 + 3 = 65 ∧ ((62 : Nat) : Int) + 10 = ((72 : Nat) : Int) := ⟨by decide +kernel, rfl, rfl⟩
theorem q_X2_divideBothWays_65 : decode M_X2_divideBothWays.2.1 65 = .ok (.aload_n 0, 1) ∧ 65 + 1 = 66 := ⟨by decide +kernel, rfl⟩
theorem q_X2_divideBothWays_66 : decode M_X2_divideBothWays.2.1 66 = .ok (.getfield 28, 3) ∧ 66 + 3 = 69 := ⟨by decide +kernel, rfl⟩
theorem q_X2_divideBothWays_69 : decode M_X2_divideBothWays.2.1 69 = .ok (.goto 7, 3) ∧ 69 + 3 = 72 ∧ ((69 : Nat) : Int) + 7 = ((76 : Nat) : Int) := ⟨by decide +kernel, rfl, rfl⟩
theorem q_X2_divideBothWays_72 : decode M_X2_divideBothWays.2.1 72 = .ok (.aload_n 0, 1) ∧ 72 + 1 = 73 := ⟨by decide +kernel, rfl⟩
theorem q_X2_divideBothWays_73 : decode M_X2_divideBothWays.2.1 73 = .ok (.getfield 32, 3) ∧ 73 + 3 = 76 := ⟨by decide +kernel, rfl⟩
theorem q_X2_divideBothWays_76 : decode M_X2_divideBothWays.2.1 76 = .ok (.astore 4, 2) ∧ 76 + 2 = 78 := ⟨by decide +kernel, rfl⟩
theorem q_X2_divideBothWays_78 : decode M_X2_divideBothWays.2.1 78 = .ok (.aload 4, 2) ∧ 78 + 2 = 80 := ⟨by decide +kernel, rfl⟩
theorem q_X2_divideBothWays_80 : decode M_X2_divideBothWays.2.1 80 = .ok (.iload_n 3, 1) ∧ 80 + 1 = 81 := ⟨by decide +kernel, rfl⟩
theorem q_X2_divideBothWays_81 : decode M_X2_divideBothWays.2.1 81 = .ok (.invokevirtual 160, 3) ∧ 81 + 3 = 84 := ⟨by decide +kernel, rfl⟩
theorem g_X2_divideBothWays_81 : en_C M_X2_divideBothWays M_X1_grow 160 1 := ⟨⟨by decide +kernel, by decide +kernel, by decide +kernel⟩, ⟨by decide, by decide, by decide +kernel⟩, by decide, by decide⟩
theorem q_X2_divideBothWays_84 : decode M_X2_divideBothWays.2.1 84 = .ok (.return_, 1) ∧ 84 + 1 = 85 := ⟨by decide +kernel, rfl⟩
end
section
/-! EnclosedDigits$Big: a world of such numbers, raw (row of limbs, its room, size, limbs, sign), and what a method that works on one of them leaves. -/
/-- the array's address, its room, the size, the limbs, the sign -/
abbrev en_B : Type := Nat × Nat × Nat × (Nat → Nat) × Int32
abbrev bE (sg : Int32) (sz r : Nat) : va_E := .inr (1, [.int sg, .int (nI sz), .ref r])
def bw_at (X : en_X) (σ : en_S) (a : Nat) (b : en_B) : Prop := look σ a = some (bE b.2.2.2.2 b.2.2.1 b.1) ∧ look σ b.1 = some (ar X b.2.1 b.2.2.2.1) ∧ b.2.2.1 ≤ b.2.1 ∧ 8 ≤ b.2.1 ∧ b.2.1 ≤ 512 ∧ a < σ.1 ∧ b.1 < σ.1
def bw_R (X : en_X) (D : List Nat) (σ : en_S) (S : Nat → en_B) : Prop := (∀ a ∈ D, bw_at X σ a (S a)) ∧ ∀ a ∈ D, ∀ b ∈ D, (S a).1 = (S b).1 → a = b
def uB (S : Nat → en_B) (a : Nat) (b : en_B) : Nat → en_B := fun q => if q = a then b else S q
theorem uB_s {S : Nat → en_B} {a : Nat} {b : en_B} : uB S a b a = b := if_pos rfl
theorem uB_n {S : Nat → en_B} {a q : Nat} {b : en_B} (h : q ≠ a) : uB S a b q = S q := if_neg h
theorem uB_u {S : Nat → en_B} {a : Nat} {b c : en_B} : uB (uB S a b) a c = uB S a c := by
  funext q; unfold uB; split <;> rfl
theorem uB_i {S : Nat → en_B} {a : Nat} : uB S a (S a) = S := by
  funext q; unfold uB; split <;> simp_all
def bw_tot (D : List Nat) (S : Nat → en_B) : Nat := (D.map (fun a => (S a).2.1)).sum
/-- from the world S at σ to the world T at τ: what is no number of D's stays; rows are kept or new; what was made is paid by room -/
def bw_St (D : List Nat) (σ : en_S) (S : Nat → en_B) (τ : en_S) (T : Nat → en_B) : Prop :=
  σ.1 ≤ τ.1 ∧ (∀ q, q < σ.1 → q ∉ D → (∀ d ∈ D, q ≠ (S d).1) → look τ q = look σ q) ∧ (∀ d ∈ D, (T d).1 = (S d).1 ∨ σ.1 ≤ (T d).1) ∧ 8 * τ.1 + bw_tot D S ≤ 8 * σ.1 + bw_tot D T ∧ τ.2.1 + 2 * bw_tot D S ≤ σ.2.1 + 2 * bw_tot D T
theorem bw_St.rf (D : List Nat) (σ : en_S) (S : Nat → en_B) : bw_St D σ S σ S := ⟨Nat.le_refl _, fun _ _ _ _ => rfl, fun _ _ => Or.inl rfl, Nat.le_refl _, Nat.le_refl _⟩
theorem bw_St.tr {D : List Nat} {σ τ υ : en_S} {S T U : Nat → en_B} (h : bw_St D σ S τ T) (g : bw_St D τ T υ U) : bw_St D σ S υ U := by
  obtain ⟨h1, h2, h3, h4, h5⟩ := h
  obtain ⟨g1, g2, g3, g4, g5⟩ := g
  refine ⟨Nat.le_trans h1 g1, fun q q1 q2 q3 => ?_, fun d hd => ?_, by omega, by omega⟩
  · rw [g2 q (by omega) q2 (fun d hd e => ?_)]
    · exact h2 q q1 q2 q3
    · rcases h3 d hd with w | w
      · exact q3 d hd (e.trans w)
      · omega
  · rcases g3 d hd with w | w
    · rcases h3 d hd with v | v
      · exact Or.inl (w.trans v)
      · exact Or.inr (by omega)
    · exact Or.inr (by omega)
theorem sum_up {D : List Nat} {f g : Nat → Nat} (h : ∀ a, f a ≤ g a) : (D.map f).sum ≤ (D.map g).sum := by
  induction D with
  | nil => exact Nat.le_refl _
  | cons x l ih => simp only [List.map_cons, List.sum_cons]; have := h x; omega
theorem sum_up1 {D : List Nat} {f g : Nat → Nat} (h : ∀ a, f a ≤ g a) {a : Nat} (ha : a ∈ D) : (D.map f).sum + (g a - f a) ≤ (D.map g).sum := by
  induction D with
  | nil => cases ha
  | cons x l ih =>
    simp only [List.map_cons, List.sum_cons]
    have h1 := h x
    rcases List.mem_cons.mp ha with e | e
    · subst e
      have := sum_up (D := l) h
      omega
    · have := ih e
      omega
/-- an object is no array -/
theorem ne_oa {X : en_X} {σ : en_S} {a r n : Nat} {d : Nat → Nat} {o : Nat × List Value} (h : look σ a = some (.inr o)) (g : look σ r = some (ar X n d)) : a ≠ r := by
  intro e
  rw [e, g] at h
  cases h
theorem bw_R.step {X : en_X} {D : List Nat} {σ τ : en_S} {S : Nat → en_B} {a : Nat} {b : en_B} (h : bw_R X D σ S) (ha : a ∈ D) (hs : σ.1 ≤ τ.1) (hb : bw_at X τ a b) (hf : ∀ q, q < σ.1 → q ≠ a → q ≠ (S a).1 → look τ q = look σ q) (hr : b.1 = (S a).1 ∨ σ.1 ≤ b.1) (hn : (S a).2.1 ≤ b.2.1) (h8 : 8 * τ.1 + (S a).2.1 ≤ 8 * σ.1 + b.2.1) (h2 : τ.2.1 + 2 * (S a).2.1 ≤ σ.2.1 + 2 * b.2.1) : bw_R X D τ (uB S a b) ∧ bw_St D σ S τ (uB S a b) := by
  have hle : ∀ q, (S q).2.1 ≤ (uB S a b q).2.1 := by
    intro q
    by_cases e : q = a
    · subst e; rw [uB_s]; exact hn
    · rw [uB_n e]; exact Nat.le_refl _
  have hsum := sum_up1 (D := D) (f := fun q => (S q).2.1) (g := fun q => (uB S a b q).2.1) hle ha
  simp only [uB_s] at hsum
  have ht : bw_tot D S + (b.2.1 - (S a).2.1) ≤ bw_tot D (uB S a b) := hsum
  refine ⟨⟨fun q hq => ?_, fun p hp q hq e => ?_⟩, hs, fun q q1 q2 q3 => hf q q1 (fun e => q2 (e ▸ ha)) (q3 a ha), fun d hd => ?_, by omega, by omega⟩
  · by_cases e : q = a
    · subst e; rw [uB_s]; exact hb
    · rw [uB_n e]
      obtain ⟨c1, c2, c3, c4, c5, c6, c7⟩ := h.1 q hq
      obtain ⟨b1, b2, b3, b4, b5, b6, b7⟩ := h.1 a ha
      refine ⟨?_, ?_, c3, c4, c5, by omega, by omega⟩
      · rw [hf q c6 e (ne_oa c1 b2)]; exact c1
      · rw [hf _ c7 (fun z => ne_oa b1 c2 z.symm) (fun z => e (h.2 q hq a ha z))]; exact c2
  · by_cases e1 : p = a
    · by_cases e2 : q = a
      · rw [e1, e2]
      · subst e1
        rw [uB_s, uB_n e2] at e
        rcases hr with w | w
        · exact absurd (h.2 p hp q hq (w.symm.trans e)) (fun z => e2 z.symm)
        · have := (h.1 q hq).2.2.2.2.2.2
          omega
    · by_cases e2 : q = a
      · subst e2
        rw [uB_s, uB_n e1] at e
        rcases hr with w | w
        · exact absurd (h.2 p hp q hq (e.trans w)) e1
        · have := (h.1 p hp).2.2.2.2.2.2
          omega
      · rw [uB_n e1, uB_n e2] at e
        exact h.2 p hp q hq e
  · by_cases e : d = a
    · subst e; rw [uB_s]; exact hr
    · rw [uB_n e]; exact Or.inl rfl
section big0
variable {X : en_X} {σ : en_S} {D : List Nat} {S : Nat → en_B}
theorem C_trim_loop {ρ : en_S} {a r n sz : Nat} {d : Nat → Nat} {s sg : Int32} {Q : Option Value → en_S → Prop} (hsz : sz ≤ n) (hn : n < 2 ^ 30) (hd : ∀ i, i < sz → d i < 2 ^ 31) (ha : look σ a = some (bE sg sz r)) (hr : look σ r = some (ar X n d))
    (k : WA X M_X1_trim ρ 34 [(2, .int (nI (tp d sz))), (1, .int s), (0, .ref a)] [] σ Q) :
    ∀ t, t ≤ sz → tp d t = tp d sz → WA X M_X1_trim ρ 13 [(2, .int (nI t)), (1, .int s), (0, .ref a)] [] σ Q := by
  intro t
  induction t with
  | zero =>
    intro h1 h2
    refine wa_iload_n q_X1_trim_13 rfl ?_
    refine wn_if_le q_X1_trim_14 (by omega) (fun hc => ?_) (fun hc => ?_)
    · rw [← h2] at k; exact wa_lv k rfl
    · exact absurd hc (by omega)
  | succ t ih =>
    intro h1 h2
    refine wa_iload_n q_X1_trim_13 rfl ?_
    refine wn_if_le q_X1_trim_14 (by omega) (fun hc => ?_) (fun hc => ?_)
    · exact absurd hc (by omega)
    · refine wa_aload_n q_X1_trim_17 rfl ?_
      refine wa_getf q_X1_trim_18 f_RX1_11 (by assumption) rfl ?_
      refine wa_iload_n q_X1_trim_21 rfl ?_
      refine wa_iconst q_X1_trim_22 (v := nI 1) (by decide) ?_
      refine wn_isub q_X1_trim_23 (by omega) ?_
      refine wn_iald q_X1_trim_24 (by assumption) (by omega) (by omega) ?_
      have hb : d (t + 1 - 1) < 2 ^ 31 := hd _ (by omega)
      refine wn_if_ne q_X1_trim_25 (by omega) (fun hd0 => ?_) (fun hd0 => ?_)
      · have e : tp d (t + 1) = t + 1 := if_neg (by show ¬ d t = 0; have : 0 < d t := hd0; omega)
        rw [← h2, e] at k
        exact wa_lv k rfl
      · refine wn_idec q_X1_trim_28 rfl (by decide) ?_
        refine wa_goto q_X1_trim_31 ?_
        exact wa_lv (ih (by omega) (by rw [← h2]; exact (if_pos hd0).symm)) rfl
theorem C_trim {a : Nat} {s : Int32} (h : bw_R X D σ S) (ha : a ∈ D) (hd : ∀ i, i < (S a).2.2.1 → (S a).2.2.2.1 i < 2 ^ 31) :
    Calls X M_X1_trim [.ref a, .int s] σ (fun res τ => res = none ∧ ∃ b : en_B, b = ((S a).1, (S a).2.1, tp (S a).2.2.2.1 (S a).2.2.1, (S a).2.2.2.1, if tp (S a).2.2.2.1 (S a).2.2.1 = 0 then 0 else s) ∧ bw_R X D τ (uB S a b) ∧ bw_St D σ S τ (uB S a b)) := by
  obtain ⟨h1, h2, h3, h4, h5, h6, h7⟩ := h.1 a ha
  refine Calls.of rfl (lk rfl) ?_
  have ht := tp_le (S a).2.2.2.1 (S a).2.2.1
  refine wa_aload_n q_X1_trim_0 rfl ?_
  refine wa_getf q_X1_trim_1 f_RX1_15 (by assumption) rfl ?_
  refine wa_aload_n q_X1_trim_4 rfl ?_
  refine wa_getf q_X1_trim_5 f_RX1_11 (by assumption) rfl ?_
  refine wn_alen q_X1_trim_8 (by assumption) ?_
  refine wn_mmin q_X1_trim_9 a_RX1_31 (lk rfl) (lk rfl) (by omega) (by omega) ?_
  refine wa_istore_n q_X1_trim_12 (by decide) ?_
  rw [Nat.min_eq_left h3]
  refine wa_lv (C_trim_loop h3 (by omega) hd h1 h2 ?_ _ (Nat.le_refl _) rfl) rfl
  refine wa_aload_n q_X1_trim_34 rfl ?_
  refine wa_iload_n q_X1_trim_35 rfl ?_
  refine wn_putf q_X1_trim_36 p_RX1_15 (by assumption) (lk rfl) rfl rfl rfl (fun σ_ha1 ha1 f_ha1 e1_ha1 e2_ha1 => ?_)
  refine wa_aload_n q_X1_trim_39 rfl ?_
  refine wa_iload_n q_X1_trim_40 rfl ?_
  refine wn_if_ne q_X1_trim_41 (by omega) (fun hc => ?_) (fun hc => ?_)
  · refine wa_iload_n q_X1_trim_48 rfl ?_
    refine wn_putf q_X1_trim_49 p_RX1_34 (by assumption) (lk rfl) rfl rfl rfl (fun σ_ha2 ha2 f_ha2 e1_ha2 e2_ha2 => ?_)
    refine wa_vret q_X1_trim_52 rfl ?_
    refine ⟨rfl, _, rfl, bw_R.step h ha (by omega) ⟨by rw [if_neg (by omega)]; exact ha2, ?_, ?_⟩ (fun q q1 q2 q3 => (f_ha2 q q2).trans (f_ha1 q q2)) (Or.inl rfl) (Nat.le_refl _) (by show _ ≤ 8 * _ + (S a).2.1; omega) (by show _ ≤ _ + 2 * (S a).2.1; omega)⟩
    · have hne := ne_oa h1 h2
      rw [f_ha2 _ hne.symm, f_ha1 _ hne.symm]; exact h2
    · exact ⟨by show tp _ _ ≤ (S a).2.1; omega, h4, h5, by omega, by show (S a).1 < _; omega⟩
  · refine wa_iconst q_X1_trim_44 (v := nI 0) (by decide) ?_
    refine wa_goto q_X1_trim_45 ?_
    refine wn_putf q_X1_trim_49 p_RX1_34 (by assumption) (lk rfl) rfl rfl rfl (fun σ_ha2 ha2 f_ha2 e1_ha2 e2_ha2 => ?_)
    refine wa_vret q_X1_trim_52 rfl ?_
    refine ⟨rfl, _, rfl, bw_R.step h ha (by omega) ⟨by rw [if_pos hc]; exact ha2, ?_, ?_⟩ (fun q q1 q2 q3 => (f_ha2 q q2).trans (f_ha1 q q2)) (Or.inl rfl) (Nat.le_refl _) (by show _ ≤ 8 * _ + (S a).2.1; omega) (by show _ ≤ _ + 2 * (S a).2.1; omega)⟩
    · have hne := ne_oa h1 h2
      rw [f_ha2 _ hne.symm, f_ha1 _ hne.symm]; exact h2
    · exact ⟨by show tp _ _ ≤ (S a).2.1; omega, h4, h5, by omega, by show (S a).1 < _; omega⟩
end big0
end
section
/-! EnclosedDigits$Big, raw: made, clear, limbAt, copyOf, extend, copy -/
section big1
variable {X : en_X} {σ : en_S} {D : List Nat} {S : Nat → en_B}
theorem C_clear {a : Nat} (h : bw_R X D σ S) (ha : a ∈ D) :
    Calls X M_X1_clear [.ref a] σ (fun res τ => res = none ∧ ∃ b : en_B, b = ((S a).1, (S a).2.1, 0, (S a).2.2.2.1, 0) ∧ bw_R X D τ (uB S a b) ∧ bw_St D σ S τ (uB S a b)) := by
  obtain ⟨h1, h2, h3, h4, h5, h6, h7⟩ := h.1 a ha
  refine Calls.of rfl (lk rfl) ?_
  refine wa_aload_n q_X1_clear_0 rfl ?_
  refine wa_iconst q_X1_clear_1 (v := nI 0) (by decide) ?_
  refine wn_putf q_X1_clear_2 p_RX1_15 (by assumption) (lk rfl) rfl rfl rfl (fun σ_ha1 ha1 f_ha1 e1_ha1 e2_ha1 => ?_)
  refine wa_aload_n q_X1_clear_5 rfl ?_
  refine wa_iconst q_X1_clear_6 (v := nI 0) (by decide) ?_
  refine wn_putf q_X1_clear_7 p_RX1_34 (by assumption) (lk rfl) rfl rfl rfl (fun σ_ha2 ha2 f_ha2 e1_ha2 e2_ha2 => ?_)
  refine wa_vret q_X1_clear_10 rfl ?_
  have hne := ne_oa h1 h2
  refine ⟨rfl, _, rfl, bw_R.step h ha (by omega) ⟨ha2, ?_, Nat.zero_le _, h4, h5, by omega, by show (S a).1 < _; omega⟩ (fun q q1 q2 q3 => (f_ha2 q q2).trans (f_ha1 q q2)) (Or.inl rfl) (Nat.le_refl _) (by show _ ≤ 8 * _ + (S a).2.1; omega) (by show _ ≤ _ + 2 * (S a).2.1; omega)⟩
  rw [f_ha2 _ hne.symm, f_ha1 _ hne.symm]; exact h2
theorem C_limbAt {a i : Nat} (h : bw_R X D σ S) (ha : a ∈ D) (hi : i < 2 ^ 31) :
    Calls X M_X1_limbAt [.ref a, .int (nI i)] σ (fun res τ => res = some (.int (nI (if i < (S a).2.2.1 then (S a).2.2.2.1 i else 0))) ∧ τ = σ) := by
  obtain ⟨h1, h2, h3, h4, h5, h6, h7⟩ := h.1 a ha
  refine Calls.of rfl (lk rfl) ?_
  refine wa_iload_n q_X1_limbAt_0 rfl ?_
  refine wn_if_lt q_X1_limbAt_1 (by omega) (fun hc => ?_) (fun hc => ?_)
  · exact absurd hc id
  · refine wa_iload_n q_X1_limbAt_4 rfl ?_
    refine wa_aload_n q_X1_limbAt_5 rfl ?_
    refine wa_getf q_X1_limbAt_6 f_RX1_15 (by assumption) rfl ?_
    refine wn_icmp_ge q_X1_limbAt_9 (by omega) (by omega) (fun hd => ?_) (fun hd => ?_)
    · refine wa_iconst q_X1_limbAt_21 (v := nI 0) (by decide) ?_
      refine wa_goto q_X1_limbAt_22 ?_
      refine wa_iret q_X1_limbAt_31 rfl ?_
      rw [if_neg (by omega)]
      exact ⟨rfl, rfl⟩
    · refine wa_iload_n q_X1_limbAt_12 rfl ?_
      refine wa_aload_n q_X1_limbAt_13 rfl ?_
      refine wa_getf q_X1_limbAt_14 f_RX1_11 (by assumption) rfl ?_
      refine wn_alen q_X1_limbAt_17 (by assumption) ?_
      refine wn_icmp_lt q_X1_limbAt_18 (by omega) (by omega) (fun he => ?_) (fun he => ?_)
      · refine wa_aload_n q_X1_limbAt_25 rfl ?_
        refine wa_getf q_X1_limbAt_26 f_RX1_11 (by assumption) rfl ?_
        refine wa_iload_n q_X1_limbAt_29 rfl ?_
        refine wn_iald q_X1_limbAt_30 (by assumption) (by omega) (by omega) ?_
        refine wa_iret q_X1_limbAt_31 rfl ?_
        rw [if_pos hd]
        exact ⟨rfl, rfl⟩
      · exact absurd he (by omega)
theorem C_limbAtN {a : Nat} : Calls X M_X1_limbAt [.ref a, .int (-1)] σ (fun res τ => res = some (.int (nI 0)) ∧ τ = σ) := by
  refine Calls.of rfl (lk rfl) ?_
  refine wa_iload_n q_X1_limbAt_0 rfl ?_
  refine wa_if_lt q_X1_limbAt_1 (fun hc => ?_) (fun hc => ?_)
  · refine wa_iconst q_X1_limbAt_21 (v := nI 0) (by decide) ?_
    refine wa_goto q_X1_limbAt_22 ?_
    refine wa_iret q_X1_limbAt_31 rfl ?_
    exact ⟨rfl, rfl⟩
  · exact absurd (by decide) hc
theorem C_copyOf {a n N : Nat} {d : Nat → Nat} (h : look σ a = some (ar X n d)) (ha : a < σ.1) (hn : n < N) (hN : N ≤ 100000000) :
    Calls X M_J7_copyOf_59c91 [.ref a, .int (nI N)] σ (fun res τ => res = some (.ref σ.1) ∧ look τ σ.1 = some (ar X N (va_cpy d (fun _ => 0) 0 0 n)) ∧ (∀ q, q ≠ σ.1 → look τ q = look σ q) ∧ τ.1 = σ.1 + 1 ∧ τ.2.1 = σ.2.1 + N) := by
  refine Calls.of rfl (lk rfl) ?_
  refine wa_iload_n q_J7_copyOf_59c91_0 rfl ?_
  refine wa_aload_n q_J7_copyOf_59c91_1 rfl ?_
  refine wn_alen q_J7_copyOf_59c91_2 (by assumption) ?_
  refine wn_icmp_ne q_J7_copyOf_59c91_3 (by omega) (by omega) (fun hc => ?_) (fun hc => ?_)
  · refine wa_iload_n q_J7_copyOf_59c91_14 rfl ?_
    refine wn_newi q_J7_copyOf_59c91_15 hN (fun σ1 g1 g2 g3 g4 => ?_)
    have hs : look σ1 a = some (ar X n d) := (g2 a (by omega)).trans h
    refine wa_astore_n q_J7_copyOf_59c91_17 (by decide) ?_
    refine wa_aload_n q_J7_copyOf_59c91_18 rfl ?_
    refine wa_iconst q_J7_copyOf_59c91_19 (v := nI 0) (by decide) ?_
    refine wa_aload_n q_J7_copyOf_59c91_20 rfl ?_
    refine wa_iconst q_J7_copyOf_59c91_21 (v := nI 0) (by decide) ?_
    refine wa_aload_n q_J7_copyOf_59c91_22 rfl ?_
    refine wn_alen q_J7_copyOf_59c91_23 (by assumption) ?_
    refine wa_iload_n q_J7_copyOf_59c91_24 rfl ?_
    refine wn_mmin q_J7_copyOf_59c91_25 a_RJ7_304 (lk rfl) (lk rfl) (by omega) (by omega) ?_
    rw [Nat.min_eq_left (by omega)]
    refine wn_copyi q_J7_copyOf_59c91_28 a_RJ7_150 (lk rfl) (lk rfl) hs g1 (by omega) (by omega) (by omega) (by omega) (fun σ2 k1 k2 k3 k4 => ?_)
    refine wa_aload_n q_J7_copyOf_59c91_31 rfl ?_
    refine wa_aret q_J7_copyOf_59c91_32 rfl (Or.inr ⟨_, rfl⟩) (Or.inr ⟨_, rfl⟩) ?_
    exact ⟨rfl, k1, fun q hq => (k2 q hq).trans (g2 q hq), by omega, by omega⟩
  · exact absurd hc (by omega)
theorem C_extend_loop {ρ σ0 : en_S} {a r n sz room : Nat} {d : Nat → Nat} {sg : Int32} {Q : Option Value → en_S → Prop} (hn : n ≤ 512) (hs : sz ≤ n) (hroom : room ≤ n) (hne : a ≠ r)
    (k : ∀ σ1 d1, look σ1 a = some (bE sg sz r) → look σ1 r = some (ar X n d1) → (∀ j, j < sz → d1 j = d j) → (∀ j, sz ≤ j → j < room → d1 j = 0) → (∀ q, q ≠ r → look σ1 q = look σ0 q) → σ1.1 = σ0.1 → σ1.2.1 = σ0.2.1 → WA X M_X1_extend ρ 54 [(1, .int (nI room)), (0, .ref a)] [] σ1 Q) :
    ∀ (t i : Nat) (σ : en_S) (d1 : Nat → Nat), room - i = t → sz ≤ i → i ≤ 512 → look σ a = some (bE sg sz r) → look σ r = some (ar X n d1) → (∀ j, j < sz → d1 j = d j) → (∀ j, sz ≤ j → j < i → d1 j = 0) → (∀ q, q ≠ r → look σ q = look σ0 q) → σ.1 = σ0.1 → σ.2.1 = σ0.2.1 →
      WA X M_X1_extend ρ 36 [(2, .int (nI i)), (1, .int (nI room)), (0, .ref a)] [] σ Q := by
  intro t
  induction t with
  | zero =>
    intro i σ d1 ht h0 hi ha hr h1 h2 h3 h4 h5
    refine wa_iload_n q_X1_extend_36 rfl ?_
    refine wa_iload_n q_X1_extend_37 rfl ?_
    refine wn_icmp_ge q_X1_extend_38 (by omega) (by omega) (fun hc => ?_) (fun hc => ?_)
    · exact wa_lv (k σ d1 ha hr h1 (fun j j1 j2 => h2 j j1 (by omega)) h3 h4 h5) rfl
    · exact absurd hc (by omega)
  | succ t ih =>
    intro i σ d1 ht h0 hi ha hr h1 h2 h3 h4 h5
    refine wa_iload_n q_X1_extend_36 rfl ?_
    refine wa_iload_n q_X1_extend_37 rfl ?_
    refine wn_icmp_ge q_X1_extend_38 (by omega) (by omega) (fun hc => ?_) (fun hc => ?_)
    · exact absurd hc (by omega)
    · refine wa_aload_n q_X1_extend_41 rfl ?_
      refine wa_getf q_X1_extend_42 f_RX1_11 (by assumption) rfl ?_
      refine wa_iload_n q_X1_extend_45 rfl ?_
      refine wa_iconst q_X1_extend_46 (v := nI 0) (by decide) ?_
      refine wn_iast q_X1_extend_47 (by assumption) (by omega) (by omega) (fun σ_hr1 hr1 f_hr1 e1_hr1 e2_hr1 => ?_)
      have ha := (f_hr1 a hne).trans ha
      refine wn_iinc q_X1_extend_48 rfl (by decide) ?_
      refine wa_goto q_X1_extend_51 ?_
      refine wa_lv (ih (i + 1) σ_hr1 _ (by omega) (by omega) (by omega) ha hr1 (fun j hj => ?_) (fun j j1 j2 => ?_) (fun q hq => (f_hr1 q hq).trans (h3 q hq)) (by omega) (by omega)) rfl
      · rw [un_n (by omega)]; exact h1 j hj
      · by_cases e : j = i
        · rw [e]; exact un_s
        · rw [un_n e]; exact h2 j j1 (by omega)
theorem C_extend_tail {ρ σ0 : en_S} {a r n sz room : Nat} {d : Nat → Nat} {sg : Int32} {Q : Option Value → en_S → Prop} (hn : n ≤ 512) (hs : sz ≤ n) (hroom : room ≤ n) (ha : look σ0 a = some (bE sg sz r)) (hr : look σ0 r = some (ar X n d))
    (k : ∀ τ d1, look τ a = some (bE sg (max sz room) r) → look τ r = some (ar X n d1) → (∀ j, j < sz → d1 j = d j) → (∀ j, sz ≤ j → j < room → d1 j = 0) → (∀ q, q ≠ a → q ≠ r → look τ q = look σ0 q) → τ.1 = σ0.1 → τ.2.1 = σ0.2.1 → Q none τ) :
    WA X M_X1_extend ρ 31 [(1, .int (nI room)), (0, .ref a)] [] σ0 Q := by
  have hne := ne_oa ha hr
  refine wa_aload_n q_X1_extend_31 rfl ?_
  refine wa_getf q_X1_extend_32 f_RX1_15 (by assumption) rfl ?_
  refine wa_istore_n q_X1_extend_35 (by decide) ?_
  refine wa_lv (C_extend_loop (σ0 := σ0) hn hs hroom hne ?_ _ sz σ0 d rfl (Nat.le_refl _) (by omega) ha hr (fun _ _ => rfl) (fun j j1 j2 => absurd j1 (by omega)) (fun _ _ => rfl) rfl rfl) rfl
  intro σ1 d1 b1 b2 b3 b4 b5 b6 b7
  refine wa_aload_n q_X1_extend_54 rfl ?_
  refine wa_aload_n q_X1_extend_55 rfl ?_
  refine wa_getf q_X1_extend_56 f_RX1_15 (by assumption) rfl ?_
  refine wa_iload_n q_X1_extend_59 rfl ?_
  refine wn_mmax q_X1_extend_60 a_RX1_19 (lk rfl) (lk rfl) (by omega) (by omega) ?_
  refine wn_putf q_X1_extend_63 p_RX1_15 (by assumption) (lk rfl) rfl rfl rfl (fun σ_b8 b8 f_b8 e1_b8 e2_b8 => ?_)
  refine wa_vret q_X1_extend_66 rfl ?_
  exact k _ d1 b8 ((f_b8 _ hne.symm).trans b2) b3 b4 (fun q q1 q2 => (f_b8 q q1).trans (b5 q q2)) (by omega) (by omega)
theorem C_extend {a room : Nat} (h : bw_R X D σ S) (ha : a ∈ D) (hroom : room ≤ 256) :
    Calls X M_X1_extend [.ref a, .int (nI room)] σ (fun res τ => res = none ∧ ∃ b : en_B, b.2.2.1 = max (S a).2.2.1 room ∧ b.2.2.2.2 = (S a).2.2.2.2 ∧ (∀ i, i < (S a).2.2.1 → b.2.2.2.1 i = (S a).2.2.2.1 i) ∧ (∀ i, (S a).2.2.1 ≤ i → i < room → b.2.2.2.1 i = 0) ∧ bw_R X D τ (uB S a b) ∧ bw_St D σ S τ (uB S a b)) := by
  obtain ⟨h1, h2, h3, h4, h5, h6, h7⟩ := h.1 a ha
  have hne := ne_oa h1 h2
  refine Calls.of rfl (lk rfl) ?_
  refine wa_iload_n q_X1_extend_0 rfl ?_
  refine wa_aload_n q_X1_extend_1 rfl ?_
  refine wa_getf q_X1_extend_2 f_RX1_11 (by assumption) rfl ?_
  refine wn_alen q_X1_extend_5 (by assumption) ?_
  refine wn_icmp_le q_X1_extend_6 (by omega) (by omega) (fun hc => ?_) (fun hc => ?_)
  · refine wa_lv (C_extend_tail h5 h3 hc h1 h2 ?_) rfl
    intro τ d1 b1 b2 b3 b4 b5 b6 b7
    exact ⟨rfl, ((S a).1, (S a).2.1, max (S a).2.2.1 room, d1, (S a).2.2.2.2), rfl, rfl, b3, b4, bw_R.step h ha (by omega) ⟨b1, b2, by show max _ _ ≤ (S a).2.1; omega, h4, h5, by omega, by show (S a).1 < _; omega⟩ (fun q q1 q2 q3 => b5 q q2 q3) (Or.inl rfl) (Nat.le_refl _) (by show _ ≤ 8 * _ + (S a).2.1; omega) (by show _ ≤ _ + 2 * (S a).2.1; omega)⟩
  · refine wa_aload_n q_X1_extend_9 rfl ?_
    refine wa_aload_n q_X1_extend_10 rfl ?_
    refine wa_getf q_X1_extend_11 f_RX1_11 (by assumption) rfl ?_
    refine wa_iload_n q_X1_extend_14 rfl ?_
    refine wa_iconst q_X1_extend_15 (v := nI 2) (by decide) ?_
    refine wa_aload_n q_X1_extend_16 rfl ?_
    refine wa_getf q_X1_extend_17 f_RX1_11 (by assumption) rfl ?_
    refine wn_alen q_X1_extend_20 (by assumption) ?_
    refine wn_imul q_X1_extend_21 ?_
    refine wn_mmax q_X1_extend_22 a_RX1_19 (lk rfl) (lk rfl) (by omega) (by omega) ?_
    refine wa_callS q_X1_extend_25 g_X1_extend_25 w_J7_copyOf_59c91 (av := [_, _]) rfl rfl (lk rfl) (Calls.mono (C_copyOf h2 h7 (by omega) (by omega)) ?_)
    rintro _ σ1 ⟨rfl, k1, k2, k3, k4⟩
    have ha1 : look σ1 a = some (bE (S a).2.2.2.2 (S a).2.2.1 (S a).1) := (k2 a (by omega)).trans h1
    refine wn_putf q_X1_extend_28 p_RX1_11 (by assumption) (lk rfl) rfl rfl rfl (fun σ_ha2 ha2 f_ha2 e1_ha2 e2_ha2 => ?_)
    have hr2 := (f_ha2 _ (by omega)).trans k1
    refine wa_lv (C_extend_tail (n := max room (2 * (S a).2.1)) (by omega) (by omega) (by omega) ha2 hr2 ?_) rfl
    intro τ d1 b1 b2 b3 b4 b5 b6 b7
    refine ⟨rfl, (σ.1, max room (2 * (S a).2.1), max (S a).2.2.1 room, d1, (S a).2.2.2.2), rfl, rfl, fun i hi => (b3 i hi).trans ?_, b4, bw_R.step h ha (by omega) ⟨b1, b2, by show max _ _ ≤ max room (2 * (S a).2.1); omega, by show 8 ≤ max _ _; omega, by show max _ _ ≤ 512; omega, by omega, by show σ.1 < _; omega⟩ (fun q q1 q2 q3 => ?_) (Or.inr (Nat.le_refl _)) (by show (S a).2.1 ≤ max _ _; omega) (by show _ ≤ 8 * _ + max room (2 * (S a).2.1); omega) (by show _ ≤ _ + 2 * max room (2 * (S a).2.1); omega)⟩
    · rw [pk_cpy_in (by omega) (by omega), Nat.zero_add, Nat.sub_zero]
    · rw [b5 q q2 (by omega), f_ha2 q q2, k2 q (by omega)]
theorem C_copy {a b : Nat} (h : bw_R X D σ S) (ha : a ∈ D) (hb : b ∈ D) (hab : a ≠ b) (hsz : (S b).2.2.1 ≤ 256) :
    Calls X M_X1_copy [.ref a, .ref b] σ (fun res τ => res = none ∧ ∃ c : en_B, c.2.2.1 = (S b).2.2.1 ∧ c.2.2.2.2 = (S b).2.2.2.2 ∧ (∀ i, i < (S b).2.2.1 → c.2.2.2.1 i = (S b).2.2.2.1 i) ∧ bw_R X D τ (uB S a c) ∧ bw_St D σ S τ (uB S a c)) := by
  obtain ⟨b1, b2, b3, b4, b5, b6, b7⟩ := h.1 b hb
  obtain ⟨a1, a2, a3, a4, a5, a6, a7⟩ := h.1 a ha
  refine Calls.of rfl (lk rfl) ?_
  refine wa_aload_n q_X1_copy_0 rfl ?_
  refine wa_aload_n q_X1_copy_1 rfl ?_
  refine wa_getf q_X1_copy_2 f_RX1_15 (by assumption) rfl ?_
  refine wa_callV q_X1_copy_5 g_X1_copy_5 w_X1_extend (by assumption) rfl (av := [_]) rfl rfl (lk rfl) (Calls.mono (C_extend h ha hsz) ?_)
  rintro _ σ1 ⟨rfl, e, k1, k2, k3, k4, k5, k6⟩
  obtain ⟨c1, c2, c3, c4, c5, c6, c7⟩ := k5.1 b hb
  rw [uB_n (fun z => hab z.symm)] at c1 c2 c3 c4 c5 c7
  obtain ⟨e1, e2, e3, e4, e5, e6, e7⟩ := k5.1 a ha
  rw [uB_s] at e1 e2 e3 e4 e5 e7
  have hne := ne_oa e1 e2
  have hnb := ne_oa c1 e2
  refine wa_aload_n q_X1_copy_8 rfl ?_
  refine wa_getf q_X1_copy_9 f_RX1_11 (by assumption) rfl ?_
  refine wa_iconst q_X1_copy_12 (v := nI 0) (by decide) ?_
  refine wa_aload_n q_X1_copy_13 rfl ?_
  refine wa_getf q_X1_copy_14 f_RX1_11 (by assumption) rfl ?_
  refine wa_iconst q_X1_copy_17 (v := nI 0) (by decide) ?_
  refine wa_aload_n q_X1_copy_18 rfl ?_
  refine wa_getf q_X1_copy_19 f_RX1_15 (by assumption) rfl ?_
  refine wn_copyi q_X1_copy_22 a_RX1_41 (lk rfl) (lk rfl) c2 e2 (by omega) (by omega) (by omega) (by omega) (fun σ2 g1 g2 g3 g4 => ?_)
  have e1 := (g2 _ hne).trans e1
  have c1 := (g2 _ hnb).trans c1
  refine wa_aload_n q_X1_copy_25 rfl ?_
  refine wa_aload_n q_X1_copy_26 rfl ?_
  refine wa_getf q_X1_copy_27 f_RX1_15 (by assumption) rfl ?_
  refine wn_putf q_X1_copy_30 p_RX1_15 (by assumption) (lk rfl) rfl rfl rfl (fun σ_e8 e8 f_e8 e1_e8 e2_e8 => ?_)
  have c1 := (f_e8 _ (fun z => hab z.symm)).trans c1
  refine wa_aload_n q_X1_copy_33 rfl ?_
  refine wa_aload_n q_X1_copy_34 rfl ?_
  refine wa_getf q_X1_copy_35 f_RX1_34 (by assumption) rfl ?_
  refine wn_putf q_X1_copy_38 p_RX1_34 (by assumption) (lk rfl) rfl rfl rfl (fun σ_e9 e9 f_e9 e1_e9 e2_e9 => ?_)
  refine wa_vret q_X1_copy_41 rfl ?_
  have g1 := (f_e9 _ hne.symm).trans ((f_e8 _ hne.symm).trans g1)
  have st := bw_R.step (τ := σ_e9) (b := (e.1, e.2.1, (S b).2.2.1, va_cpy (S b).2.2.2.1 e.2.2.2.1 0 0 (S b).2.2.1, (S b).2.2.2.2)) k5 ha (by omega) ⟨e9, g1, by show (S b).2.2.1 ≤ e.2.1; omega, e4, e5, by omega, by show e.1 < _; omega⟩ (fun q q1 q2 q3 => by rw [uB_s] at q3; rw [f_e9 q q2, f_e8 q q2, g2 q q3]) (Or.inl (by rw [uB_s])) (by rw [uB_s]; exact Nat.le_refl _) (by rw [uB_s]; show _ ≤ 8 * _ + e.2.1; omega) (by rw [uB_s]; show _ ≤ _ + 2 * e.2.1; omega)
  rw [uB_u] at st
  refine ⟨rfl, _, ?_, ?_, ?_, st.1, k6.tr st.2⟩
  · rfl
  · rfl
  · intro i hi
    show va_cpy _ _ _ _ _ i = _
    rw [pk_cpy_in (by omega) (by omega), Nat.zero_add, Nat.sub_zero]
end big1
end
section
/-! EnclosedDigits$Big: what it stands for; multiplyLimbs, addLimbs, subtractLimbs, compareSizes, compare -/
def isV (b : en_B) (v : Int) : Prop := b.2.2.2.2 = sgI v ∧ vl b.2.2.2.1 b.2.2.1 = v.natAbs ∧ nrm b.2.2.2.1 b.2.2.1
theorem isV_sz {b : en_B} {v : Int} (h : isV b v) : b.2.2.1 = 0 ↔ v = 0 := by
  rw [← nrm_zero h.2.2, h.2.1]; omega
theorem sgI_0 {v : Int} : sgI v = 0 ↔ v = 0 := by
  unfold sgI
  constructor
  · intro h
    split at h
    · exact absurd h (by decide)
    · split at h
      · assumption
      · exact absurd h (by decide)
  · intro h; subst h; decide
section big2
variable {X : en_X} {σ : en_S} {D : List Nat} {S : Nat → en_B}
theorem C_mulL_loop {ρ σ0 : en_S} {a r n sz f : Nat} {d : Nat → Nat} {sg : Int32} {Q : Option Value → en_S → Prop} (hn : n ≤ 512) (hs : sz ≤ n) (hf : f ≤ BB) (hd : ∀ i, i < sz → d i < BB) (hfit : f * vl d sz < BB ^ sz) (hne : a ≠ r)
    (k : ∀ σ1 d1, look σ1 a = some (bE sg sz r) → look σ1 r = some (ar X n d1) → (∀ j, j < sz → d1 j < BB) → vl d1 sz = f * vl d sz → (∀ q, q ≠ r → look σ1 q = look σ0 q) → σ1.1 = σ0.1 → σ1.2.1 = σ0.2.1 → Q none σ1) :
    ∀ (t i c : Nat) (σ : en_S) (d1 : Nat → Nat), sz - i = t → i ≤ sz → c ≤ f → look σ a = some (bE sg sz r) → look σ r = some (ar X n d1) → (∀ j, j < i → d1 j < BB) → (∀ j, i ≤ j → d1 j = d j) → vl d1 sz + c * BB ^ i + vl d i = vl d sz + f * vl d i → (∀ q, q ≠ r → look σ q = look σ0 q) → σ.1 = σ0.1 → σ.2.1 = σ0.2.1 →
      WA X M_X1_multiplyLimbs ρ 5 [(5, .int (nI i)), (3, .long (lN c)), (1, .long (lN f)), (0, .ref a)] [] σ Q := by
  have hB : BB = 1000000000 := rfl
  intro t
  induction t with
  | zero =>
    intro i c σ d1 ht hi hc ha hr h1 h2 h3 h4 h5 h6
    refine wa_iload q_X1_multiplyLimbs_5 rfl ?_
    refine wa_aload_n q_X1_multiplyLimbs_7 rfl ?_
    refine wa_getf q_X1_multiplyLimbs_8 f_RX1_15 (by assumption) rfl ?_
    refine wn_icmp_ge q_X1_multiplyLimbs_11 (by omega) (by omega) (fun hx => ?_) (fun hx => ?_)
    · refine wa_vret q_X1_multiplyLimbs_57 rfl ?_
      have e : i = sz := by omega
      subst e
      have hc0 : c = 0 := by
        rcases Nat.eq_zero_or_pos c with z | z
        · exact z
        · have : 1 * BB ^ i ≤ c * BB ^ i := Nat.mul_le_mul_right _ z
          omega
      subst hc0
      exact k σ d1 ha hr h1 (by omega) h4 h5 h6
    · exact absurd hx (by omega)
  | succ t ih =>
    intro i c σ d1 ht hi hc ha hr h1 h2 h3 h4 h5 h6
    refine wa_iload q_X1_multiplyLimbs_5 rfl ?_
    refine wa_aload_n q_X1_multiplyLimbs_7 rfl ?_
    refine wa_getf q_X1_multiplyLimbs_8 f_RX1_15 (by assumption) rfl ?_
    refine wn_icmp_ge q_X1_multiplyLimbs_11 (by omega) (by omega) (fun hx => ?_) (fun hx => ?_)
    · exact absurd hx (by omega)
    · have hdi : d1 i = d i := h2 i (by omega)
      have hdi2 : d i < BB := hd i (by omega)
      have hb1 : d i * f ≤ (BB - 1) * f := Nat.mul_le_mul_right _ (by omega)
      have hb2 : (BB - 1) * f + f = BB * f := by rw [Nat.sub_mul, Nat.one_mul]; exact Nat.sub_add_cancel (Nat.le_mul_of_pos_left f BB_pos)
      have hb3 : BB * f ≤ 1000000000 * 1000000000 := by rw [hB]; exact Nat.mul_le_mul_left _ (by omega)
      refine wa_aload_n q_X1_multiplyLimbs_14 rfl ?_
      refine wa_getf q_X1_multiplyLimbs_15 f_RX1_11 (by assumption) rfl ?_
      refine wa_iload q_X1_multiplyLimbs_18 rfl ?_
      refine wn_iald q_X1_multiplyLimbs_20 (by assumption) (by omega) (by omega) ?_
      rw [hdi]
      refine wn_i2l q_X1_multiplyLimbs_21 (by omega) ?_
      refine wa_lload_n q_X1_multiplyLimbs_22 rfl ?_
      refine wn_lmul q_X1_multiplyLimbs_23 ?_
      refine wa_lload_n q_X1_multiplyLimbs_24 rfl ?_
      refine wn_ladd q_X1_multiplyLimbs_25 ?_
      refine wa_lstore q_X1_multiplyLimbs_26 (by decide) ?_
      refine wa_lload q_X1_multiplyLimbs_28 rfl ?_
      refine wa_ldc2 q_X1_multiplyLimbs_30 k_RX1_50 ?_
      refine wn_ldiv q_X1_multiplyLimbs_33 (by omega) (by omega) (by omega) ?_
      refine wa_lstore_n q_X1_multiplyLimbs_34 (by decide) ?_
      refine wa_aload_n q_X1_multiplyLimbs_35 rfl ?_
      refine wa_getf q_X1_multiplyLimbs_36 f_RX1_11 (by assumption) rfl ?_
      refine wa_iload q_X1_multiplyLimbs_39 rfl ?_
      refine wa_lload q_X1_multiplyLimbs_41 rfl ?_
      refine wa_lload_n q_X1_multiplyLimbs_43 rfl ?_
      refine wa_ldc2 q_X1_multiplyLimbs_44 k_RX1_50 ?_
      refine wn_lmul q_X1_multiplyLimbs_47 ?_
      have hm : (d i * f + c) / 1000000000 * 1000000000 ≤ d i * f + c := Nat.div_mul_le_self _ _
      refine wn_lsub q_X1_multiplyLimbs_48 (by omega) ?_
      refine wn_l2i q_X1_multiplyLimbs_49 ?_
      refine wn_iast q_X1_multiplyLimbs_50 (by assumption) (by omega) (by omega) (fun σ_hr1 hr1 f_hr1 e1_hr1 e2_hr1 => ?_)
      have ha := (f_hr1 a hne).trans ha
      refine wn_iinc q_X1_multiplyLimbs_51 rfl (by decide) ?_
      refine wa_goto q_X1_multiplyLimbs_54 ?_
      have hq := Nat.div_add_mod (d i * f + c) 1000000000
      have hml := Nat.mod_lt (d i * f + c) (show 0 < 1000000000 by decide)
      have hsub : d i * f + c - (d i * f + c) / 1000000000 * 1000000000 = (d i * f + c) % 1000000000 := by omega
      rw [hsub] at hr1
      have hu := vl_un (d := d1) (n := sz) (i := i) (x := (d i * f + c) % 1000000000) (by omega)
      have e1 : vl d (i + 1) = vl d i + d i * BB ^ i := rfl
      refine wa_lv (ih (i + 1) ((d i * f + c) / 1000000000) σ_hr1 _ (by omega) (by omega) ?_ ha hr1 (fun j hj => ?_) (fun j hj => ?_) ?_ (fun q hq => (f_hr1 q hq).trans (h4 q hq)) (by omega) (by omega)) rfl
      · rw [← hB]; exact Nat.div_le_of_le_mul (by omega)
      · by_cases e : j = i
        · rw [e, un_s, hB]; exact hml
        · rw [un_n e]; exact h1 j (by omega)
      · rw [un_n (by omega)]; exact h2 j (by omega)
      · rw [e1, Nat.pow_succ, hB] 
        rw [hdi] at hu
        rw [hB] at hu h3
        generalize (d i * f + c) / 1000000000 = qq at *
        generalize (d i * f + c) % 1000000000 = mm at *
        grind
theorem C_mulL {a f : Nat} (h : bw_R X D σ S) (ha : a ∈ D) (hf : f ≤ BB) (hd : ∀ i, i < (S a).2.2.1 → (S a).2.2.2.1 i < BB) (hfit : f * vl (S a).2.2.2.1 (S a).2.2.1 < BB ^ (S a).2.2.1) :
    Calls X M_X1_multiplyLimbs [.ref a, .long (lN f)] σ (fun res τ => res = none ∧ ∃ b : en_B, b.2.2.1 = (S a).2.2.1 ∧ b.2.2.2.2 = (S a).2.2.2.2 ∧ (∀ i, i < b.2.2.1 → b.2.2.2.1 i < BB) ∧ vl b.2.2.2.1 b.2.2.1 = f * vl (S a).2.2.2.1 (S a).2.2.1 ∧ bw_R X D τ (uB S a b) ∧ bw_St D σ S τ (uB S a b)) := by
  obtain ⟨h1, h2, h3, h4, h5, h6, h7⟩ := h.1 a ha
  have hne := ne_oa h1 h2
  refine Calls.of rfl (lk rfl) ?_
  refine wa_lconst q_X1_multiplyLimbs_0 (v := lN 0) (by decide) ?_
  refine wa_lstore_n q_X1_multiplyLimbs_1 (by decide) ?_
  refine wa_iconst q_X1_multiplyLimbs_2 (v := nI 0) (by decide) ?_
  refine wa_istore q_X1_multiplyLimbs_3 (by decide) ?_
  refine wa_lv (C_mulL_loop (σ0 := σ) h5 h3 hf hd hfit hne ?_ _ 0 0 σ _ rfl (Nat.zero_le _) (Nat.zero_le _) h1 h2 (fun j hj => absurd hj (by omega)) (fun _ _ => rfl) (by simp [vl]) (fun _ _ => rfl) rfl rfl) rfl
  intro τ d1 b1 b2 b3 b4 b5 b6 b7
  refine ⟨rfl, ((S a).1, (S a).2.1, (S a).2.2.1, d1, (S a).2.2.2.2), rfl, rfl, b3, b4, bw_R.step h ha (by omega) ⟨b1, b2, h3, h4, h5, by omega, by show (S a).1 < _; omega⟩ (fun q q1 q2 q3 => b5 q q3) (Or.inl rfl) (Nat.le_refl _) (by show _ ≤ 8 * _ + (S a).2.1; omega) (by show _ ≤ _ + 2 * (S a).2.1; omega)⟩
end big2
end
section
/-! EnclosedDigits$Big: addLimbs, subtractLimbs -/
/-- limbs with zeros above -/
def pad (d : Nat → Nat) (n : Nat) : Nat → Nat := fun j => if j < n then d j else 0
theorem vl_padd {d : Nat → Nat} {n i : Nat} (h : n ≤ i) : vl (pad d n) i = vl d n := by
  rw [vl_pad (d := pad d n) h (fun j h1 _ => if_neg (by omega))]
  exact vl_congr (fun j hj => if_pos hj)
section big3
variable {X : en_X} {σ : en_S} {D : List Nat} {S : Nat → en_B}
theorem C_addL_loop {ρ σ0 : en_S} {a b r rb n nb m sb : Nat} {d db : Nat → Nat} {sg sgb s : Int32} {Q : Option Value → en_S → Prop} (hn : n ≤ 512) (hm : m ≤ n) (hsb : sb < m) (hnb : nb ≤ 512) (hsn : sb ≤ nb) (hd : ∀ i, i < m → d i < BB) (hdb : ∀ i, i < sb → db i < BB) (hfit : vl d m + vl db sb < BB ^ m) (hne : a ≠ r) (hbr : b ≠ r) (hrr : rb ≠ r)
    (k : ∀ σ1 d1, look σ1 a = some (bE sg m r) → look σ1 r = some (ar X n d1) → (∀ j, j < m → d1 j < BB) → vl d1 m = vl d m + vl db sb → (∀ q, q ≠ r → look σ1 q = look σ0 q) → σ1.1 = σ0.1 → σ1.2.1 = σ0.2.1 → WA X M_X1_addLimbs ρ 109 [(2, .int s), (0, .ref a)] [] σ1 Q) :
    ∀ (t i c : Nat) (σ : en_S) (d1 : Nat → Nat), m - i = t → i ≤ m → c ≤ 1 → look σ a = some (bE sg m r) → look σ r = some (ar X n d1) → look σ b = some (bE sgb sb rb) → look σ rb = some (ar X nb db) → (∀ j, j < m → d1 j < BB) → (∀ j, i ≤ j → d1 j = d j) → vl d1 m + c * BB ^ i = vl d m + vl (pad db sb) i → (∀ q, q ≠ r → look σ q = look σ0 q) → σ.1 = σ0.1 → σ.2.1 = σ0.2.1 →
      WA X M_X1_addLimbs ρ 22 [(4, .int (nI i)), (3, .int (nI c)), (2, .int s), (1, .ref b), (0, .ref a)] [] σ Q := by
  have hB : BB = 1000000000 := rfl
  intro t
  induction t with
  | zero =>
    intro i c σ d1 ht hi hc ha hr hb hrb h1 h2 h3 h4 h5 h6
    refine wa_iload q_X1_addLimbs_22 rfl ?_
    refine wa_aload_n q_X1_addLimbs_24 rfl ?_
    refine wa_getf q_X1_addLimbs_25 f_RX1_15 (by assumption) rfl ?_
    refine wn_icmp_ge q_X1_addLimbs_28 (by omega) (by omega) (fun hx => ?_) (fun hx => ?_)
    · have e : i = m := by omega
      subst e
      rw [vl_padd (by omega)] at h3
      have hc0 : c = 0 := by
        rcases Nat.eq_zero_or_pos c with z | z
        · exact z
        · have : 1 * BB ^ i ≤ c * BB ^ i := Nat.mul_le_mul_right _ z
          omega
      subst hc0
      exact wa_lv (k σ d1 ha hr h1 (by omega) h4 h5 h6) rfl
    · exact absurd hx (by omega)
  | succ t ih =>
    intro i c σ d1 ht hi hc ha hr hb hrb h1 h2 h3 h4 h5 h6
    refine wa_iload q_X1_addLimbs_22 rfl ?_
    refine wa_aload_n q_X1_addLimbs_24 rfl ?_
    refine wa_getf q_X1_addLimbs_25 f_RX1_15 (by assumption) rfl ?_
    refine wn_icmp_ge q_X1_addLimbs_28 (by omega) (by omega) (fun hx => ?_) (fun hx => ?_)
    · exact absurd hx (by omega)
    · have hgo : WA X M_X1_addLimbs ρ 44 [(4, .int (nI i)), (3, .int (nI c)), (2, .int s), (1, .ref b), (0, .ref a)] [] σ Q := by
        have hdi : d1 i < BB := h1 i (by omega)
        have hpi : pad db sb i < BB := by unfold pad; split; exact hdb i (by assumption); exact BB_pos
        refine wa_aload_n q_X1_addLimbs_44 rfl ?_
        refine wa_getf q_X1_addLimbs_45 f_RX1_11 (by assumption) rfl ?_
        refine wa_iload q_X1_addLimbs_48 rfl ?_
        refine wn_iald q_X1_addLimbs_50 (by assumption) (by omega) (by omega) ?_
        have hj : WA X M_X1_addLimbs ρ 71 [(4, .int (nI i)), (3, .int (nI c)), (2, .int s), (1, .ref b), (0, .ref a)] [.int (nI (pad db sb i)), .int (nI (d1 i))] σ Q := by
          refine wn_iadd q_X1_addLimbs_71 ?_
          refine wa_iload_n q_X1_addLimbs_72 rfl ?_
          refine wn_iadd q_X1_addLimbs_73 ?_
          refine wa_istore q_X1_addLimbs_74 (by decide) ?_
          have hk : ∀ c', (c' = 1 ∧ 1000000000 ≤ d1 i + pad db sb i + c) ∨ (c' = 0 ∧ d1 i + pad db sb i + c < 1000000000) → WA X M_X1_addLimbs ρ 88 [(5, .int (nI (d1 i + pad db sb i + c))), (4, .int (nI i)), (3, .int (nI c)), (2, .int s), (1, .ref b), (0, .ref a)] [.int (nI c')] σ Q := by
            intro c' hc'
            have hcc : c' * 1000000000 ≤ d1 i + pad db sb i + c := by omega
            refine wa_istore_n q_X1_addLimbs_88 (by decide) ?_
            refine wa_aload_n q_X1_addLimbs_89 rfl ?_
            refine wa_getf q_X1_addLimbs_90 f_RX1_11 (by assumption) rfl ?_
            refine wa_iload q_X1_addLimbs_93 rfl ?_
            refine wa_iload q_X1_addLimbs_95 rfl ?_
            refine wa_iload_n q_X1_addLimbs_97 rfl ?_
            refine wa_ldc q_X1_addLimbs_98 k_RX1_86 ?_
            refine wn_imul q_X1_addLimbs_100 ?_
            refine wn_isub q_X1_addLimbs_101 (by omega) ?_
            refine wn_iast q_X1_addLimbs_102 (by assumption) (by omega) (by omega) (fun σ_hr1 hr1 f_hr1 e1_hr1 e2_hr1 => ?_)
            have ha := (f_hr1 a hne).trans ha
            have hb := (f_hr1 b hbr).trans hb
            have hrb := (f_hr1 rb hrr).trans hrb
            refine wn_iinc q_X1_addLimbs_103 rfl (by decide) ?_
            refine wa_goto q_X1_addLimbs_106 ?_
            have hu := vl_un (d := d1) (n := m) (i := i) (x := d1 i + pad db sb i + c - c' * 1000000000) (by omega)
            have e1 : vl (pad db sb) (i + 1) = vl (pad db sb) i + pad db sb i * BB ^ i := rfl
            have e2 : d1 i + pad db sb i + c - c' * 1000000000 + c' * 1000000000 = d1 i + pad db sb i + c := by omega
            refine wa_lv (ih (i + 1) c' σ_hr1 _ (by omega) (by omega) (by omega) ha hr1 hb hrb (un_lt h1 (by omega)) (fun j hj => ?_) ?_ (fun q hq => (f_hr1 q hq).trans (h4 q hq)) (by omega) (by omega)) rfl
            · rw [un_n (by omega)]; exact h2 j (by omega)
            · rw [e1, Nat.pow_succ, hB]
              rw [hB] at hu h3
              generalize d1 i + pad db sb i + c - c' * 1000000000 = xx at *
              grind
          refine wa_iload q_X1_addLimbs_76 rfl ?_
          refine wa_ldc q_X1_addLimbs_78 k_RX1_86 ?_
          refine wn_icmp_lt q_X1_addLimbs_80 (by omega) (by omega) (fun hy => ?_) (fun hy => ?_)
          · refine wa_iconst q_X1_addLimbs_87 (v := nI 0) (by decide) ?_
            exact wa_lv (hk 0 (Or.inr ⟨rfl, hy⟩)) rfl
          · refine wa_iconst q_X1_addLimbs_83 (v := nI 1) (by decide) ?_
            refine wa_goto q_X1_addLimbs_84 ?_
            exact wa_lv (hk 1 (Or.inl ⟨rfl, hy⟩)) rfl
        refine wa_iload q_X1_addLimbs_51 rfl ?_
        refine wa_aload_n q_X1_addLimbs_53 rfl ?_
        refine wa_getf q_X1_addLimbs_54 f_RX1_15 (by assumption) rfl ?_
        refine wn_icmp_ge q_X1_addLimbs_57 (by omega) (by omega) (fun hz => ?_) (fun hz => ?_)
        · refine wa_iconst q_X1_addLimbs_70 (v := nI 0) (by decide) ?_
          have e : pad db sb i = 0 := if_neg (by omega)
          rw [e] at hj
          exact hj
        · refine wa_aload_n q_X1_addLimbs_60 rfl ?_
          refine wa_getf q_X1_addLimbs_61 f_RX1_11 (by assumption) rfl ?_
          refine wa_iload q_X1_addLimbs_64 rfl ?_
          refine wn_iald q_X1_addLimbs_66 (by assumption) (by omega) (by omega) ?_
          refine wa_goto q_X1_addLimbs_67 ?_
          have e : pad db sb i = db i := if_pos hz
          rw [e] at hj
          exact hj
      refine wa_iload q_X1_addLimbs_31 rfl ?_
      refine wa_aload_n q_X1_addLimbs_33 rfl ?_
      refine wa_getf q_X1_addLimbs_34 f_RX1_15 (by assumption) rfl ?_
      refine wn_icmp_lt q_X1_addLimbs_37 (by omega) (by omega) (fun hy => ?_) (fun hy => ?_)
      · exact hgo
      · refine wa_iload_n q_X1_addLimbs_40 rfl ?_
        refine wn_if_le q_X1_addLimbs_41 (by omega) (fun hz => ?_) (fun hz => ?_)
        · subst hz
          rw [vl_padd hy] at h3
          exact wa_lv (k σ d1 ha hr h1 (by omega) h4 h5 h6) rfl
        · exact hgo
theorem C_addL {a b : Nat} {s : Int32} (h : bw_R X D σ S) (ha : a ∈ D) (hb : b ∈ D) (hab : a ≠ b) (hda : ∀ i, i < (S a).2.2.1 → (S a).2.2.2.1 i < BB) (hdb : ∀ i, i < (S b).2.2.1 → (S b).2.2.2.1 i < BB) (za : (S a).2.2.1 ≤ 255) (zb : (S b).2.2.1 ≤ 255) :
    Calls X M_X1_addLimbs [.ref a, .ref b, .int s] σ (fun res τ => res = none ∧ ∃ c : en_B, nrm c.2.2.2.1 c.2.2.1 ∧ vl c.2.2.2.1 c.2.2.1 = vl (S a).2.2.2.1 (S a).2.2.1 + vl (S b).2.2.2.1 (S b).2.2.1 ∧ c.2.2.2.2 = (if c.2.2.1 = 0 then 0 else s) ∧ bw_R X D τ (uB S a c) ∧ bw_St D σ S τ (uB S a c)) := by
  obtain ⟨a1, a2, a3, a4, a5, a6, a7⟩ := h.1 a ha
  obtain ⟨b1, b2, b3, b4, b5, b6, b7⟩ := h.1 b hb
  have hB : BB = 1000000000 := rfl
  refine Calls.of rfl (lk rfl) ?_
  refine wa_aload_n q_X1_addLimbs_0 rfl ?_
  refine wa_aload_n q_X1_addLimbs_1 rfl ?_
  refine wa_getf q_X1_addLimbs_2 f_RX1_15 (by assumption) rfl ?_
  refine wa_aload_n q_X1_addLimbs_5 rfl ?_
  refine wa_getf q_X1_addLimbs_6 f_RX1_15 (by assumption) rfl ?_
  refine wn_mmax q_X1_addLimbs_9 a_RX1_19 (lk rfl) (lk rfl) (by omega) (by omega) ?_
  refine wa_iconst q_X1_addLimbs_12 (v := nI 1) (by decide) ?_
  refine wn_iadd q_X1_addLimbs_13 ?_
  refine wa_callV q_X1_addLimbs_14 g_X1_addLimbs_14 w_X1_extend (by assumption) rfl (av := [_]) rfl rfl (lk rfl) (Calls.mono (C_extend h ha (by omega)) ?_)
  rintro _ σ1 ⟨rfl, e, k1, k2, k3, k4, k5, k6⟩
  obtain ⟨c1, c2, c3, c4, c5, c6, c7⟩ := k5.1 b hb
  have hrr := fun z => hab (k5.2 b hb a ha z).symm
  rw [uB_n (fun z => hab z.symm)] at c1 c2 c3 c4 c5 c7 hrr
  obtain ⟨e1, e2, e3, e4, e5, e6, e7⟩ := k5.1 a ha
  rw [uB_s] at e1 e2 e3 e4 e5 e7 hrr
  have hm : e.2.2.1 = max (S a).2.2.1 (S b).2.2.1 + 1 := by omega
  have hv : vl e.2.2.2.1 e.2.2.1 = vl (S a).2.2.2.1 (S a).2.2.1 := by
    rw [vl_pad (n := (S a).2.2.1) (by omega) (fun i h1 h2 => k4 i h1 (by omega))]
    exact vl_congr k3
  have hde : ∀ i, i < e.2.2.1 → e.2.2.2.1 i < BB := by
    intro i hi
    rcases Nat.lt_or_ge i (S a).2.2.1 with q | q
    · rw [k3 i q]; exact hda i q
    · rw [k4 i q (by omega)]; exact BB_pos
  have hfit : vl e.2.2.2.1 e.2.2.1 + vl (S b).2.2.2.1 (S b).2.2.1 < BB ^ e.2.2.1 := by
    rw [hv, hm, Nat.pow_succ]
    have q1 := vl_lt hda
    have q2 := vl_lt hdb
    have q3 := pw_mono (a := (S a).2.2.1) (b := max (S a).2.2.1 (S b).2.2.1) (by omega)
    have q4 := pw_mono (a := (S b).2.2.1) (b := max (S a).2.2.1 (S b).2.2.1) (by omega)
    have q5 : BB ^ max (S a).2.2.1 (S b).2.2.1 * BB = BB ^ max (S a).2.2.1 (S b).2.2.1 * 1000000000 := rfl
    omega
  refine wa_iconst q_X1_addLimbs_17 (v := nI 0) (by decide) ?_
  refine wa_istore_n q_X1_addLimbs_18 (by decide) ?_
  refine wa_iconst q_X1_addLimbs_19 (v := nI 0) (by decide) ?_
  refine wa_istore q_X1_addLimbs_20 (by decide) ?_
  refine wa_lv (C_addL_loop (σ0 := σ1) e5 e3 (by omega) c5 c3 hde hdb hfit (ne_oa e1 e2) (ne_oa c1 e2) hrr ?_ _ 0 0 σ1 _ rfl (Nat.zero_le _) (Nat.zero_le _) e1 e2 c1 c2 hde (fun _ _ => rfl) (by simp [vl]) (fun _ _ => rfl) rfl rfl) rfl
  intro σ2 d1 g1 g2 g3 g4 g5 g6 g7
  have st := bw_R.step (τ := σ2) (b := (e.1, e.2.1, e.2.2.1, d1, e.2.2.2.2)) k5 ha (by omega) ⟨g1, g2, e3, e4, e5, by omega, by show e.1 < _; omega⟩ (fun q q1 q2 q3 => by rw [uB_s] at q3; exact g5 q q3) (Or.inl (by rw [uB_s])) (by rw [uB_s]; exact Nat.le_refl _) (by rw [uB_s]; show _ ≤ 8 * _ + e.2.1; omega) (by rw [uB_s]; show _ ≤ _ + 2 * e.2.1; omega)
  rw [uB_u] at st
  refine wa_aload_n q_X1_addLimbs_109 rfl ?_
  refine wa_iload_n q_X1_addLimbs_110 rfl ?_
  refine wa_callV q_X1_addLimbs_111 g_X1_addLimbs_111 w_X1_trim (by assumption) rfl (av := [_]) rfl rfl (lk rfl) (Calls.mono (C_trim st.1 ha (by rw [uB_s]; intro i hi; have := g3 i hi; show d1 i < _; omega)) ?_)
  rintro _ σ3 ⟨rfl, b, hbe, w1, w2⟩
  rw [uB_s] at hbe
  rw [uB_u] at w1 w2
  refine wa_vret q_X1_addLimbs_114 rfl ?_
  refine ⟨rfl, b, ?_, ?_, ?_, w1, k6.tr (st.2.tr w2)⟩
  · subst hbe
    exact ⟨fun i hi => g3 i (by have := tp_le d1 e.2.2.1; have hi : i < tp d1 e.2.2.1 := hi; omega), tp_top d1 e.2.2.1⟩
  · subst hbe
    show vl d1 (tp d1 e.2.2.1) = _
    rw [vl_tp, g4, hv]
  · subst hbe; rfl
theorem C_subL_loop {ρ σ0 : en_S} {a b r rb n nb m sb : Nat} {d db xx yy : Nat → Nat} {sg sgb s w : Int32} {Q : Option Value → en_S → Prop} (hn : n ≤ 512) (hm : m ≤ n) (hsb : sb ≤ m) (hnb : nb ≤ 512) (hsn : sb ≤ nb) (hw : ∀ i, i < m → w * (nI (d i) - nI (pad db sb i)) = iZ ((xx i : Int) - yy i)) (hx : ∀ i, i < m → xx i < BB) (hy : ∀ i, i < m → yy i < BB) (hle : vl yy m ≤ vl xx m) (hne : a ≠ r) (hbr : b ≠ r) (hrr : rb ≠ r)
    (k : ∀ σ1 d1, look σ1 a = some (bE sg m r) → look σ1 r = some (ar X n d1) → (∀ j, j < m → d1 j < BB) → vl d1 m + vl yy m = vl xx m → (∀ q, q ≠ r → look σ1 q = look σ0 q) → σ1.1 = σ0.1 → σ1.2.1 = σ0.2.1 → WA X M_X1_subtractLimbs ρ 102 [(3, .int s), (0, .ref a)] [] σ1 Q) :
    ∀ (t i c : Nat) (σ : en_S) (d1 : Nat → Nat), m - i = t → i ≤ m → c ≤ 1 → look σ a = some (bE sg m r) → look σ r = some (ar X n d1) → look σ b = some (bE sgb sb rb) → look σ rb = some (ar X nb db) → (∀ j, j < i → d1 j < BB) → (∀ j, i ≤ j → d1 j = d j) → vl d1 i + vl yy i + c * 0 = vl xx i + c * BB ^ i → (∀ q, q ≠ r → look σ q = look σ0 q) → σ.1 = σ0.1 → σ.2.1 = σ0.2.1 →
      WA X M_X1_subtractLimbs ρ 21 [(5, .int (nI i)), (4, .int (nI c)), (3, .int s), (2, .int w), (1, .ref b), (0, .ref a)] [] σ Q := by
  have hB : BB = 1000000000 := rfl
  intro t
  induction t with
  | zero =>
    intro i c σ d1 ht hi hc ha hr hb hrb h1 h2 h3 h4 h5 h6
    refine wa_iload q_X1_subtractLimbs_21 rfl ?_
    refine wa_aload_n q_X1_subtractLimbs_23 rfl ?_
    refine wa_getf q_X1_subtractLimbs_24 f_RX1_15 (by assumption) rfl ?_
    refine wn_icmp_ge q_X1_subtractLimbs_27 (by omega) (by omega) (fun hz => ?_) (fun hz => ?_)
    · have e : i = m := by omega
      subst e
      have hlt := vl_lt h1
      have hc0 : c = 0 := by
        rcases Nat.eq_zero_or_pos c with z | z
        · exact z
        · have : 1 * BB ^ i ≤ c * BB ^ i := Nat.mul_le_mul_right _ z
          omega
      subst hc0
      exact wa_lv (k σ d1 ha hr h1 (by omega) h4 h5 h6) rfl
    · exact absurd hz (by omega)
  | succ t ih =>
    intro i c σ d1 ht hi hc ha hr hb hrb h1 h2 h3 h4 h5 h6
    refine wa_iload q_X1_subtractLimbs_21 rfl ?_
    refine wa_aload_n q_X1_subtractLimbs_23 rfl ?_
    refine wa_getf q_X1_subtractLimbs_24 f_RX1_15 (by assumption) rfl ?_
    refine wn_icmp_ge q_X1_subtractLimbs_27 (by omega) (by omega) (fun hz => ?_) (fun hz => ?_)
    · exact absurd hz (by omega)
    · have hxi := hx i (by omega)
      have hyi := hy i (by omega)
      have hdi : d1 i = d i := h2 i (by omega)
      have hj : WA X M_X1_subtractLimbs ρ 50 [(5, .int (nI i)), (4, .int (nI c)), (3, .int s), (2, .int w), (1, .ref b), (0, .ref a)] [.int (nI (pad db sb i))] σ Q := by
        refine wa_istore q_X1_subtractLimbs_50 (by decide) ?_
        refine wa_iload_n q_X1_subtractLimbs_52 rfl ?_
        refine wa_aload_n q_X1_subtractLimbs_53 rfl ?_
        refine wa_getf q_X1_subtractLimbs_54 f_RX1_11 (by assumption) rfl ?_
        refine wa_iload q_X1_subtractLimbs_57 rfl ?_
        refine wn_iald q_X1_subtractLimbs_59 (by assumption) (by omega) (by omega) ?_
        rw [hdi]
        refine wa_iload q_X1_subtractLimbs_60 rfl ?_
        refine wa_isub q_X1_subtractLimbs_62 ?_
        refine wa_imul q_X1_subtractLimbs_63 ?_
        rw [hw i (by omega)]
        refine wa_iload q_X1_subtractLimbs_64 rfl ?_
        refine wa_isub q_X1_subtractLimbs_66 ?_
        rw [nI_iZ c, iZ_sub]
        refine wa_istore q_X1_subtractLimbs_67 (by decide) ?_
        refine wa_iload q_X1_subtractLimbs_69 rfl ?_
        have hk : ∀ c', (c' = 1 ∧ (xx i : Int) - yy i - c < 0) ∨ (c' = 0 ∧ 0 ≤ (xx i : Int) - yy i - c) → WA X M_X1_subtractLimbs ρ 79 [(7, .int (iZ ((xx i : Int) - yy i - c))), (5, .int (nI i)), (3, .int s), (2, .int w), (1, .ref b), (0, .ref a)] [.int (nI c')] σ Q := by
          intro c' hc'
          refine wa_istore q_X1_subtractLimbs_79 (by decide) ?_
          refine wa_aload_n q_X1_subtractLimbs_81 rfl ?_
          refine wa_getf q_X1_subtractLimbs_82 f_RX1_11 (by assumption) rfl ?_
          refine wa_iload q_X1_subtractLimbs_85 rfl ?_
          refine wa_iload q_X1_subtractLimbs_87 rfl ?_
          refine wa_iload q_X1_subtractLimbs_89 rfl ?_
          refine wa_ldc q_X1_subtractLimbs_91 k_RX1_86 ?_
          refine wn_imul q_X1_subtractLimbs_93 ?_
          refine wa_iadd q_X1_subtractLimbs_94 ?_
          have en : iZ ((xx i : Int) - yy i - c) + nI (c' * 1000000000) = nI (xx i + c' * 1000000000 - yy i - c) := by
            rw [nI_iZ, nI_iZ, iZ_add]; congr 1; omega
          rw [en]
          refine wn_iast q_X1_subtractLimbs_95 (by assumption) (by omega) (by omega) (fun σ_hr1 hr1 f_hr1 e1_hr1 e2_hr1 => ?_)
          have ha := (f_hr1 a hne).trans ha
          have hb := (f_hr1 b hbr).trans hb
          have hrb := (f_hr1 rb hrr).trans hrb
          refine wn_iinc q_X1_subtractLimbs_96 rfl (by decide) ?_
          refine wa_goto q_X1_subtractLimbs_99 ?_
          refine wa_lv (ih (i + 1) c' σ_hr1 _ (by omega) (by omega) (by omega) ha hr1 hb hrb (fun j hj => ?_) (fun j hj => ?_) ?_ (fun q hq => (f_hr1 q hq).trans (h4 q hq)) (by omega) (by omega)) rfl
          · by_cases e : j = i
            · rw [e, un_s]; omega
            · rw [un_n e]; exact h1 j (by omega)
          · rw [un_n (by omega)]; exact h2 j (by omega)
          · have e1 : vl (un d1 i (xx i + c' * 1000000000 - yy i - c)) (i + 1) = vl d1 i + (xx i + c' * 1000000000 - yy i - c) * BB ^ i := by
              show vl _ i + un _ _ _ i * _ = _
              rw [un_s, vl_congr (e := d1) (fun j hj => un_n (by omega))]
            have e2 : vl yy (i + 1) = vl yy i + yy i * BB ^ i := rfl
            have e3 : vl xx (i + 1) = vl xx i + xx i * BB ^ i := rfl
            have e4 : xx i + c' * 1000000000 - yy i - c + yy i + c = xx i + c' * 1000000000 := by omega
            rw [e1, e2, e3, Nat.pow_succ, hB]
            rw [hB] at h3
            generalize xx i + c' * 1000000000 - yy i - c = ww at *
            grind
        refine wa_if_ge q_X1_subtractLimbs_71 (fun hg => ?_) (fun hg => ?_)
        · refine wa_iconst q_X1_subtractLimbs_78 (v := nI 0) (by decide) ?_
          exact wa_lv (hk 0 (Or.inr ⟨rfl, by rw [iZ_0, iZ_le (by omega) (by omega) (by omega) (by omega)] at hg; exact hg⟩)) rfl
        · refine wa_iconst q_X1_subtractLimbs_74 (v := nI 1) (by decide) ?_
          refine wa_goto q_X1_subtractLimbs_75 ?_
          exact wa_lv (hk 1 (Or.inl ⟨rfl, by rw [iZ_0, iZ_le (by omega) (by omega) (by omega) (by omega)] at hg; omega⟩)) rfl
      refine wa_iload q_X1_subtractLimbs_30 rfl ?_
      refine wa_aload_n q_X1_subtractLimbs_32 rfl ?_
      refine wa_getf q_X1_subtractLimbs_33 f_RX1_15 (by assumption) rfl ?_
      refine wn_icmp_ge q_X1_subtractLimbs_36 (by omega) (by omega) (fun hv => ?_) (fun hv => ?_)
      · refine wa_iconst q_X1_subtractLimbs_49 (v := nI 0) (by decide) ?_
        have e : pad db sb i = 0 := if_neg (by omega)
        rw [e] at hj
        exact hj
      · refine wa_aload_n q_X1_subtractLimbs_39 rfl ?_
        refine wa_getf q_X1_subtractLimbs_40 f_RX1_11 (by assumption) rfl ?_
        refine wa_iload q_X1_subtractLimbs_43 rfl ?_
        refine wn_iald q_X1_subtractLimbs_45 (by assumption) (by omega) (by omega) ?_
        refine wa_goto q_X1_subtractLimbs_46 ?_
        have e : pad db sb i = db i := if_pos hv
        rw [e] at hj
        exact hj
/-- this less the other (w = 1), or the other less this (w = -1) -/
theorem C_subL {a b : Nat} {s w : Int32} (h : bw_R X D σ S) (ha : a ∈ D) (hb : b ∈ D) (hab : a ≠ b) (hda : ∀ i, i < (S a).2.2.1 → (S a).2.2.2.1 i < BB) (hdb : ∀ i, i < (S b).2.2.1 → (S b).2.2.2.1 i < BB) (za : (S a).2.2.1 ≤ 256) (zb : (S b).2.2.1 ≤ 256)
    (hw : (w = 1 ∧ vl (S b).2.2.2.1 (S b).2.2.1 ≤ vl (S a).2.2.2.1 (S a).2.2.1) ∨ (w = -1 ∧ vl (S a).2.2.2.1 (S a).2.2.1 ≤ vl (S b).2.2.2.1 (S b).2.2.1)) :
    Calls X M_X1_subtractLimbs [.ref a, .ref b, .int w, .int s] σ (fun res τ => res = none ∧ ∃ c : en_B, nrm c.2.2.2.1 c.2.2.1 ∧ (vl c.2.2.2.1 c.2.2.1 : Int) = (if w = 1 then (vl (S a).2.2.2.1 (S a).2.2.1 : Int) - vl (S b).2.2.2.1 (S b).2.2.1 else (vl (S b).2.2.2.1 (S b).2.2.1 : Int) - vl (S a).2.2.2.1 (S a).2.2.1) ∧ c.2.2.2.2 = (if c.2.2.1 = 0 then 0 else s) ∧ bw_R X D τ (uB S a c) ∧ bw_St D σ S τ (uB S a c)) := by
  obtain ⟨a1, a2, a3, a4, a5, a6, a7⟩ := h.1 a ha
  obtain ⟨b1, b2, b3, b4, b5, b6, b7⟩ := h.1 b hb
  have hB : BB = 1000000000 := rfl
  refine Calls.of rfl (lk rfl) ?_
  refine wa_aload_n q_X1_subtractLimbs_0 rfl ?_
  refine wa_aload_n q_X1_subtractLimbs_1 rfl ?_
  refine wa_getf q_X1_subtractLimbs_2 f_RX1_15 (by assumption) rfl ?_
  refine wa_aload_n q_X1_subtractLimbs_5 rfl ?_
  refine wa_getf q_X1_subtractLimbs_6 f_RX1_15 (by assumption) rfl ?_
  refine wn_mmax q_X1_subtractLimbs_9 a_RX1_19 (lk rfl) (lk rfl) (by omega) (by omega) ?_
  refine wa_callV q_X1_subtractLimbs_12 g_X1_subtractLimbs_12 w_X1_extend (by assumption) rfl (av := [_]) rfl rfl (lk rfl) (Calls.mono (C_extend h ha (by omega)) ?_)
  rintro _ σ1 ⟨rfl, e, k1, k2, k3, k4, k5, k6⟩
  obtain ⟨c1, c2, c3, c4, c5, c6, c7⟩ := k5.1 b hb
  have hrr := fun z => hab (k5.2 b hb a ha z).symm
  rw [uB_n (fun z => hab z.symm)] at c1 c2 c3 c4 c5 c7 hrr
  obtain ⟨e1, e2, e3, e4, e5, e6, e7⟩ := k5.1 a ha
  rw [uB_s] at e1 e2 e3 e4 e5 e7 hrr
  have hm : e.2.2.1 = max (S a).2.2.1 (S b).2.2.1 := by omega
  have hv : vl e.2.2.2.1 e.2.2.1 = vl (S a).2.2.2.1 (S a).2.2.1 := by
    rw [vl_pad (n := (S a).2.2.1) (by omega) (fun i h1 h2 => k4 i h1 (by omega))]
    exact vl_congr k3
  have hvb : vl (pad (S b).2.2.2.1 (S b).2.2.1) e.2.2.1 = vl (S b).2.2.2.1 (S b).2.2.1 := vl_padd (by omega)
  have hde : ∀ i, i < e.2.2.1 → e.2.2.2.1 i < BB := by
    intro i hi
    rcases Nat.lt_or_ge i (S a).2.2.1 with q | q
    · rw [k3 i q]; exact hda i q
    · rw [k4 i q (by omega)]; exact BB_pos
  have hdp : ∀ i, i < e.2.2.1 → pad (S b).2.2.2.1 (S b).2.2.1 i < BB := by
    intro i hi; unfold pad; split
    · exact hdb i (by assumption)
    · exact BB_pos
  refine wa_iconst q_X1_subtractLimbs_15 (v := nI 0) (by decide) ?_
  refine wa_istore q_X1_subtractLimbs_16 (by decide) ?_
  refine wa_iconst q_X1_subtractLimbs_18 (v := nI 0) (by decide) ?_
  refine wa_istore q_X1_subtractLimbs_19 (by decide) ?_
  obtain ⟨xx, yy, hxy, hx, hy, hle, hres⟩ : ∃ xx yy : Nat → Nat, (∀ i, i < e.2.2.1 → w * (nI (e.2.2.2.1 i) - nI (pad (S b).2.2.2.1 (S b).2.2.1 i)) = iZ ((xx i : Int) - yy i)) ∧ (∀ i, i < e.2.2.1 → xx i < BB) ∧ (∀ i, i < e.2.2.1 → yy i < BB) ∧ vl yy e.2.2.1 ≤ vl xx e.2.2.1 ∧ (vl xx e.2.2.1 : Int) - vl yy e.2.2.1 = (if w = 1 then (vl (S a).2.2.2.1 (S a).2.2.1 : Int) - vl (S b).2.2.2.1 (S b).2.2.1 else (vl (S b).2.2.2.1 (S b).2.2.1 : Int) - vl (S a).2.2.2.1 (S a).2.2.1) := by
    rcases hw with ⟨rfl, hw⟩ | ⟨rfl, hw⟩
    · refine ⟨e.2.2.2.1, pad (S b).2.2.2.1 (S b).2.2.1, fun i hi => ?_, hde, hdp, by omega, by rw [if_pos rfl, hv, hvb]⟩
      rw [nI_iZ, nI_iZ, iZ_sub, iZ_1, iZ_mul]; congr 1; omega
    · refine ⟨pad (S b).2.2.2.1 (S b).2.2.1, e.2.2.2.1, fun i hi => ?_, hdp, hde, by omega, by rw [if_neg (by decide), hv, hvb]⟩
      rw [nI_iZ, nI_iZ, iZ_sub, iZ_m1, iZ_mul]; congr 1; omega
  refine wa_lv (C_subL_loop (σ0 := σ1) e5 e3 (by omega) c5 c3 hxy hx hy hle (ne_oa e1 e2) (ne_oa c1 e2) hrr ?_ _ 0 0 σ1 _ rfl (Nat.zero_le _) (Nat.zero_le _) e1 e2 c1 c2 (fun j hj => absurd hj (by omega)) (fun _ _ => rfl) (by simp [vl]) (fun _ _ => rfl) rfl rfl) rfl
  intro σ2 d1 g1 g2 g3 g4 g5 g6 g7
  have st := bw_R.step (τ := σ2) (b := (e.1, e.2.1, e.2.2.1, d1, e.2.2.2.2)) k5 ha (by omega) ⟨g1, g2, e3, e4, e5, by omega, by show e.1 < _; omega⟩ (fun q q1 q2 q3 => by rw [uB_s] at q3; exact g5 q q3) (Or.inl (by rw [uB_s])) (by rw [uB_s]; exact Nat.le_refl _) (by rw [uB_s]; show _ ≤ 8 * _ + e.2.1; omega) (by rw [uB_s]; show _ ≤ _ + 2 * e.2.1; omega)
  rw [uB_u] at st
  refine wa_aload_n q_X1_subtractLimbs_102 rfl ?_
  refine wa_iload_n q_X1_subtractLimbs_103 rfl ?_
  refine wa_callV q_X1_subtractLimbs_104 g_X1_subtractLimbs_104 w_X1_trim (by assumption) rfl (av := [_]) rfl rfl (lk rfl) (Calls.mono (C_trim st.1 ha (by rw [uB_s]; intro i hi; have := g3 i hi; show d1 i < _; omega)) ?_)
  rintro _ σ3 ⟨rfl, b, hbe, w1, w2⟩
  rw [uB_s] at hbe
  rw [uB_u] at w1 w2
  refine wa_vret q_X1_subtractLimbs_107 rfl ?_
  refine ⟨rfl, b, ?_, ?_, ?_, w1, k6.tr (st.2.tr w2)⟩
  · subst hbe
    exact ⟨fun i hi => g3 i (by have := tp_le d1 e.2.2.1; have hi : i < tp d1 e.2.2.1 := hi; omega), tp_top d1 e.2.2.1⟩
  · subst hbe
    show (vl d1 (tp d1 e.2.2.1) : Int) = _
    rw [vl_tp, ← hres]; omega
  · subst hbe; rfl
end big3
end
section
/-! EnclosedDigits$Big: compareSizes, compare, grow, add, subtract; the world by its numbers -/
def cmpI (x y : Int) : Int32 := if x < y then -1 else if x = y then 0 else 1
def uV (V : Nat → Int) (a : Nat) (v : Int) : Nat → Int := fun q => if q = a then v else V q
theorem uV_s {V : Nat → Int} {a : Nat} {v : Int} : uV V a v a = v := if_pos rfl
theorem uV_n {V : Nat → Int} {a q : Nat} {v : Int} (h : q ≠ a) : uV V a v q = V q := if_neg h
def bw_V (X : en_X) (D : List Nat) (σ : en_S) (S : Nat → en_B) (V : Nat → Int) : Prop := bw_R X D σ S ∧ ∀ a ∈ D, isV (S a) (V a)
theorem bw_V.up {X : en_X} {D : List Nat} {σ τ : en_S} {S : Nat → en_B} {V : Nat → Int} {a : Nat} {c : en_B} {v : Int} (h : bw_V X D σ S V) (w : bw_R X D τ (uB S a c)) (hc : isV c v) : bw_V X D τ (uB S a c) (uV V a v) := by
  refine ⟨w, fun q hq => ?_⟩
  by_cases e : q = a
  · subst e; rw [uB_s, uV_s]; exact hc
  · rw [uB_n e, uV_n e]; exact h.2 q hq
theorem isV_of {b : en_B} {s : Int32} {v : Int} (hn : nrm b.2.2.2.1 b.2.2.1) (hv : vl b.2.2.2.1 b.2.2.1 = v.natAbs) (hs : b.2.2.2.2 = if b.2.2.1 = 0 then 0 else s) (h : v ≠ 0 → s = sgI v) : isV b v := by
  refine ⟨?_, hv, hn⟩
  rw [hs]
  have hz := nrm_zero hn
  by_cases e : b.2.2.1 = 0
  · rw [if_pos e]
    have : v = 0 := by have := hz.mpr e; omega
    subst this; decide
  · rw [if_neg e]
    exact h (fun z => e (hz.mp (by rw [hv, z]; rfl)))
theorem isV_le {b : en_B} {v : Int} (h : isV b v) {k : Nat} (hk : v.natAbs < BB ^ k) : b.2.2.1 ≤ k := nrm_le h.2.2 (by rw [h.2.1]; exact hk)
section big4
variable {X : en_X} {σ : en_S} {D : List Nat} {S : Nat → en_B} {V : Nat → Int}
theorem C_cmpS_loop {ρ : en_S} {a b r rb n nb sz : Nat} {d e : Nat → Nat} {sg sgb : Int32} {Q : Option Value → en_S → Prop} (hn : n ≤ 512) (hs : sz ≤ n) (hnb : nb ≤ 512) (hsb : sz ≤ nb) (hd : ∀ i, i < sz → d i < BB) (he : ∀ i, i < sz → e i < BB) (ha : look σ a = some (bE sg sz r)) (hr : look σ r = some (ar X n d)) (hb : look σ b = some (bE sgb sz rb)) (hrb : look σ rb = some (ar X nb e))
    (k : Q (some (.int (cmpI (vl d sz) (vl e sz)))) σ) :
    ∀ t : Nat, t ≤ sz → (∀ j, t ≤ j → j < sz → d j = e j) → WA X M_X1_compareSizes ρ 35 [(2, .int (iZ ((t : Int) - 1))), (1, .ref b), (0, .ref a)] [] σ Q := by
  have hB : BB = 1000000000 := rfl
  intro t
  induction t with
  | zero =>
    intro ht h1
    refine wa_iload_n q_X1_compareSizes_35 rfl ?_
    refine wa_if_lt q_X1_compareSizes_36 (fun hc => ?_) (fun hc => absurd (by decide) hc)
    refine wa_iconst q_X1_compareSizes_73 (v := 0) (by decide) ?_
    refine wa_iret q_X1_compareSizes_74 rfl ?_
    have e : vl d sz = vl e sz := vl_congr (fun j hj => h1 j (Nat.zero_le _) hj)
    rw [e] at k
    unfold cmpI at k
    rw [if_neg (by omega), if_pos rfl] at k
    exact k
  | succ t ih =>
    intro ht h1
    have e1 : iZ (((t + 1 : Nat) : Int) - 1) = nI t := by rw [nI_iZ]; congr 1; omega
    rw [e1]
    have hdt := hd t (by omega)
    have het := he t (by omega)
    refine wa_iload_n q_X1_compareSizes_35 rfl ?_
    refine wn_if_lt q_X1_compareSizes_36 (by omega) (fun hc => ?_) (fun hc => ?_)
    · exact absurd hc id
    · refine wa_aload_n q_X1_compareSizes_39 rfl ?_
      refine wa_getf q_X1_compareSizes_40 f_RX1_11 (by assumption) rfl ?_
      refine wa_iload_n q_X1_compareSizes_43 rfl ?_
      refine wn_iald q_X1_compareSizes_44 (by assumption) (by omega) (by omega) ?_
      refine wa_aload_n q_X1_compareSizes_45 rfl ?_
      refine wa_getf q_X1_compareSizes_46 f_RX1_11 (by assumption) rfl ?_
      refine wa_iload_n q_X1_compareSizes_49 rfl ?_
      refine wn_iald q_X1_compareSizes_50 (by assumption) (by omega) (by omega) ?_
      refine wa_isub q_X1_compareSizes_51 ?_
      rw [show nI (d t) - nI (e t) = iZ ((d t : Int) - e t) by rw [nI_iZ, nI_iZ, iZ_sub]]
      refine wa_istore_n q_X1_compareSizes_52 (by decide) ?_
      refine wa_iload_n q_X1_compareSizes_53 rfl ?_
      refine wa_if_eq q_X1_compareSizes_54 (fun h0 => ?_) (fun h0 => ?_)
      · rw [iZ_0, iZ_eq (by omega) (by omega) (by omega) (by omega)] at h0
        refine wa_iinc q_X1_compareSizes_67 rfl (v := iZ ((t : Int) - 1)) (by rw [nI_iZ]; exact iZ_add _ _) (by decide) ?_
        refine wa_goto q_X1_compareSizes_70 ?_
        refine wa_lv (ih (by omega) (fun j h2 h3 => ?_)) rfl
        by_cases ej : j = t
        · subst ej; omega
        · exact h1 j (by omega) h3
      · rw [iZ_0, iZ_eq (by omega) (by omega) (by omega) (by omega)] at h0
        refine wa_iload_n q_X1_compareSizes_57 rfl ?_
        refine wa_if_ge q_X1_compareSizes_58 (fun hg => ?_) (fun hg => ?_)
        · rw [iZ_0, iZ_le (by omega) (by omega) (by omega) (by omega)] at hg
          refine wa_iconst q_X1_compareSizes_65 (v := 1) (by decide) ?_
          refine wa_iret q_X1_compareSizes_66 rfl ?_
          have := vl_cmp (d := e) (e := d) (n := sz) (k := t) (by omega) he hd (fun i h2 h3 => (h1 i (by omega) h3).symm) (by omega)
          unfold cmpI at k
          rw [if_neg (by omega), if_neg (by omega)] at k
          exact k
        · rw [iZ_0, iZ_le (by omega) (by omega) (by omega) (by omega)] at hg
          refine wa_iconst q_X1_compareSizes_61 (v := -1) (by decide) ?_
          refine wa_goto q_X1_compareSizes_62 ?_
          refine wa_iret q_X1_compareSizes_66 rfl ?_
          have := vl_cmp (d := d) (e := e) (n := sz) (k := t) (by omega) hd he (fun i h2 h3 => h1 i (by omega) h3) (by omega)
          unfold cmpI at k
          rw [if_pos (by omega)] at k
          exact k
theorem C_cmpS {a b : Nat} (h : bw_R X D σ S) (ha : a ∈ D) (hb : b ∈ D) (na : nrm (S a).2.2.2.1 (S a).2.2.1) (nb : nrm (S b).2.2.2.1 (S b).2.2.1) :
    Calls X M_X1_compareSizes [.ref a, .ref b] σ (fun res τ => res = some (.int (cmpI (vl (S a).2.2.2.1 (S a).2.2.1) (vl (S b).2.2.2.1 (S b).2.2.1))) ∧ τ = σ) := by
  obtain ⟨a1, a2, a3, a4, a5, a6, a7⟩ := h.1 a ha
  obtain ⟨b1, b2, b3, b4, b5, b6, b7⟩ := h.1 b hb
  refine Calls.of rfl (lk rfl) ?_
  refine wa_aload_n q_X1_compareSizes_0 rfl ?_
  refine wa_getf q_X1_compareSizes_1 f_RX1_15 (by assumption) rfl ?_
  refine wa_aload_n q_X1_compareSizes_4 rfl ?_
  refine wa_getf q_X1_compareSizes_5 f_RX1_15 (by assumption) rfl ?_
  refine wn_icmp_eq q_X1_compareSizes_8 (by omega) (by omega) (fun hc => ?_) (fun hc => ?_)
  · refine wa_aload_n q_X1_compareSizes_28 rfl ?_
    refine wa_getf q_X1_compareSizes_29 f_RX1_15 (by assumption) rfl ?_
    refine wa_iconst q_X1_compareSizes_32 (v := nI 1) (by decide) ?_
    refine wa_isub q_X1_compareSizes_33 ?_
    have e1 : nI (S a).2.2.1 - nI 1 = iZ (((S a).2.2.1 : Int) - 1) := by rw [nI_iZ, nI_iZ, iZ_sub]; rfl
    rw [e1]
    refine wa_istore_n q_X1_compareSizes_34 (by decide) ?_
    rw [← hc] at b1 b3
    have nb1 := nb.1
    rw [← hc] at nb1
    refine wa_lv (C_cmpS_loop a5 a3 b5 b3 na.1 nb1 a1 a2 b1 b2 ?_ _ (Nat.le_refl _) (fun j h1 h2 => absurd h1 (by omega))) rfl
    rw [hc]
    exact ⟨rfl, rfl⟩
  · refine wa_aload_n q_X1_compareSizes_11 rfl ?_
    refine wa_getf q_X1_compareSizes_12 f_RX1_15 (by assumption) rfl ?_
    refine wa_aload_n q_X1_compareSizes_15 rfl ?_
    refine wa_getf q_X1_compareSizes_16 f_RX1_15 (by assumption) rfl ?_
    refine wn_icmp_ge q_X1_compareSizes_19 (by omega) (by omega) (fun hd => ?_) (fun hd => ?_)
    · refine wa_iconst q_X1_compareSizes_26 (v := 1) (by decide) ?_
      refine wa_iret q_X1_compareSizes_27 rfl ?_
      have := nrm_lt nb na (by omega)
      unfold cmpI
      rw [if_neg (by omega), if_neg (by omega)]
      exact ⟨rfl, rfl⟩
    · refine wa_iconst q_X1_compareSizes_22 (v := -1) (by decide) ?_
      refine wa_goto q_X1_compareSizes_23 ?_
      refine wa_iret q_X1_compareSizes_27 rfl ?_
      have := nrm_lt na nb (by omega)
      unfold cmpI
      rw [if_pos (by omega)]
      exact ⟨rfl, rfl⟩
theorem sgI_c (v : Int) : (v < 0 ∧ sgI v = -1) ∨ (v = 0 ∧ sgI v = 0) ∨ (0 < v ∧ sgI v = 1) := by
  unfold sgI
  rcases Int.lt_trichotomy v 0 with p | p | p
  · exact Or.inl ⟨p, if_pos p⟩
  · exact Or.inr (Or.inl ⟨p, by rw [if_neg (by omega), if_pos p]⟩)
  · exact Or.inr (Or.inr ⟨p, by rw [if_neg (by omega), if_neg (by omega)]⟩)
theorem sgI_lt {v w : Int} (h : sgI v < sgI w) : v < w := by
  rcases sgI_c v with ⟨p, e⟩ | ⟨p, e⟩ | ⟨p, e⟩ <;> rcases sgI_c w with ⟨q, g⟩ | ⟨q, g⟩ | ⟨q, g⟩ <;> first | omega | (rw [e, g] at h; exact absurd h (by decide))
theorem sgI_gt {v w : Int} (h : sgI v ≠ sgI w) (h2 : sgI w ≤ sgI v) : w < v := by
  rcases sgI_c v with ⟨p, e⟩ | ⟨p, e⟩ | ⟨p, e⟩ <;> rcases sgI_c w with ⟨q, g⟩ | ⟨q, g⟩ | ⟨q, g⟩ <;> first | omega | (rw [e, g] at h2; exact absurd h2 (by decide)) | (rw [e, g] at h; exact absurd rfl h)
theorem sgI_cmp {v w : Int} (h : sgI v = sgI w) : sgI v * cmpI v.natAbs w.natAbs = cmpI v w := by
  unfold cmpI
  rcases sgI_c v with ⟨p, e⟩ | ⟨p, e⟩ | ⟨p, e⟩ <;> rcases sgI_c w with ⟨q, g⟩ | ⟨q, g⟩ | ⟨q, g⟩ <;> first | (rw [e, g] at h; exact absurd h (by decide)) | skip
  · rw [e]
    rcases Int.lt_trichotomy v w with z | z | z
    · rw [if_neg (by omega), if_neg (by omega), if_pos z]; decide
    · rw [if_neg (by omega), if_pos (by omega), if_neg (by omega), if_pos z]; decide
    · rw [if_pos (by omega), if_neg (by omega), if_neg (by omega)]; decide
  · rw [e, if_neg (by omega), if_pos (by omega), if_neg (by omega), if_pos (by omega)]; decide
  · rw [e]
    rcases Int.lt_trichotomy v w with z | z | z
    · rw [if_pos (by omega), if_pos z]; decide
    · rw [if_neg (by omega), if_pos (by omega), if_neg (by omega), if_pos z]; decide
    · rw [if_neg (by omega), if_neg (by omega), if_neg (by omega), if_neg (by omega)]; decide
theorem V_cmp {a b : Nat} (h : bw_V X D σ S V) (ha : a ∈ D) (hb : b ∈ D) : Calls X M_X1_compare [.ref a, .ref b] σ (fun res τ => res = some (.int (cmpI (V a) (V b))) ∧ τ = σ) := by
  obtain ⟨a1, a2, a3, a4, a5, a6, a7⟩ := h.1.1 a ha
  obtain ⟨b1, b2, b3, b4, b5, b6, b7⟩ := h.1.1 b hb
  obtain ⟨va, wa, na⟩ := h.2 a ha
  obtain ⟨vb, wb, nb⟩ := h.2 b hb
  refine Calls.of rfl (lk rfl) ?_
  refine wa_aload_n q_X1_compare_0 rfl ?_
  refine wa_getf q_X1_compare_1 f_RX1_34 (by assumption) rfl ?_
  refine wa_aload_n q_X1_compare_4 rfl ?_
  refine wa_getf q_X1_compare_5 f_RX1_34 (by assumption) rfl ?_
  refine wa_icmp_eq q_X1_compare_8 (fun hc => ?_) (fun hc => ?_)
  · refine wa_aload_n q_X1_compare_28 rfl ?_
    refine wa_getf q_X1_compare_29 f_RX1_34 (by assumption) rfl ?_
    refine wa_aload_n q_X1_compare_32 rfl ?_
    refine wa_aload_n q_X1_compare_33 rfl ?_
    refine wa_callV q_X1_compare_34 g_X1_compare_34 w_X1_compareSizes (by assumption) rfl (av := [_]) rfl rfl (lk rfl) (Calls.mono (C_cmpS h.1 ha hb na nb) ?_)
    rintro _ _ ⟨rfl, rfl⟩
    refine wa_imul q_X1_compare_37 ?_
    refine wa_iret q_X1_compare_38 rfl ?_
    rw [va, wa, wb]
    rw [va, vb] at hc
    rw [sgI_cmp hc]
    exact ⟨rfl, rfl⟩
  · refine wa_aload_n q_X1_compare_11 rfl ?_
    refine wa_getf q_X1_compare_12 f_RX1_34 (by assumption) rfl ?_
    refine wa_aload_n q_X1_compare_15 rfl ?_
    refine wa_getf q_X1_compare_16 f_RX1_34 (by assumption) rfl ?_
    refine wa_icmp_ge q_X1_compare_19 (fun hd => ?_) (fun hd => ?_)
    · refine wa_iconst q_X1_compare_26 (v := 1) (by decide) ?_
      refine wa_iret q_X1_compare_27 rfl ?_
      rw [va, vb] at hc hd
      have := sgI_gt hc hd
      unfold cmpI
      rw [if_neg (by omega), if_neg (by omega)]
      exact ⟨rfl, rfl⟩
    · refine wa_iconst q_X1_compare_22 (v := -1) (by decide) ?_
      refine wa_goto q_X1_compare_23 ?_
      refine wa_iret q_X1_compare_27 rfl ?_
      rw [va, vb] at hc hd
      have := sgI_lt (Int32.not_le.mp hd)
      unfold cmpI
      rw [if_pos this]
      exact ⟨rfl, rfl⟩
theorem V_copy {a b : Nat} (h : bw_V X D σ S V) (ha : a ∈ D) (hb : b ∈ D) (hab : a ≠ b) (hz : (V b).natAbs < BB ^ 250) : Calls X M_X1_copy [.ref a, .ref b] σ (fun res τ => res = none ∧ ∃ S', bw_V X D τ S' (uV V a (V b)) ∧ bw_St D σ S τ S') := by
  obtain ⟨vb, wb, nb⟩ := h.2 b hb
  refine Calls.mono (C_copy h.1 ha hb hab (by have := isV_le (h.2 b hb) hz; omega)) ?_
  rintro r τ ⟨rfl, c, k1, k2, k3, k4, k5⟩
  refine ⟨rfl, _, h.up k4 ⟨k2.trans vb, ?_, ?_⟩, k5⟩
  · rw [k1, vl_congr k3]; exact wb
  · rw [k1]
    refine ⟨fun i hi => by rw [k3 i hi]; exact nb.1 i hi, ?_⟩
    rcases nb.2 with z | z
    · exact Or.inl z
    · by_cases e : (S b).2.2.1 = 0
      · exact Or.inl e
      · exact Or.inr (by rw [k3 _ (by omega)]; exact z)
theorem V_clear {a : Nat} (h : bw_V X D σ S V) (ha : a ∈ D) : Calls X M_X1_clear [.ref a] σ (fun res τ => res = none ∧ ∃ S', bw_V X D τ S' (uV V a 0) ∧ bw_St D σ S τ S') := by
  refine Calls.mono (C_clear h.1 ha) ?_
  rintro r τ ⟨rfl, c, rfl, k4, k5⟩
  exact ⟨rfl, _, h.up k4 ⟨rfl, rfl, fun i hi => absurd hi (Nat.not_lt_zero _), Or.inl rfl⟩, k5⟩
theorem C_add {a b : Nat} (h : bw_V X D σ S V) (ha : a ∈ D) (hb : b ∈ D) (hab : a ≠ b) (za : (S a).2.2.1 ≤ 255) (zb : (S b).2.2.1 ≤ 255) : Calls X M_X1_add [.ref a, .ref b] σ (fun res τ => res = none ∧ ∃ c, bw_R X D τ (uB S a c) ∧ isV c (V a + V b) ∧ bw_St D σ S τ (uB S a c)) := by
  obtain ⟨a1, a2, a3, a4, a5, a6, a7⟩ := h.1.1 a ha
  obtain ⟨b1, b2, b3, b4, b5, b6, b7⟩ := h.1.1 b hb
  obtain ⟨va, wa, na⟩ := h.2 a ha
  obtain ⟨vb, wb, nb⟩ := h.2 b hb
  refine Calls.of rfl (lk rfl) ?_
  refine wa_aload_n q_X1_add_0 rfl ?_
  refine wa_getf q_X1_add_1 f_RX1_34 (by assumption) rfl ?_
  refine wa_if_ne q_X1_add_4 (fun hc => ?_) (fun hc => ?_)
  · have hb0 : V b ≠ 0 := fun z => hc (by rw [vb]; exact sgI_0.mpr z)
    have hadd : sgI (V a) = 0 ∨ sgI (V a) = sgI (V b) → WA X M_X1_add σ 26 [(1, .ref b), (0, .ref a)] [] σ (fun res τ => res = none ∧ ∃ c, bw_R X D τ (uB S a c) ∧ isV c (V a + V b) ∧ bw_St D σ S τ (uB S a c)) := by
      intro hs
      refine wa_aload_n q_X1_add_26 rfl ?_
      refine wa_aload_n q_X1_add_27 rfl ?_
      refine wa_aload_n q_X1_add_28 rfl ?_
      refine wa_getf q_X1_add_29 f_RX1_34 (by assumption) rfl ?_
      refine wa_callV q_X1_add_32 g_X1_add_32 w_X1_addLimbs (by assumption) rfl (av := [_, _]) rfl rfl (lk rfl) (Calls.mono (C_addL h.1 ha hb hab na.1 nb.1 za zb) ?_)
      rintro _ σ1 ⟨rfl, c, c1, c2, c3, c4, c5⟩
      refine wa_goto q_X1_add_35 ?_
      refine wa_vret q_X1_add_69 rfl ?_
      refine ⟨rfl, c, c4, isV_of c1 ?_ c3 ?_, c5⟩
      · rw [c2, wa, wb]
        rcases hs with z | z
        · rw [sgI_0.mp z]; omega
        · rcases sgI_c (V a) with ⟨p, e⟩ | ⟨p, e⟩ | ⟨p, e⟩ <;> rcases sgI_c (V b) with ⟨q, g⟩ | ⟨q, g⟩ | ⟨q, g⟩ <;> first | omega | (rw [e, g] at z; exact absurd z (by decide))
      · intro _
        rw [vb]
        rcases hs with z | z
        · rw [sgI_0.mp z, Int.zero_add]
        · rcases sgI_c (V a) with ⟨p, e⟩ | ⟨p, e⟩ | ⟨p, e⟩ <;> rcases sgI_c (V b) with ⟨q, g⟩ | ⟨q, g⟩ | ⟨q, g⟩ <;> rcases sgI_c (V a + V b) with ⟨o, f⟩ | ⟨o, f⟩ | ⟨o, f⟩ <;> first | omega | (rw [e, g] at z; exact absurd z (by decide)) | (rw [g, f])
    refine wa_aload_n q_X1_add_8 rfl ?_
    refine wa_getf q_X1_add_9 f_RX1_34 (by assumption) rfl ?_
    refine wa_if_eq q_X1_add_12 (fun hd => ?_) (fun hd => ?_)
    · exact wa_lv (hadd (Or.inl (by rw [← va]; exact hd))) rfl
    · refine wa_aload_n q_X1_add_15 rfl ?_
      refine wa_getf q_X1_add_16 f_RX1_34 (by assumption) rfl ?_
      refine wa_aload_n q_X1_add_19 rfl ?_
      refine wa_getf q_X1_add_20 f_RX1_34 (by assumption) rfl ?_
      refine wa_icmp_ne q_X1_add_23 (fun he => ?_) (fun he => ?_)
      · refine wa_aload_n q_X1_add_38 rfl ?_
        refine wa_aload_n q_X1_add_39 rfl ?_
        refine wa_callV q_X1_add_40 g_X1_add_40 w_X1_compareSizes (by assumption) rfl (av := [_]) rfl rfl (lk rfl) (Calls.mono (C_cmpS h.1 ha hb na nb) ?_)
        rintro _ _ ⟨rfl, rfl⟩
        rw [wa, wb]
        rw [va] at hd he
        rw [vb] at he hc
        refine wa_if_lt q_X1_add_43 (fun hf => ?_) (fun hf => ?_)
        · refine wa_aload_n q_X1_add_59 rfl ?_
          refine wa_aload_n q_X1_add_60 rfl ?_
          refine wa_iconst q_X1_add_61 (v := -1) (by decide) ?_
          refine wa_aload_n q_X1_add_62 rfl ?_
          refine wa_getf q_X1_add_63 f_RX1_34 (by assumption) rfl ?_
          have hlt : (V a).natAbs < (V b).natAbs := by
            unfold cmpI at hf
            split at hf
            · omega
            · split at hf <;> exact absurd hf (by decide)
          refine wa_callV q_X1_add_66 g_X1_add_66 w_X1_subtractLimbs (by assumption) rfl (av := [_, _, _]) rfl rfl (lk rfl) (Calls.mono (C_subL h.1 ha hb hab na.1 nb.1 (by omega) (by omega) (Or.inr ⟨rfl, by rw [wa, wb]; omega⟩)) ?_)
          rintro _ σ1 ⟨rfl, c, c1, c2, c3, c4, c5⟩
          refine wa_vret q_X1_add_69 rfl ?_
          rw [if_neg (by decide), wa, wb] at c2
          refine ⟨rfl, c, c4, isV_of c1 ?_ c3 ?_, c5⟩
          · rcases sgI_c (V a) with ⟨p, e⟩ | ⟨p, e⟩ | ⟨p, e⟩ <;> rcases sgI_c (V b) with ⟨q, g⟩ | ⟨q, g⟩ | ⟨q, g⟩ <;> first | omega | (rw [e, g] at he; exact absurd rfl he)
          · intro _
            rw [vb]
            rcases sgI_c (V a) with ⟨p, e⟩ | ⟨p, e⟩ | ⟨p, e⟩ <;> rcases sgI_c (V b) with ⟨q, g⟩ | ⟨q, g⟩ | ⟨q, g⟩ <;> rcases sgI_c (V a + V b) with ⟨o, f⟩ | ⟨o, f⟩ | ⟨o, f⟩ <;> first | omega | (rw [e, g] at he; exact absurd rfl he) | (rw [g, f])
        · refine wa_aload_n q_X1_add_46 rfl ?_
          refine wa_aload_n q_X1_add_47 rfl ?_
          refine wa_iconst q_X1_add_48 (v := 1) (by decide) ?_
          refine wa_aload_n q_X1_add_49 rfl ?_
          refine wa_getf q_X1_add_50 f_RX1_34 (by assumption) rfl ?_
          have hge : (V b).natAbs ≤ (V a).natAbs := by
            unfold cmpI at hf
            split at hf
            · exact absurd (by decide) hf
            · omega
          refine wa_callV q_X1_add_53 g_X1_add_53 w_X1_subtractLimbs (by assumption) rfl (av := [_, _, _]) rfl rfl (lk rfl) (Calls.mono (C_subL h.1 ha hb hab na.1 nb.1 (by omega) (by omega) (Or.inl ⟨rfl, by rw [wa, wb]; omega⟩)) ?_)
          rintro _ σ1 ⟨rfl, c, c1, c2, c3, c4, c5⟩
          refine wa_goto q_X1_add_56 ?_
          refine wa_vret q_X1_add_69 rfl ?_
          rw [if_pos rfl, wa, wb] at c2
          refine ⟨rfl, c, c4, isV_of c1 ?_ c3 ?_, c5⟩
          · rcases sgI_c (V a) with ⟨p, e⟩ | ⟨p, e⟩ | ⟨p, e⟩ <;> rcases sgI_c (V b) with ⟨q, g⟩ | ⟨q, g⟩ | ⟨q, g⟩ <;> first | omega | (rw [e, g] at he; exact absurd rfl he) | (rw [e] at hd; exact absurd rfl hd)
          · intro hnz
            rw [va]
            rcases sgI_c (V a) with ⟨p, e⟩ | ⟨p, e⟩ | ⟨p, e⟩ <;> rcases sgI_c (V b) with ⟨q, g⟩ | ⟨q, g⟩ | ⟨q, g⟩ <;> rcases sgI_c (V a + V b) with ⟨o, f⟩ | ⟨o, f⟩ | ⟨o, f⟩ <;> first | omega | (rw [e, g] at he; exact absurd rfl he) | (rw [e, f]) | (rw [e] at hd; exact absurd rfl hd)
      · exact wa_lv (hadd (Or.inr (by rw [← va, ← vb]; exact he))) rfl
  · refine wa_vret q_X1_add_7 rfl ?_
    have hb0 : V b = 0 := sgI_0.mp (by rw [← vb]; exact hc)
    refine ⟨rfl, S a, by rw [uB_i]; exact h.1, by rw [hb0, Int.add_zero]; exact h.2 a ha, by rw [uB_i]; exact bw_St.rf D σ S⟩
theorem V_add {a b : Nat} (h : bw_V X D σ S V) (ha : a ∈ D) (hb : b ∈ D) (hab : a ≠ b) (za : (V a).natAbs < BB ^ 250) (zb : (V b).natAbs < BB ^ 250) : Calls X M_X1_add [.ref a, .ref b] σ (fun res τ => res = none ∧ ∃ S', bw_V X D τ S' (uV V a (V a + V b)) ∧ bw_St D σ S τ S') := by
  refine Calls.mono (C_add h ha hb hab (by have := isV_le (h.2 a ha) za; omega) (by have := isV_le (h.2 b hb) zb; omega)) ?_
  rintro r τ ⟨rfl, c, k1, k2, k3⟩
  exact ⟨rfl, _, h.up k1 k2, k3⟩
theorem V_sub {a b : Nat} (h : bw_V X D σ S V) (ha : a ∈ D) (hb : b ∈ D) (hab : a ≠ b) (za : (V a).natAbs < BB ^ 250) (zb : (V b).natAbs < BB ^ 250) : Calls X M_X1_subtract [.ref a, .ref b] σ (fun res τ => res = none ∧ ∃ S', bw_V X D τ S' (uV V a (V a - V b)) ∧ bw_St D σ S τ S') := by
  obtain ⟨a1, a2, a3, a4, a5, a6, a7⟩ := h.1.1 a ha
  obtain ⟨va, wa, na⟩ := h.2 a ha
  refine Calls.of rfl (lk rfl) ?_
  refine wa_aload_n q_X1_subtract_0 rfl ?_
  refine wa_aload_n q_X1_subtract_1 rfl ?_
  refine wa_acmp_ne q_X1_subtract_2 (fun hc => ?_) (fun hc => ?_)
  · refine wa_aload_n q_X1_subtract_10 rfl ?_
    refine wa_aload_n q_X1_subtract_11 rfl ?_
    refine wa_getf q_X1_subtract_12 f_RX1_34 (by assumption) rfl ?_
    refine wa_ineg q_X1_subtract_15 ?_
    refine wn_putf q_X1_subtract_16 p_RX1_34 (by assumption) (lk rfl) rfl rfl rfl (fun σ_c1 c1 f_c1 e1_c1 e2_c1 => ?_)
    have hne := ne_oa a1 a2
    have st := bw_R.step (τ := σ_c1) (b := ((S a).1, (S a).2.1, (S a).2.2.1, (S a).2.2.2.1, -(S a).2.2.2.2)) h.1 ha (by omega) ⟨c1, (f_c1 _ hne.symm).trans a2, a3, a4, a5, by omega, by show (S a).1 < _; omega⟩ (fun q q1 q2 q3 => f_c1 q q2) (Or.inl rfl) (Nat.le_refl _) (by show _ ≤ 8 * _ + (S a).2.1; omega) (by show _ ≤ _ + 2 * (S a).2.1; omega)
    have hv : bw_V X D σ_c1 (uB S a ((S a).1, (S a).2.1, (S a).2.2.1, (S a).2.2.2.1, -(S a).2.2.2.2)) (uV V a (-V a)) := h.up st.1 ⟨by show -(S a).2.2.2.2 = _; rw [va, sgI_neg], by show vl (S a).2.2.2.1 (S a).2.2.1 = _; rw [wa]; omega, na⟩
    refine wa_aload_n q_X1_subtract_19 rfl ?_
    refine wa_aload_n q_X1_subtract_20 rfl ?_
    refine wa_callV q_X1_subtract_21 g_X1_subtract_21 w_X1_add (by assumption) rfl (av := [_]) rfl rfl (lk rfl) (Calls.mono (C_add hv ha hb hab (by rw [uB_s]; have := isV_le (h.2 a ha) za; show (S a).2.2.1 ≤ 255; omega) (by rw [uB_n (fun z => hab z.symm)]; have := isV_le (h.2 b hb) zb; omega)) ?_)
    rintro _ σ1 ⟨rfl, c, k1, k2, k3⟩
    rw [uB_u] at k1 k3
    rw [uV_s, uV_n (fun z => hab z.symm)] at k2
    obtain ⟨d1, d2, d3, d4, d5, d6, d7⟩ := k1.1 a ha
    rw [uB_s] at d1 d2 d3 d4 d5 d7
    have hne2 := ne_oa d1 d2
    refine wa_aload_n q_X1_subtract_24 rfl ?_
    refine wa_aload_n q_X1_subtract_25 rfl ?_
    refine wa_getf q_X1_subtract_26 f_RX1_34 (by assumption) rfl ?_
    refine wa_ineg q_X1_subtract_29 ?_
    refine wn_putf q_X1_subtract_30 p_RX1_34 (by assumption) (lk rfl) rfl rfl rfl (fun σ_e1 e1 f_e1 e1_e1 e2_e1 => ?_)
    refine wa_vret q_X1_subtract_33 rfl ?_
    have st2 := bw_R.step (τ := σ_e1) (b := (c.1, c.2.1, c.2.2.1, c.2.2.2.1, -c.2.2.2.2)) k1 ha (by omega) ⟨e1, (f_e1 _ hne2.symm).trans d2, d3, d4, d5, by omega, by show c.1 < _; omega⟩ (fun q q1 q2 q3 => f_e1 q q2) (Or.inl (by rw [uB_s])) (by rw [uB_s]; exact Nat.le_refl _) (by rw [uB_s]; show _ ≤ 8 * _ + c.2.1; omega) (by rw [uB_s]; show _ ≤ _ + 2 * c.2.1; omega)
    rw [uB_u] at st2
    refine ⟨rfl, _, h.up st2.1 ⟨?_, ?_, k2.2.2⟩, st.2.tr (k3.tr st2.2)⟩
    · show -c.2.2.2.2 = _
      rw [k2.1, ← sgI_neg]; congr 1; omega
    · show vl c.2.2.2.1 c.2.2.1 = _
      rw [k2.2.1]; omega
  · exact absurd hc (fun z => hab z.symm)
end big4
end
section
/-! EnclosedDigits$Big: grow, multiplySmall, divideSmall -/
theorem bw_R.keep {X : en_X} {D : List Nat} {σ τ : en_S} {S : Nat → en_B} {a sz : Nat} {d : Nat → Nat} {sg : Int32} (h : bw_R X D σ S) (ha : a ∈ D) (h1 : look τ a = some (bE sg sz (S a).1)) (h2 : look τ (S a).1 = some (ar X (S a).2.1 d)) (h3 : sz ≤ (S a).2.1) (hf : ∀ q, q ≠ a → q ≠ (S a).1 → look τ q = look σ q) (e1 : τ.1 = σ.1) (e2 : τ.2.1 = σ.2.1) : bw_R X D τ (uB S a ((S a).1, (S a).2.1, sz, d, sg)) ∧ bw_St D σ S τ (uB S a ((S a).1, (S a).2.1, sz, d, sg)) := by
  obtain ⟨a1, a2, a3, a4, a5, a6, a7⟩ := h.1 a ha
  exact bw_R.step h ha (by omega) ⟨h1, h2, h3, a4, a5, by omega, by show (S a).1 < _; omega⟩ (fun q _ q2 q3 => hf q q2 q3) (Or.inl rfl) (Nat.le_refl _) (by show _ ≤ 8 * _ + (S a).2.1; omega) (by show _ ≤ _ + 2 * (S a).2.1; omega)
/-- one further from 0; from 0, to the side t -/
def grw (v t : Int) : Int := if v = 0 then t else if v < 0 then v - 1 else v + 1
theorem grw_abs {v t : Int} (ht : t = 1 ∨ t = -1) : (grw v t).natAbs = v.natAbs + 1 := by
  unfold grw; split
  · omega
  · split <;> omega
theorem grw_sg {v t : Int} : sgI (grw v t) = if v = 0 then sgI t else sgI v := by
  unfold grw; split
  · rfl
  · rcases sgI_c v with ⟨p, e⟩ | ⟨p, e⟩ | ⟨p, e⟩
    · rw [if_pos p, e]; rcases sgI_c (v - 1) with ⟨q, g⟩ | ⟨q, g⟩ | ⟨q, g⟩ <;> first | omega | exact g
    · omega
    · rw [if_neg (by omega), e]; rcases sgI_c (v + 1) with ⟨q, g⟩ | ⟨q, g⟩ | ⟨q, g⟩ <;> first | omega | exact g
section big5
variable {X : en_X} {σ : en_S} {D : List Nat} {S : Nat → en_B} {V : Nat → Int}
theorem C_grow_loop {ρ σ0 : en_S} {a r n m : Nat} {d : Nat → Nat} {sg s : Int32} {Q : Option Value → en_S → Prop} (hn : n ≤ 512) (hm : m < n) (hd : ∀ i, i ≤ m → d i < BB) (h0 : d m = 0) (hne : a ≠ r)
    (k : ∀ σ1 d1, look σ1 a = some (bE sg (m + 1) r) → look σ1 r = some (ar X n d1) → (∀ j, j ≤ m → d1 j < BB) → vl d1 (m + 1) = vl d (m + 1) + 1 → (∀ q, q ≠ r → look σ1 q = look σ0 q) → σ1.1 = σ0.1 → σ1.2.1 = σ0.2.1 → WA X M_X1_grow ρ 72 [(2, .int s), (0, .ref a)] [] σ1 Q) :
    ∀ (t i : Nat) (σ : en_S) (d1 : Nat → Nat), m - i = t → i ≤ m → look σ a = some (bE sg (m + 1) r) → look σ r = some (ar X n d1) → (∀ j, j ≤ m → d1 j < BB) → (∀ j, i ≤ j → d1 j = d j) → vl d1 (m + 1) + BB ^ i = vl d (m + 1) + 1 → (∀ q, q ≠ r → look σ q = look σ0 q) → σ.1 = σ0.1 → σ.2.1 = σ0.2.1 →
      WA X M_X1_grow ρ 28 [(3, .int (nI i)), (2, .int s), (0, .ref a)] [] σ Q := by
  have hB : BB = 1000000000 := rfl
  intro t
  induction t with
  | zero =>
    intro i σ d1 ht hi ha hr h1 h2 h3 h4 h5 h6
    have e : i = m := by omega
    subst e
    have hd0 : d1 i = 0 := (h2 i (Nat.le_refl _)).trans h0
    refine wa_iload_n q_X1_grow_28 rfl ?_
    refine wa_aload_n q_X1_grow_29 rfl ?_
    refine wa_getf q_X1_grow_30 f_RX1_15 (by assumption) rfl ?_
    refine wa_iconst q_X1_grow_33 (v := nI 1) (by decide) ?_
    refine wn_isub q_X1_grow_34 (by omega) ?_
    refine wn_icmp_ge q_X1_grow_35 (by omega) (by omega) (fun hx => ?_) (fun hx => ?_)
    · refine wa_aload_n q_X1_grow_62 rfl ?_
      refine wa_getf q_X1_grow_63 f_RX1_11 (by assumption) rfl ?_
      refine wa_iload_n q_X1_grow_66 rfl ?_
      refine wa_dup2 q_X1_grow_67 rfl rfl ?_
      refine wn_iald q_X1_grow_68 (by assumption) (by omega) (by omega) ?_
      refine wa_iconst q_X1_grow_69 (v := nI 1) (by decide) ?_
      refine wn_iadd q_X1_grow_70 ?_
      refine wn_iast q_X1_grow_71 (by assumption) (by omega) (by omega) (fun σ_hr1 hr1 f_hr1 e1_hr1 e2_hr1 => ?_)
      have ha := (f_hr1 a hne).trans ha
      refine wa_lv (k _ _ ha hr1 (fun j hj => ?_) ?_ (fun q hq => (f_hr1 q hq).trans (h4 q hq)) (by omega) (by omega)) rfl
      · by_cases ej : j = i
        · rw [ej, un_s, hd0, hB]; decide
        · rw [un_n ej]; exact h1 j hj
      · have hu := vl_un (d := d1) (n := i + 1) (i := i) (x := d1 i + 1) (by omega)
        rw [Nat.add_mul, Nat.one_mul] at hu
        omega
    · exact absurd hx (by omega)
  | succ t ih =>
    intro i σ d1 ht hi ha hr h1 h2 h3 h4 h5 h6
    have hdi := h1 i (by omega)
    refine wa_iload_n q_X1_grow_28 rfl ?_
    refine wa_aload_n q_X1_grow_29 rfl ?_
    refine wa_getf q_X1_grow_30 f_RX1_15 (by assumption) rfl ?_
    refine wa_iconst q_X1_grow_33 (v := nI 1) (by decide) ?_
    refine wn_isub q_X1_grow_34 (by omega) ?_
    refine wn_icmp_ge q_X1_grow_35 (by omega) (by omega) (fun hx => ?_) (fun hx => ?_)
    · exact absurd hx (by omega)
    · refine wa_aload_n q_X1_grow_38 rfl ?_
      refine wa_getf q_X1_grow_39 f_RX1_11 (by assumption) rfl ?_
      refine wa_iload_n q_X1_grow_42 rfl ?_
      refine wn_iald q_X1_grow_43 (by assumption) (by omega) (by omega) ?_
      refine wa_ldc q_X1_grow_44 k_RX1_73 ?_
      refine wn_icmp_ne q_X1_grow_46 (by omega) (by omega) (fun hy => ?_) (fun hy => ?_)
      · refine wa_aload_n q_X1_grow_62 rfl ?_
        refine wa_getf q_X1_grow_63 f_RX1_11 (by assumption) rfl ?_
        refine wa_iload_n q_X1_grow_66 rfl ?_
        refine wa_dup2 q_X1_grow_67 rfl rfl ?_
        refine wn_iald q_X1_grow_68 (by assumption) (by omega) (by omega) ?_
        refine wa_iconst q_X1_grow_69 (v := nI 1) (by decide) ?_
        refine wn_iadd q_X1_grow_70 ?_
        refine wn_iast q_X1_grow_71 (by assumption) (by omega) (by omega) (fun σ_hr1 hr1 f_hr1 e1_hr1 e2_hr1 => ?_)
        have ha := (f_hr1 a hne).trans ha
        refine wa_lv (k _ _ ha hr1 (fun j hj => ?_) ?_ (fun q hq => (f_hr1 q hq).trans (h4 q hq)) (by omega) (by omega)) rfl
        · by_cases ej : j = i
          · rw [ej, un_s]; omega
          · rw [un_n ej]; exact h1 j hj
        · have hu := vl_un (d := d1) (n := m + 1) (i := i) (x := d1 i + 1) (by omega)
          rw [Nat.add_mul, Nat.one_mul] at hu
          omega
      · refine wa_aload_n q_X1_grow_49 rfl ?_
        refine wa_getf q_X1_grow_50 f_RX1_11 (by assumption) rfl ?_
        refine wa_iload_n q_X1_grow_53 rfl ?_
        refine wa_iconst q_X1_grow_54 (v := nI 0) (by decide) ?_
        refine wn_iast q_X1_grow_55 (by assumption) (by omega) (by omega) (fun σ_hr1 hr1 f_hr1 e1_hr1 e2_hr1 => ?_)
        have ha := (f_hr1 a hne).trans ha
        refine wn_iinc q_X1_grow_56 rfl (by decide) ?_
        refine wa_goto q_X1_grow_59 ?_
        have hu := vl_un (d := d1) (n := m + 1) (i := i) (x := 0) (by omega)
        refine wa_lv (ih (i + 1) σ_hr1 _ (by omega) (by omega) ha hr1 (fun j hj => ?_) (fun j hj => ?_) ?_ (fun q hq => (f_hr1 q hq).trans (h4 q hq)) (by omega) (by omega)) rfl
        · by_cases ej : j = i
          · rw [ej, un_s]; exact BB_pos
          · rw [un_n ej]; exact h1 j hj
        · rw [un_n (by omega)]; exact h2 j (by omega)
        · rw [hy] at hu
          rw [Nat.pow_succ]
          have e5 : BB ^ i * BB = BB ^ i * 1000000000 := rfl
          omega
theorem C_grow {a : Nat} {t : Int} (h : bw_V X D σ S V) (ha : a ∈ D) (ht : t = 1 ∨ t = -1) (za : (S a).2.2.1 ≤ 255) : Calls X M_X1_grow [.ref a, .int (sgI t)] σ (fun res τ => res = none ∧ ∃ c, bw_R X D τ (uB S a c) ∧ isV c (grw (V a) t) ∧ bw_St D σ S τ (uB S a c)) := by
  obtain ⟨a1, a2, a3, a4, a5, a6, a7⟩ := h.1.1 a ha
  obtain ⟨va, wa, na⟩ := h.2 a ha
  have hB : BB = 1000000000 := rfl
  refine Calls.of rfl (lk rfl) ?_
  have hgo : WA X M_X1_grow σ 15 [(1, .int (sgI t)), (0, .ref a)] [.int (if V a = 0 then sgI t else sgI (V a))] σ (fun res τ => res = none ∧ ∃ c, bw_R X D τ (uB S a c) ∧ isV c (grw (V a) t) ∧ bw_St D σ S τ (uB S a c)) := by
    refine wa_istore_n q_X1_grow_15 (by decide) ?_
    refine wa_aload_n q_X1_grow_16 rfl ?_
    refine wa_aload_n q_X1_grow_17 rfl ?_
    refine wa_getf q_X1_grow_18 f_RX1_15 (by assumption) rfl ?_
    refine wa_iconst q_X1_grow_21 (v := nI 1) (by decide) ?_
    refine wn_iadd q_X1_grow_22 ?_
    refine wa_callV q_X1_grow_23 g_X1_grow_23 w_X1_extend (by assumption) rfl (av := [_]) rfl rfl (lk rfl) (Calls.mono (C_extend h.1 ha (by omega)) ?_)
    rintro _ σ1 ⟨rfl, e, k1, k2, k3, k4, k5, k6⟩
    obtain ⟨e1, e2, e3, e4, e5, e6, e7⟩ := k5.1 a ha
    rw [uB_s] at e1 e2 e3 e4 e5 e7
    have hm : e.2.2.1 = (S a).2.2.1 + 1 := by omega
    rw [hm] at e1 e3
    have hz : e.2.2.2.1 (S a).2.2.1 = 0 := k4 _ (Nat.le_refl _) (by omega)
    have hv : vl e.2.2.2.1 ((S a).2.2.1 + 1) = (V a).natAbs := by
      rw [vl_pad (n := (S a).2.2.1) (by omega) (fun i h1 h2 => k4 i h1 (by omega)), vl_congr k3]; exact wa
    refine wa_iconst q_X1_grow_26 (v := nI 0) (by decide) ?_
    refine wa_istore_n q_X1_grow_27 (by decide) ?_
    refine wa_lv (C_grow_loop (σ0 := σ1) e5 (by omega) (fun i hi => ?_) hz (ne_oa e1 e2) ?_ _ 0 σ1 _ rfl (Nat.zero_le _) e1 e2 (fun i hi => ?_) (fun _ _ => rfl) rfl (fun _ _ => rfl) rfl rfl) rfl
    · rcases Nat.lt_or_ge i (S a).2.2.1 with q | q
      · rw [k3 i q]; exact na.1 i q
      · rw [k4 i q (by omega)]; exact BB_pos
    · intro σ2 d1 g1 g2 g3 g4 g5 g6 g7
      have st := bw_R.keep (τ := σ2) (a := a) (sz := (S a).2.2.1 + 1) (d := d1) (sg := e.2.2.2.2) k5 ha (by rw [uB_s]; exact g1) (by rw [uB_s]; exact g2) (by rw [uB_s]; omega) (fun q q2 q3 => by rw [uB_s] at q3; exact g5 q q3) g6 g7
      rw [uB_u, uB_s] at st
      refine wa_aload_n q_X1_grow_72 rfl ?_
      refine wa_iload_n q_X1_grow_73 rfl ?_
      refine wa_callV q_X1_grow_74 g_X1_grow_74 w_X1_trim (by assumption) rfl (av := [_]) rfl rfl (lk rfl) (Calls.mono (C_trim st.1 ha (by rw [uB_s]; intro i hi; have hi : i < (S a).2.2.1 + 1 := hi; have := g3 i (by omega); show d1 i < _; omega)) ?_)
      rintro _ σ3 ⟨rfl, b, hbe, w1, w2⟩
      rw [uB_s] at hbe
      rw [uB_u] at w1 w2
      refine wa_vret q_X1_grow_77 rfl ?_
      refine ⟨rfl, b, w1, isV_of (s := if V a = 0 then sgI t else sgI (V a)) ?_ ?_ ?_ (fun _ => grw_sg.symm), k6.tr (st.2.tr w2)⟩
      · subst hbe
        exact ⟨fun i hi => g3 i (by have := tp_le d1 ((S a).2.2.1 + 1); have hi : i < tp d1 ((S a).2.2.1 + 1) := hi; omega), tp_top d1 _⟩
      · subst hbe
        show vl d1 (tp d1 ((S a).2.2.1 + 1)) = _
        rw [vl_tp, g4, hv, grw_abs ht]
      · subst hbe; rfl
    · rcases Nat.lt_or_ge i (S a).2.2.1 with q | q
      · rw [k3 i q]; exact na.1 i q
      · rw [k4 i q (by omega)]; exact BB_pos
  refine wa_aload_n q_X1_grow_0 rfl ?_
  refine wa_getf q_X1_grow_1 f_RX1_34 (by assumption) rfl ?_
  refine wa_if_ne q_X1_grow_4 (fun hc => ?_) (fun hc => ?_)
  · refine wa_aload_n q_X1_grow_11 rfl ?_
    refine wa_getf q_X1_grow_12 f_RX1_34 (by assumption) rfl ?_
    rw [va] at hc
    rw [if_neg (fun z => hc (sgI_0.mpr z))] at hgo
    rw [va]
    exact wa_lv hgo rfl
  · refine wa_iload_n q_X1_grow_7 rfl ?_
    refine wa_goto q_X1_grow_8 ?_
    rw [va] at hc
    rw [if_pos (sgI_0.mp hc)] at hgo
    exact wa_lv hgo rfl
theorem V_grow {a : Nat} {t : Int} (h : bw_V X D σ S V) (ha : a ∈ D) (ht : t = 1 ∨ t = -1) (za : (V a).natAbs < BB ^ 250) : Calls X M_X1_grow [.ref a, .int (sgI t)] σ (fun res τ => res = none ∧ ∃ S', bw_V X D τ S' (uV V a (grw (V a) t)) ∧ bw_St D σ S τ S') := by
  refine Calls.mono (C_grow h ha ht (by have := isV_le (h.2 a ha) za; omega)) ?_
  rintro r τ ⟨rfl, c, k1, k2, k3⟩
  exact ⟨rfl, _, h.up k1 k2, k3⟩
theorem V_mulS {a f : Nat} (h : bw_V X D σ S V) (ha : a ∈ D) (hf : f ≤ BB) (za : (V a).natAbs < BB ^ 250) : Calls X M_X1_multiplySmall [.ref a, .long (lN f)] σ (fun res τ => res = none ∧ ∃ S', bw_V X D τ S' (uV V a (V a * f)) ∧ bw_St D σ S τ S') := by
  obtain ⟨a1, a2, a3, a4, a5, a6, a7⟩ := h.1.1 a ha
  obtain ⟨va, wa, na⟩ := h.2 a ha
  have hB : BB = 1000000000 := rfl
  have hz0 := isV_le (h.2 a ha) za
  refine Calls.of rfl (lk rfl) ?_
  refine wa_aload_n q_X1_multiplySmall_0 rfl ?_
  refine wa_aload_n q_X1_multiplySmall_1 rfl ?_
  refine wa_getf q_X1_multiplySmall_2 f_RX1_15 (by assumption) rfl ?_
  refine wa_iconst q_X1_multiplySmall_5 (v := nI 1) (by decide) ?_
  refine wn_iadd q_X1_multiplySmall_6 ?_
  refine wa_callV q_X1_multiplySmall_7 g_X1_multiplySmall_7 w_X1_extend (by assumption) rfl (av := [_]) rfl rfl (lk rfl) (Calls.mono (C_extend h.1 ha (by omega)) ?_)
  rintro _ σ1 ⟨rfl, e, k1, k2, k3, k4, k5, k6⟩
  obtain ⟨e1, e2, e3, e4, e5, e6, e7⟩ := k5.1 a ha
  have hm : e.2.2.1 = (S a).2.2.1 + 1 := by omega
  have hv : vl e.2.2.2.1 e.2.2.1 = (V a).natAbs := by
    rw [hm, vl_pad (n := (S a).2.2.1) (by omega) (fun i h1 h2 => k4 i h1 (by omega)), vl_congr k3]; exact wa
  have hde : ∀ i, i < e.2.2.1 → e.2.2.2.1 i < BB := by
    intro i hi
    rcases Nat.lt_or_ge i (S a).2.2.1 with q | q
    · rw [k3 i q]; exact na.1 i q
    · rw [k4 i q (by omega)]; exact BB_pos
  refine wa_aload_n q_X1_multiplySmall_10 rfl ?_
  refine wa_lload_n q_X1_multiplySmall_11 rfl ?_
  refine wa_callV q_X1_multiplySmall_12 g_X1_multiplySmall_12 w_X1_multiplyLimbs (by assumption) rfl (av := [_]) rfl rfl (lk rfl) (Calls.mono (C_mulL k5 ha hf (by rw [uB_s]; exact hde) (by rw [uB_s, hv, hm, Nat.pow_succ, Nat.mul_comm (BB ^ _) BB]; have q1 := vl_lt na.1; rw [wa] at q1; exact Nat.lt_of_le_of_lt (Nat.mul_le_mul_right _ hf) (Nat.mul_lt_mul_of_pos_left q1 BB_pos))) ?_)
  rintro _ σ2 ⟨rfl, c, g1, g2, g3, g4, g5, g6⟩
  rw [uB_s] at g1 g2 g4
  rw [uB_u] at g5 g6
  obtain ⟨c1, c2, c3, c4, c5, c6, c7⟩ := g5.1 a ha
  rw [uB_s] at c1 c2 c3 c4 c5 c7
  refine wa_aload_n q_X1_multiplySmall_15 rfl ?_
  refine wa_aload_n q_X1_multiplySmall_16 rfl ?_
  refine wa_getf q_X1_multiplySmall_17 f_RX1_34 (by assumption) rfl ?_
  refine wa_callV q_X1_multiplySmall_20 g_X1_multiplySmall_20 w_X1_trim (by assumption) rfl (av := [_]) rfl rfl (lk rfl) (Calls.mono (C_trim g5 ha (by rw [uB_s]; intro i hi; have := g3 i hi; omega)) ?_)
  rintro _ σ3 ⟨rfl, b, hbe, w1, w2⟩
  rw [uB_s] at hbe
  rw [uB_u] at w1 w2
  refine wa_vret q_X1_multiplySmall_23 rfl ?_
  refine ⟨rfl, _, h.up w1 (isV_of (s := sgI (V a)) ?_ ?_ ?_ ?_), k6.tr (g6.tr w2)⟩
  · subst hbe
    exact ⟨fun i hi => g3 i (by have := tp_le c.2.2.2.1 c.2.2.1; have hi : i < tp c.2.2.2.1 c.2.2.1 := hi; omega), tp_top _ _⟩
  · subst hbe
    show vl c.2.2.2.1 (tp c.2.2.2.1 c.2.2.1) = _
    rw [vl_tp, g4, hv, Int.natAbs_mul, Nat.mul_comm]; rfl
  · subst hbe
    show (if _ then _ else c.2.2.2.2) = _
    rw [g2, k2, va]
  · intro hnz
    rw [sgI_mul]
    have : sgI (f : Int) = 1 := by
      rcases sgI_c (f : Int) with ⟨q, g⟩ | ⟨q, g⟩ | ⟨q, g⟩
      · omega
      · rw [q, Int.mul_zero] at hnz; exact absurd rfl hnz
      · exact g
    rw [this]; simp
theorem dv_1 {u w d c N : Nat} (h1 : u + c ≤ w) (h2 : w < N) (h3 : d < c) : u + d < N ∧ u + d < w := by omega
theorem C_divS_loop {ρ σ0 : en_S} {a r n sz f : Nat} {d : Nat → Nat} {sg : Int32} {Q : Option Value → en_S → Prop} (hn : n ≤ 512) (hs : sz ≤ n) (h0 : 0 < f) (hf : f * BB < 2 ^ 63) (hd : ∀ i, i < sz → d i < BB) (hne : a ≠ r)
    (k : ∀ σ1 d1, look σ1 a = some (bE sg sz r) → look σ1 r = some (ar X n d1) → (∀ j, j < sz → d1 j < BB) → vl d1 sz = vl d sz / f → (∀ q, q ≠ r → look σ1 q = look σ0 q) → σ1.1 = σ0.1 → σ1.2.1 = σ0.2.1 → WA X M_X1_divideSmall ρ 69 [(3, .long (lN (vl d sz % f))), (0, .ref a)] [] σ1 Q) :
    ∀ (t l : Nat) (σ : en_S) (d1 : Nat → Nat), t ≤ sz → l < f → look σ a = some (bE sg sz r) → look σ r = some (ar X n d1) → (∀ j, t ≤ j → j < sz → d1 j < BB) → (∀ j, j < t → d1 j = d j) → vl (fun j => d (t + j)) (sz - t) = f * vl (fun j => d1 (t + j)) (sz - t) + l → (∀ q, q ≠ r → look σ q = look σ0 q) → σ.1 = σ0.1 → σ.2.1 = σ0.2.1 →
      WA X M_X1_divideSmall ρ 18 [(5, .int (iZ ((t : Int) - 1))), (3, .long (lN l)), (1, .long (lN f)), (0, .ref a)] [] σ Q := by
  have hB : BB = 1000000000 := rfl
  intro t
  induction t with
  | zero =>
    intro l σ d1 ht hl ha hr h1 h2 h3 h4 h5 h6
    refine wa_iload q_X1_divideSmall_18 rfl ?_
    refine wa_if_lt q_X1_divideSmall_20 (fun hc => ?_) (fun hc => absurd (by decide) hc)
    simp only [Nat.zero_add, Nat.sub_zero] at h3
    have e1 : vl d sz / f = vl d1 sz := by
      rw [h3, Nat.mul_add_div h0, Nat.div_eq_of_lt hl, Nat.add_zero]
    have e2 : vl d sz % f = l := by
      rw [h3, Nat.mul_add_mod, Nat.mod_eq_of_lt hl]
    rw [e1, e2] at k
    exact wa_lv (k σ d1 ha hr (fun j hj => h1 j (Nat.zero_le _) hj) rfl h4 h5 h6) rfl
  | succ t ih =>
    intro l σ d1 ht hl ha hr h1 h2 h3 h4 h5 h6
    have e0 : iZ (((t + 1 : Nat) : Int) - 1) = nI t := by rw [nI_iZ]; congr 1; omega
    rw [e0]
    have hdt : d1 t = d t := h2 t (by omega)
    have hdl := hd t (by omega)
    have hb : l * BB + BB ≤ f * BB := by rw [← Nat.succ_mul]; exact Nat.mul_le_mul_right _ hl
    refine wa_iload q_X1_divideSmall_18 rfl ?_
    refine wn_if_lt q_X1_divideSmall_20 (by omega) (fun hc => ?_) (fun hc => ?_)
    · exact absurd hc id
    · refine wa_lload_n q_X1_divideSmall_23 rfl ?_
      refine wa_ldc2 q_X1_divideSmall_24 k_RX1_50 ?_
      refine wn_lmul q_X1_divideSmall_27 ?_
      refine wa_aload_n q_X1_divideSmall_28 rfl ?_
      refine wa_getf q_X1_divideSmall_29 f_RX1_11 (by assumption) rfl ?_
      refine wa_iload q_X1_divideSmall_32 rfl ?_
      refine wn_iald q_X1_divideSmall_34 (by assumption) (by omega) (by omega) ?_
      rw [hdt]
      have hf9 : f * 1000000000 < 9223372036854775808 := hf
      have hb9 : l * 1000000000 + 1000000000 ≤ f * 1000000000 := hb
      have hd9 : d t < 1000000000 := hdl
      obtain ⟨hx9, hx8⟩ : l * 1000000000 + d t < 2 ^ 63 ∧ l * 1000000000 + d t < f * 1000000000 := dv_1 hb9 hf9 hd9
      have hf8 : f < 2 ^ 63 := Nat.lt_of_le_of_lt (Nat.le_mul_of_pos_right f (by decide)) hf9
      have hq9 : (l * 1000000000 + d t) / f < BB := Nat.div_lt_of_lt_mul hx8
      clear hf hb
      refine wn_i2l q_X1_divideSmall_35 (by omega) ?_
      refine wn_ladd q_X1_divideSmall_36 ?_
      refine wa_lstore q_X1_divideSmall_37 (by decide) ?_
      refine wa_lload q_X1_divideSmall_39 rfl ?_
      refine wa_lload_n q_X1_divideSmall_41 rfl ?_
      refine wn_ldiv q_X1_divideSmall_42 hx9 h0 hf8 ?_
      refine wa_lstore q_X1_divideSmall_43 (by decide) ?_
      refine wa_aload_n q_X1_divideSmall_45 rfl ?_
      refine wa_getf q_X1_divideSmall_46 f_RX1_11 (by assumption) rfl ?_
      refine wa_iload q_X1_divideSmall_49 rfl ?_
      refine wa_lload q_X1_divideSmall_51 rfl ?_
      refine wn_l2i q_X1_divideSmall_53 ?_
      refine wn_iast q_X1_divideSmall_54 (by assumption) (by omega) (by omega) (fun σ_hr1 hr1 f_hr1 e1_hr1 e2_hr1 => ?_)
      have ha := (f_hr1 a hne).trans ha
      have hq := Nat.div_add_mod (l * 1000000000 + d t) f
      have hml := Nat.mod_lt (l * 1000000000 + d t) h0
      have hm : (l * 1000000000 + d t) / f * f ≤ l * 1000000000 + d t := Nat.div_mul_le_self _ _
      refine wa_lload q_X1_divideSmall_55 rfl ?_
      refine wa_lload q_X1_divideSmall_57 rfl ?_
      refine wa_lload_n q_X1_divideSmall_59 rfl ?_
      refine wn_lmul q_X1_divideSmall_60 ?_
      refine wn_lsub q_X1_divideSmall_61 (by omega) ?_
      refine wa_lstore_n q_X1_divideSmall_62 (by decide) ?_
      have hsub : l * 1000000000 + d t - (l * 1000000000 + d t) / f * f = (l * 1000000000 + d t) % f := by rw [Nat.mul_comm ((l * 1000000000 + d t) / f) f]; omega
      rw [hsub]
      refine wa_iinc q_X1_divideSmall_63 rfl (v := iZ ((t : Int) - 1)) (by rw [nI_iZ]; exact iZ_add _ _) (by decide) ?_
      refine wa_goto q_X1_divideSmall_66 ?_
      refine wa_lv (ih ((l * 1000000000 + d t) % f) σ_hr1 _ (by omega) hml ha hr1 (fun j j1 j2 => ?_) (fun j hj => ?_) ?_ (fun q hq => (f_hr1 q hq).trans (h4 q hq)) (by omega) (by omega)) rfl
      · by_cases ej : j = t
        · rw [ej, un_s]; exact hq9
        · rw [un_n ej]; exact h1 j (by omega) j2
      · rw [un_n (by omega)]; exact h2 j (by omega)
      · have es : sz - t = sz - (t + 1) + 1 := by omega
        rw [es, vl_low, vl_low]
        simp only [Nat.add_zero, un_s]
        have c1 : vl (fun i => d (t + (i + 1))) (sz - (t + 1)) = vl (fun j => d (t + 1 + j)) (sz - (t + 1)) := vl_congr (fun i _ => by rw [show t + (i + 1) = t + 1 + i by omega])
        have c2 : vl (fun i => un d1 t ((l * 1000000000 + d t) / f) (t + (i + 1))) (sz - (t + 1)) = vl (fun j => d1 (t + 1 + j)) (sz - (t + 1)) := vl_congr (fun i _ => by rw [un_n (by omega), show t + (i + 1) = t + 1 + i by omega])
        rw [c1, c2, h3, hB]
        generalize (l * 1000000000 + d t) / f = qq at *
        generalize (l * 1000000000 + d t) % f = mm at *
        grind
theorem V_divS {a f : Nat} (h : bw_V X D σ S V) (ha : a ∈ D) (h0 : 0 < f) (hf : f * BB < 2 ^ 63) : Calls X M_X1_divideSmall [.ref a, .long (lN f)] σ (fun res τ => res = some (.long (lN ((V a).natAbs % f))) ∧ ∃ S', bw_V X D τ S' (uV V a ((V a).tdiv f)) ∧ bw_St D σ S τ S') := by
  obtain ⟨a1, a2, a3, a4, a5, a6, a7⟩ := h.1.1 a ha
  obtain ⟨va, wa, na⟩ := h.2 a ha
  have hB : BB = 1000000000 := rfl
  have hf2 : f * 1000000000 < 9223372036854775808 := hf
  refine Calls.of rfl (lk rfl) ?_
  refine wa_lload_n q_X1_divideSmall_0 rfl ?_
  refine wa_lconst q_X1_divideSmall_1 (v := lN 1) (by decide) ?_
  refine wn_lcmp_ge q_X1_divideSmall_2 q_X1_divideSmall_3 (by omega) (by omega) (fun hc => ?_) (fun hc => ?_)
  · refine wa_lconst q_X1_divideSmall_8 (v := lN 0) (by decide) ?_
    refine wa_lstore_n q_X1_divideSmall_9 (by decide) ?_
    refine wa_aload_n q_X1_divideSmall_10 rfl ?_
    refine wa_getf q_X1_divideSmall_11 f_RX1_15 (by assumption) rfl ?_
    refine wa_iconst q_X1_divideSmall_14 (v := nI 1) (by decide) ?_
    refine wa_isub q_X1_divideSmall_15 ?_
    rw [show nI (S a).2.2.1 - nI 1 = iZ (((S a).2.2.1 : Int) - 1) by rw [nI_iZ, nI_iZ, iZ_sub]; rfl]
    refine wa_istore q_X1_divideSmall_16 (by decide) ?_
    refine wa_lv (C_divS_loop (σ0 := σ) a5 a3 h0 hf na.1 (ne_oa a1 a2) ?_ _ 0 σ _ (Nat.le_refl _) h0 a1 a2 (fun j j1 j2 => absurd j1 (by omega)) (fun _ _ => rfl) (by rw [Nat.sub_self]; rfl) (fun _ _ => rfl) rfl rfl) rfl
    intro σ2 d1 g1 g2 g3 g4 g5 g6 g7
    rw [wa] at g4
    rw [wa]
    have st := bw_R.keep (τ := σ2) (a := a) h.1 ha g1 g2 a3 (fun q q2 q3 => g5 q q3) g6 g7
    refine wa_aload_n q_X1_divideSmall_69 rfl ?_
    refine wa_aload_n q_X1_divideSmall_70 rfl ?_
    refine wa_getf q_X1_divideSmall_71 f_RX1_34 (by assumption) rfl ?_
    refine wa_callV q_X1_divideSmall_74 g_X1_divideSmall_74 w_X1_trim (by assumption) rfl (av := [_]) rfl rfl (lk rfl) (Calls.mono (C_trim st.1 ha (by rw [uB_s]; intro i hi; have := g3 i hi; show d1 i < _; omega)) ?_)
    rintro _ σ3 ⟨rfl, b, hbe, w1, w2⟩
    rw [uB_s] at hbe
    rw [uB_u] at w1 w2
    refine wa_lload_n q_X1_divideSmall_77 rfl ?_
    refine wa_lret q_X1_divideSmall_78 rfl ?_
    refine ⟨rfl, _, h.up w1 (isV_of (s := sgI (V a)) ?_ ?_ ?_ ?_), st.2.tr w2⟩
    · subst hbe
      exact ⟨fun i hi => g3 i (by have := tp_le d1 (S a).2.2.1; have hi : i < tp d1 (S a).2.2.1 := hi; omega), tp_top _ _⟩
    · subst hbe
      show vl d1 (tp d1 (S a).2.2.1) = _
      rw [vl_tp, g4, Int.natAbs_tdiv]; rfl
    · subst hbe
      show (if _ then _ else (S a).2.2.2.2) = _
      rw [va]
    · intro hnz
      rcases sgI_c (V a) with ⟨q, g⟩ | ⟨q, g⟩ | ⟨q, g⟩
      · have hle : (V a).tdiv f ≤ 0 := by
          obtain ⟨m, hm⟩ : ∃ m : Int, V a = -m := ⟨-V a, by omega⟩
          rw [hm, Int.neg_tdiv]
          have := Int.tdiv_nonneg (a := m) (b := (f : Int)) (by omega) (by omega)
          omega
        rcases sgI_c ((V a).tdiv f) with ⟨q2, g2⟩ | ⟨q2, g2⟩ | ⟨q2, g2⟩
        · rw [g, g2]
        · exact absurd q2 hnz
        · omega
      · rw [q, Int.zero_tdiv] at hnz; exact absurd rfl hnz
      · have hge := Int.tdiv_nonneg (a := V a) (b := (f : Int)) (by omega) (by omega)
        rcases sgI_c ((V a).tdiv f) with ⟨q2, g2⟩ | ⟨q2, g2⟩ | ⟨q2, g2⟩
        · omega
        · exact absurd q2 hnz
        · rw [g, g2]
  · exact absurd hc (by omega)
end big5
end
section
/-! EnclosedDigits$Big: setProduct, Arrays.fill, shiftUp -/
section big6
variable {X : en_X} {σ : en_S} {D : List Nat} {S : Nat → en_B} {V : Nat → Int}
theorem C_prod_in {ρ σ0 : en_S} {a b c r rc n nc m sb sc i x V0 : Nat} {dc : Nat → Nat} {sg sgc : Int32} {Q : Option Value → en_S → Prop} (hn : n ≤ 512) (hm : m ≤ n) (hms : m = sb + sc) (hi : i < sb) (hnc : nc ≤ 512) (hsc : sc ≤ nc) (hx : x < BB) (hx0 : x ≠ 0) (hdc : ∀ q, q < sc → dc q < BB) (hne : a ≠ r) (hcr : c ≠ r) (hrc : rc ≠ r)
    (k : ∀ (σ1 : en_S) (d1 : Nat → Nat) (y : Nat), look σ1 a = some (bE sg m r) → look σ1 r = some (ar X n d1) → (∀ j, j < m → d1 j < BB) → (∀ j, i + sc ≤ j → j < m → d1 j = 0) → y < BB → vl d1 m + y * BB ^ (i + sc) = V0 + x * vl dc sc * BB ^ i → (∀ q, q ≠ r → look σ1 q = look σ0 q) → σ1.1 = σ0.1 → σ1.2.1 = σ0.2.1 → WA X M_X1_setProduct ρ 118 [(6, .long (lN y)), (3, .int (nI i)), (2, .ref c), (1, .ref b), (0, .ref a)] [] σ1 Q) :
    ∀ (t j y : Nat) (σ : en_S) (d1 : Nat → Nat), sc - j = t → j ≤ sc → y < BB → look σ a = some (bE sg m r) → look σ r = some (ar X n d1) → look σ c = some (bE sgc sc rc) → look σ rc = some (ar X nc dc) → (∀ j, j < m → d1 j < BB) → (∀ j, i + sc ≤ j → j < m → d1 j = 0) → vl d1 m + y * BB ^ (i + j) = V0 + x * vl dc j * BB ^ i → (∀ q, q ≠ r → look σ q = look σ0 q) → σ.1 = σ0.1 → σ.2.1 = σ0.2.1 →
      WA X M_X1_setProduct ρ 42 [(8, .int (nI j)), (6, .long (lN y)), (4, .long (lN x)), (3, .int (nI i)), (2, .ref c), (1, .ref b), (0, .ref a)] [] σ Q := by
  have hB : BB = 1000000000 := rfl
  intro t
  induction t with
  | zero =>
    intro j y σ d1 ht hj hy ha hr hc hrc' h1 h2 h3 h4 h5 h6
    have ej : j = sc := by omega
    subst ej
    refine wa_iload q_X1_setProduct_42 rfl ?_
    refine wa_aload_n q_X1_setProduct_44 rfl ?_
    refine wa_getf q_X1_setProduct_45 f_RX1_15 (by assumption) rfl ?_
    refine wn_icmp_ge q_X1_setProduct_48 (by omega) (by omega) (fun hz => ?_) (fun hz => ?_)
    · exact wa_lv (k σ d1 y ha hr h1 h2 hy h3 h4 h5 h6) rfl
    · exact absurd hz (by omega)
  | succ t ih =>
    intro j y σ d1 ht hj hy ha hr hc hrc' h1 h2 h3 h4 h5 h6
    have hdj := hdc j (by omega)
    have hdd := h1 (i + j) (by omega)
    have hs : x * dc j + d1 (i + j) + y < 1000000000 * 1000000000 := by
      have q1 : x * dc j ≤ 999999999 * 999999999 := Nat.mul_le_mul (by omega) (by omega)
      omega
    refine wa_iload q_X1_setProduct_42 rfl ?_
    refine wa_aload_n q_X1_setProduct_44 rfl ?_
    refine wa_getf q_X1_setProduct_45 f_RX1_15 (by assumption) rfl ?_
    refine wn_icmp_ge q_X1_setProduct_48 (by omega) (by omega) (fun hz => ?_) (fun hz => ?_)
    · exact absurd hz (by omega)
    · refine wa_lload q_X1_setProduct_51 rfl ?_
      refine wa_lconst q_X1_setProduct_53 (v := lN 0) (by decide) ?_
      refine wn_lcmp_eq q_X1_setProduct_54 q_X1_setProduct_55 (by omega) (by omega) (fun hw => ?_) (fun hw => ?_)
      · exact absurd hw hx0
      · refine wa_lload q_X1_setProduct_58 rfl ?_
        refine wa_aload_n q_X1_setProduct_60 rfl ?_
        refine wa_getf q_X1_setProduct_61 f_RX1_11 (by assumption) rfl ?_
        refine wa_iload q_X1_setProduct_64 rfl ?_
        refine wn_iald q_X1_setProduct_66 (by assumption) (by omega) (by omega) ?_
        refine wn_i2l q_X1_setProduct_67 (by omega) ?_
        refine wn_lmul q_X1_setProduct_68 ?_
        refine wa_aload_n q_X1_setProduct_69 rfl ?_
        refine wa_getf q_X1_setProduct_70 f_RX1_11 (by assumption) rfl ?_
        refine wa_iload_n q_X1_setProduct_73 rfl ?_
        refine wa_iload q_X1_setProduct_74 rfl ?_
        refine wn_iadd q_X1_setProduct_76 ?_
        refine wn_iald q_X1_setProduct_77 (by assumption) (by omega) (by omega) ?_
        refine wn_i2l q_X1_setProduct_78 (by omega) ?_
        refine wn_ladd q_X1_setProduct_79 ?_
        refine wa_lload q_X1_setProduct_80 rfl ?_
        refine wn_ladd q_X1_setProduct_82 ?_
        refine wa_lstore q_X1_setProduct_83 (by decide) ?_
        refine wa_lload q_X1_setProduct_85 rfl ?_
        refine wa_ldc2 q_X1_setProduct_87 k_RX1_50 ?_
        refine wn_ldiv q_X1_setProduct_90 (by omega) (by omega) (by omega) ?_
        refine wa_lstore q_X1_setProduct_91 (by decide) ?_
        refine wa_aload_n q_X1_setProduct_93 rfl ?_
        refine wa_getf q_X1_setProduct_94 f_RX1_11 (by assumption) rfl ?_
        refine wa_iload_n q_X1_setProduct_97 rfl ?_
        refine wa_iload q_X1_setProduct_98 rfl ?_
        refine wn_iadd q_X1_setProduct_100 ?_
        refine wa_lload q_X1_setProduct_101 rfl ?_
        refine wa_lload q_X1_setProduct_103 rfl ?_
        refine wa_ldc2 q_X1_setProduct_105 k_RX1_50 ?_
        refine wn_lmul q_X1_setProduct_108 ?_
        have hm9 : (x * dc j + d1 (i + j) + y) / 1000000000 * 1000000000 ≤ x * dc j + d1 (i + j) + y := Nat.div_mul_le_self _ _
        refine wn_lsub q_X1_setProduct_109 hm9 ?_
        have hq := Nat.div_add_mod (x * dc j + d1 (i + j) + y) 1000000000
        have hml := Nat.mod_lt (x * dc j + d1 (i + j) + y) (show 0 < 1000000000 by decide)
        have hsub : x * dc j + d1 (i + j) + y - (x * dc j + d1 (i + j) + y) / 1000000000 * 1000000000 = (x * dc j + d1 (i + j) + y) % 1000000000 := by omega
        rw [hsub]
        refine wn_l2i q_X1_setProduct_110 ?_
        refine wn_iast q_X1_setProduct_111 (by assumption) (by omega) (by omega) (fun σ_hr1 hr1 f_hr1 e1_hr1 e2_hr1 => ?_)
        have ha := (f_hr1 a hne).trans ha
        have hc := (f_hr1 c hcr).trans hc
        have hrc' := (f_hr1 rc hrc).trans hrc'
        refine wn_iinc q_X1_setProduct_112 rfl (by decide) ?_
        refine wa_goto q_X1_setProduct_115 ?_
        have hu := vl_un (d := d1) (n := m) (i := i + j) (x := (x * dc j + d1 (i + j) + y) % 1000000000) (by omega)
        have e1 : vl dc (j + 1) = vl dc j + dc j * BB ^ j := rfl
        refine wa_lv (ih (j + 1) ((x * dc j + d1 (i + j) + y) / 1000000000) σ_hr1 _ (by omega) (by omega) (Nat.div_lt_of_lt_mul hs) ha hr1 hc hrc' (un_lt h1 hml) (fun q q1 q2 => ?_) ?_ (fun q hq => (f_hr1 q hq).trans (h4 q hq)) (by omega) (by omega)) rfl
        · rw [un_n (by omega)]; exact h2 q q1 q2
        · rw [e1, ← Nat.add_assoc, Nat.pow_succ, hB]
          rw [hB] at hu h3
          have e2 : (1000000000 : Nat) ^ (i + j) = 1000000000 ^ i * 1000000000 ^ j := Nat.pow_add _ _ _
          rw [e2] at hu h3 ⊢
          generalize (x * dc j + d1 (i + j) + y) / 1000000000 = qq at *
          generalize (x * dc j + d1 (i + j) + y) % 1000000000 = mm at *
          grind
theorem C_prod_out {ρ σ0 : en_S} {a b c r rb rc n nb nc m sb sc : Nat} {db dc : Nat → Nat} {sg sgb sgc : Int32} {Q : Option Value → en_S → Prop} (hn : n ≤ 512) (hm : m ≤ n) (hms : m = sb + sc) (hnb : nb ≤ 512) (hsb : sb ≤ nb) (hnc : nc ≤ 512) (hsc : sc ≤ nc) (hdb : ∀ q, q < sb → db q < BB) (hdc : ∀ q, q < sc → dc q < BB) (hne : a ≠ r) (hbr : b ≠ r) (hrb : rb ≠ r) (hcr : c ≠ r) (hrc : rc ≠ r) (kb : look σ0 b = some (bE sgb sb rb)) (kb' : look σ0 rb = some (ar X nb db)) (kc : look σ0 c = some (bE sgc sc rc)) (kc' : look σ0 rc = some (ar X nc dc))
    (k : ∀ (σ1 : en_S) (d1 : Nat → Nat), look σ1 a = some (bE sg m r) → look σ1 r = some (ar X n d1) → (∀ j, j < m → d1 j < BB) → vl d1 m = vl db sb * vl dc sc → (∀ q, q ≠ r → look σ1 q = look σ0 q) → σ1.1 = σ0.1 → σ1.2.1 = σ0.2.1 → WA X M_X1_setProduct ρ 138 [(2, .ref c), (1, .ref b), (0, .ref a)] [] σ1 Q) :
    ∀ (t i : Nat) (σ : en_S) (d1 : Nat → Nat), sb - i = t → i ≤ sb → look σ a = some (bE sg m r) → look σ r = some (ar X n d1) → (∀ j, j < m → d1 j < BB) → (∀ j, i + sc ≤ j → j < m → d1 j = 0) → vl d1 m = vl db i * vl dc sc → (∀ q, q ≠ r → look σ q = look σ0 q) → σ.1 = σ0.1 → σ.2.1 = σ0.2.1 →
      WA X M_X1_setProduct ρ 19 [(3, .int (nI i)), (2, .ref c), (1, .ref b), (0, .ref a)] [] σ Q := by
  have hB : BB = 1000000000 := rfl
  intro t
  induction t with
  | zero =>
    intro i σ d1 ht hi ha hr h1 h2 h3 h4 h5 h6
    have ei : i = sb := by omega
    subst ei
    have hb := (h4 b hbr).trans kb
    refine wa_iload_n q_X1_setProduct_19 rfl ?_
    refine wa_aload_n q_X1_setProduct_20 rfl ?_
    refine wa_getf q_X1_setProduct_21 f_RX1_15 (by assumption) rfl ?_
    refine wn_icmp_ge q_X1_setProduct_24 (by omega) (by omega) (fun hz => ?_) (fun hz => ?_)
    · exact wa_lv (k σ d1 ha hr h1 h3 h4 h5 h6) rfl
    · exact absurd hz (by omega)
  | succ t ih =>
    intro i σ d1 ht hi ha hr h1 h2 h3 h4 h5 h6
    have hb := (h4 b hbr).trans kb
    have hb' := (h4 rb hrb).trans kb'
    have hc := (h4 c hcr).trans kc
    have hc' := (h4 rc hrc).trans kc'
    have hdi := hdb i (by omega)
    have e1 : vl db (i + 1) = vl db i + db i * BB ^ i := rfl
    refine wa_iload_n q_X1_setProduct_19 rfl ?_
    refine wa_aload_n q_X1_setProduct_20 rfl ?_
    refine wa_getf q_X1_setProduct_21 f_RX1_15 (by assumption) rfl ?_
    refine wn_icmp_ge q_X1_setProduct_24 (by omega) (by omega) (fun hz => ?_) (fun hz => ?_)
    · exact absurd hz (by omega)
    · refine wa_aload_n q_X1_setProduct_27 rfl ?_
      refine wa_getf q_X1_setProduct_28 f_RX1_11 (by assumption) rfl ?_
      refine wa_iload_n q_X1_setProduct_31 rfl ?_
      refine wn_iald q_X1_setProduct_32 (by assumption) (by omega) (by omega) ?_
      refine wn_i2l q_X1_setProduct_33 (by omega) ?_
      refine wa_lstore q_X1_setProduct_34 (by decide) ?_
      refine wa_lconst q_X1_setProduct_36 (v := lN 0) (by decide) ?_
      refine wa_lstore q_X1_setProduct_37 (by decide) ?_
      refine wa_iconst q_X1_setProduct_39 (v := nI 0) (by decide) ?_
      refine wa_istore q_X1_setProduct_40 (by decide) ?_
      have hend : ∀ (σ1 : en_S) (d2 : Nat → Nat) (y : Nat), look σ1 a = some (bE sg m r) → look σ1 r = some (ar X n d2) → (∀ j, j < m → d2 j < BB) → (∀ j, i + sc ≤ j → j < m → d2 j = 0) → y < BB → vl d2 m + y * BB ^ (i + sc) = vl d1 m + db i * vl dc sc * BB ^ i → (∀ q, q ≠ r → look σ1 q = look σ q) → σ1.1 = σ.1 → σ1.2.1 = σ.2.1 → WA X M_X1_setProduct ρ 118 [(6, .long (lN y)), (3, .int (nI i)), (2, .ref c), (1, .ref b), (0, .ref a)] [] σ1 Q := by
        intro σ1 d2 y g1 g2 g3 g4 g5 g6 g7 g8 g9
        have hc1 := (g7 c hcr).trans hc
        refine wa_aload_n q_X1_setProduct_118 rfl ?_
        refine wa_getf q_X1_setProduct_119 f_RX1_11 (by assumption) rfl ?_
        refine wa_iload_n q_X1_setProduct_122 rfl ?_
        refine wa_aload_n q_X1_setProduct_123 rfl ?_
        refine wa_getf q_X1_setProduct_124 f_RX1_15 (by assumption) rfl ?_
        refine wn_iadd q_X1_setProduct_127 ?_
        refine wa_lload q_X1_setProduct_128 rfl ?_
        refine wn_l2i q_X1_setProduct_130 ?_
        refine wn_iast q_X1_setProduct_131 (by assumption) (by omega) (by omega) (fun σ_hr1 hr1 f_hr1 e1_hr1 e2_hr1 => ?_)
        have ha := (f_hr1 a hne).trans g1
        refine wn_iinc q_X1_setProduct_132 rfl (by decide) ?_
        refine wa_goto q_X1_setProduct_135 ?_
        have hu := vl_un (d := d2) (n := m) (i := i + sc) (x := y) (by omega)
        rw [g4 (i + sc) (Nat.le_refl _) (by omega), Nat.zero_mul, Nat.add_zero] at hu
        refine wa_lv (ih (i + 1) σ_hr1 _ (by omega) (by omega) ha hr1 (un_lt g3 g5) (fun q q1 q2 => ?_) ?_ (fun q hq => (f_hr1 q hq).trans ((g7 q hq).trans (h4 q hq))) (by omega) (by omega)) rfl
        · rw [un_n (by omega)]; exact g4 q (by omega) q2
        · rw [hu, g6, h3, e1, Nat.add_mul]; congr 1; rw [Nat.mul_assoc, Nat.mul_assoc, Nat.mul_comm (BB ^ i)]
      by_cases hx0 : db i = 0
      · rw [hx0]
        refine wa_iload q_X1_setProduct_42 rfl ?_
        refine wa_aload_n q_X1_setProduct_44 rfl ?_
        refine wa_getf q_X1_setProduct_45 f_RX1_15 (by assumption) rfl ?_
        refine wn_icmp_ge q_X1_setProduct_48 (by omega) (by omega) (fun hw => ?_) (fun hw => ?_)
        · refine wa_lv (hend σ d1 0 ha hr h1 h2 BB_pos ?_ (fun _ _ => rfl) rfl rfl) rfl
          rw [hx0]; simp
        · refine wa_lload q_X1_setProduct_51 rfl ?_
          refine wa_lconst q_X1_setProduct_53 (v := lN 0) (by decide) ?_
          refine wn_lcmp_eq q_X1_setProduct_54 q_X1_setProduct_55 (by omega) (by omega) (fun hv => ?_) (fun hv => ?_)
          · refine wa_lv (hend σ d1 0 ha hr h1 h2 BB_pos ?_ (fun _ _ => rfl) rfl rfl) rfl
            rw [hx0]; simp
          · exact absurd rfl hv
      · refine wa_lv (C_prod_in (σ0 := σ) (V0 := vl d1 m) (b := b) hn hm hms (by omega) hnc hsc hdi hx0 hdc hne hcr hrc hend _ 0 0 σ d1 rfl (Nat.zero_le _) BB_pos ha hr hc hc' h1 h2 (by simp [vl]) (fun _ _ => rfl) rfl rfl) rfl
theorem V_prod {a b c : Nat} (h : bw_V X D σ S V) (ha : a ∈ D) (hb : b ∈ D) (hc : c ∈ D) (hab : a ≠ b) (hac : a ≠ c) (zb : (V b).natAbs < BB ^ 125) (zc : (V c).natAbs < BB ^ 125) : Calls X M_X1_setProduct [.ref a, .ref b, .ref c] σ (fun res τ => res = none ∧ ∃ S', bw_V X D τ S' (uV V a (V b * V c)) ∧ bw_St D σ S τ S') := by
  obtain ⟨vb, wb, nb⟩ := h.2 b hb
  obtain ⟨vc, wc, nc⟩ := h.2 c hc
  have zb' := isV_le (h.2 b hb) zb
  have zc' := isV_le (h.2 c hc) zc
  have hB : BB = 1000000000 := rfl
  obtain ⟨a1, a2, a3, a4, a5, a6, a7⟩ := h.1.1 a ha
  obtain ⟨b1, b2, b3, b4, b5, b6, b7⟩ := h.1.1 b hb
  obtain ⟨c1, c2, c3, c4, c5, c6, c7⟩ := h.1.1 c hc
  refine Calls.of rfl (lk rfl) ?_
  refine wa_aload_n q_X1_setProduct_0 rfl ?_
  refine wa_callV q_X1_setProduct_1 g_X1_setProduct_1 w_X1_clear (by assumption) rfl (av := []) rfl rfl (lk rfl) (Calls.mono (C_clear h.1 ha) ?_)
  rintro _ σ1 ⟨rfl, e, rfl, k1, k2⟩
  obtain ⟨a1, a2, -, -, -, -, -⟩ := k1.1 a ha
  obtain ⟨b1, b2, -, -, -, -, -⟩ := k1.1 b hb
  obtain ⟨c1, c2, -, -, -, -, -⟩ := k1.1 c hc
  rw [uB_n (fun z => hab z.symm)] at b1 b2
  rw [uB_n (fun z => hac z.symm)] at c1 c2
  rw [uB_s] at a1 a2
  refine wa_aload_n q_X1_setProduct_4 rfl ?_
  refine wa_aload_n q_X1_setProduct_5 rfl ?_
  refine wa_getf q_X1_setProduct_6 f_RX1_15 (by assumption) rfl ?_
  refine wa_aload_n q_X1_setProduct_9 rfl ?_
  refine wa_getf q_X1_setProduct_10 f_RX1_15 (by assumption) rfl ?_
  refine wn_iadd q_X1_setProduct_13 ?_
  refine wa_callV q_X1_setProduct_14 g_X1_setProduct_14 w_X1_extend (by assumption) rfl (av := [_]) rfl rfl (lk rfl) (Calls.mono (C_extend k1 ha (by omega)) ?_)
  rintro _ σ2 ⟨rfl, e, g1, g2, g3, g4, g5, g6⟩
  rw [uB_s] at g1 g2 g3 g4
  rw [uB_u] at g5 g6
  have hm : e.2.2.1 = (S b).2.2.1 + (S c).2.2.1 := by rw [g1]; exact Nat.zero_max _
  have g4 : ∀ i, i < (S b).2.2.1 + (S c).2.2.1 → e.2.2.2.1 i = 0 := fun i hi => g4 i (Nat.zero_le _) hi
  obtain ⟨a1, a2, a3, a4, a5, -, -⟩ := g5.1 a ha
  have hrb := fun z => hab (g5.2 b hb a ha z).symm
  have hrc := fun z => hac (g5.2 c hc a ha z).symm
  obtain ⟨b1, b2, -, -, -, -, -⟩ := g5.1 b hb
  obtain ⟨c1, c2, -, -, -, -, -⟩ := g5.1 c hc
  rw [uB_n (fun z => hab z.symm)] at b1 b2 hrb
  rw [uB_n (fun z => hac z.symm)] at c1 c2 hrc
  rw [uB_s] at a1 a2 a3 a4 a5 hrb hrc
  refine wa_iconst q_X1_setProduct_17 (v := nI 0) (by decide) ?_
  refine wa_istore_n q_X1_setProduct_18 (by decide) ?_
  refine wa_lv (C_prod_out (σ0 := σ2) a5 a3 hm b5 b3 c5 c3 nb.1 nc.1 (ne_oa a1 a2) (ne_oa b1 a2) hrb (ne_oa c1 a2) hrc b1 b2 c1 c2 ?_ _ 0 σ2 _ rfl (Nat.zero_le _) a1 a2 (fun j hj => by rw [g4 j (by omega)]; exact BB_pos) (fun j _ hj => g4 j (by omega)) (by rw [vl_zero (fun i hi => g4 i (by omega))]; simp [vl]) (fun _ _ => rfl) rfl rfl) rfl
  intro σ3 d1 k1' k2' k3 k4 k5 k6 k7
  have st := bw_R.keep (τ := σ3) (a := a) (sz := e.2.2.1) (d := d1) (sg := e.2.2.2.2) g5 ha (by rw [uB_s]; exact k1') (by rw [uB_s]; exact k2') (by rw [uB_s]; exact a3) (fun q q2 q3 => by rw [uB_s] at q3; exact k5 q q3) k6 k7
  rw [uB_u, uB_s] at st
  have b1 := (k5 b (ne_oa b1 a2)).trans b1
  have c1 := (k5 c (ne_oa c1 a2)).trans c1
  refine wa_aload_n q_X1_setProduct_138 rfl ?_
  refine wa_aload_n q_X1_setProduct_139 rfl ?_
  refine wa_getf q_X1_setProduct_140 f_RX1_34 (by assumption) rfl ?_
  refine wa_aload_n q_X1_setProduct_143 rfl ?_
  refine wa_getf q_X1_setProduct_144 f_RX1_34 (by assumption) rfl ?_
  refine wa_imul q_X1_setProduct_147 ?_
  rw [vb, vc, ← sgI_mul]
  refine wa_callV q_X1_setProduct_148 g_X1_setProduct_148 w_X1_trim (by assumption) rfl (av := [_]) rfl rfl (lk rfl) (Calls.mono (C_trim st.1 ha (by rw [uB_s]; intro i hi; have := k3 i hi; show d1 i < _; omega)) ?_)
  rintro _ σ4 ⟨rfl, f, hbe, w1, w2⟩
  rw [uB_s] at hbe
  rw [uB_u] at w1 w2
  refine wa_vret q_X1_setProduct_151 rfl ?_
  refine ⟨rfl, _, h.up w1 (isV_of (s := sgI (V b * V c)) ?_ ?_ ?_ (fun _ => rfl)), k2.tr (g6.tr (st.2.tr w2))⟩
  · subst hbe
    exact ⟨fun i hi => k3 i (by have := tp_le d1 e.2.2.1; have hi : i < tp d1 e.2.2.1 := hi; omega), tp_top _ _⟩
  · subst hbe
    show vl d1 (tp d1 e.2.2.1) = _
    rw [vl_tp, k4, wb, wc, Int.natAbs_mul]
  · subst hbe; rfl
end big6
end
section
/-! Arrays.fill; EnclosedDigits$Big: shiftUp, shiftDown, shrink -/
section big7
variable {X : en_X} {σ : en_S} {D : List Nat} {S : Nat → en_B} {V : Nat → Int}
theorem C_rangeCheck {n f t : Nat} (hn : n < 2 ^ 31) (h1 : f ≤ t) (h2 : t ≤ n) : Calls X M_J7_rangeCheck_23922 [.int (nI n), .int (nI f), .int (nI t)] σ (fun res τ => res = none ∧ τ = σ) := by
  refine Calls.of rfl (lk rfl) ?_
  refine wa_iload_n q_J7_rangeCheck_23922_0 rfl ?_
  refine wa_iload_n q_J7_rangeCheck_23922_1 rfl ?_
  refine wn_icmp_le q_J7_rangeCheck_23922_2 (by omega) (by omega) (fun hc => ?_) (fun hc => ?_)
  · refine wa_iload_n q_J7_rangeCheck_23922_46 rfl ?_
    refine wn_if_ge q_J7_rangeCheck_23922_47 (by omega) (fun hd => ?_) (fun hd => ?_)
    · refine wa_iload_n q_J7_rangeCheck_23922_59 rfl ?_
      refine wa_iload_n q_J7_rangeCheck_23922_60 rfl ?_
      refine wn_icmp_le q_J7_rangeCheck_23922_61 (by omega) (by omega) (fun he => ?_) (fun he => ?_)
      · refine wa_vret q_J7_rangeCheck_23922_73 rfl ?_
        exact ⟨rfl, rfl⟩
      · exact absurd he (by omega)
    · exact absurd hd id
  · exact absurd hc (by omega)
theorem C_fill_loop {ρ σ0 : en_S} {r n t : Nat} {d : Nat → Nat} {Q : Option Value → en_S → Prop} (hn : n ≤ 512) (ht : t ≤ n)
    (k : ∀ (σ1 : en_S) (d1 : Nat → Nat), look σ1 r = some (ar X n d1) → (∀ j, j < t → d1 j = 0) → (∀ j, t ≤ j → d1 j = d j) → (∀ q, q ≠ r → look σ1 q = look σ0 q) → σ1.1 = σ0.1 → σ1.2.1 = σ0.2.1 → Q none σ1) :
    ∀ (u i : Nat) (σ : en_S) (d1 : Nat → Nat), t - i = u → i ≤ t → look σ r = some (ar X n d1) → (∀ j, j < i → d1 j = 0) → (∀ j, i ≤ j → d1 j = d j) → (∀ q, q ≠ r → look σ q = look σ0 q) → σ.1 = σ0.1 → σ.2.1 = σ0.2.1 →
      WA X M_J7_fill_fda19 ρ 10 [(4, .int (nI i)), (3, .int (nI 0)), (2, .int (nI t)), (0, .ref r)] [] σ Q := by
  intro u
  induction u with
  | zero =>
    intro i σ d1 hu hi hr h1 h2 h4 h5 h6
    have e : i = t := by omega
    subst e
    refine wa_iload q_J7_fill_fda19_10 rfl ?_
    refine wa_iload_n q_J7_fill_fda19_12 rfl ?_
    refine wn_icmp_ge q_J7_fill_fda19_13 (by omega) (by omega) (fun hc => ?_) (fun hc => ?_)
    · refine wa_vret q_J7_fill_fda19_27 rfl ?_
      exact k σ d1 hr h1 h2 h4 h5 h6
    · exact absurd hc (by omega)
  | succ u ih =>
    intro i σ d1 hu hi hr h1 h2 h4 h5 h6
    refine wa_iload q_J7_fill_fda19_10 rfl ?_
    refine wa_iload_n q_J7_fill_fda19_12 rfl ?_
    refine wn_icmp_ge q_J7_fill_fda19_13 (by omega) (by omega) (fun hc => ?_) (fun hc => ?_)
    · exact absurd hc (by omega)
    · refine wa_aload_n q_J7_fill_fda19_16 rfl ?_
      refine wa_iload q_J7_fill_fda19_17 rfl ?_
      refine wa_iload_n q_J7_fill_fda19_19 rfl ?_
      refine wn_iast q_J7_fill_fda19_20 (by assumption) (by omega) (by omega) (fun σ_hr1 hr1 f_hr1 e1_hr1 e2_hr1 => ?_)
      refine wn_iinc q_J7_fill_fda19_21 rfl (by decide) ?_
      refine wa_goto q_J7_fill_fda19_24 ?_
      refine wa_lv (ih (i + 1) σ_hr1 _ (by omega) (by omega) hr1 (fun j hj => ?_) (fun j hj => ?_) (fun q hq => (f_hr1 q hq).trans (h4 q hq)) (by omega) (by omega)) rfl
      · by_cases e : j = i
        · rw [e]; exact un_s
        · rw [un_n e]; exact h1 j (by omega)
      · rw [un_n (by omega)]; exact h2 j (by omega)
theorem C_fill {r n t : Nat} {d : Nat → Nat} (hr : look σ r = some (ar X n d)) (hn : n ≤ 512) (ht : t ≤ n) : Calls X M_J7_fill_fda19 [.ref r, .int (nI 0), .int (nI t), .int (nI 0)] σ (fun res τ => res = none ∧ ∃ d1, look τ r = some (ar X n d1) ∧ (∀ j, j < t → d1 j = 0) ∧ (∀ j, t ≤ j → d1 j = d j) ∧ (∀ q, q ≠ r → look τ q = look σ q) ∧ τ.1 = σ.1 ∧ τ.2.1 = σ.2.1) := by
  refine Calls.of rfl (lk rfl) ?_
  refine wa_aload_n q_J7_fill_fda19_0 rfl ?_
  refine wn_alen q_J7_fill_fda19_1 (by assumption) ?_
  refine wa_iload_n q_J7_fill_fda19_2 rfl ?_
  refine wa_iload_n q_J7_fill_fda19_3 rfl ?_
  refine wa_callS q_J7_fill_fda19_4 g_J7_fill_fda19_4 w_J7_rangeCheck_23922 (av := [_, _, _]) rfl rfl (lk rfl) (Calls.mono (C_rangeCheck (by omega) (Nat.zero_le _) ht) ?_)
  rintro _ _ ⟨rfl, rfl⟩
  refine wa_iload_n q_J7_fill_fda19_7 rfl ?_
  refine wa_istore q_J7_fill_fda19_8 (by decide) ?_
  refine wa_lv (C_fill_loop (σ0 := _) hn ht ?_ _ 0 _ d rfl (Nat.zero_le _) hr (fun j hj => absurd hj (by omega)) (fun _ _ => rfl) (fun _ _ => rfl) rfl rfl) rfl
  intro σ1 d1 g1 g2 g3 g4 g5 g6
  exact ⟨rfl, d1, g1, g2, g3, g4, g5, g6⟩
/-- limbs moved up by k -/
theorem vl_up {d e : Nat → Nat} {n k : Nat} (h0 : ∀ j, j < k → e j = 0) (h1 : ∀ j, j < n → e (k + j) = d j) : vl e (k + n) = vl d n * BB ^ k := by
  rw [vl_add, vl_zero h0, Nat.zero_add, Nat.mul_comm, vl_congr (e := d) h1]
theorem pw_ten (k : Nat) : BB ^ k = 10 ^ (9 * k) := by
  rw [show BB = 10 ^ 9 by rfl, ← Nat.pow_mul]
theorem V_shiftUp {a p : Nat} (h : bw_V X D σ S V) (ha : a ∈ D) (hp : p ≤ 1000) (za : (V a).natAbs * 10 ^ p < BB ^ 250) : Calls X M_X1_shiftUp [.ref a, .int (nI p)] σ (fun res τ => res = none ∧ ∃ S', bw_V X D τ S' (uV V a (V a * 10 ^ p)) ∧ bw_St D σ S τ S') := by
  obtain ⟨a1, a2, a3, a4, a5, a6, a7⟩ := h.1.1 a ha
  obtain ⟨va, wa, na⟩ := h.2 a ha
  have hB : BB = 1000000000 := rfl
  have hpe : p = 9 * (p / 9) + p % 9 := by omega
  have h10 : (10 : Nat) ^ p = BB ^ (p / 9) * 10 ^ (p % 9) := by rw [pw_ten, ← Nat.pow_add, ← hpe]
  have hstay : (V a = 0 ∨ p = 0) → ∃ S', bw_V X D σ S' (uV V a (V a * 10 ^ p)) ∧ bw_St D σ S σ S' := by
    intro hz
    refine ⟨S, ⟨h.1, fun q hq => ?_⟩, bw_St.rf D σ S⟩
    by_cases e : q = a
    · subst e; rw [uV_s]
      rcases hz with z | z
      · rw [z, Int.zero_mul, ← z]; exact h.2 q hq
      · rw [z, Int.pow_zero, Int.mul_one]; exact h.2 q hq
    · rw [uV_n e]; exact h.2 q hq
  refine Calls.of rfl (lk rfl) ?_
  refine wa_iload_n q_X1_shiftUp_0 rfl ?_
  refine wn_if_le q_X1_shiftUp_1 (by omega) (fun hc => ?_) (fun hc => ?_)
  · refine wa_vret q_X1_shiftUp_11 rfl ?_
    exact ⟨rfl, hstay (Or.inr hc)⟩
  · refine wa_aload_n q_X1_shiftUp_4 rfl ?_
    refine wa_getf q_X1_shiftUp_5 f_RX1_34 (by assumption) rfl ?_
    refine wa_if_ne q_X1_shiftUp_8 (fun hd => ?_) (fun hd => ?_)
    · have hnz : V a ≠ 0 := fun z => hd (by rw [va]; exact sgI_0.mpr z)
      have hsz : 0 < (S a).2.2.1 := Nat.pos_of_ne_zero (fun z => hnz ((isV_sz (h.2 a ha)).mp z))
      have hle : (S a).2.2.1 + p / 9 ≤ 250 := by
        have q1 : BB ^ ((S a).2.2.1 - 1) ≤ (V a).natAbs := by
          rw [← wa]
          have := vl_ge (d := (S a).2.2.2.1) (n := (S a).2.2.1 - 1) (na.2.resolve_left (by omega))
          rw [Nat.sub_add_cancel hsz] at this
          exact this
        have q2 : BB ^ ((S a).2.2.1 - 1) * BB ^ (p / 9) ≤ (V a).natAbs * 10 ^ p := by
          rw [h10, ← Nat.mul_assoc]
          exact Nat.le_trans (Nat.mul_le_mul_right _ q1) (Nat.le_mul_of_pos_right _ (Nat.pow_pos (by decide)))
        rw [← Nat.pow_add] at q2
        have q3 : BB ^ ((S a).2.2.1 - 1 + p / 9) < BB ^ 250 := Nat.lt_of_le_of_lt q2 za
        have q4 := (Nat.pow_lt_pow_iff_right (a := BB) (by decide)).mp q3
        omega
      refine wa_iload_n q_X1_shiftUp_12 rfl ?_
      refine wa_bipush q_X1_shiftUp_13 (v := nI 9) (by decide) ?_
      refine wn_idiv q_X1_shiftUp_15 (by omega) (by omega) (by omega) ?_
      refine wa_istore_n q_X1_shiftUp_16 (by decide) ?_
      refine wa_aload_n q_X1_shiftUp_17 rfl ?_
      refine wa_getf q_X1_shiftUp_18 f_RX1_15 (by assumption) rfl ?_
      refine wa_istore_n q_X1_shiftUp_21 (by decide) ?_
      refine wa_aload_n q_X1_shiftUp_22 rfl ?_
      refine wa_iload_n q_X1_shiftUp_23 rfl ?_
      refine wa_iload_n q_X1_shiftUp_24 rfl ?_
      refine wn_iadd q_X1_shiftUp_25 ?_
      refine wa_callV q_X1_shiftUp_26 g_X1_shiftUp_26 w_X1_extend (by assumption) rfl (av := [_]) rfl rfl (lk rfl) (Calls.mono (C_extend h.1 ha (by omega)) ?_)
      rintro _ σ1 ⟨rfl, e, k1, k2, k3, k4, k5, k6⟩
      obtain ⟨e1, e2, e3, e4, e5, e6, e7⟩ := k5.1 a ha
      rw [uB_s] at e1 e2 e3 e4 e5 e7
      have hne := ne_oa e1 e2
      have hm : e.2.2.1 = (S a).2.2.1 + p / 9 := by omega
      refine wa_aload_n q_X1_shiftUp_29 rfl ?_
      refine wa_getf q_X1_shiftUp_30 f_RX1_11 (by assumption) rfl ?_
      refine wa_iconst q_X1_shiftUp_33 (v := nI 0) (by decide) ?_
      refine wa_aload_n q_X1_shiftUp_34 rfl ?_
      refine wa_getf q_X1_shiftUp_35 f_RX1_11 (by assumption) rfl ?_
      refine wa_iload_n q_X1_shiftUp_38 rfl ?_
      refine wa_iload_n q_X1_shiftUp_39 rfl ?_
      refine wn_copyi q_X1_shiftUp_40 a_RX1_41 (lk rfl) (lk rfl) e2 e2 (by omega) (by omega) (by omega) (by omega) (fun σ2 g1 g2 g3 g4 => ?_)
      have e1 := (g2 a hne).trans e1
      refine wa_aload_n q_X1_shiftUp_43 rfl ?_
      refine wa_getf q_X1_shiftUp_44 f_RX1_11 (by assumption) rfl ?_
      refine wa_iconst q_X1_shiftUp_47 (v := nI 0) (by decide) ?_
      refine wa_iload_n q_X1_shiftUp_48 rfl ?_
      refine wa_iconst q_X1_shiftUp_49 (v := nI 0) (by decide) ?_
      refine wa_callS q_X1_shiftUp_50 g_X1_shiftUp_50 w_J7_fill_fda19 (av := [_, _, _, _]) rfl rfl (lk rfl) (Calls.mono (C_fill g1 (by omega) (by omega)) ?_)
      rintro _ σ3 ⟨rfl, d1, f1, f2, f3, f4, f5, f6⟩
      have e1 := (f4 a hne).trans e1
      have st := bw_R.keep (τ := σ3) (a := a) (sz := e.2.2.1) (d := d1) (sg := e.2.2.2.2) k5 ha (by rw [uB_s]; exact e1) (by rw [uB_s]; exact f1) (by rw [uB_s]; omega) (fun q q2 q3 => by rw [uB_s] at q3; exact (f4 q q3).trans (g2 q q3)) (f5.trans g3) (f6.trans g4)
      rw [uB_u, uB_s] at st
      have hup : ∀ j, j < (S a).2.2.1 → d1 (p / 9 + j) = (S a).2.2.2.1 j := by
        intro j hj
        rw [f3 _ (by omega), pk_cpy_in (by omega) (by omega), Nat.zero_add, Nat.add_sub_cancel_left]
        exact k3 j hj
      have hval : vl d1 e.2.2.1 = (V a).natAbs * BB ^ (p / 9) := by
        rw [hm, Nat.add_comm, vl_up f2 hup, wa]
      have hv : bw_V X D σ3 (uB S a (e.1, e.2.1, e.2.2.1, d1, e.2.2.2.2)) (uV V a (V a * (BB ^ (p / 9) : Nat))) := by
        refine h.up st.1 ⟨?_, ?_, ?_, ?_⟩
        · show e.2.2.2.2 = _
          rw [k2, va, sgI_mul]
          have : sgI ((BB ^ (p / 9) : Nat) : Int) = 1 := by
            have := pw_pos (p / 9)
            rcases sgI_c ((BB ^ (p / 9) : Nat) : Int) with ⟨q, g⟩ | ⟨q, g⟩ | ⟨q, g⟩ <;> first | omega | exact g
          rw [this]; simp
        · show vl d1 e.2.2.1 = _
          rw [hval, Int.natAbs_mul, Int.natAbs_natCast]
        · intro i hi
          have hi : i < e.2.2.1 := hi
          show d1 i < BB
          rcases Nat.lt_or_ge i (p / 9) with q | q
          · rw [f2 i q]; exact BB_pos
          · have := hup (i - p / 9) (by omega)
            rw [show p / 9 + (i - p / 9) = i by omega] at this
            rw [this]; exact na.1 _ (by omega)
        · refine Or.inr ?_
          show d1 (e.2.2.1 - 1) ≠ 0
          have := hup ((S a).2.2.1 - 1) (by omega)
          rw [show e.2.2.1 - 1 = p / 9 + ((S a).2.2.1 - 1) by omega, this]
          exact na.2.resolve_left (by omega)
      refine wa_aload_n q_X1_shiftUp_53 rfl ?_
      refine wa_tensN q_X1_shiftUp_54 s_RX1_66 ?_
      refine wa_iload_n q_X1_shiftUp_57 rfl ?_
      refine wa_bipush q_X1_shiftUp_58 (v := nI 9) (by decide) ?_
      refine wn_irem q_X1_shiftUp_60 (by omega) (by omega) (by omega) ?_
      refine wn_tald q_X1_shiftUp_61 (by omega) ?_
      have h9 : 10 ^ (p % 9) ≤ 10 ^ 8 := Nat.pow_le_pow_right (by decide) (by omega)
      have h9' : (10 : Nat) ^ 8 = 100000000 := by decide
      refine wn_i2l q_X1_shiftUp_62 (by omega) ?_
      refine wa_callV q_X1_shiftUp_63 g_X1_shiftUp_63 w_X1_multiplySmall (by assumption) rfl (av := [_]) rfl rfl (lk rfl) (Calls.mono (V_mulS hv ha (by omega) (by rw [uV_s, Int.natAbs_mul, Int.natAbs_natCast]; refine Nat.lt_of_le_of_lt ?_ za; rw [h10, ← Nat.mul_assoc]; exact Nat.le_mul_of_pos_right _ (Nat.pow_pos (by decide)))) ?_)
      rintro _ σ4 ⟨rfl, S', w1, w2⟩
      refine wa_vret q_X1_shiftUp_66 rfl ?_
      refine ⟨rfl, S', ?_, k6.tr (st.2.tr w2)⟩
      have : uV (uV V a (V a * (BB ^ (p / 9) : Nat))) a (uV V a (V a * (BB ^ (p / 9) : Nat)) a * (10 ^ (p % 9) : Nat)) = uV V a (V a * 10 ^ p) := by
        funext q
        by_cases eq : q = a
        · subst eq
          rw [uV_s, uV_s, uV_s, Int.mul_assoc, ← Int.natCast_mul, ← h10, Int.natCast_pow]; rfl
        · rw [uV_n eq, uV_n eq, uV_n eq]
      rw [← this]
      exact w1
    · refine wa_vret q_X1_shiftUp_11 rfl ?_
      exact ⟨rfl, hstay (Or.inl (sgI_0.mp (by rw [← va]; exact hd)))⟩
end big7
end
section
/-! EnclosedDigits$Big: shiftDown, shrink -/
def lst (d : Nat → Nat) (i : Nat) : Nat := if vl d i = 0 then 0 else 1
theorem lst_s (d : Nat → Nat) (i : Nat) : lst d (i + 1) = if d i = 0 then lst d i else 1 := by
  unfold lst
  have e : vl d (i + 1) = vl d i + d i * BB ^ i := rfl
  rw [e]
  by_cases h : d i = 0
  · rw [if_pos h, h, Nat.zero_mul, Nat.add_zero]
  · rw [if_neg h]
    have : 0 < d i * BB ^ i := Nat.mul_pos (Nat.pos_of_ne_zero h) (pw_pos i)
    rw [if_neg (by omega)]
theorem natAbs_td (v : Int) (n : Nat) : (v.tdiv (n : Int)).natAbs = v.natAbs / n := by
  rw [Int.natAbs_tdiv]; rfl
theorem td_td (v : Int) (a b : Nat) : (v.tdiv (a : Int)).tdiv (b : Int) = v.tdiv ((a * b : Nat) : Int) := by
  rcases Int.lt_or_le v 0 with h | h
  · obtain ⟨m, rfl⟩ : ∃ m : Nat, v = -(m : Int) := ⟨v.natAbs, by omega⟩
    rw [Int.neg_tdiv, Int.neg_tdiv, Int.neg_tdiv]
    congr 1
    show ((m / a / b : Nat) : Int) = ((m / (a * b) : Nat) : Int)
    rw [Nat.div_div_eq_div_mul]
  · obtain ⟨m, rfl⟩ : ∃ m : Nat, v = (m : Int) := ⟨v.natAbs, by omega⟩
    show ((m / a / b : Nat) : Int) = ((m / (a * b) : Nat) : Int)
    rw [Nat.div_div_eq_div_mul]
section big8
variable {X : en_X} {σ : en_S} {D : List Nat} {S : Nat → en_B} {V : Nat → Int}
theorem C_sDown_loop {ρ : en_S} {a r n sz cut x : Nat} {d : Nat → Nat} {sg : Int32} {Q : Option Value → en_S → Prop} (hn : n ≤ 512) (hs : sz ≤ n) (hcut : cut ≤ sz) (hd : ∀ i, i < sz → d i < BB) (ha : look σ a = some (bE sg sz r)) (hr : look σ r = some (ar X n d))
    (k : WA X M_X1_shiftDown ρ 38 [(3, .int (nI (lst d cut))), (2, .int (nI cut)), (0, .ref a)] [] σ Q) :
    ∀ (t i : Nat), cut - i = t → i ≤ cut → WA X M_X1_shiftDown ρ 14 [(4, .int (nI i)), (3, .int (nI (lst d i))), (2, .int (nI cut)), (0, .ref a)] [] σ Q := by
  have hB : BB = 1000000000 := rfl
  intro t
  induction t with
  | zero =>
    intro i ht hi
    have e : i = cut := by omega
    subst e
    refine wa_iload q_X1_shiftDown_14 rfl ?_
    refine wa_iload_n q_X1_shiftDown_16 rfl ?_
    refine wn_icmp_ge q_X1_shiftDown_17 (by omega) (by omega) (fun hc => ?_) (fun hc => ?_)
    · exact wa_lv k rfl
    · exact absurd hc (by omega)
  | succ t ih =>
    intro i ht hi
    have hdi := hd i (by omega)
    refine wa_iload q_X1_shiftDown_14 rfl ?_
    refine wa_iload_n q_X1_shiftDown_16 rfl ?_
    refine wn_icmp_ge q_X1_shiftDown_17 (by omega) (by omega) (fun hc => ?_) (fun hc => ?_)
    · exact absurd hc (by omega)
    · refine wa_aload_n q_X1_shiftDown_20 rfl ?_
      refine wa_getf q_X1_shiftDown_21 f_RX1_11 (by assumption) rfl ?_
      refine wa_iload q_X1_shiftDown_24 rfl ?_
      refine wn_iald q_X1_shiftDown_26 (by assumption) (by omega) (by omega) ?_
      have hgo := ih (i + 1) (by omega) (by omega)
      rw [lst_s] at hgo
      refine wn_if_eq q_X1_shiftDown_27 (by omega) (fun hz => ?_) (fun hz => ?_)
      · rw [if_pos hz] at hgo
        refine wn_iinc q_X1_shiftDown_32 rfl (by decide) ?_
        refine wa_goto q_X1_shiftDown_35 ?_
        exact wa_lv hgo rfl
      · rw [if_neg (by omega)] at hgo
        refine wa_iconst q_X1_shiftDown_30 (v := nI 1) (by decide) ?_
        refine wa_istore_n q_X1_shiftDown_31 (by decide) ?_
        refine wn_iinc q_X1_shiftDown_32 rfl (by decide) ?_
        refine wa_goto q_X1_shiftDown_35 ?_
        exact wa_lv hgo rfl
theorem V_sDown {a k : Nat} (h : bw_V X D σ S V) (ha : a ∈ D) (hk : k ≤ 1000) : Calls X M_X1_shiftDown [.ref a, .int (nI k)] σ (fun res τ => res = some (.int (nI (if (V a).natAbs % BB ^ k = 0 then 0 else 1))) ∧ ∃ S', bw_V X D τ S' (uV V a ((V a).tdiv (BB ^ k : Nat))) ∧ bw_St D σ S τ S') := by
  obtain ⟨a1, a2, a3, a4, a5, a6, a7⟩ := h.1.1 a ha
  obtain ⟨va, wa, na⟩ := h.2 a ha
  have hne := ne_oa a1 a2
  have hB : BB = 1000000000 := rfl
  have hc0 : min k (S a).2.2.1 ≤ (S a).2.2.1 := Nat.min_le_right _ _
  have hsplit := vl_add (S a).2.2.2.1 (min k (S a).2.2.1) ((S a).2.2.1 - min k (S a).2.2.1)
  rw [Nat.add_sub_cancel' hc0, wa] at hsplit
  have hlow := vl_lt (d := (S a).2.2.2.1) (n := min k (S a).2.2.1) (fun i hi => na.1 i (by omega))
  have hdm : (V a).natAbs / BB ^ k = vl (fun i => (S a).2.2.2.1 (min k (S a).2.2.1 + i)) ((S a).2.2.1 - min k (S a).2.2.1) ∧ (V a).natAbs % BB ^ k = vl (S a).2.2.2.1 (min k (S a).2.2.1) := by
    rcases Nat.le_total k (S a).2.2.1 with q | q
    · rw [Nat.min_eq_left q] at hsplit hlow ⊢
      rw [hsplit, Nat.add_comm, Nat.mul_add_div (pw_pos k), Nat.div_eq_of_lt hlow, Nat.add_zero, Nat.mul_add_mod, Nat.mod_eq_of_lt hlow]
      exact ⟨rfl, rfl⟩
    · rw [Nat.min_eq_right q] at hsplit hlow ⊢
      rw [Nat.sub_self] at hsplit ⊢
      have e0 : vl (fun i => (S a).2.2.2.1 ((S a).2.2.1 + i)) 0 = 0 := rfl
      rw [e0, Nat.mul_zero, Nat.add_zero] at hsplit
      have hlt : (V a).natAbs < BB ^ k := by rw [hsplit]; exact Nat.lt_of_lt_of_le hlow (pw_mono q)
      rw [Nat.div_eq_of_lt hlt, Nat.mod_eq_of_lt hlt]
      exact ⟨rfl, hsplit⟩
  refine Calls.of rfl (lk rfl) ?_
  refine wa_iload_n q_X1_shiftDown_0 rfl ?_
  refine wa_aload_n q_X1_shiftDown_1 rfl ?_
  refine wa_getf q_X1_shiftDown_2 f_RX1_15 (by assumption) rfl ?_
  refine wn_mmin q_X1_shiftDown_5 a_RX1_31 (lk rfl) (lk rfl) (by omega) (by omega) ?_
  refine wa_istore_n q_X1_shiftDown_8 (by decide) ?_
  refine wa_iconst q_X1_shiftDown_9 (v := nI 0) (by decide) ?_
  refine wa_istore_n q_X1_shiftDown_10 (by decide) ?_
  refine wa_iconst q_X1_shiftDown_11 (v := nI 0) (by decide) ?_
  refine wa_istore q_X1_shiftDown_12 (by decide) ?_
  refine wa_lv (C_sDown_loop (x := 0) a5 a3 hc0 na.1 a1 a2 ?_ _ 0 rfl (Nat.zero_le _)) rfl
  refine wa_aload_n q_X1_shiftDown_38 rfl ?_
  refine wa_getf q_X1_shiftDown_39 f_RX1_11 (by assumption) rfl ?_
  refine wa_iload_n q_X1_shiftDown_42 rfl ?_
  refine wa_aload_n q_X1_shiftDown_43 rfl ?_
  refine wa_getf q_X1_shiftDown_44 f_RX1_11 (by assumption) rfl ?_
  refine wa_iconst q_X1_shiftDown_47 (v := nI 0) (by decide) ?_
  refine wa_aload_n q_X1_shiftDown_48 rfl ?_
  refine wa_getf q_X1_shiftDown_49 f_RX1_15 (by assumption) rfl ?_
  refine wa_iload_n q_X1_shiftDown_52 rfl ?_
  refine wn_isub q_X1_shiftDown_53 (by omega) ?_
  refine wn_copyi q_X1_shiftDown_54 a_RX1_41 (lk rfl) (lk rfl) a2 a2 (by omega) (by omega) (by omega) (by omega) (fun σ2 g1 g2 g3 g4 => ?_)
  have a1 := (g2 a hne).trans a1
  refine wa_aload_n q_X1_shiftDown_57 rfl ?_
  refine wa_dup q_X1_shiftDown_58 rfl ?_
  refine wa_getf q_X1_shiftDown_59 f_RX1_15 (by assumption) rfl ?_
  refine wa_iload_n q_X1_shiftDown_62 rfl ?_
  refine wn_isub q_X1_shiftDown_63 (by omega) ?_
  refine wn_putf q_X1_shiftDown_64 p_RX1_15 (by assumption) (lk rfl) rfl rfl rfl (fun σ_c1 c1 f_c1 e1_c1 e2_c1 => ?_)
  have g1 := (f_c1 _ hne.symm).trans g1
  have st := bw_R.keep (τ := σ_c1) (a := a) h.1 ha c1 g1 (by omega) (fun q q2 q3 => (f_c1 q q2).trans (g2 q q3)) (by omega) (by omega)
  have hdl : ∀ i, i < (S a).2.2.1 - min k (S a).2.2.1 → va_cpy (S a).2.2.2.1 (S a).2.2.2.1 (min k (S a).2.2.1) 0 ((S a).2.2.1 - min k (S a).2.2.1) i = (S a).2.2.2.1 (min k (S a).2.2.1 + i) := by
    intro i hi
    rw [pk_cpy_in (by omega) (by omega), Nat.sub_zero]
  refine wa_aload_n q_X1_shiftDown_67 rfl ?_
  refine wa_aload_n q_X1_shiftDown_68 rfl ?_
  refine wa_getf q_X1_shiftDown_69 f_RX1_34 (by assumption) rfl ?_
  refine wa_callV q_X1_shiftDown_72 g_X1_shiftDown_72 w_X1_trim (by assumption) rfl (av := [_]) rfl rfl (lk rfl) (Calls.mono (C_trim st.1 ha (by rw [uB_s]; intro i hi; have hi : i < (S a).2.2.1 - min k (S a).2.2.1 := hi; show va_cpy _ _ _ _ _ i < _; rw [hdl i hi]; have := na.1 (min k (S a).2.2.1 + i) (by omega); omega)) ?_)
  rintro _ σ3 ⟨rfl, b, hbe, w1, w2⟩
  rw [uB_s] at hbe
  rw [uB_u] at w1 w2
  refine wa_iload_n q_X1_shiftDown_75 rfl ?_
  refine wa_zret q_X1_shiftDown_76 rfl (by unfold lst; split <;> rfl) ?_
  refine ⟨?_, _, h.up w1 (isV_of (s := sgI (V a)) ?_ ?_ ?_ ?_), st.2.tr w2⟩
  · rw [hdm.2]; rfl
  · subst hbe
    refine ⟨fun i hi => ?_, tp_top _ _⟩
    have hi : i < tp (va_cpy (S a).2.2.2.1 (S a).2.2.2.1 (min k (S a).2.2.1) 0 ((S a).2.2.1 - min k (S a).2.2.1)) ((S a).2.2.1 - min k (S a).2.2.1) := hi
    have := tp_le (va_cpy (S a).2.2.2.1 (S a).2.2.2.1 (min k (S a).2.2.1) 0 ((S a).2.2.1 - min k (S a).2.2.1)) ((S a).2.2.1 - min k (S a).2.2.1)
    show va_cpy _ _ _ _ _ i < BB
    rw [hdl i (by omega)]; exact na.1 _ (by omega)
  · subst hbe
    show vl _ (tp _ ((S a).2.2.1 - min k (S a).2.2.1)) = _
    rw [vl_tp, natAbs_td, hdm.1]
    exact vl_congr hdl
  · subst hbe
    show (if _ then _ else (S a).2.2.2.2) = _
    rw [va]
  · intro hnz
    have hT : (0 : Int) < (BB ^ k : Nat) := by have := pw_pos k; omega
    rcases sgI_c (V a) with ⟨q, g⟩ | ⟨q, g⟩ | ⟨q, g⟩
    · have hle : (V a).tdiv (BB ^ k : Nat) ≤ 0 := by
        obtain ⟨m, hm⟩ : ∃ m : Int, V a = -m := ⟨-V a, by omega⟩
        rw [hm, Int.neg_tdiv]
        have := Int.tdiv_nonneg (a := m) (b := ((BB ^ k : Nat) : Int)) (by omega) (by omega)
        omega
      rcases sgI_c ((V a).tdiv (BB ^ k : Nat)) with ⟨q2, g2⟩ | ⟨q2, g2⟩ | ⟨q2, g2⟩
      · rw [g, g2]
      · exact absurd q2 hnz
      · omega
    · rw [q, Int.zero_tdiv] at hnz; exact absurd rfl hnz
    · have hge := Int.tdiv_nonneg (a := V a) (b := ((BB ^ k : Nat) : Int)) (by omega) (by omega)
      rcases sgI_c ((V a).tdiv (BB ^ k : Nat)) with ⟨q2, g2⟩ | ⟨q2, g2⟩ | ⟨q2, g2⟩
      · omega
      · exact absurd q2 hnz
      · rw [g, g2]
/-- divided by 10^p, and rounded down (tw = -1) or up (tw = 1) -/
def shr (v : Int) (p : Nat) (tw : Int) : Int := if tw = -1 then v / (10 ^ p : Nat) else -((-v) / (10 ^ p : Nat))
theorem neg_div {m T : Nat} (hT : 0 < T) : (-(m : Int)) / (T : Int) = if m % T = 0 then -((m / T : Nat) : Int) else -((m / T : Nat) : Int) - 1 := by
  have hm := Nat.div_add_mod m T
  have hl := Nat.mod_lt m hT
  have hm' : (T : Int) * ((m / T : Nat) : Int) + ((m % T : Nat) : Int) = (m : Int) := by rw [← Int.natCast_mul, ← Int.natCast_add, hm]
  split
  · rename_i h
    rw [h, Int.natCast_zero, Int.add_zero] at hm'
    rw [← hm', ← Int.mul_neg, Int.mul_ediv_cancel_left _ (by omega)]
  · apply Int.le_antisymm
    · refine Int.le_of_lt_add_one (Int.ediv_lt_of_lt_mul (by omega) ?_)
      have : (-((m / T : Nat) : Int) - 1 + 1) * (T : Int) = -((T : Int) * ((m / T : Nat) : Int)) := by rw [Int.sub_add_cancel, Int.neg_mul, Int.mul_comm]
      rw [this]; omega
    · refine Int.le_ediv_of_mul_le (by omega) ?_
      have : (-((m / T : Nat) : Int) - 1) * (T : Int) = -((T : Int) * ((m / T : Nat) : Int)) - T := by rw [Int.sub_mul, Int.neg_mul, Int.one_mul, Int.mul_comm]
      rw [this]; omega
theorem shr_eq {v : Int} {p : Nat} {tw : Int} (ht : tw = 1 ∨ tw = -1) (hv : v ≠ 0) : shr v p tw = if v.natAbs % 10 ^ p ≠ 0 ∧ sgI v = sgI tw then grw (v.tdiv (10 ^ p : Nat)) (if v < 0 then -1 else 1) else v.tdiv (10 ^ p : Nat) := by
  have hT : 0 < 10 ^ p := Nat.pow_pos (by decide)
  unfold shr
  rcases sgI_c v with ⟨q, g⟩ | ⟨q, g⟩ | ⟨q, g⟩
  · obtain ⟨m, rfl⟩ : ∃ m : Nat, v = -(m : Int) := ⟨v.natAbs, by omega⟩
    rw [g, Int.neg_tdiv, Int.natAbs_neg, Int.natAbs_natCast, Int.neg_neg, neg_div hT]
    have e1 : (m : Int).tdiv (10 ^ p : Nat) = ((m / 10 ^ p : Nat) : Int) := rfl
    have e2 : (m : Int) / (10 ^ p : Nat) = ((m / 10 ^ p : Nat) : Int) := rfl
    rw [e1, e2]
    generalize m / 10 ^ p = qq
    rcases ht with rfl | rfl
    · rw [if_neg (by decide), if_neg (fun z => absurd z.2 (by decide))]
    · rw [if_pos rfl]
      by_cases hz : m % 10 ^ p = 0
      · rw [if_pos hz, if_neg (fun z => z.1 hz)]
      · rw [if_neg hz, if_pos ⟨hz, by decide⟩, if_pos q]
        unfold grw
        split
        · omega
        · rw [if_pos (by omega)]
  · exact absurd q hv
  · obtain ⟨m, rfl⟩ : ∃ m : Nat, v = (m : Int) := ⟨v.natAbs, by omega⟩
    rw [g, Int.natAbs_natCast, neg_div hT]
    have e1 : (m : Int).tdiv (10 ^ p : Nat) = ((m / 10 ^ p : Nat) : Int) := rfl
    have e2 : (m : Int) / (10 ^ p : Nat) = ((m / 10 ^ p : Nat) : Int) := rfl
    rw [e1, e2]
    generalize m / 10 ^ p = qq
    rcases ht with rfl | rfl
    · rw [if_neg (by decide)]
      by_cases hz : m % 10 ^ p = 0
      · rw [if_pos hz, if_neg (fun z => z.1 hz), Int.neg_neg]
      · rw [if_neg hz, if_pos ⟨hz, by decide⟩, if_neg (by omega)]
        unfold grw
        split
        · omega
        · rw [if_neg (by omega)]; omega
    · rw [if_pos rfl, if_neg (fun z => absurd z.2 (by decide))]
theorem V_shrink {a p : Nat} {tw : Int} (h : bw_V X D σ S V) (ha : a ∈ D) (hp : p ≤ 9000) (ht : tw = 1 ∨ tw = -1) (za : (V a).natAbs < BB ^ 250) : Calls X M_X1_shrink [.ref a, .int (nI p), .int (sgI tw)] σ (fun res τ => res = none ∧ ∃ S', bw_V X D τ S' (uV V a (shr (V a) p tw)) ∧ bw_St D σ S τ S') := by
  obtain ⟨a1, a2, a3, a4, a5, a6, a7⟩ := h.1.1 a ha
  obtain ⟨va, wa, na⟩ := h.2 a ha
  have hpe : p = 9 * (p / 9) + p % 9 := by omega
  have h10 : (10 : Nat) ^ p = BB ^ (p / 9) * 10 ^ (p % 9) := by rw [pw_ten, ← Nat.pow_add, ← hpe]
  have hstay : (V a = 0 ∨ p = 0) → ∃ S', bw_V X D σ S' (uV V a (shr (V a) p tw)) ∧ bw_St D σ S σ S' := by
    intro hz
    refine ⟨S, ⟨h.1, fun q hq => ?_⟩, bw_St.rf D σ S⟩
    by_cases e : q = a
    · subst e; rw [uV_s]
      have : shr (V q) p tw = V q := by
        unfold shr
        rcases hz with z | z
        · rw [z]; simp
        · rw [z]; simp
      rw [this]; exact h.2 q hq
    · rw [uV_n e]; exact h.2 q hq
  refine Calls.of rfl (lk rfl) ?_
  refine wa_iload_n q_X1_shrink_0 rfl ?_
  refine wn_if_le q_X1_shrink_1 (by omega) (fun hc => ?_) (fun hc => ?_)
  · refine wa_vret q_X1_shrink_11 rfl ?_
    exact ⟨rfl, hstay (Or.inr hc)⟩
  · refine wa_aload_n q_X1_shrink_4 rfl ?_
    refine wa_getf q_X1_shrink_5 f_RX1_34 (by assumption) rfl ?_
    refine wa_if_ne q_X1_shrink_8 (fun hd => ?_) (fun hd => ?_)
    · have hnz : V a ≠ 0 := fun z => hd (by rw [va]; exact sgI_0.mpr z)
      have hst : (if V a < 0 then (-1 : Int) else 1) = 1 ∨ (if V a < 0 then (-1 : Int) else 1) = -1 := by split <;> simp
      have hsg : sgI (V a) = sgI (if V a < 0 then (-1 : Int) else 1) := by
        rcases sgI_c (V a) with ⟨q, g⟩ | ⟨q, g⟩ | ⟨q, g⟩
        · rw [if_pos q, g]; decide
        · exact absurd q hnz
        · rw [if_neg (by omega), g]; decide
      refine wa_aload_n q_X1_shrink_12 rfl ?_
      refine wa_getf q_X1_shrink_13 f_RX1_34 (by assumption) rfl ?_
      refine wa_istore_n q_X1_shrink_16 (by decide) ?_
      refine wa_aload_n q_X1_shrink_17 rfl ?_
      refine wa_iload_n q_X1_shrink_18 rfl ?_
      refine wa_bipush q_X1_shrink_19 (v := nI 9) (by decide) ?_
      refine wn_idiv q_X1_shrink_21 (by omega) (by omega) (by omega) ?_
      refine wa_callV q_X1_shrink_22 g_X1_shrink_22 w_X1_shiftDown (by assumption) rfl (av := [_]) rfl rfl (lk rfl) (Calls.mono (V_sDown h ha (by omega)) ?_)
      rintro _ σ1 ⟨rfl, S1, k1, k2⟩
      refine wa_istore q_X1_shrink_25 (by decide) ?_
      refine wa_aload_n q_X1_shrink_27 rfl ?_
      refine wa_tensN q_X1_shrink_28 s_RX1_66 ?_
      refine wa_iload_n q_X1_shrink_31 rfl ?_
      refine wa_bipush q_X1_shrink_32 (v := nI 9) (by decide) ?_
      refine wn_irem q_X1_shrink_34 (by omega) (by omega) (by omega) ?_
      refine wn_tald q_X1_shrink_35 (by omega) ?_
      have h9 : 10 ^ (p % 9) ≤ 10 ^ 8 := Nat.pow_le_pow_right (by decide) (by omega)
      have h9' : (10 : Nat) ^ 8 = 100000000 := by decide
      have h9p : 0 < 10 ^ (p % 9) := Nat.pow_pos (by decide)
      have h9b : 10 ^ (p % 9) * BB < 2 ^ 63 := Nat.lt_of_le_of_lt (Nat.mul_le_mul_right _ h9) (by decide)
      refine wn_i2l q_X1_shrink_36 (by omega) ?_
      obtain ⟨c1, c2, -, -, -, -, -⟩ := k1.1.1 a ha
      refine wa_callV q_X1_shrink_37 g_X1_shrink_37 w_X1_divideSmall (by assumption) rfl (av := [_]) rfl rfl (lk rfl) (Calls.mono (V_divS k1 ha h9p h9b) ?_)
      rintro _ σ2 ⟨rfl, S2, k3, k4⟩
      have hv2 : uV (uV V a ((V a).tdiv (BB ^ (p / 9) : Nat))) a ((uV V a ((V a).tdiv (BB ^ (p / 9) : Nat)) a).tdiv (10 ^ (p % 9) : Nat)) = uV V a ((V a).tdiv (10 ^ p : Nat)) := by
        funext q
        by_cases eq : q = a
        · subst eq
          rw [uV_s, uV_s, uV_s, td_td, ← h10]
        · rw [uV_n eq, uV_n eq, uV_n eq]
      rw [hv2] at k3
      rw [uV_s, natAbs_td]
      have hfin : ∀ u : Nat, u = (if (V a).natAbs % 10 ^ p = 0 then 0 else 1) → WA X M_X1_shrink σ 48 [(4, .int (nI u)), (3, .int (sgI (V a))), (2, .int (sgI tw)), (0, .ref a)] [] σ2 (fun res τ => res = none ∧ ∃ S', bw_V X D τ S' (uV V a (shr (V a) p tw)) ∧ bw_St D σ S τ S') := by
        intro u hu
        rw [shr_eq ht hnz]
        obtain ⟨c1, c2, -, -, -, -, -⟩ := k3.1.1 a ha
        have hu1 : u ≤ 1 := by rw [hu]; split <;> omega
        refine wa_iload q_X1_shrink_48 rfl ?_
        refine wn_if_eq q_X1_shrink_50 (by omega) (fun hz => ?_) (fun hz => ?_)
        · refine wa_vret q_X1_shrink_63 rfl ?_
          rw [if_neg (fun z => by rw [hz] at hu; rw [if_neg z.1] at hu; exact absurd hu (by decide))]
          exact ⟨rfl, S2, k3, k2.tr k4⟩
        · have hmod : (V a).natAbs % 10 ^ p ≠ 0 := fun z => by rw [if_pos z] at hu; omega
          refine wa_iload_n q_X1_shrink_53 rfl ?_
          refine wa_iload_n q_X1_shrink_54 rfl ?_
          refine wa_icmp_ne q_X1_shrink_55 (fun hw => ?_) (fun hw => ?_)
          · refine wa_vret q_X1_shrink_63 rfl ?_
            rw [if_neg (fun z => hw z.2)]
            exact ⟨rfl, S2, k3, k2.tr k4⟩
          · refine wa_aload_n q_X1_shrink_58 rfl ?_
            refine wa_iload_n q_X1_shrink_59 rfl ?_
            rw [hsg]
            refine wa_callV q_X1_shrink_60 g_X1_shrink_60 w_X1_grow (by assumption) rfl (av := [_]) rfl rfl (lk rfl) (Calls.mono (V_grow k3 ha hst (by rw [uV_s, natAbs_td]; exact Nat.lt_of_le_of_lt (Nat.div_le_self _ _) za)) ?_)
            rintro _ σ3 ⟨rfl, S3, k5, k6⟩
            refine wa_vret q_X1_shrink_63 rfl ?_
            rw [if_pos ⟨hmod, by rw [hsg] at hw; exact hw⟩]
            refine ⟨rfl, S3, ?_, k2.tr (k4.tr k6)⟩
            rw [uV_s] at k5
            have : uV (uV V a ((V a).tdiv (10 ^ p : Nat))) a (grw ((V a).tdiv (10 ^ p : Nat)) (if V a < 0 then -1 else 1)) = uV V a (grw ((V a).tdiv (10 ^ p : Nat)) (if V a < 0 then -1 else 1)) := by
              funext q
              by_cases eq : q = a
              · subst eq; rw [uV_s, uV_s]
              · rw [uV_n eq, uV_n eq, uV_n eq]
            rw [← this]; exact k5
      rw [va]
      have hmm : (V a).natAbs % 10 ^ p = (V a).natAbs % BB ^ (p / 9) + BB ^ (p / 9) * ((V a).natAbs / BB ^ (p / 9) % 10 ^ (p % 9)) := by rw [h10, Nat.mod_mul]
      have hml := Nat.mod_lt ((V a).natAbs / BB ^ (p / 9)) h9p
      refine wa_lconst q_X1_shrink_40 (v := lN 0) (by decide) ?_
      refine wn_lcmp_eq q_X1_shrink_41 q_X1_shrink_42 (by omega) (by omega) (fun hy => ?_) (fun hy => ?_)
      · refine wa_lv (hfin _ ?_) rfl
        rw [hmm, hy, Nat.mul_zero, Nat.add_zero]
      · refine wa_iconst q_X1_shrink_45 (v := nI 1) (by decide) ?_
        refine wa_istore q_X1_shrink_46 (by decide) ?_
        refine wa_lv (hfin 1 ?_) rfl
        have hpos : 0 < BB ^ (p / 9) * ((V a).natAbs / BB ^ (p / 9) % 10 ^ (p % 9)) := Nat.mul_pos (pw_pos _) (Nat.pos_of_ne_zero hy)
        have hz : ¬ (V a).natAbs % 10 ^ p = 0 := fun z => by
          rw [hmm] at z
          have h2 := (Nat.add_eq_zero_iff.mp z).2
          exact absurd hpos (by rw [h2]; exact Nat.lt_irrefl 0)
        rw [if_neg hz]
    · refine wa_vret q_X1_shrink_11 rfl ?_
      exact ⟨rfl, hstay (Or.inl (sgI_0.mp (by rw [← va]; exact hd)))⟩
end big8
end
section
/-! EnclosedDigits$Big: made, setLong, digitAt, digitCount, clamped -/
section big9
variable {X : en_X} {σ : en_S} {D : List Nat} {S : Nat → en_B} {V : Nat → Int}
theorem C_bigInit {a : Nat} {w : Value} (ha : look σ a = some (.inr (1, [.int 0, .int 0, w]))) (hal : a < σ.1) : Calls X M_X1_init [.ref a] σ (fun res τ => res = none ∧ look τ a = some (bE 0 0 σ.1) ∧ look τ σ.1 = some (ar X 8 (fun _ => 0)) ∧ (∀ q, q ≠ a → q ≠ σ.1 → look τ q = look σ q) ∧ τ.1 = σ.1 + 1 ∧ τ.2.1 = σ.2.1 + 8) := by
  refine Calls.of rfl (lk rfl) ?_
  refine wa_aload_n q_X1_init_0 rfl ?_
  refine wa_objInit q_X1_init_1 o_RX1_3 (lk rfl) (lk rfl) ?_
  refine wa_aload_n q_X1_init_4 rfl ?_
  refine wa_bipush q_X1_init_5 (v := nI 8) (by decide) ?_
  refine wn_newi q_X1_init_7 (by decide) (fun σ1 g1 g2 g3 g4 => ?_)
  have ha := (g2 a (by omega)).trans ha
  refine wn_putf q_X1_init_9 p_RX1_11 (by assumption) (lk rfl) rfl rfl rfl (fun σ_h1 h1 f_h1 e1_h1 e2_h1 => ?_)
  refine wa_vret q_X1_init_12 rfl ?_
  refine ⟨rfl, h1, (f_h1 _ (by omega)).trans g1, fun q q1 q2 => (f_h1 q q1).trans (g2 q q2), by omega, by omega⟩
theorem C_setL_loop {ρ σ0 : en_S} {a r n m : Nat} {sg : Int32} {z : Int} {Q : Option Value → en_S → Prop} (hn : n ≤ 512) (hs : 3 ≤ n) (hm : m ≤ 9223372036854775808) (hne : a ≠ r)
    (k : ∀ (σ1 : en_S) (d1 : Nat → Nat), look σ1 a = some (bE sg 3 r) → look σ1 r = some (ar X n d1) → (∀ j, j < 3 → d1 j = m / BB ^ j % BB) → (∀ q, q ≠ r → look σ1 q = look σ0 q) → σ1.1 = σ0.1 → σ1.2.1 = σ0.2.1 → WA X M_X1_setLong ρ 57 [(1, .long (lZ z)), (0, .ref a)] [] σ1 Q) :
    ∀ (t i : Nat) (σ : en_S) (d1 : Nat → Nat), 3 - i = t → i ≤ 3 → look σ a = some (bE sg 3 r) → look σ r = some (ar X n d1) → (∀ j, j < i → d1 j = m / BB ^ j % BB) → (∀ q, q ≠ r → look σ q = look σ0 q) → σ.1 = σ0.1 → σ.2.1 = σ0.2.1 →
      WA X M_X1_setLong ρ 25 [(5, .int (nI i)), (3, .long (lZ (-((m / BB ^ i : Nat) : Int)))), (1, .long (lZ z)), (0, .ref a)] [] σ Q := by
  intro t
  induction t with
  | zero =>
    intro i σ d1 ht hi ha hr h1 h4 h5 h6
    have e : i = 3 := by omega
    subst e
    refine wa_iload q_X1_setLong_25 rfl ?_
    refine wa_iconst q_X1_setLong_27 (v := nI 3) (by decide) ?_
    refine wn_icmp_ge q_X1_setLong_28 (by omega) (by omega) (fun hc => ?_) (fun hc => ?_)
    · exact wa_lv (k σ d1 ha hr h1 h4 h5 h6) rfl
    · exact absurd hc (by omega)
  | succ t ih =>
    intro i σ d1 ht hi ha hr h1 h4 h5 h6
    refine wa_iload q_X1_setLong_25 rfl ?_
    refine wa_iconst q_X1_setLong_27 (v := nI 3) (by decide) ?_
    refine wn_icmp_ge q_X1_setLong_28 (by omega) (by omega) (fun hc => ?_) (fun hc => ?_)
    · exact absurd hc (by omega)
    · have hu : m / BB ^ i ≤ 9223372036854775808 := Nat.le_trans (Nat.div_le_self _ _) hm
      have hdd : m / BB ^ (i + 1) = m / BB ^ i / 1000000000 := by rw [Nat.pow_succ, ← Nat.div_div_eq_div_mul]; rfl
      have hih := fun σ1 d1 => ih (i + 1) σ1 d1 (by omega) (by omega)
      rw [hdd] at hih
      have hlast : m / BB ^ i % BB = m / BB ^ i % 1000000000 := rfl
      generalize hue : m / BB ^ i = u at *
      have hq := Nat.div_add_mod u 1000000000
      have hml := Nat.mod_lt u (show 0 < 1000000000 by decide)
      have ediv : lZ (-(u : Int)) / lN 1000000000 = lZ (-((u / 1000000000 : Nat) : Int)) := by
        rw [lN_lZ, lZ_div (by omega) (by omega) (by decide) (by decide), Int.neg_tdiv]; rfl
      have erem : lZ (-(u : Int)) - lZ (-(u : Int)) / lN 1000000000 * lN 1000000000 = lZ (-((u % 1000000000 : Nat) : Int)) := by
        rw [ediv, lN_lZ, lZ_mul, lZ_sub]; congr 1; omega
      refine wa_aload_n q_X1_setLong_31 rfl ?_
      refine wa_getf q_X1_setLong_32 f_RX1_11 (by assumption) rfl ?_
      refine wa_iload q_X1_setLong_35 rfl ?_
      refine wa_lload_n q_X1_setLong_37 rfl ?_
      refine wa_ldc2 q_X1_setLong_38 k_RX1_50 ?_
      refine wa_lrem q_X1_setLong_41 (fun z => by rw [lN_lZ] at z; exact absurd ((lZ_eq (b := 0) (by decide) (by decide) (by decide) (by decide)).mp z) (by decide)) ?_
      rw [erem]
      refine wa_lneg q_X1_setLong_42 ?_
      rw [lZ_neg, Int.neg_neg, ← lN_lZ]
      refine wn_l2i q_X1_setLong_43 ?_
      refine wn_iast q_X1_setLong_44 (by assumption) (by omega) (by omega) (fun σ_hr1 hr1 f_hr1 e1_hr1 e2_hr1 => ?_)
      have ha := (f_hr1 a hne).trans ha
      refine wa_lload_n q_X1_setLong_45 rfl ?_
      refine wa_ldc2 q_X1_setLong_46 k_RX1_50 ?_
      refine wa_ldiv q_X1_setLong_49 (fun z => by rw [lN_lZ] at z; exact absurd ((lZ_eq (b := 0) (by decide) (by decide) (by decide) (by decide)).mp z) (by decide)) ?_
      rw [ediv]
      refine wa_lstore_n q_X1_setLong_50 (by decide) ?_
      refine wn_iinc q_X1_setLong_51 rfl (by decide) ?_
      refine wa_goto q_X1_setLong_54 ?_
      refine wa_lv (hih σ_hr1 _ ha hr1 (fun j hj => ?_) (fun q hq => (f_hr1 q hq).trans (h4 q hq)) (by omega) (by omega)) rfl
      by_cases e : j = i
      · rw [e, un_s, hue]; rfl
      · rw [un_n e]; exact h1 j (by omega)
theorem V_setL {a : Nat} {z : Int} (h : bw_V X D σ S V) (ha : a ∈ D) (h1 : -9223372036854775808 ≤ z) (h2 : z < 9223372036854775808) : Calls X M_X1_setLong [.ref a, .long (lZ z)] σ (fun res τ => res = none ∧ ∃ S', bw_V X D τ S' (uV V a z) ∧ bw_St D σ S τ S') := by
  obtain ⟨a1, a2, a3, a4, a5, a6, a7⟩ := h.1.1 a ha
  have hB : BB = 1000000000 := rfl
  refine Calls.of rfl (lk rfl) ?_
  have hgo : WA X M_X1_setLong σ 12 [(1, .long (lZ z)), (0, .ref a)] [.long (lZ (-((z.natAbs / BB ^ 0 : Nat) : Int)))] σ (fun res τ => res = none ∧ ∃ S', bw_V X D τ S' (uV V a z) ∧ bw_St D σ S τ S') := by
    refine wa_lstore_n q_X1_setLong_12 (by decide) ?_
    refine wa_aload_n q_X1_setLong_13 rfl ?_
    refine wa_callV q_X1_setLong_14 g_X1_setLong_14 w_X1_clear (by assumption) rfl (av := []) rfl rfl (lk rfl) (Calls.mono (C_clear h.1 ha) ?_)
    rintro _ σ1 ⟨rfl, e, rfl, k1, k2⟩
    obtain ⟨a1, a2, -, -, -, -, -⟩ := k1.1 a ha
    rw [uB_s] at a1 a2
    refine wa_aload_n q_X1_setLong_17 rfl ?_
    refine wa_iconst q_X1_setLong_18 (v := nI 3) (by decide) ?_
    refine wa_callV q_X1_setLong_19 g_X1_setLong_19 w_X1_extend (by assumption) rfl (av := [_]) rfl rfl (lk rfl) (Calls.mono (C_extend k1 ha (by omega)) ?_)
    rintro _ σ2 ⟨rfl, e, g1, g2, g3, g4, g5, g6⟩
    rw [uB_s] at g1 g2 g3 g4
    rw [uB_u] at g5 g6
    have hm : e.2.2.1 = 3 := by rw [g1]; rfl
    obtain ⟨e1, e2, e3, e4, e5, -, -⟩ := g5.1 a ha
    rw [uB_s] at e1 e2 e3 e4 e5
    rw [hm] at e1 e3
    refine wa_iconst q_X1_setLong_22 (v := nI 0) (by decide) ?_
    refine wa_istore q_X1_setLong_23 (by decide) ?_
    refine wa_lv (C_setL_loop (σ0 := σ2) (z := z) e5 e3 (by omega) (ne_oa e1 e2) ?_ _ 0 σ2 _ rfl (Nat.zero_le _) e1 e2 (fun j hj => absurd hj (by omega)) (fun _ _ => rfl) rfl rfl) rfl
    intro σ3 d1 k1' k2' k3 k5 k6 k7
    have st := bw_R.keep (τ := σ3) (a := a) (sz := 3) (d := d1) (sg := e.2.2.2.2) g5 ha (by rw [uB_s]; exact k1') (by rw [uB_s]; exact k2') (by rw [uB_s]; exact e3) (fun q q2 q3 => by rw [uB_s] at q3; exact k5 q q3) k6 k7
    rw [uB_u, uB_s] at st
    have hd : ∀ j, j < 3 → d1 j < BB := fun j hj => by rw [k3 j hj]; exact Nat.mod_lt _ BB_pos
    have hv : vl d1 3 = z.natAbs := by
      have e0 := k3 0 (by omega)
      have e1 := k3 1 (by omega)
      have e2 := k3 2 (by omega)
      show 0 + d1 0 * BB ^ 0 + d1 1 * BB ^ 1 + d1 2 * BB ^ 2 = _
      rw [e0, e1, e2, hB]
      simp only [Nat.reducePow]
      omega
    have htr : ∀ s : Int32, (z ≠ 0 → s = sgI z) → WA X M_X1_setLong σ 69 [(1, .long (lZ z)), (0, .ref a)] [.int s, .ref a] σ3 (fun res τ => res = none ∧ ∃ S', bw_V X D τ S' (uV V a z) ∧ bw_St D σ S τ S') := by
      intro s hs
      refine wa_callV q_X1_setLong_69 g_X1_setLong_69 w_X1_trim (by assumption) rfl (av := [_]) rfl rfl (lk rfl) (Calls.mono (C_trim st.1 ha (by rw [uB_s]; intro i hi; have := hd i hi; show d1 i < _; omega)) ?_)
      rintro _ σ4 ⟨rfl, f, hbe, w1, w2⟩
      rw [uB_s] at hbe
      rw [uB_u] at w1 w2
      refine wa_vret q_X1_setLong_72 rfl ?_
      refine ⟨rfl, _, h.up w1 (isV_of (s := s) ?_ ?_ ?_ hs), k2.tr (g6.tr (st.2.tr w2))⟩
      · subst hbe
        exact ⟨fun i hi => hd i (by have := tp_le d1 3; have hi : i < tp d1 3 := hi; omega), tp_top _ _⟩
      · subst hbe
        show vl d1 (tp d1 3) = _
        rw [vl_tp, hv]
      · subst hbe; rfl
    refine wa_aload_n q_X1_setLong_57 rfl ?_
    refine wa_lload_n q_X1_setLong_58 rfl ?_
    refine wa_lconst q_X1_setLong_59 (v := lN 0) (by decide) ?_
    refine wa_lcmp q_X1_setLong_60 ?_
    refine wa_if_ge q_X1_setLong_61 (fun hg => ?_) (fun hg => ?_)
    · rw [lg_cmp_ge, lN_lZ, lZ_le (by decide) (by decide) h1 h2] at hg
      refine wa_iconst q_X1_setLong_68 (v := 1) (by decide) ?_
      refine wa_lv (htr 1 (fun hz => ?_)) rfl
      rcases sgI_c z with ⟨q, g⟩ | ⟨q, g⟩ | ⟨q, g⟩
      · have : ((0 : Nat) : Int) = 0 := rfl
        omega
      · exact absurd q hz
      · exact g.symm
    · rw [lg_cmp_ge, lN_lZ, lZ_le (by decide) (by decide) h1 h2] at hg
      refine wa_iconst q_X1_setLong_64 (v := -1) (by decide) ?_
      refine wa_goto q_X1_setLong_65 ?_
      refine wa_lv (htr (-1) (fun hz => ?_)) rfl
      rcases sgI_c z with ⟨q, g⟩ | ⟨q, g⟩ | ⟨q, g⟩
      · exact g.symm
      · exact absurd q hz
      · have : ((0 : Nat) : Int) = 0 := rfl
        omega
  rw [Nat.pow_zero, Nat.div_one] at hgo
  refine wa_lload_n q_X1_setLong_0 rfl ?_
  refine wa_lconst q_X1_setLong_1 (v := lN 0) (by decide) ?_
  refine wa_lcmp q_X1_setLong_2 ?_
  refine wa_if_ge q_X1_setLong_3 (fun hg => ?_) (fun hg => ?_)
  · rw [lg_cmp_ge, lN_lZ, lZ_le (by decide) (by decide) h1 h2] at hg
    refine wa_lload_n q_X1_setLong_10 rfl ?_
    refine wa_lneg q_X1_setLong_11 ?_
    rw [lZ_neg]
    have : ((0 : Nat) : Int) = 0 := rfl
    rw [show -z = -((z.natAbs : Nat) : Int) by omega]
    exact wa_lv hgo rfl
  · rw [lg_cmp_ge, lN_lZ, lZ_le (by decide) (by decide) h1 h2] at hg
    refine wa_lload_n q_X1_setLong_6 rfl ?_
    refine wa_goto q_X1_setLong_7 ?_
    have : ((0 : Nat) : Int) = 0 := rfl
    have e : lZ z = lZ (-((z.natAbs : Nat) : Int)) := by congr 1; omega
    have : WA X M_X1_setLong σ 12 [(1, .long (lZ z)), (0, .ref a)] [.long (lZ z)] σ (fun res τ => res = none ∧ ∃ S', bw_V X D τ S' (uV V a z) ∧ bw_St D σ S τ S') := by
      conv => arg 6; rw [e]
      exact hgo
    exact wa_lv this rfl
end big9
end
section
/-! EnclosedDigits$Big: digitAt, digitCount, clamped -/
theorem vl_dig {d : Nat → Nat} {n q : Nat} (h : ∀ i, i < n → d i < BB) : (if q < n then d q else 0) = vl d n / BB ^ q % BB := by
  rcases Nat.lt_or_ge q n with g | g
  · rw [if_pos g]
    have e := vl_add d q (n - q)
    rw [Nat.add_sub_cancel' (by omega)] at e
    rw [e, Nat.add_comm, Nat.mul_add_div (pw_pos q), Nat.div_eq_of_lt (vl_lt (fun i hi => h i (by omega))), Nat.add_zero]
    rw [show n - q = n - q - 1 + 1 by omega, vl_low]
    show d q = (d (q + 0) + BB * _) % BB
    rw [Nat.add_zero, Nat.add_mul_mod_self_left, Nat.mod_eq_of_lt (h q g)]
  · rw [if_neg (by omega), Nat.div_eq_of_lt (Nat.lt_of_lt_of_le (vl_lt h) (pw_mono g)), Nat.zero_mod]
theorem dig_low {x s : Nat} (hs : s < 9) : x % BB / 10 ^ s % 10 = x / 10 ^ s % 10 := by
  have e : BB = 10 ^ s * (10 * 10 ^ (8 - s)) := by
    rw [← Nat.mul_assoc, ← Nat.pow_succ, ← Nat.pow_add, show s + 1 + (8 - s) = 9 by omega]; rfl
  rw [e, Nat.mod_mul_right_div_self, Nat.mod_mul_right_mod]
/-- c digits -/
def isD (m c : Nat) : Prop := m < 10 ^ c ∧ (c = 0 ∨ 10 ^ (c - 1) ≤ m)
theorem isD_u {m c e : Nat} (h : isD m c) (g : isD m e) : c = e := by
  have a1 : ∀ {c e : Nat}, isD m c → isD m e → c ≤ e := by
    intro c e h g
    rcases Nat.lt_or_ge e c with q | q
    · have h2 := h.2.resolve_left (by omega)
      have h3 : 10 ^ e ≤ 10 ^ (c - 1) := Nat.pow_le_pow_right (by decide) (by omega)
      have h4 := g.1
      omega
    · exact q
  exact Nat.le_antisymm (a1 h g) (a1 g h)
section bigA
variable {X : en_X} {σ : en_S} {D : List Nat} {S : Nat → en_B} {V : Nat → Int}
theorem V_digitAt {a i : Nat} (h : bw_V X D σ S V) (ha : a ∈ D) (hi : i < 2 ^ 31) : Calls X M_X1_digitAt [.ref a, .int (nI i)] σ (fun res τ => res = some (.int (nI ((V a).natAbs / 10 ^ i % 10))) ∧ τ = σ) := by
  obtain ⟨a1, a2, a3, a4, a5, a6, a7⟩ := h.1.1 a ha
  obtain ⟨va, wa, na⟩ := h.2 a ha
  have hB : BB = 1000000000 := rfl
  refine Calls.of rfl (lk rfl) ?_
  refine wa_iload_n q_X1_digitAt_0 rfl ?_
  refine wn_if_ge q_X1_digitAt_1 (by omega) (fun hc => ?_) (fun hc => ?_)
  · refine wa_aload_n q_X1_digitAt_8 rfl ?_
    refine wa_iload_n q_X1_digitAt_9 rfl ?_
    refine wa_bipush q_X1_digitAt_10 (v := nI 9) (by decide) ?_
    refine wn_idiv q_X1_digitAt_12 (by omega) (by omega) (by omega) ?_
    refine wa_callV q_X1_digitAt_13 g_X1_digitAt_13 w_X1_limbAt (by assumption) rfl (av := [_]) rfl rfl (lk rfl) (Calls.mono (C_limbAt h.1 ha (by omega)) ?_)
    rintro _ _ ⟨rfl, rfl⟩
    rw [vl_dig na.1, wa]
    have hl := Nat.mod_lt ((V a).natAbs / BB ^ (i / 9)) BB_pos
    refine wa_tensN q_X1_digitAt_16 s_RX1_66 ?_
    refine wa_iload_n q_X1_digitAt_19 rfl ?_
    refine wa_bipush q_X1_digitAt_20 (v := nI 9) (by decide) ?_
    refine wn_irem q_X1_digitAt_22 (by omega) (by omega) (by omega) ?_
    refine wn_tald q_X1_digitAt_23 (by omega) ?_
    have h9 : 10 ^ (i % 9) ≤ 10 ^ 8 := Nat.pow_le_pow_right (by decide) (by omega)
    have h9' : (10 : Nat) ^ 8 = 100000000 := by decide
    have h9p : 0 < 10 ^ (i % 9) := Nat.pow_pos (by decide)
    have hle : (V a).natAbs / BB ^ (i / 9) % BB / 10 ^ (i % 9) ≤ (V a).natAbs / BB ^ (i / 9) % BB := Nat.div_le_self _ _
    refine wn_idiv q_X1_digitAt_24 (by omega) h9p (by omega) ?_
    refine wa_bipush q_X1_digitAt_25 (v := nI 10) (by decide) ?_
    refine wn_irem q_X1_digitAt_27 (by omega) (by omega) (by omega) ?_
    refine wa_iret q_X1_digitAt_28 rfl ?_
    refine ⟨?_, rfl⟩
    rw [dig_low (by omega), pw_ten, Nat.div_div_eq_div_mul, ← Nat.pow_add, show 9 * (i / 9) + i % 9 = i by omega]
  · exact absurd hc id
theorem C_dC_loop {ρ : en_S} {a x : Nat} {Q : Option Value → en_S → Prop} (hx : x < BB) (k : ∀ c, isD x c → c ≤ 9 → WA X M_X1_digitCount ρ 36 [(2, .int (nI c)), (0, .ref a)] [] σ Q) :
    ∀ (t i : Nat), 9 - i = t → i ≤ 9 → (i = 0 ∨ 10 ^ (i - 1) ≤ x) → WA X M_X1_digitCount ρ 13 [(2, .int (nI i)), (1, .int (nI x)), (0, .ref a)] [] σ Q := by
  have hB : BB = 1000000000 := rfl
  intro t
  induction t with
  | zero =>
    intro i ht hi h1
    have e : i = 9 := by omega
    subst e
    refine wa_iload_n q_X1_digitCount_13 rfl ?_
    refine wa_tensN q_X1_digitCount_14 s_RX1_66 ?_
    refine wa_talen q_X1_digitCount_17 ?_
    rw [show (9 : Int32) = nI 9 by decide]
    refine wn_icmp_ge q_X1_digitCount_18 (by omega) (by omega) (fun hc => ?_) (fun hc => ?_)
    · exact wa_lv (k 9 ⟨hx, h1⟩ (by omega)) rfl
    · exact absurd hc (by omega)
  | succ t ih =>
    intro i ht hi h1
    refine wa_iload_n q_X1_digitCount_13 rfl ?_
    refine wa_tensN q_X1_digitCount_14 s_RX1_66 ?_
    refine wa_talen q_X1_digitCount_17 ?_
    rw [show (9 : Int32) = nI 9 by decide]
    refine wn_icmp_ge q_X1_digitCount_18 (by omega) (by omega) (fun hc => ?_) (fun hc => ?_)
    · exact absurd hc (by omega)
    · refine wa_iload_n q_X1_digitCount_21 rfl ?_
      refine wa_tensN q_X1_digitCount_22 s_RX1_66 ?_
      refine wa_iload_n q_X1_digitCount_25 rfl ?_
      refine wn_tald q_X1_digitCount_26 (by omega) ?_
      have h9 : 10 ^ i ≤ 10 ^ 8 := Nat.pow_le_pow_right (by decide) (by omega)
      have h9' : (10 : Nat) ^ 8 = 100000000 := by decide
      refine wn_icmp_lt q_X1_digitCount_27 (by omega) (by omega) (fun hd => ?_) (fun hd => ?_)
      · exact wa_lv (k i ⟨hd, h1⟩ (by omega)) rfl
      · refine wn_iinc q_X1_digitCount_30 rfl (by decide) ?_
        refine wa_goto q_X1_digitCount_33 ?_
        exact wa_lv (ih (i + 1) (by omega) (by omega) (Or.inr hd)) rfl
theorem V_dC {a : Nat} (h : bw_V X D σ S V) (ha : a ∈ D) : Calls X M_X1_digitCount [.ref a] σ (fun res τ => (∃ c, c ≤ 5000 ∧ res = some (.int (nI c)) ∧ isD (V a).natAbs c) ∧ τ = σ) := by
  obtain ⟨a1, a2, a3, a4, a5, a6, a7⟩ := h.1.1 a ha
  obtain ⟨va, wa, na⟩ := h.2 a ha
  have hB : BB = 1000000000 := rfl
  refine Calls.of rfl (lk rfl) ?_
  by_cases hz : (S a).2.2.1 = 0
  · have hv0 : V a = 0 := (isV_sz (h.2 a ha)).mp hz
    rw [hz] at a1
    refine wa_aload_n q_X1_digitCount_0 rfl ?_
    refine wa_aload_n q_X1_digitCount_1 rfl ?_
    refine wa_getf q_X1_digitCount_2 f_RX1_15 (by assumption) rfl ?_
    refine wa_iconst q_X1_digitCount_5 (v := nI 1) (by decide) ?_
    refine wa_isub q_X1_digitCount_6 ?_
    rw [show nI 0 - nI 1 = (-1 : Int32) by decide]
    refine wa_callV q_X1_digitCount_7 g_X1_digitCount_7 w_X1_limbAt (by assumption) rfl (av := [_]) rfl rfl (lk rfl) (Calls.mono C_limbAtN ?_)
    rintro _ _ ⟨rfl, rfl⟩
    refine wa_istore_n q_X1_digitCount_10 (by decide) ?_
    refine wa_iconst q_X1_digitCount_11 (v := nI 0) (by decide) ?_
    refine wa_istore_n q_X1_digitCount_12 (by decide) ?_
    refine wa_lv (C_dC_loop (x := 0) BB_pos ?_ _ 0 rfl (Nat.zero_le _) (Or.inl rfl)) rfl
    intro c _ hc
    refine wa_aload_n q_X1_digitCount_36 rfl ?_
    refine wa_getf q_X1_digitCount_37 f_RX1_15 (by assumption) rfl ?_
    refine wn_if_gt q_X1_digitCount_40 (by omega) (fun hd => ?_) (fun hd => ?_)
    · exact absurd hd (by omega)
    · refine wa_iconst q_X1_digitCount_43 (v := nI 0) (by decide) ?_
      refine wa_goto q_X1_digitCount_44 ?_
      refine wa_iret q_X1_digitCount_58 rfl ?_
      exact ⟨⟨0, by omega, rfl, by rw [hv0]; exact ⟨by decide, Or.inl rfl⟩⟩, rfl⟩
  · refine wa_aload_n q_X1_digitCount_0 rfl ?_
    refine wa_aload_n q_X1_digitCount_1 rfl ?_
    refine wa_getf q_X1_digitCount_2 f_RX1_15 (by assumption) rfl ?_
    refine wa_iconst q_X1_digitCount_5 (v := nI 1) (by decide) ?_
    refine wn_isub q_X1_digitCount_6 (by omega) ?_
    refine wa_callV q_X1_digitCount_7 g_X1_digitCount_7 w_X1_limbAt (by assumption) rfl (av := [_]) rfl rfl (lk rfl) (Calls.mono (C_limbAt h.1 ha (by omega)) ?_)
    rintro _ _ ⟨rfl, rfl⟩
    rw [if_pos (by omega)]
    have htop : (S a).2.2.2.1 ((S a).2.2.1 - 1) ≠ 0 := na.2.resolve_left hz
    have hlt := na.1 ((S a).2.2.1 - 1) (by omega)
    refine wa_istore_n q_X1_digitCount_10 (by decide) ?_
    refine wa_iconst q_X1_digitCount_11 (v := nI 0) (by decide) ?_
    refine wa_istore_n q_X1_digitCount_12 (by decide) ?_
    refine wa_lv (C_dC_loop hlt ?_ _ 0 rfl (Nat.zero_le _) (Or.inl rfl)) rfl
    intro c hc hc9
    have hc0 : c ≠ 0 := fun z => by have := hc.1; rw [z] at this; simp at this; exact htop this
    refine wa_aload_n q_X1_digitCount_36 rfl ?_
    refine wa_getf q_X1_digitCount_37 f_RX1_15 (by assumption) rfl ?_
    refine wn_if_gt q_X1_digitCount_40 (by omega) (fun hd => ?_) (fun hd => ?_)
    · refine wa_aload_n q_X1_digitCount_47 rfl ?_
      refine wa_getf q_X1_digitCount_48 f_RX1_15 (by assumption) rfl ?_
      refine wa_iconst q_X1_digitCount_51 (v := nI 1) (by decide) ?_
      refine wn_isub q_X1_digitCount_52 (by omega) ?_
      refine wa_bipush q_X1_digitCount_53 (v := nI 9) (by decide) ?_
      refine wn_imul q_X1_digitCount_55 ?_
      refine wa_iload_n q_X1_digitCount_56 rfl ?_
      refine wn_iadd q_X1_digitCount_57 ?_
      refine wa_iret q_X1_digitCount_58 rfl ?_
      refine ⟨⟨_, by omega, rfl, ?_⟩, rfl⟩
      rw [← wa]
      have e : vl (S a).2.2.2.1 (S a).2.2.1 = vl (S a).2.2.2.1 ((S a).2.2.1 - 1) + (S a).2.2.2.1 ((S a).2.2.1 - 1) * BB ^ ((S a).2.2.1 - 1) := by
        conv => lhs; rw [show (S a).2.2.1 = (S a).2.2.1 - 1 + 1 by omega]
        rfl
      have hl := vl_lt (d := (S a).2.2.2.1) (n := (S a).2.2.1 - 1) (fun i hi => na.1 i (by omega))
      rw [e]
      have ep : BB ^ ((S a).2.2.1 - 1) = 10 ^ (((S a).2.2.1 - 1) * 9) := by rw [pw_ten, Nat.mul_comm]
      constructor
      · have q1 : ((S a).2.2.2.1 ((S a).2.2.1 - 1) + 1) * BB ^ ((S a).2.2.1 - 1) ≤ 10 ^ c * BB ^ ((S a).2.2.1 - 1) := Nat.mul_le_mul_right _ hc.1
        rw [Nat.add_mul, Nat.one_mul] at q1
        have q2 : 10 ^ c * BB ^ ((S a).2.2.1 - 1) = 10 ^ (((S a).2.2.1 - 1) * 9 + c) := by rw [ep, ← Nat.pow_add, Nat.add_comm]
        omega
      · refine Or.inr ?_
        have q1 : 10 ^ (c - 1) * BB ^ ((S a).2.2.1 - 1) ≤ (S a).2.2.2.1 ((S a).2.2.1 - 1) * BB ^ ((S a).2.2.1 - 1) := Nat.mul_le_mul_right _ (hc.2.resolve_left hc0)
        have q2 : 10 ^ (c - 1) * BB ^ ((S a).2.2.1 - 1) = 10 ^ (((S a).2.2.1 - 1) * 9 + c - 1) := by rw [ep, ← Nat.pow_add]; congr 1; omega
        omega
    · exact absurd hd (by omega)
/-- what quotient() can show of v -/
def clp (v : Int) : Int := if v < 0 then -((min v.natAbs 4611686018427387904 : Nat) : Int) else ((min v.natAbs 4611686018427387904 : Nat) : Int)
theorem clp_big {v : Int} (h : 4611686018427387904 ≤ v.natAbs) : clp v = if v < 0 then -4611686018427387904 else 4611686018427387904 := by
  unfold clp
  rw [Nat.min_eq_right h]; rfl
theorem V_clamp {a : Nat} (h : bw_V X D σ S V) (ha : a ∈ D) : Calls X M_X1_clamped [.ref a] σ (fun res τ => res = some (.long (lZ (clp (V a)))) ∧ τ = σ) := by
  obtain ⟨a1, a2, a3, a4, a5, a6, a7⟩ := h.1.1 a ha
  obtain ⟨va, wa, na⟩ := h.2 a ha
  have hB : BB = 1000000000 := rfl
  have hB3 : BB ^ 3 = 1000000000000000000000000000 := rfl
  have hd0 := vl_dig (q := 0) na.1
  have hd1 := vl_dig (q := 1) na.1
  have hd2 := vl_dig (q := 2) na.1
  rw [wa] at hd0 hd1 hd2
  have m0 := Nat.mod_lt ((V a).natAbs / BB ^ 0) BB_pos
  have m1 := Nat.mod_lt ((V a).natAbs / BB ^ 1) BB_pos
  have m2 := Nat.mod_lt ((V a).natAbs / BB ^ 2) BB_pos
  refine Calls.of rfl (lk rfl) ?_
  have hbig : 4611686018427387904 ≤ (V a).natAbs → WA X M_X1_clamped σ 17 [(0, .ref a)] [] σ (fun res τ => res = some (.long (lZ (clp (V a)))) ∧ τ = σ) := by
    intro hb
    rw [clp_big hb]
    refine wa_aload_n q_X1_clamped_17 rfl ?_
    refine wa_getf q_X1_clamped_18 f_RX1_34 (by assumption) rfl ?_
    rw [va]
    refine wa_if_ge q_X1_clamped_21 (fun hg => ?_) (fun hg => ?_)
    · refine wa_ldc2 q_X1_clamped_30 k_RX1_61 ?_
      refine wa_lret q_X1_clamped_33 rfl ?_
      rw [if_neg (fun z => by rcases sgI_c (V a) with ⟨q, g⟩ | ⟨q, g⟩ | ⟨q, g⟩ <;> first | omega | (rw [g] at hg; exact absurd hg (by decide)))]
      exact ⟨by rw [lN_lZ]; rfl, rfl⟩
    · refine wa_ldc2 q_X1_clamped_24 k_RX1_59 ?_
      refine wa_goto q_X1_clamped_27 ?_
      refine wa_lret q_X1_clamped_33 rfl ?_
      rw [if_pos (by rcases sgI_c (V a) with ⟨q, g⟩ | ⟨q, g⟩ | ⟨q, g⟩ <;> first | exact q | (rw [g] at hg; exact absurd (by decide) hg))]
      exact ⟨by congr 2, rfl⟩
  refine wa_aload_n q_X1_clamped_0 rfl ?_
  refine wa_getf q_X1_clamped_1 f_RX1_15 (by assumption) rfl ?_
  refine wa_iconst q_X1_clamped_4 (v := nI 3) (by decide) ?_
  refine wn_icmp_gt q_X1_clamped_5 (by omega) (by omega) (fun hc => ?_) (fun hc => ?_)
  · refine wa_lv (hbig ?_) rfl
    have q1 := vl_ge (d := (S a).2.2.2.1) (n := (S a).2.2.1 - 1) (na.2.resolve_left (by omega))
    rw [Nat.sub_add_cancel (by omega), wa] at q1
    have q2 := pw_mono (a := 3) (b := (S a).2.2.1 - 1) (by omega)
    rw [hB3] at q2
    omega
  · have hv3 : (V a).natAbs < BB ^ 3 := by rw [← wa]; exact Nat.lt_of_lt_of_le (vl_lt na.1) (pw_mono (by omega))
    rw [hB3] at hv3
    refine wa_aload_n q_X1_clamped_8 rfl ?_
    refine wa_iconst q_X1_clamped_9 (v := nI 2) (by decide) ?_
    refine wa_callV q_X1_clamped_10 g_X1_clamped_10 w_X1_limbAt (by assumption) rfl (av := [_]) rfl rfl (lk rfl) (Calls.mono (C_limbAt h.1 ha (by omega)) ?_)
    rintro _ _ ⟨rfl, rfl⟩
    rw [hd2]
    refine wa_iconst q_X1_clamped_13 (v := nI 4) (by decide) ?_
    refine wn_icmp_le q_X1_clamped_14 (by omega) (by omega) (fun hd => ?_) (fun hd => ?_)
    · refine wa_aload_n q_X1_clamped_34 rfl ?_
      refine wa_iconst q_X1_clamped_35 (v := nI 2) (by decide) ?_
      refine wa_callV q_X1_clamped_36 g_X1_clamped_36 w_X1_limbAt (by assumption) rfl (av := [_]) rfl rfl (lk rfl) (Calls.mono (C_limbAt h.1 ha (by omega)) ?_)
      rintro _ _ ⟨rfl, rfl⟩
      rw [hd2]
      refine wn_i2l q_X1_clamped_39 (by omega) ?_
      refine wa_ldc2 q_X1_clamped_40 k_RX1_50 ?_
      refine wn_lmul q_X1_clamped_43 ?_
      refine wa_aload_n q_X1_clamped_44 rfl ?_
      refine wa_iconst q_X1_clamped_45 (v := nI 1) (by decide) ?_
      refine wa_callV q_X1_clamped_46 g_X1_clamped_46 w_X1_limbAt (by assumption) rfl (av := [_]) rfl rfl (lk rfl) (Calls.mono (C_limbAt h.1 ha (by omega)) ?_)
      rintro _ _ ⟨rfl, rfl⟩
      rw [hd1]
      refine wn_i2l q_X1_clamped_49 (by omega) ?_
      refine wn_ladd q_X1_clamped_50 ?_
      refine wa_lstore_n q_X1_clamped_51 (by decide) ?_
      refine wa_aload_n q_X1_clamped_52 rfl ?_
      refine wa_getf q_X1_clamped_53 f_RX1_34 (by assumption) rfl ?_
      rw [va]
      refine wa_i2l q_X1_clamped_56 rfl ?_
      refine wa_lload_n q_X1_clamped_57 rfl ?_
      refine wa_ldc2 q_X1_clamped_58 k_RX1_50 ?_
      refine wn_lmul q_X1_clamped_61 ?_
      refine wa_aload_n q_X1_clamped_62 rfl ?_
      refine wa_iconst q_X1_clamped_63 (v := nI 0) (by decide) ?_
      refine wa_callV q_X1_clamped_64 g_X1_clamped_64 w_X1_limbAt (by assumption) rfl (av := [_]) rfl rfl (lk rfl) (Calls.mono (C_limbAt h.1 ha (by omega)) ?_)
      rintro _ _ ⟨rfl, rfl⟩
      rw [hd0]
      refine wn_i2l q_X1_clamped_67 (by omega) ?_
      refine wn_ladd q_X1_clamped_68 ?_
      refine wa_ldc2 q_X1_clamped_69 k_RX1_61 ?_
      have ev : ((V a).natAbs / BB ^ 2 % BB * 1000000000 + (V a).natAbs / BB ^ 1 % BB) * 1000000000 + (V a).natAbs / BB ^ 0 % BB = (V a).natAbs := by
        rw [hB]; simp only [Nat.reducePow]; omega
      rw [ev]
      have hlt : (V a).natAbs < 5000000000000000000 := by
        rw [hB] at hd; simp only [Nat.reducePow] at hd; omega
      refine wa_mminL q_X1_clamped_72 a_RX1_63 (lk rfl) (lk rfl) ?_
      have emin : (if lN 4611686018427387904 < lN (V a).natAbs then lN 4611686018427387904 else lN (V a).natAbs) = lN (min (V a).natAbs 4611686018427387904) := by
        have hL : lN 4611686018427387904 < lN (V a).natAbs ↔ 4611686018427387904 < (V a).natAbs := pk_lLT (by decide) (by omega)
        by_cases q : 4611686018427387904 < (V a).natAbs
        · rw [if_pos (hL.mpr q), Nat.min_eq_right (by omega)]
        · rw [if_neg (fun z => q (hL.mp z)), Nat.min_eq_left (by omega)]
      rw [emin]
      refine wa_lmul q_X1_clamped_75 ?_
      refine wa_lret q_X1_clamped_76 rfl ?_
      refine ⟨?_, rfl⟩
      congr 2
      unfold clp
      rw [lN_lZ]
      rcases sgI_c (V a) with ⟨q, g⟩ | ⟨q, g⟩ | ⟨q, g⟩
      · rw [g, if_pos q, iZ_m1, iZ_l (by decide) (by decide), lZ_mul]; congr 1; omega
      · rw [g, if_neg (by omega), iZ_0, iZ_l (by decide) (by decide), lZ_mul]; congr 1; omega
      · rw [g, if_neg (by omega), iZ_1, iZ_l (by decide) (by decide), lZ_mul]; congr 1; omega
    · refine wa_lv (hbig ?_) rfl
      rw [hB] at hd; simp only [Nat.reducePow] at hd; omega
end bigA
end
section
/-! Long division by limbs: the guess of a limb -/
theorem kn_norm {t s : Nat} (h1 : 1 ≤ t) (h2 : t < BB) (hs : s = BB / (t + 1)) : 500000000 ≤ s * t ∧ s * (t + 1) ≤ BB ∧ 1 ≤ s := by
  have hB : BB = 1000000000 := rfl
  have hq := Nat.div_add_mod BB (t + 1)
  have hm := Nat.mod_lt BB (show 0 < t + 1 by omega)
  have hs1 : 1 ≤ BB / (t + 1) := (Nat.one_le_div_iff (by omega)).mpr (by omega)
  rw [← hs] at hq hs1
  have e1 : (t + 1) * s = s * t + s := by rw [Nat.add_mul, Nat.one_mul, Nat.mul_comm]
  obtain ⟨s', rfl⟩ : ∃ s', s = s' + 1 := ⟨s - 1, by omega⟩
  obtain ⟨t', rfl⟩ : ∃ t', t = t' + 1 := ⟨t - 1, by omega⟩
  have e2 : (s' + 1) * (t' + 1) = s' * t' + s' + t' + 1 := by grind
  have e3 : (s' + 1) * (t' + 1 + 1) = (s' + 1) * (t' + 1) + (s' + 1) := by grind
  omega
/-- the guess goes not too far, where it stays -/
theorem kn_A {g b v1 v2 rh un un1 un2 P Vl Ul : Nat} (h1 : g * v1 + rh = un * b + un1) (h2 : g * v2 ≤ rh * b + un2) (hg : g < b) (hv : 1 ≤ v1) (hVl : Vl < P) : g * ((v1 * b + v2) * P + Vl) ≤ ((un * b + un1) * b + un2) * P + Ul + ((v1 * b + v2) * P + Vl) := by
  have e1 : g * (v1 * b + v2) ≤ (un * b + un1) * b + un2 := by
    rw [← h1]
    have : g * (v1 * b + v2) = g * v1 * b + g * v2 := by grind
    have : (g * v1 + rh) * b = g * v1 * b + rh * b := Nat.add_mul _ _ _
    omega
  have e2 : g * (v1 * b + v2) * P ≤ ((un * b + un1) * b + un2) * P := Nat.mul_le_mul_right _ e1
  have e3 : g ≤ v1 * b + v2 := by
    have : 1 * b ≤ v1 * b := Nat.mul_le_mul_right _ hv
    omega
  have e4 : g * P ≤ (v1 * b + v2) * P := Nat.mul_le_mul_right _ e3
  have e5 : g * Vl ≤ g * P := Nat.mul_le_mul_left _ (by omega)
  have e6 : g * ((v1 * b + v2) * P + Vl) = g * (v1 * b + v2) * P + g * Vl := by rw [Nat.mul_add, Nat.mul_assoc]
  omega
/-- a guess that is put one lower was too great -/
theorem kn_B1 {g b U V : Nat} (hU : U < V * b) (hg : b ≤ g) : U < g * V := by
  have : V * b ≤ g * V := by rw [Nat.mul_comm]; exact Nat.mul_le_mul_right _ hg
  omega
theorem kn_B2 {g b v1 v2 rh un un1 un2 P Vl Ul : Nat} (h1 : g * v1 + rh = un * b + un1) (h2 : rh * b + un2 < g * v2) (hUl : Ul < P) : ((un * b + un1) * b + un2) * P + Ul < g * ((v1 * b + v2) * P + Vl) := by
  have e1 : (un * b + un1) * b + un2 + 1 ≤ g * (v1 * b + v2) := by
    rw [← h1]
    have : g * (v1 * b + v2) = g * v1 * b + g * v2 := by grind
    have : (g * v1 + rh) * b = g * v1 * b + rh * b := Nat.add_mul _ _ _
    omega
  have e2 : ((un * b + un1) * b + un2 + 1) * P ≤ g * (v1 * b + v2) * P := Nat.mul_le_mul_right _ e1
  have e3 : ((un * b + un1) * b + un2 + 1) * P = ((un * b + un1) * b + un2) * P + P := by rw [Nat.add_mul, Nat.one_mul]
  have e6 : g * ((v1 * b + v2) * P + Vl) = g * (v1 * b + v2) * P + g * Vl := by rw [Nat.mul_add, Nat.mul_assoc]
  have : 0 ≤ g * Vl := Nat.zero_le _
  omega
/-- the first guess isn't too small -/
theorem kn_C {b v1 v2 un un1 un2 P Vl Ul : Nat} (hv : 0 < v1) (h2 : un2 < b) (hUl : Ul < P) : ((un * b + un1) * b + un2) * P + Ul < ((un * b + un1) / v1 + 1) * ((v1 * b + v2) * P + Vl) := by
  have hq := Nat.div_add_mod (un * b + un1) v1
  have hm := Nat.mod_lt (un * b + un1) hv
  generalize (un * b + un1) / v1 = g at *
  generalize (un * b + un1) % v1 = m at *
  generalize un * b + un1 = top at *
  have e1 : top + 1 ≤ (g + 1) * v1 := by rw [Nat.add_mul, Nat.one_mul, Nat.mul_comm g]; omega
  have e2 : (top + 1) * b ≤ (g + 1) * v1 * b := Nat.mul_le_mul_right _ e1
  have e3 : (top + 1) * b = top * b + b := by rw [Nat.add_mul, Nat.one_mul]
  have e4 : (top * b + un2 + 1) * P ≤ (g + 1) * v1 * b * P := Nat.mul_le_mul_right _ (by omega)
  have e5 : (top * b + un2 + 1) * P = (top * b + un2) * P + P := by rw [Nat.add_mul, Nat.one_mul]
  have e6 : (g + 1) * ((v1 * b + v2) * P + Vl) = (g + 1) * v1 * b * P + ((g + 1) * v2 * P + (g + 1) * Vl) := by grind
  omega
/-- the highest limb of the window isn't above the divisor's -/
theorem kn_D {b v1 v2 un un1 un2 P Vl Ul : Nat} (h2 : v2 < b) (hVl : Vl < P) (hU : ((un * b + un1) * b + un2) * P + Ul < ((v1 * b + v2) * P + Vl) * b) : un ≤ v1 := by
  rcases Nat.lt_or_ge v1 un with h | h
  · exfalso
    have e1 : ((v1 + 1) * b * b) * P ≤ (un * b * b) * P := Nat.mul_le_mul_right _ (Nat.mul_le_mul_right _ (Nat.mul_le_mul_right _ h))
    have e2 : (v2 + 1) * P * b ≤ b * P * b := Nat.mul_le_mul_right _ (Nat.mul_le_mul_right _ h2)
    have e3 : (Vl + 1) * b ≤ P * b := Nat.mul_le_mul_right _ hVl
    have e4 : ((un * b + un1) * b + un2) * P + Ul = un * b * b * P + (un1 * b * P + un2 * P + Ul) := by grind
    have e5 : ((v1 * b + v2) * P + Vl) * b = v1 * b * b * P + v2 * P * b + Vl * b := by grind
    have e6 : (v1 + 1) * b * b * P = v1 * b * b * P + b * P * b := by grind
    have e7 : (v2 + 1) * P * b = v2 * P * b + P * b := by grind
    have e8 : (Vl + 1) * b = Vl * b + b := by grind
    omega
  · exact h
end
section
/-! EnclosedDigits$Bench: guessLimb, giveBack, takeAway -/
abbrev nE (dv ds pt bt rs : Nat) : va_E := .inr (0, [.ref dv, .ref ds, .ref pt, .ref bt, .ref rs])
theorem bw_obj {X : en_X} {D : List Nat} {σ τ : en_S} {S T : Nat → en_B} {q ci : Nat} {fs : List Value} (h : bw_St D σ S τ T) (w : bw_R X D σ S) (hq : q < σ.1) (hl : look σ q = some (.inr (ci, fs))) (hc : ci ≠ 1) : look τ q = some (.inr (ci, fs)) := by
  rw [h.2.1 q hq (fun z => ?_) (fun d hd z => ?_)]
  · exact hl
  · have := (w.1 q z).1
    rw [hl] at this
    cases this
    exact hc rfl
  · have := (w.1 d hd).2.1
    rw [← z, hl] at this
    cases this
theorem vl_2 {d : Nat → Nat} {n : Nat} (hn : 2 ≤ n) : vl d n = (d (n - 1) * BB + d (n - 2)) * BB ^ (n - 2) + vl d (n - 2) := by
  obtain ⟨m, rfl⟩ : ∃ m, n = m + 2 := ⟨n - 2, by omega⟩
  show vl d m + d m * BB ^ m + d (m + 1) * BB ^ (m + 1) = (d (m + 1) * BB + d m) * BB ^ m + vl d m
  rw [Nat.pow_succ, Nat.add_mul, Nat.mul_assoc, Nat.mul_comm BB]; omega
theorem vl_3 {d : Nat → Nat} {n : Nat} (hn : 2 ≤ n) : vl d (n + 1) = ((d n * BB + d (n - 1)) * BB + d (n - 2)) * BB ^ (n - 2) + vl d (n - 2) := by
  obtain ⟨m, rfl⟩ : ∃ m, n = m + 2 := ⟨n - 2, by omega⟩
  show vl d m + d m * BB ^ m + d (m + 1) * BB ^ (m + 1) + d (m + 2) * BB ^ (m + 2) = ((d (m + 2) * BB + d (m + 1)) * BB + d m) * BB ^ m + vl d m
  have e1 : BB ^ (m + 1) = BB ^ m * BB := by rw [Nat.pow_succ]
  have e2 : BB ^ (m + 2) = BB ^ m * BB * BB := by rw [Nat.pow_succ, Nat.pow_succ]
  rw [e1, e2]
  generalize BB ^ m = P
  generalize vl d m = w
  grind
section bench1
variable {X : en_X} {σ : en_S} {D : List Nat} {S : Nat → en_B}
theorem C_guess_loop {ρ : en_S} {b0 n at' v1 v2 un un1 un2 P Vl Ul : Nat} {Q : Option Value → en_S → Prop} (hv1 : v1 < BB) (hvh : BB ≤ 2 * v1) (hv2 : v2 < BB) (hun : un < BB) (hun1 : un1 < BB) (hun2 : un2 < BB) (hVl : Vl < P) (hUl : Ul < P) (hU : ((un * BB + un1) * BB + un2) * P + Ul < ((v1 * BB + v2) * P + Vl) * BB)
    (k : ∀ g, g < BB → ((un * BB + un1) * BB + un2) * P + Ul < (g + 1) * ((v1 * BB + v2) * P + Vl) → g * ((v1 * BB + v2) * P + Vl) ≤ ((un * BB + un1) * BB + un2) * P + Ul + ((v1 * BB + v2) * P + Vl) → Q (some (.long (lN g))) σ) :
    ∀ (t i g rh : Nat), 3 - i = t → i ≤ 3 → g ≤ BB + 2 → g * v1 + rh = un * BB + un1 → i * v1 ≤ rh → rh < 2 * BB → ((un * BB + un1) * BB + un2) * P + Ul < (g + 1) * ((v1 * BB + v2) * P + Vl) →
      WA X M_X0_guessLimb ρ 96 [(15, .int (nI i)), (13, .long (lN rh)), (11, .long (lN g)), (9, .long (lN un2)), (5, .long (lN v2)), (3, .long (lN v1))] [] σ Q := by
  have hB : BB = 1000000000 := rfl
  have hune := kn_D hv2 hVl hU
  intro t
  induction t with
  | zero =>
    intro i g rh ht hi hg hgr hir hrh hlow
    have e : i = 3 := by omega
    subst e
    have hrB : BB ≤ rh := by omega
    have hgB : g < BB := by
      rcases Nat.lt_or_ge g BB with q | q
      · exact q
      · have q1 : BB * v1 ≤ g * v1 := Nat.mul_le_mul_right _ q
        have q2 : un * BB ≤ v1 * BB := Nat.mul_le_mul_right _ hune
        rw [Nat.mul_comm BB] at q1
        omega
    have hexit : Q (some (.long (lN g))) σ := k g hgB hlow (kn_A hgr (by have q1 : g * v2 ≤ BB * BB := Nat.mul_le_mul (by omega) (by omega); have q2 : BB * BB ≤ rh * BB := Nat.mul_le_mul_right _ hrB; omega) hgB (by omega) hVl)
    refine wa_iload q_X0_guessLimb_96 rfl ?_
    refine wa_iconst q_X0_guessLimb_98 (v := nI 4) (by decide) ?_
    refine wn_icmp_ge q_X0_guessLimb_99 (by omega) (by omega) (fun hc => ?_) (fun hc => ?_)
    · refine wa_lload q_X0_guessLimb_159 rfl ?_
      refine wa_lret q_X0_guessLimb_161 rfl ?_
      exact hexit
    · refine wa_lload q_X0_guessLimb_102 rfl ?_
      refine wa_ldc2 q_X0_guessLimb_104 k_RX0_83 ?_
      refine wn_lcmp_ge q_X0_guessLimb_107 q_X0_guessLimb_108 (by omega) (by omega) (fun hd => ?_) (fun hd => ?_)
      · refine wa_lload q_X0_guessLimb_159 rfl ?_
        refine wa_lret q_X0_guessLimb_161 rfl ?_
        exact hexit
      · exact absurd hd (by omega)
  | succ t ih =>
    intro i g rh ht hi hg hgr hir hrh hlow
    refine wa_iload q_X0_guessLimb_96 rfl ?_
    refine wa_iconst q_X0_guessLimb_98 (v := nI 4) (by decide) ?_
    refine wn_icmp_ge q_X0_guessLimb_99 (by omega) (by omega) (fun hc => ?_) (fun hc => ?_)
    · exact absurd hc (by omega)
    · refine wa_lload q_X0_guessLimb_102 rfl ?_
      refine wa_ldc2 q_X0_guessLimb_104 k_RX0_83 ?_
      refine wn_lcmp_ge q_X0_guessLimb_107 q_X0_guessLimb_108 (by omega) (by omega) (fun hd => ?_) (fun hd => ?_)
      · have hrB : BB ≤ rh := by omega
        have hgB : g < BB := by
          rcases Nat.lt_or_ge g BB with q | q
          · exact q
          · have q1 : BB * v1 ≤ g * v1 := Nat.mul_le_mul_right _ q
            have q2 : un * BB ≤ v1 * BB := Nat.mul_le_mul_right _ hune
            rw [Nat.mul_comm BB] at q1
            omega
        refine wa_lload q_X0_guessLimb_159 rfl ?_
        refine wa_lret q_X0_guessLimb_161 rfl ?_
        exact k g hgB hlow (kn_A hgr (by have q1 : g * v2 ≤ BB * BB := Nat.mul_le_mul (by omega) (by omega); have q2 : BB * BB ≤ rh * BB := Nat.mul_le_mul_right _ hrB; omega) hgB (by omega) hVl)
      · have hmend : ((un * BB + un1) * BB + un2) * P + Ul < g * ((v1 * BB + v2) * P + Vl) → WA X M_X0_guessLimb ρ 141 [(15, .int (nI i)), (13, .long (lN rh)), (11, .long (lN g)), (9, .long (lN un2)), (5, .long (lN v2)), (3, .long (lN v1))] [] σ Q := by
          intro hlt
          have hg0 : 1 ≤ g := by
            rcases Nat.eq_zero_or_pos g with z | z
            · rw [z, Nat.zero_mul] at hlt; omega
            · exact z
          refine wa_lload q_X0_guessLimb_141 rfl ?_
          refine wa_lconst q_X0_guessLimb_143 (v := lN 1) (by decide) ?_
          refine wn_lsub q_X0_guessLimb_144 (by omega) ?_
          refine wa_lstore q_X0_guessLimb_145 (by decide) ?_
          refine wa_lload q_X0_guessLimb_147 rfl ?_
          refine wa_lload_n q_X0_guessLimb_149 rfl ?_
          refine wn_ladd q_X0_guessLimb_150 ?_
          refine wa_lstore q_X0_guessLimb_151 (by decide) ?_
          refine wn_iinc q_X0_guessLimb_153 rfl (by decide) ?_
          refine wa_goto q_X0_guessLimb_156 ?_
          refine wa_lv (ih (i + 1) (g - 1) (rh + v1) (by omega) (by omega) (by omega) ?_ ?_ (by omega) ?_) rfl
          · have : g * v1 = (g - 1) * v1 + v1 := by
              conv => lhs; rw [show g = g - 1 + 1 by omega, Nat.add_mul, Nat.one_mul]
            omega
          · rw [Nat.add_mul, Nat.one_mul]; omega
          · rw [Nat.sub_add_cancel hg0]; exact hlt
        refine wa_lload q_X0_guessLimb_111 rfl ?_
        refine wa_ldc2 q_X0_guessLimb_113 k_RX0_83 ?_
        refine wn_lcmp_ge q_X0_guessLimb_116 q_X0_guessLimb_117 (by omega) (by omega) (fun he => ?_) (fun he => ?_)
        · exact wa_lv (hmend (kn_B1 hU (by omega))) rfl
        · have q1 : g * v2 ≤ 999999999 * 999999999 := Nat.mul_le_mul (by omega) (by omega)
          have q2 : rh * 1000000000 + un2 < 1000000000 * 1000000000 := by omega
          refine wa_lload q_X0_guessLimb_120 rfl ?_
          refine wa_lload q_X0_guessLimb_122 rfl ?_
          refine wn_lmul q_X0_guessLimb_124 ?_
          refine wa_lload q_X0_guessLimb_125 rfl ?_
          refine wa_ldc2 q_X0_guessLimb_127 k_RX0_83 ?_
          refine wn_lmul q_X0_guessLimb_130 ?_
          refine wa_lload q_X0_guessLimb_131 rfl ?_
          refine wn_ladd q_X0_guessLimb_133 ?_
          refine wn_lcmp_gt q_X0_guessLimb_134 q_X0_guessLimb_135 (by omega) (by omega) (fun hf => ?_) (fun hf => ?_)
          · exact wa_lv (hmend (kn_B2 hgr (by rw [hB]; exact hf) hUl)) rfl
          · refine wa_goto q_X0_guessLimb_138 ?_
            refine wa_lload q_X0_guessLimb_159 rfl ?_
            refine wa_lret q_X0_guessLimb_161 rfl ?_
            exact k g (by omega) hlow (kn_A hgr (by rw [hB]; exact hf) (by omega) (by omega) hVl)
theorem C_guess {b0 dv ds pt bt rs n j : Nat} (h : bw_R X D σ S) (hb0 : look σ b0 = some (nE dv ds pt bt rs)) (h1 : dv ∈ D) (h2 : ds ∈ D) (hn : (S ds).2.2.1 = n) (hn2 : 2 ≤ n) (hj : n + j < (S dv).2.2.1) (hd : ∀ i, i < (S dv).2.2.1 → (S dv).2.2.2.1 i < BB) (hv : ∀ i, i < n → (S ds).2.2.2.1 i < BB) (htop : BB ≤ 2 * (S ds).2.2.2.1 (n - 1)) (hU : vl (fun i => (S dv).2.2.2.1 (j + i)) (n + 1) < vl (S ds).2.2.2.1 n * BB) :
    Calls X M_X0_guessLimb [.ref b0, .int (nI n), .int (nI (n + j))] σ (fun res τ => (∃ g, res = some (.long (lN g)) ∧ g < BB ∧ vl (fun i => (S dv).2.2.2.1 (j + i)) (n + 1) < (g + 1) * vl (S ds).2.2.2.1 n ∧ g * vl (S ds).2.2.2.1 n ≤ vl (fun i => (S dv).2.2.2.1 (j + i)) (n + 1) + vl (S ds).2.2.2.1 n) ∧ τ = σ) := by
  obtain ⟨a1, a2, a3, a4, a5, a6, a7⟩ := h.1 dv h1
  obtain ⟨c1, c2, c3, c4, c5, c6, c7⟩ := h.1 ds h2
  rw [hn] at c1 c3
  have hB : BB = 1000000000 := rfl
  have l0 := hd (n + j) (by omega)
  have l1 := hd (n + j - 1) (by omega)
  have l2 := hd (n + j - 2) (by omega)
  have w1 := hv (n - 1) (by omega)
  have w2 := hv (n - 2) (by omega)
  have hUl : vl (fun i => (S dv).2.2.2.1 (j + i)) (n - 2) < BB ^ (n - 2) := vl_lt (fun i hi => hd _ (by omega))
  have hVl : vl (S ds).2.2.2.1 (n - 2) < BB ^ (n - 2) := vl_lt (fun i hi => hv _ (by omega))
  rw [vl_3 hn2, vl_2 hn2, show j + n = n + j by omega, show j + (n - 1) = n + j - 1 by omega, show j + (n - 2) = n + j - 2 by omega] at hU ⊢
  have hune := kn_D w2 hVl hU
  refine Calls.of rfl (lk rfl) ?_
  refine wa_aload_n q_X0_guessLimb_0 rfl ?_
  refine wa_getf q_X0_guessLimb_1 f_RX0_18 (by assumption) rfl ?_
  refine wa_getf q_X0_guessLimb_4 f_RX0_69 (by assumption) rfl ?_
  refine wa_iload_n q_X0_guessLimb_7 rfl ?_
  refine wa_iconst q_X0_guessLimb_8 (v := nI 1) (by decide) ?_
  refine wn_isub q_X0_guessLimb_9 (by omega) ?_
  refine wn_iald q_X0_guessLimb_10 (by assumption) (by omega) (by omega) ?_
  refine wn_i2l q_X0_guessLimb_11 (by omega) ?_
  refine wa_lstore_n q_X0_guessLimb_12 (by decide) ?_
  refine wa_aload_n q_X0_guessLimb_13 rfl ?_
  refine wa_getf q_X0_guessLimb_14 f_RX0_18 (by assumption) rfl ?_
  refine wa_getf q_X0_guessLimb_17 f_RX0_69 (by assumption) rfl ?_
  refine wa_iload_n q_X0_guessLimb_20 rfl ?_
  refine wa_iconst q_X0_guessLimb_21 (v := nI 2) (by decide) ?_
  refine wn_isub q_X0_guessLimb_22 (by omega) ?_
  refine wn_iald q_X0_guessLimb_23 (by assumption) (by omega) (by omega) ?_
  refine wn_i2l q_X0_guessLimb_24 (by omega) ?_
  refine wa_lstore q_X0_guessLimb_25 (by decide) ?_
  refine wa_lload_n q_X0_guessLimb_27 rfl ?_
  refine wa_lconst q_X0_guessLimb_28 (v := lN 0) (by decide) ?_
  refine wn_lcmp_gt q_X0_guessLimb_29 q_X0_guessLimb_30 (by omega) (by omega) (fun hc => ?_) (fun hc => ?_)
  · refine wa_aload_n q_X0_guessLimb_35 rfl ?_
    refine wa_getf q_X0_guessLimb_36 f_RX0_12 (by assumption) rfl ?_
    refine wa_getf q_X0_guessLimb_39 f_RX0_69 (by assumption) rfl ?_
    refine wa_iload_n q_X0_guessLimb_42 rfl ?_
    refine wn_iald q_X0_guessLimb_43 (by assumption) (by omega) (by omega) ?_
    refine wn_i2l q_X0_guessLimb_44 (by omega) ?_
    refine wa_ldc2 q_X0_guessLimb_45 k_RX0_83 ?_
    refine wn_lmul q_X0_guessLimb_48 ?_
    refine wa_aload_n q_X0_guessLimb_49 rfl ?_
    refine wa_getf q_X0_guessLimb_50 f_RX0_12 (by assumption) rfl ?_
    refine wa_getf q_X0_guessLimb_53 f_RX0_69 (by assumption) rfl ?_
    refine wa_iload_n q_X0_guessLimb_56 rfl ?_
    refine wa_iconst q_X0_guessLimb_57 (v := nI 1) (by decide) ?_
    refine wn_isub q_X0_guessLimb_58 (by omega) ?_
    refine wn_iald q_X0_guessLimb_59 (by assumption) (by omega) (by omega) ?_
    refine wn_i2l q_X0_guessLimb_60 (by omega) ?_
    refine wn_ladd q_X0_guessLimb_61 ?_
    refine wa_lstore q_X0_guessLimb_62 (by decide) ?_
    refine wa_aload_n q_X0_guessLimb_64 rfl ?_
    refine wa_getf q_X0_guessLimb_65 f_RX0_12 (by assumption) rfl ?_
    refine wa_getf q_X0_guessLimb_68 f_RX0_69 (by assumption) rfl ?_
    refine wa_iload_n q_X0_guessLimb_71 rfl ?_
    refine wa_iconst q_X0_guessLimb_72 (v := nI 2) (by decide) ?_
    refine wn_isub q_X0_guessLimb_73 (by omega) ?_
    refine wn_iald q_X0_guessLimb_74 (by assumption) (by omega) (by omega) ?_
    refine wn_i2l q_X0_guessLimb_75 (by omega) ?_
    refine wa_lstore q_X0_guessLimb_76 (by decide) ?_
    refine wa_lload q_X0_guessLimb_78 rfl ?_
    refine wa_lload_n q_X0_guessLimb_80 rfl ?_
    generalize (S dv).2.2.2.1 (n + j) = un at *
    generalize (S dv).2.2.2.1 (n + j - 1) = un1 at *
    generalize (S dv).2.2.2.1 (n + j - 2) = un2 at *
    generalize (S ds).2.2.2.1 (n - 1) = v1 at *
    generalize (S ds).2.2.2.1 (n - 2) = v2 at *
    have htl : un * 1000000000 + un1 < 2 ^ 63 := by omega
    refine wn_ldiv q_X0_guessLimb_81 htl (by omega) (by omega) ?_
    refine wa_lstore q_X0_guessLimb_82 (by decide) ?_
    refine wa_lload q_X0_guessLimb_84 rfl ?_
    refine wa_lload q_X0_guessLimb_86 rfl ?_
    refine wa_lload_n q_X0_guessLimb_88 rfl ?_
    refine wn_lmul q_X0_guessLimb_89 ?_
    have hdm := Nat.div_add_mod (un * 1000000000 + un1) v1
    have hml := Nat.mod_lt (un * 1000000000 + un1) (show 0 < v1 by omega)
    have hle : (un * 1000000000 + un1) / v1 * v1 ≤ un * 1000000000 + un1 := Nat.div_mul_le_self _ _
    refine wn_lsub q_X0_guessLimb_90 hle ?_
    have hsub : un * 1000000000 + un1 - (un * 1000000000 + un1) / v1 * v1 = (un * 1000000000 + un1) % v1 := by rw [Nat.mul_comm ((un * 1000000000 + un1) / v1)]; omega
    rw [hsub]
    have hC := kn_C (b := BB) (v1 := v1) (v2 := v2) (un := un) (un1 := un1) (Vl := vl (S ds).2.2.2.1 (n - 2)) (show 0 < v1 by omega) l2 hUl
    have hgb : (un * 1000000000 + un1) / v1 ≤ BB + 2 := by
      refine Nat.div_le_of_le_mul ?_
      have q1 : v1 * (BB + 2) = v1 * BB + v1 * 2 := Nat.mul_add _ _ _
      have q2 : un * BB ≤ v1 * BB := Nat.mul_le_mul_right _ hune
      have q3 : un * BB = un * 1000000000 := rfl
      omega
    refine wa_lstore q_X0_guessLimb_91 (by decide) ?_
    refine wa_iconst q_X0_guessLimb_93 (v := nI 0) (by decide) ?_
    refine wa_istore q_X0_guessLimb_94 (by decide) ?_
    refine wa_lv (C_guess_loop (b0 := b0) (n := n) (at' := 0) w1 htop w2 l0 l1 l2 hVl hUl hU ?_ _ 0 ((un * 1000000000 + un1) / v1) ((un * 1000000000 + un1) % v1) rfl (Nat.zero_le _) hgb ?_ (by omega) (by omega) hC) rfl
    · intro g g1 g2 g3
      exact ⟨⟨g, rfl, g1, g2, g3⟩, rfl⟩
    · show _ = un * 1000000000 + un1
      rw [Nat.mul_comm]; exact hdm
  · exact absurd hc (by omega)
theorem C_give_loop {ρ σ0 : en_S} {b0 dv ds pt bt rs r rd n j m nd nn : Nat} {d e : Nat → Nat} {sg sgd : Int32} {Q : Option Value → en_S → Prop} (hnn : nn ≤ 512) (hm : m ≤ nn) (hj : n + j < m) (hnd : nd ≤ 512) (hsd : n ≤ nd) (hd : ∀ i, i < n → d (j + i) < BB) (he : ∀ i, i < n → e i < BB) (kb : look σ0 b0 = some (nE dv ds pt bt rs)) (kv : look σ0 dv = some (bE sg m r)) (ks : look σ0 ds = some (bE sgd n rd)) (kd : look σ0 rd = some (ar X nd e)) (hbr : b0 ≠ r) (hvr : dv ≠ r) (hsr : ds ≠ r) (hrr : rd ≠ r)
    (k : ∀ (σ1 : en_S) (d1 : Nat → Nat) (c : Nat), look σ1 r = some (ar X nn d1) → c ≤ 1 → (∀ i, i < n → d1 (j + i) < BB) → vl (fun i => d1 (j + i)) n + c * BB ^ n = vl (fun i => d (j + i)) n + vl e n → (∀ q, q < j ∨ j + n ≤ q → d1 q = d q) → (∀ q, q ≠ r → look σ1 q = look σ0 q) → σ1.1 = σ0.1 → σ1.2.1 = σ0.2.1 → WA X M_X0_giveBack ρ 76 [(3, .int (nI c)), (2, .int (nI j)), (1, .int (nI n)), (0, .ref b0)] [] σ1 Q) :
    ∀ (t i c : Nat) (σ : en_S) (d1 : Nat → Nat), n - i = t → i ≤ n → c ≤ 1 → look σ r = some (ar X nn d1) → (∀ q, q < i → d1 (j + q) < BB) → vl (fun q => d1 (j + q)) i + c * BB ^ i = vl (fun q => d (j + q)) i + vl e i → (∀ q, q < j ∨ j + i ≤ q → d1 q = d q) → (∀ q, q ≠ r → look σ q = look σ0 q) → σ.1 = σ0.1 → σ.2.1 = σ0.2.1 →
      WA X M_X0_giveBack ρ 5 [(4, .int (nI i)), (3, .int (nI c)), (2, .int (nI j)), (1, .int (nI n)), (0, .ref b0)] [] σ Q := by
  have hB : BB = 1000000000 := rfl
  intro t
  induction t with
  | zero =>
    intro i c σ d1 ht hi hc hr h1 h2 h3 h4 h5 h6
    have e : i = n := by omega
    subst e
    refine wa_iload q_X0_giveBack_5 rfl ?_
    refine wa_iload_n q_X0_giveBack_7 rfl ?_
    refine wn_icmp_ge q_X0_giveBack_8 (by omega) (by omega) (fun hx => ?_) (fun hx => ?_)
    · exact wa_lv (k σ d1 c hr hc h1 h2 h3 h4 h5 h6) rfl
    · exact absurd hx (by omega)
  | succ t ih =>
    intro i c σ d1 ht hi hc hr h1 h2 h3 h4 h5 h6
    have hb := (h4 b0 hbr).trans kb
    have hv := (h4 dv hvr).trans kv
    have hs := (h4 ds hsr).trans ks
    have hrd := (h4 rd hrr).trans kd
    have hdi : d1 (i + j) = d (j + i) := by rw [Nat.add_comm]; exact h3 _ (Or.inr (Nat.le_refl _))
    have hdl := hd i (by omega)
    have hel := he i (by omega)
    refine wa_iload q_X0_giveBack_5 rfl ?_
    refine wa_iload_n q_X0_giveBack_7 rfl ?_
    refine wn_icmp_ge q_X0_giveBack_8 (by omega) (by omega) (fun hx => ?_) (fun hx => ?_)
    · exact absurd hx (by omega)
    · refine wa_aload_n q_X0_giveBack_11 rfl ?_
      refine wa_getf q_X0_giveBack_12 f_RX0_12 (by assumption) rfl ?_
      refine wa_getf q_X0_giveBack_15 f_RX0_69 (by assumption) rfl ?_
      refine wa_iload q_X0_giveBack_18 rfl ?_
      refine wa_iload_n q_X0_giveBack_20 rfl ?_
      refine wn_iadd q_X0_giveBack_21 ?_
      refine wn_iald q_X0_giveBack_22 (by assumption) (by omega) (by omega) ?_
      refine wa_aload_n q_X0_giveBack_23 rfl ?_
      refine wa_getf q_X0_giveBack_24 f_RX0_18 (by assumption) rfl ?_
      refine wa_getf q_X0_giveBack_27 f_RX0_69 (by assumption) rfl ?_
      refine wa_iload q_X0_giveBack_30 rfl ?_
      refine wn_iald q_X0_giveBack_32 (by assumption) (by omega) (by omega) ?_
      rw [hdi]
      refine wn_iadd q_X0_giveBack_33 ?_
      refine wa_iload_n q_X0_giveBack_34 rfl ?_
      refine wn_iadd q_X0_giveBack_35 ?_
      refine wa_istore q_X0_giveBack_36 (by decide) ?_
      have hk : ∀ c', (c' = 1 ∧ 1000000000 ≤ d (j + i) + e i + c) ∨ (c' = 0 ∧ d (j + i) + e i + c < 1000000000) → WA X M_X0_giveBack ρ 50 [(5, .int (nI (d (j + i) + e i + c))), (4, .int (nI i)), (2, .int (nI j)), (1, .int (nI n)), (0, .ref b0)] [.int (nI c')] σ Q := by
        intro c' hc'
        have hcc : c' * 1000000000 ≤ d (j + i) + e i + c := by omega
        refine wa_istore_n q_X0_giveBack_50 (by decide) ?_
        refine wa_aload_n q_X0_giveBack_51 rfl ?_
        refine wa_getf q_X0_giveBack_52 f_RX0_12 (by assumption) rfl ?_
        refine wa_getf q_X0_giveBack_55 f_RX0_69 (by assumption) rfl ?_
        refine wa_iload q_X0_giveBack_58 rfl ?_
        refine wa_iload_n q_X0_giveBack_60 rfl ?_
        refine wn_iadd q_X0_giveBack_61 ?_
        refine wa_iload q_X0_giveBack_62 rfl ?_
        refine wa_iload_n q_X0_giveBack_64 rfl ?_
        refine wa_ldc q_X0_giveBack_65 k_RX0_61 ?_
        refine wn_imul q_X0_giveBack_67 ?_
        refine wn_isub q_X0_giveBack_68 (by omega) ?_
        refine wn_iast q_X0_giveBack_69 (by assumption) (by omega) (by omega) (fun σ_hr1 hr1 f_hr1 e1_hr1 e2_hr1 => ?_)
        refine wn_iinc q_X0_giveBack_70 rfl (by decide) ?_
        refine wa_goto q_X0_giveBack_73 ?_
        refine wa_lv (ih (i + 1) c' σ_hr1 _ (by omega) (by omega) (by omega) hr1 (fun q hq => ?_) ?_ (fun q hq => ?_) (fun q hq => (f_hr1 q hq).trans (h4 q hq)) (by omega) (by omega)) rfl
        · by_cases eq : q = i
          · rw [eq]; show (if j + i = i + j then _ else _) < BB; rw [if_pos (by omega)]; omega
          · rw [un_n (by omega)]; exact h1 q (by omega)
        · have e1 : vl (fun q => un d1 (i + j) (d (j + i) + e i + c - c' * 1000000000) (j + q)) (i + 1) = vl (fun q => d1 (j + q)) i + (d (j + i) + e i + c - c' * 1000000000) * BB ^ i := by
            show vl _ i + un _ _ _ (j + i) * _ = _
            rw [Nat.add_comm j i, un_s, vl_congr (e := fun q => d1 (j + q)) (fun q hq => un_n (by omega))]
          have e2 : vl (fun q => d (j + q)) (i + 1) = vl (fun q => d (j + q)) i + d (j + i) * BB ^ i := rfl
          have e3 : vl e (i + 1) = vl e i + e i * BB ^ i := rfl
          have e4 : d (j + i) + e i + c - c' * 1000000000 + c' * 1000000000 = d (j + i) + e i + c := by omega
          rw [e1, e2, e3, Nat.pow_succ, hB]
          rw [hB] at h2
          generalize d (j + i) + e i + c - c' * 1000000000 = ww at *
          grind
        · rw [un_n (by omega)]; exact h3 q (by omega)
      refine wa_iload q_X0_giveBack_38 rfl ?_
      refine wa_ldc q_X0_giveBack_40 k_RX0_61 ?_
      refine wn_icmp_lt q_X0_giveBack_42 (by omega) (by omega) (fun hy => ?_) (fun hy => ?_)
      · refine wa_iconst q_X0_giveBack_49 (v := nI 0) (by decide) ?_
        exact wa_lv (hk 0 (Or.inr ⟨rfl, hy⟩)) rfl
      · refine wa_iconst q_X0_giveBack_45 (v := nI 1) (by decide) ?_
        refine wa_goto q_X0_giveBack_46 ?_
        exact wa_lv (hk 1 (Or.inl ⟨rfl, hy⟩)) rfl
/-- the divisor is added to the window; the limb above it takes the carry -/
theorem C_give {b0 dv ds pt bt rs n j : Nat} (h : bw_R X D σ S) (hb0 : look σ b0 = some (nE dv ds pt bt rs)) (h1 : dv ∈ D) (h2 : ds ∈ D) (hne : dv ≠ ds) (hn : (S ds).2.2.1 = n) (hj : n + j < (S dv).2.2.1) (hd : ∀ i, i < n → (S dv).2.2.2.1 (j + i) < BB) (hv : ∀ i, i < n → (S ds).2.2.2.1 i < BB) :
    Calls X M_X0_giveBack [.ref b0, .int (nI n), .int (nI j)] σ (fun res τ => res = none ∧ ∃ (d1 : Nat → Nat) (c : Nat), c ≤ 1 ∧ (∀ i, i < n → d1 (j + i) < BB) ∧ vl (fun i => d1 (j + i)) n + c * BB ^ n = vl (fun i => (S dv).2.2.2.1 (j + i)) n + vl (S ds).2.2.2.1 n ∧ d1 (n + j) = (S dv).2.2.2.1 (n + j) + c ∧ (∀ q, q < j ∨ j + n < q → d1 q = (S dv).2.2.2.1 q) ∧ bw_R X D τ (uB S dv ((S dv).1, (S dv).2.1, (S dv).2.2.1, d1, (S dv).2.2.2.2)) ∧ bw_St D σ S τ (uB S dv ((S dv).1, (S dv).2.1, (S dv).2.2.1, d1, (S dv).2.2.2.2))) := by
  obtain ⟨a1, a2, a3, a4, a5, a6, a7⟩ := h.1 dv h1
  obtain ⟨c1, c2, c3, c4, c5, c6, c7⟩ := h.1 ds h2
  rw [hn] at c1 c3
  have hbr := ne_oa hb0 a2
  have hvr := ne_oa a1 a2
  have hsr := ne_oa c1 a2
  have hrr : (S ds).1 ≠ (S dv).1 := fun z => hne (h.2 ds h2 dv h1 z).symm
  refine Calls.of rfl (lk rfl) ?_
  refine wa_iconst q_X0_giveBack_0 (v := nI 0) (by decide) ?_
  refine wa_istore_n q_X0_giveBack_1 (by decide) ?_
  refine wa_iconst q_X0_giveBack_2 (v := nI 0) (by decide) ?_
  refine wa_istore q_X0_giveBack_3 (by decide) ?_
  refine wa_lv (C_give_loop (σ0 := σ) a5 a3 hj c5 c3 hd hv hb0 a1 c1 c2 hbr hvr hsr hrr ?_ _ 0 0 σ _ rfl (Nat.zero_le _) (Nat.zero_le _) a2 (fun q hq => absurd hq (by omega)) (by simp [vl]) (fun _ _ => rfl) (fun _ _ => rfl) rfl rfl) rfl
  intro σ1 d1 c g1 g2 g3 g4 g5 g6 g7 g8
  have hb := (g6 b0 hbr).trans hb0
  have hv1 := (g6 dv hvr).trans a1
  refine wa_aload_n q_X0_giveBack_76 rfl ?_
  refine wa_getf q_X0_giveBack_77 f_RX0_12 (by assumption) rfl ?_
  refine wa_getf q_X0_giveBack_80 f_RX0_69 (by assumption) rfl ?_
  refine wa_iload_n q_X0_giveBack_83 rfl ?_
  refine wa_iload_n q_X0_giveBack_84 rfl ?_
  refine wn_iadd q_X0_giveBack_85 ?_
  refine wa_dup2 q_X0_giveBack_86 rfl rfl ?_
  refine wn_iald q_X0_giveBack_87 (by assumption) (by omega) (by omega) ?_
  refine wa_iload_n q_X0_giveBack_88 rfl ?_
  refine wn_iadd q_X0_giveBack_89 ?_
  refine wn_iast q_X0_giveBack_90 (by assumption) (by omega) (by omega) (fun σ_hr1 hr1 f_hr1 e1_hr1 e2_hr1 => ?_)
  refine wa_vret q_X0_giveBack_91 rfl ?_
  have st := bw_R.keep (τ := σ_hr1) (a := dv) h h1 ((f_hr1 dv hvr).trans hv1) hr1 a3 (fun q q2 q3 => (f_hr1 q q3).trans (g6 q q3)) (by omega) (by omega)
  refine ⟨rfl, _, c, g2, fun i hi => ?_, ?_, ?_, fun q hq => ?_, st.1, st.2⟩
  · rw [un_n (by omega)]; exact g3 i hi
  · rw [vl_congr (e := fun i => d1 (j + i)) (fun i hi => un_n (by omega))]; exact g4
  · rw [un_s, g5 _ (Or.inr (by omega))]
  · rw [un_n (by omega)]; exact g5 q (by omega)
end bench1
end
section
/-! EnclosedDigits$Bench: takeAway -/
theorem ar_eq {X : en_X} {n : Nat} {d e : Nat → Nat} (h : ∀ i, nI (d i) = nI (e i)) : ar X n d = ar X n e := by
  unfold ar
  rw [show (fun i => nI (d i)) = (fun i => nI (e i)) from funext h]
theorem tk_step {g v c w q p l c' : Nat} (hg : g < BB) (hv : v < BB) (hc : c < BB) (hw : w < BB) (hq : q = (g * v + c) / BB) (hp : p = g * v + c - q * BB) (h : (p ≤ w ∧ l = w - p ∧ c' = q) ∨ (w < p ∧ l = w + BB - p ∧ c' = q + 1)) : l < BB ∧ c' < BB ∧ l + (g * v + c) = w + c' * BB := by
  have hB : BB = 1000000000 := rfl
  have h1 : g * v ≤ 999999999 * 999999999 := Nat.mul_le_mul (by omega) (by omega)
  have h2 := Nat.div_add_mod (g * v + c) BB
  have h3 := Nat.mod_lt (g * v + c) BB_pos
  rw [← hq] at h2
  have h4 : BB * q = q * BB := Nat.mul_comm _ _
  have h5 : (q + 1) * BB = q * BB + BB := by rw [Nat.add_mul, Nat.one_mul]
  have h6 : q ≤ 999999999 := by
    rcases Nat.lt_or_ge 999999999 q with z | z
    · have : 1000000000 * BB ≤ q * BB := Nat.mul_le_mul_right _ z
      omega
    · exact z
  rcases h with ⟨a, b, e⟩ | ⟨a, b, e⟩
  · subst e; refine ⟨by omega, by omega, by omega⟩
  · subst e
    refine ⟨by omega, ?_, by omega⟩
    rcases Nat.lt_or_ge q 999999999 with z | z
    · omega
    · have z : q = 999999999 := by omega
      rw [z] at h2 h4 hp
      have : (999999999 : Nat) * BB = 999999999000000000 := rfl
      omega
section bench2
variable {X : en_X} {σ : en_S} {D : List Nat} {S : Nat → en_B}
theorem C_take_loop {ρ σ0 : en_S} {b0 dv ds pt bt rs r rd n j m nd nn g : Nat} {d e : Nat → Nat} {sg sgd : Int32} {Q : Option Value → en_S → Prop} (hnn : nn ≤ 512) (hm : m ≤ nn) (hj : n + j < m) (hnd : nd ≤ 512) (hsd : n ≤ nd) (hg : g < BB) (hd : ∀ i, i < n → d (j + i) < BB) (he : ∀ i, i < n → e i < BB) (kb : look σ0 b0 = some (nE dv ds pt bt rs)) (kv : look σ0 dv = some (bE sg m r)) (ks : look σ0 ds = some (bE sgd n rd)) (kd : look σ0 rd = some (ar X nd e)) (hbr : b0 ≠ r) (hvr : dv ≠ r) (hsr : ds ≠ r) (hrr : rd ≠ r)
    (k : ∀ (σ1 : en_S) (d1 : Nat → Nat) (c : Nat), look σ1 r = some (ar X nn d1) → c < BB → (∀ i, i < n → d1 (j + i) < BB) → vl (fun i => d1 (j + i)) n + g * vl e n = vl (fun i => d (j + i)) n + c * BB ^ n → (∀ q, q < j ∨ j + n ≤ q → d1 q = d q) → (∀ q, q ≠ r → look σ1 q = look σ0 q) → σ1.1 = σ0.1 → σ1.2.1 = σ0.2.1 → WA X M_X0_takeAway ρ 142 [(5, .long (lN c)), (3, .long (lN g)), (2, .int (nI n)), (1, .int (nI j)), (0, .ref b0)] [] σ1 Q) :
    ∀ (t i c : Nat) (σ : en_S) (d1 : Nat → Nat), n - i = t → i ≤ n → c < BB → look σ r = some (ar X nn d1) → (∀ q, q < i → d1 (j + q) < BB) → vl (fun q => d1 (j + q)) i + g * vl e i = vl (fun q => d (j + q)) i + c * BB ^ i → (∀ q, q < j ∨ j + i ≤ q → d1 q = d q) → (∀ q, q ≠ r → look σ q = look σ0 q) → σ.1 = σ0.1 → σ.2.1 = σ0.2.1 →
      WA X M_X0_takeAway ρ 43 [(7, .int (nI i)), (5, .long (lN c)), (3, .long (lN g)), (2, .int (nI n)), (1, .int (nI j)), (0, .ref b0)] [] σ Q := by
  have hB : BB = 1000000000 := rfl
  intro t
  induction t with
  | zero =>
    intro i c σ d1 ht hi hc hr h1 h2 h3 h4 h5 h6
    have e : i = n := by omega
    subst e
    refine wa_iload q_X0_takeAway_43 rfl ?_
    refine wa_iload_n q_X0_takeAway_45 rfl ?_
    refine wn_icmp_ge q_X0_takeAway_46 (by omega) (by omega) (fun hx => ?_) (fun hx => ?_)
    · exact wa_lv (k σ d1 c hr hc h1 h2 h3 h4 h5 h6) rfl
    · exact absurd hx (by omega)
  | succ t ih =>
    intro i c σ d1 ht hi hc hr h1 h2 h3 h4 h5 h6
    have hb := (h4 b0 hbr).trans kb
    have hv := (h4 dv hvr).trans kv
    have hs := (h4 ds hsr).trans ks
    have hrd := (h4 rd hrr).trans kd
    have hdi : d1 (i + j) = d (j + i) := by rw [Nat.add_comm]; exact h3 _ (Or.inr (Nat.le_refl _))
    have hdl := hd i (by omega)
    have hel := he i (by omega)
    have hprod : g * e i ≤ 999999999 * 999999999 := Nat.mul_le_mul (by omega) (by omega)
    refine wa_iload q_X0_takeAway_43 rfl ?_
    refine wa_iload_n q_X0_takeAway_45 rfl ?_
    refine wn_icmp_ge q_X0_takeAway_46 (by omega) (by omega) (fun hx => ?_) (fun hx => ?_)
    · exact absurd hx (by omega)
    · refine wa_lload_n q_X0_takeAway_49 rfl ?_
      refine wa_aload_n q_X0_takeAway_50 rfl ?_
      refine wa_getf q_X0_takeAway_51 f_RX0_18 (by assumption) rfl ?_
      refine wa_getf q_X0_takeAway_54 f_RX0_69 (by assumption) rfl ?_
      refine wa_iload q_X0_takeAway_57 rfl ?_
      refine wn_iald q_X0_takeAway_59 (by assumption) (by omega) (by omega) ?_
      refine wn_i2l q_X0_takeAway_60 (by omega) ?_
      refine wn_lmul q_X0_takeAway_61 ?_
      refine wa_lload q_X0_takeAway_62 rfl ?_
      refine wn_ladd q_X0_takeAway_64 ?_
      refine wa_lstore q_X0_takeAway_65 (by decide) ?_
      refine wa_lload q_X0_takeAway_67 rfl ?_
      refine wa_ldc2 q_X0_takeAway_69 k_RX0_83 ?_
      refine wn_ldiv q_X0_takeAway_72 (by omega) (by omega) (by omega) ?_
      refine wa_lstore q_X0_takeAway_73 (by decide) ?_
      refine wa_aload_n q_X0_takeAway_75 rfl ?_
      refine wa_getf q_X0_takeAway_76 f_RX0_12 (by assumption) rfl ?_
      refine wa_getf q_X0_takeAway_79 f_RX0_69 (by assumption) rfl ?_
      refine wa_iload q_X0_takeAway_82 rfl ?_
      refine wa_iload_n q_X0_takeAway_84 rfl ?_
      refine wn_iadd q_X0_takeAway_85 ?_
      refine wn_iald q_X0_takeAway_86 (by assumption) (by omega) (by omega) ?_
      rw [hdi]
      refine wn_i2l q_X0_takeAway_87 (by omega) ?_
      refine wa_lload q_X0_takeAway_88 rfl ?_
      refine wa_lload q_X0_takeAway_90 rfl ?_
      refine wa_ldc2 q_X0_takeAway_92 k_RX0_83 ?_
      refine wn_lmul q_X0_takeAway_95 ?_
      have hle : (g * e i + c) / 1000000000 * 1000000000 ≤ g * e i + c := Nat.div_mul_le_self _ _
      refine wn_lsub q_X0_takeAway_96 hle ?_
      refine wa_lsub q_X0_takeAway_97 ?_
      have hpb : g * e i + c - (g * e i + c) / 1000000000 * 1000000000 < 1000000000 := by
        have := Nat.div_add_mod (g * e i + c) 1000000000
        have := Nat.mod_lt (g * e i + c) (show 0 < 1000000000 by decide)
        omega
      rw [show lN (d (j + i)) - lN (g * e i + c - (g * e i + c) / 1000000000 * 1000000000) = lZ ((d (j + i) : Int) - (g * e i + c - (g * e i + c) / 1000000000 * 1000000000 : Nat)) by rw [lN_lZ, lN_lZ, lZ_sub]]
      refine wa_lstore q_X0_takeAway_98 (by decide) ?_
      have hk : ∀ l c', ((g * e i + c - (g * e i + c) / 1000000000 * 1000000000 ≤ d (j + i) ∧ l = d (j + i) - (g * e i + c - (g * e i + c) / 1000000000 * 1000000000) ∧ c' = (g * e i + c) / 1000000000) ∨ (d (j + i) < g * e i + c - (g * e i + c) / 1000000000 * 1000000000 ∧ l = d (j + i) + BB - (g * e i + c - (g * e i + c) / 1000000000 * 1000000000) ∧ c' = (g * e i + c) / 1000000000 + 1)) → WA X M_X0_takeAway ρ 121 [(10, .long (lN l)), (7, .int (nI i)), (5, .long (lN c')), (3, .long (lN g)), (2, .int (nI n)), (1, .int (nI j)), (0, .ref b0)] [] σ Q := by
        intro l c' hl
        obtain ⟨t1, t2, t3⟩ := tk_step hg hel hc hdl rfl rfl hl
        clear hl
        refine wa_aload_n q_X0_takeAway_121 rfl ?_
        refine wa_getf q_X0_takeAway_122 f_RX0_12 (by assumption) rfl ?_
        refine wa_getf q_X0_takeAway_125 f_RX0_69 (by assumption) rfl ?_
        refine wa_iload q_X0_takeAway_128 rfl ?_
        refine wa_iload_n q_X0_takeAway_130 rfl ?_
        refine wn_iadd q_X0_takeAway_131 ?_
        refine wa_lload q_X0_takeAway_132 rfl ?_
        refine wn_l2i q_X0_takeAway_134 ?_
        refine wn_iast q_X0_takeAway_135 (by assumption) (by omega) (by omega) (fun σ_hr1 hr1 f_hr1 e1_hr1 e2_hr1 => ?_)
        refine wn_iinc q_X0_takeAway_136 rfl (by decide) ?_
        refine wa_goto q_X0_takeAway_139 ?_
        refine wa_lv (ih (i + 1) c' σ_hr1 _ (by omega) (by omega) t2 hr1 (fun q hq => ?_) ?_ (fun q hq => ?_) (fun q hq => (f_hr1 q hq).trans (h4 q hq)) (by omega) (by omega)) rfl
        · by_cases eq : q = i
          · rw [eq]; show (if j + i = i + j then _ else _) < BB; rw [if_pos (by omega)]; exact t1
          · rw [un_n (by omega)]; exact h1 q (by omega)
        · have e1 : vl (fun q => un d1 (i + j) l (j + q)) (i + 1) = vl (fun q => d1 (j + q)) i + l * BB ^ i := by
            show vl _ i + un _ _ _ (j + i) * _ = _
            rw [Nat.add_comm j i, un_s, vl_congr (e := fun q => d1 (j + q)) (fun q hq => un_n (by omega))]
          have e2 : vl (fun q => d (j + q)) (i + 1) = vl (fun q => d (j + q)) i + d (j + i) * BB ^ i := rfl
          have e3 : vl e (i + 1) = vl e i + e i * BB ^ i := rfl
          rw [e1, e2, e3, Nat.pow_succ]
          generalize vl (fun q => d1 (j + q)) i = A at *
          generalize vl (fun q => d (j + q)) i = A2 at *
          generalize vl e i = A3 at *
          generalize BB ^ i = P at *
          grind
        · rw [un_n (by omega)]; exact h3 q (by omega)
      generalize hpp : g * e i + c - (g * e i + c) / 1000000000 * 1000000000 = p at *
      refine wa_lload q_X0_takeAway_100 rfl ?_
      refine wa_lconst q_X0_takeAway_102 (v := lN 0) (by decide) ?_
      refine wa_lcmp q_X0_takeAway_103 ?_
      refine wa_if_ge q_X0_takeAway_104 (fun hge => ?_) (fun hge => ?_)
      · rw [lg_cmp_ge, lN_lZ, lZ_le (by decide) (by decide) (by omega) (by omega)] at hge
        have h0 : ((0 : Nat) : Int) = 0 := rfl
        rw [show lZ ((d (j + i) : Int) - (p : Nat)) = lN (d (j + i) - p) by rw [lN_lZ]; congr 1; omega]
        exact wa_lv (hk (d (j + i) - p) ((g * e i + c) / 1000000000) (Or.inl ⟨by omega, rfl, rfl⟩)) rfl
      · rw [lg_cmp_ge, lN_lZ, lZ_le (by decide) (by decide) (by omega) (by omega)] at hge
        have h0 : ((0 : Nat) : Int) = 0 := rfl
        refine wa_lload q_X0_takeAway_107 rfl ?_
        refine wa_ldc2 q_X0_takeAway_109 k_RX0_83 ?_
        refine wa_ladd q_X0_takeAway_112 ?_
        rw [show lZ ((d (j + i) : Int) - (p : Nat)) + lN 1000000000 = lN (d (j + i) + 1000000000 - p) by rw [lN_lZ, lN_lZ, lZ_add]; congr 1; omega]
        refine wa_lstore q_X0_takeAway_113 (by decide) ?_
        refine wa_lload q_X0_takeAway_115 rfl ?_
        refine wa_lconst q_X0_takeAway_117 (v := lN 1) (by decide) ?_
        refine wn_ladd q_X0_takeAway_118 ?_
        refine wa_lstore q_X0_takeAway_119 (by decide) ?_
        exact wa_lv (hk (d (j + i) + 1000000000 - p) ((g * e i + c) / 1000000000 + 1) (Or.inr ⟨by omega, rfl, rfl⟩)) rfl
theorem tk_end {A W V Wn U P g c : Nat} (h1 : A + g * V = W + c * P) (hU : U = W + Wn * P) (hA : A < P) (hV : V ≤ P) (hV2 : V < P) (hlow : U < (g + 1) * V) (hup : g * V ≤ U + V) : (g * V ≤ U ∧ c = Wn ∧ A = U - g * V) ∨ (U < g * V ∧ c = Wn + 1 ∧ A + (g * V - U) = P) := by
  have e1 : (g + 1) * V = g * V + V := by rw [Nat.add_mul, Nat.one_mul]
  rcases Nat.lt_or_ge U (g * V) with h | h
  · refine Or.inr ⟨h, ?_⟩
    have hc : c = Wn + 1 := by
      rcases Nat.lt_trichotomy c (Wn + 1) with z | z | z
      · have : c * P ≤ Wn * P := Nat.mul_le_mul_right _ (by omega)
        omega
      · exact z
      · have : (Wn + 2) * P ≤ c * P := Nat.mul_le_mul_right _ (by omega)
        have : (Wn + 2) * P = Wn * P + 2 * P := Nat.add_mul _ _ _
        omega
    subst hc
    have : (Wn + 1) * P = Wn * P + P := by rw [Nat.add_mul, Nat.one_mul]
    exact ⟨rfl, by omega⟩
  · refine Or.inl ⟨h, ?_⟩
    have hc : c = Wn := by
      rcases Nat.lt_trichotomy c Wn with z | z | z
      · have : (c + 1) * P ≤ Wn * P := Nat.mul_le_mul_right _ z
        have : (c + 1) * P = c * P + P := by rw [Nat.add_mul, Nat.one_mul]
        omega
      · exact z
      · have : (Wn + 1) * P ≤ c * P := Nat.mul_le_mul_right _ z
        have : (Wn + 1) * P = Wn * P + P := by rw [Nat.add_mul, Nat.one_mul]
        omega
    subst hc
    exact ⟨rfl, by omega⟩
end bench2
end
section
/-! EnclosedDigits$Bench: takeAway -/
theorem bw_tot_eq {D : List Nat} {S T : Nat → en_B} (h : ∀ q, (S q).2.1 = (T q).2.1) : bw_tot D S = bw_tot D T := by
  unfold bw_tot
  rw [show (fun a => (S a).2.1) = (fun a => (T a).2.1) from funext h]
/-- limbs that are the same ints -/
theorem bw_recast {X : en_X} {D : List Nat} {σ τ : en_S} {S S0 : Nat → en_B} {a r n sz : Nat} {d e : Nat → Nat} {sg : Int32} (h : ∀ i, nI (d i) = nI (e i)) (w : bw_R X D τ (uB S a (r, n, sz, d, sg))) (s : bw_St D σ S0 τ (uB S a (r, n, sz, d, sg))) : bw_R X D τ (uB S a (r, n, sz, e, sg)) ∧ bw_St D σ S0 τ (uB S a (r, n, sz, e, sg)) := by
  have h1 : ∀ q, (uB S a (r, n, sz, d, sg) q).1 = (uB S a (r, n, sz, e, sg) q).1 := by
    intro q; unfold uB; split <;> rfl
  have h2 : ∀ q, (uB S a (r, n, sz, d, sg) q).2.1 = (uB S a (r, n, sz, e, sg) q).2.1 := by
    intro q; unfold uB; split <;> rfl
  refine ⟨⟨fun q hq => ?_, fun p hp q hq z => w.2 p hp q hq (by rw [h1, h1]; exact z)⟩, s.1, s.2.1, fun q hq => by rw [← h1]; exact s.2.2.1 q hq, by rw [← bw_tot_eq h2]; exact s.2.2.2.1, by rw [← bw_tot_eq h2]; exact s.2.2.2.2⟩
  have := w.1 q hq
  by_cases ea : q = a
  · subst ea
    rw [uB_s] at this ⊢
    obtain ⟨a1, a2, a3⟩ := this
    exact ⟨a1, by rw [← ar_eq h]; exact a2, a3⟩
  · rw [uB_n ea] at this ⊢
    exact this
theorem div_of {U V q : Nat} (h1 : q * V ≤ U) (h2 : U < (q + 1) * V) : U / V = q ∧ U % V = U - q * V := by
  have hV : 0 < V := by
    rcases Nat.eq_zero_or_pos V with z | z
    · subst z; simp at h2
    · exact z
  have e1 : (q + 1) * V = q * V + V := by rw [Nat.add_mul, Nat.one_mul]
  have e : U = V * q + (U - q * V) := by rw [Nat.mul_comm]; omega
  constructor
  · rw [e, Nat.mul_add_div hV, Nat.div_eq_of_lt (by omega), Nat.add_zero]
  · conv => lhs; rw [e]
    rw [Nat.mul_add_mod, Nat.mod_eq_of_lt (by omega)]
section bench3
variable {X : en_X} {σ : en_S} {D : List Nat} {S : Nat → en_B}
theorem C_take {b0 dv ds pt bt rs n j : Nat} (h : bw_R X D σ S) (hb0 : look σ b0 = some (nE dv ds pt bt rs)) (hbl : b0 < σ.1) (h1 : dv ∈ D) (h2 : ds ∈ D) (hne : dv ≠ ds) (hn : (S ds).2.2.1 = n) (hn2 : 2 ≤ n) (hj : n + j < (S dv).2.2.1) (hd : ∀ i, i < (S dv).2.2.1 → (S dv).2.2.2.1 i < BB) (hv : ∀ i, i < n → (S ds).2.2.2.1 i < BB) (htop : BB ≤ 2 * (S ds).2.2.2.1 (n - 1)) (hU : vl (fun i => (S dv).2.2.2.1 (j + i)) (n + 1) < vl (S ds).2.2.2.1 n * BB) :
    Calls X M_X0_takeAway [.ref b0, .int (nI j)] σ (fun res τ => res = some (.int (nI (vl (fun i => (S dv).2.2.2.1 (j + i)) (n + 1) / vl (S ds).2.2.2.1 n))) ∧ ∃ d1 : Nat → Nat, (∀ i, i < (S dv).2.2.1 → d1 i < BB) ∧ d1 (n + j) = 0 ∧ vl (fun i => d1 (j + i)) n = vl (fun i => (S dv).2.2.2.1 (j + i)) (n + 1) % vl (S ds).2.2.2.1 n ∧ (∀ q, q < j ∨ j + n < q → d1 q = (S dv).2.2.2.1 q) ∧ bw_R X D τ (uB S dv ((S dv).1, (S dv).2.1, (S dv).2.2.1, d1, (S dv).2.2.2.2)) ∧ bw_St D σ S τ (uB S dv ((S dv).1, (S dv).2.1, (S dv).2.2.1, d1, (S dv).2.2.2.2))) := by
  obtain ⟨a1, a2, a3, a4, a5, a6, a7⟩ := h.1 dv h1
  obtain ⟨c1, c2, c3, c4, c5, c6, c7⟩ := h.1 ds h2
  rw [hn] at c1 c3
  have hB : BB = 1000000000 := rfl
  have hbr := ne_oa hb0 a2
  have hvr := ne_oa a1 a2
  have hsr := ne_oa c1 a2
  have hrr : (S ds).1 ≠ (S dv).1 := fun z => hne (h.2 ds h2 dv h1 z).symm
  have hVP : vl (S ds).2.2.2.1 n < BB ^ n := vl_lt hv
  have hUe : vl (fun i => (S dv).2.2.2.1 (j + i)) (n + 1) = vl (fun i => (S dv).2.2.2.1 (j + i)) n + (S dv).2.2.2.1 (j + n) * BB ^ n := rfl
  have hwn := hd (j + n) (by omega)
  refine Calls.of rfl (lk rfl) ?_
  refine wa_aload_n q_X0_takeAway_0 rfl ?_
  refine wa_getf q_X0_takeAway_1 f_RX0_18 (by assumption) rfl ?_
  refine wa_getf q_X0_takeAway_4 f_RX0_47 (by assumption) rfl ?_
  refine wa_istore_n q_X0_takeAway_7 (by decide) ?_
  refine wa_iload_n q_X0_takeAway_8 rfl ?_
  refine wa_iconst q_X0_takeAway_9 (v := nI 2) (by decide) ?_
  refine wn_icmp_lt q_X0_takeAway_10 (by omega) (by omega) (fun hc => ?_) (fun hc => ?_)
  · exact absurd hc (by omega)
  · refine wa_iload_n q_X0_takeAway_13 rfl ?_
    refine wa_iload_n q_X0_takeAway_14 rfl ?_
    refine wn_iadd q_X0_takeAway_15 ?_
    refine wa_aload_n q_X0_takeAway_16 rfl ?_
    refine wa_getf q_X0_takeAway_17 f_RX0_12 (by assumption) rfl ?_
    refine wa_getf q_X0_takeAway_20 f_RX0_47 (by assumption) rfl ?_
    refine wn_icmp_lt q_X0_takeAway_23 (by omega) (by omega) (fun hc2 => ?_) (fun hc2 => ?_)
    · refine wa_aload_n q_X0_takeAway_28 rfl ?_
      refine wa_iload_n q_X0_takeAway_29 rfl ?_
      refine wa_iload_n q_X0_takeAway_30 rfl ?_
      refine wa_iload_n q_X0_takeAway_31 rfl ?_
      refine wn_iadd q_X0_takeAway_32 ?_
      refine wa_callV q_X0_takeAway_33 g_X0_takeAway_33 w_X0_guessLimb (by assumption) rfl (av := [_, _]) rfl rfl (lk rfl) (Calls.mono (C_guess h hb0 h1 h2 hn hn2 hj hd hv htop hU) ?_)
      rintro _ _ ⟨⟨g, rfl, g1, g2, g3⟩, rfl⟩
      refine wa_lstore_n q_X0_takeAway_36 (by decide) ?_
      refine wa_lconst q_X0_takeAway_37 (v := lN 0) (by decide) ?_
      refine wa_lstore q_X0_takeAway_38 (by decide) ?_
      refine wa_iconst q_X0_takeAway_40 (v := nI 0) (by decide) ?_
      refine wa_istore q_X0_takeAway_41 (by decide) ?_
      refine wa_lv (C_take_loop (σ0 := _) a5 a3 hj c5 c3 g1 (fun i hi => hd _ (by omega)) hv hb0 a1 c1 c2 hbr hvr hsr hrr ?_ _ 0 0 _ _ rfl (Nat.zero_le _) BB_pos a2 (fun q hq => absurd hq (by omega)) (by simp [vl]) (fun _ _ => rfl) (fun _ _ => rfl) rfl rfl) rfl
      intro σ1 d1 c k1 k2 k3 k4 k5 k6 k7 k8
      have hb := (k6 b0 hbr).trans hb0
      have hv1 := (k6 dv hvr).trans a1
      have hlt := vl_lt (d := fun i => d1 (j + i)) (n := n) k3
      have hend := tk_end k4 hUe hlt (Nat.le_of_lt hVP) hVP g2 g3
      have hdn : d1 (n + j) = (S dv).2.2.2.1 (j + n) := by rw [Nat.add_comm]; exact k5 _ (Or.inr (Nat.le_refl _))
      have hrest : ∀ q, q < j ∨ j + n < q → d1 q = (S dv).2.2.2.1 q := fun q hq => k5 q (by omega)
      refine wa_aload_n q_X0_takeAway_142 rfl ?_
      refine wa_getf q_X0_takeAway_143 f_RX0_12 (by assumption) rfl ?_
      refine wa_getf q_X0_takeAway_146 f_RX0_69 (by assumption) rfl ?_
      refine wa_iload_n q_X0_takeAway_149 rfl ?_
      refine wa_iload_n q_X0_takeAway_150 rfl ?_
      refine wn_iadd q_X0_takeAway_151 ?_
      refine wn_iald q_X0_takeAway_152 (by assumption) (by omega) (by omega) ?_
      rw [hdn]
      refine wn_i2l q_X0_takeAway_153 (by omega) ?_
      refine wa_lload q_X0_takeAway_154 rfl ?_
      rcases hend with ⟨z1, z2, z3⟩ | ⟨z1, z2, z3⟩
      · refine wn_lsub q_X0_takeAway_156 (by omega) ?_
        rw [show (S dv).2.2.2.1 (j + n) - c = 0 by omega]
        refine wa_lstore q_X0_takeAway_157 (by decide) ?_
        refine wa_aload_n q_X0_takeAway_159 rfl ?_
        refine wa_getf q_X0_takeAway_160 f_RX0_12 (by assumption) rfl ?_
        refine wa_getf q_X0_takeAway_163 f_RX0_69 (by assumption) rfl ?_
        refine wa_iload_n q_X0_takeAway_166 rfl ?_
        refine wa_iload_n q_X0_takeAway_167 rfl ?_
        refine wn_iadd q_X0_takeAway_168 ?_
        refine wa_lload q_X0_takeAway_169 rfl ?_
        refine wn_l2i q_X0_takeAway_171 ?_
        refine wn_iast q_X0_takeAway_172 (by assumption) (by omega) (by omega) (fun σ_hr1 hr1 f_hr1 e1_hr1 e2_hr1 => ?_)
        refine wa_lload q_X0_takeAway_173 rfl ?_
        refine wa_lconst q_X0_takeAway_175 (v := lN 0) (by decide) ?_
        refine wn_lcmp_ge q_X0_takeAway_176 q_X0_takeAway_177 (by omega) (by omega) (fun hy => ?_) (fun hy => ?_)
        · refine wa_lload_n q_X0_takeAway_190 rfl ?_
          refine wn_l2i q_X0_takeAway_191 ?_
          refine wa_iret q_X0_takeAway_192 rfl ?_
          have hq := div_of z1 g2
          have st := bw_R.keep (a := dv) (sz := (S dv).2.2.1) (sg := (S dv).2.2.2.2) h h1 ((f_hr1 dv hvr).trans hv1) hr1 a3 (fun q q2 q3 => (f_hr1 q q3).trans (k6 q q3)) (by omega) (by omega)
          refine ⟨by rw [hq.1], _, fun i hi => ?_, un_s, ?_, fun q hq => ?_, st.1, st.2⟩
          · by_cases ei : i = n + j
            · rw [ei, un_s]; exact BB_pos
            · rw [un_n ei]
              by_cases hw : j ≤ i ∧ i < j + n
              · have := k3 (i - j) (by omega)
                rw [show j + (i - j) = i by omega] at this
                exact this
              · rw [hrest i (by omega)]; exact hd i hi
          · rw [vl_congr (e := fun i => d1 (j + i)) (fun i hi => un_n (by omega)), hq.2]; exact z3
          · rw [un_n (by omega)]; exact hrest q hq
        · exact absurd hy (by omega)
      · refine wa_lsub q_X0_takeAway_156 ?_
        rw [show lN ((S dv).2.2.2.1 (j + n)) - lN c = lZ (-1) by rw [lN_lZ, lN_lZ, lZ_sub]; congr 1; omega]
        refine wa_lstore q_X0_takeAway_157 (by decide) ?_
        refine wa_aload_n q_X0_takeAway_159 rfl ?_
        refine wa_getf q_X0_takeAway_160 f_RX0_12 (by assumption) rfl ?_
        refine wa_getf q_X0_takeAway_163 f_RX0_69 (by assumption) rfl ?_
        refine wa_iload_n q_X0_takeAway_166 rfl ?_
        refine wa_iload_n q_X0_takeAway_167 rfl ?_
        refine wn_iadd q_X0_takeAway_168 ?_
        refine wa_lload q_X0_takeAway_169 rfl ?_
        refine wa_l2i q_X0_takeAway_171 (v := nI 4294967295) (by decide) ?_
        refine wn_iast q_X0_takeAway_172 (by assumption) (by omega) (by omega) (fun σ_hr1 hr1 f_hr1 e1_hr1 e2_hr1 => ?_)
        have hb := (f_hr1 b0 hbr).trans hb
        refine wa_lload q_X0_takeAway_173 rfl ?_
        refine wa_lconst q_X0_takeAway_175 (v := lN 0) (by decide) ?_
        refine wa_lcmp q_X0_takeAway_176 ?_
        refine wa_if_ge q_X0_takeAway_177 (fun hge => absurd hge (by decide)) (fun hge => ?_)
        have st := bw_R.keep (a := dv) (sz := (S dv).2.2.1) (sg := (S dv).2.2.2.2) h h1 ((f_hr1 dv hvr).trans hv1) hr1 a3 (fun q q2 q3 => (f_hr1 q q3).trans (k6 q q3)) (by omega) (by omega)
        refine wa_aload_n q_X0_takeAway_180 rfl ?_
        refine wa_iload_n q_X0_takeAway_181 rfl ?_
        refine wa_iload_n q_X0_takeAway_182 rfl ?_
        refine wa_callV q_X0_takeAway_183 g_X0_takeAway_183 w_X0_giveBack (by assumption) rfl (av := [_, _]) rfl rfl (lk rfl) (Calls.mono (C_give (n := n) (j := j) st.1 hb h1 h2 hne (by rw [uB_n (fun z => hne z.symm)]; exact hn) (by rw [uB_s]; exact hj) (by rw [uB_s]; intro i hi; show un _ _ _ _ < BB; rw [un_n (by omega)]; exact k3 i hi) (by rw [uB_n (fun z => hne z.symm)]; exact hv)) ?_)
        rintro _ σ3 ⟨rfl, d2, e, w1, w2, w3, w4, w5, w6, w7⟩
        rw [uB_s] at w3 w4 w5 w6 w7
        rw [uB_u] at w6 w7
        rw [uB_n (fun z => hne z.symm)] at w3
        have w3 : vl (fun i => d2 (j + i)) n + e * BB ^ n = vl (fun i => un d1 (n + j) 4294967295 (j + i)) n + vl (S ds).2.2.2.1 n := w3
        have w4 : d2 (n + j) = un d1 (n + j) 4294967295 (n + j) + e := w4
        have w5 : ∀ q, q < j ∨ j + n < q → d2 q = un d1 (n + j) 4294967295 q := w5
        rw [vl_congr (e := fun i => d1 (j + i)) (fun i hi => un_n (by omega))] at w3
        rw [un_s] at w4
        have hlt2 := vl_lt (d := fun i => d2 (j + i)) (n := n) w2
        have he : e = 1 := by
          rcases Nat.eq_zero_or_pos e with z | z
          · subst z; omega
          · omega
        subst he
        have hg1 : 1 ≤ g := by
          rcases Nat.eq_zero_or_pos g with z | z
          · subst z; omega
          · exact z
        have hgv : g * vl (S ds).2.2.2.1 n = (g - 1) * vl (S ds).2.2.2.1 n + vl (S ds).2.2.2.1 n := by
          conv => lhs; rw [show g = g - 1 + 1 by omega, Nat.add_mul, Nat.one_mul]
        have hq := div_of (U := vl (fun i => (S dv).2.2.2.1 (j + i)) (n + 1)) (V := vl (S ds).2.2.2.1 n) (q := g - 1) (by omega) (by rw [Nat.sub_add_cancel hg1]; exact z1)
        have rc := bw_recast (e := un d2 (n + j) 0) (fun i => by
          by_cases ei : i = n + j
          · rw [ei, un_s, w4]; decide
          · rw [un_n ei]) w6 (st.2.tr w7)
        refine wa_lload_n q_X0_takeAway_186 rfl ?_
        refine wa_lconst q_X0_takeAway_187 (v := lN 1) (by decide) ?_
        refine wn_lsub q_X0_takeAway_188 (by omega) ?_
        refine wa_lstore_n q_X0_takeAway_189 (by decide) ?_
        refine wa_lload_n q_X0_takeAway_190 rfl ?_
        refine wn_l2i q_X0_takeAway_191 ?_
        refine wa_iret q_X0_takeAway_192 rfl ?_
        refine ⟨by rw [hq.1], _, fun i hi => ?_, un_s, ?_, fun q hq => ?_, rc.1, rc.2⟩
        · by_cases ei : i = n + j
          · rw [ei, un_s]; exact BB_pos
          · rw [un_n ei]
            by_cases hw : j ≤ i ∧ i < j + n
            · have := w2 (i - j) (by omega)
              rw [show j + (i - j) = i by omega] at this
              exact this
            · rw [w5 i (by omega), un_n ei, hrest i (by omega)]; exact hd i hi
        · rw [vl_congr (e := fun i => d2 (j + i)) (fun i hi => un_n (by omega)), hq.2]
          omega
        · rw [un_n (by omega), w5 q hq, un_n (by omega)]; exact hrest q hq
    · exact absurd hc2 (by omega)
end bench3
end
section
/-! EnclosedDigits$Bench: the loop of divide -/
theorem uB_c {S : Nat → en_B} {a b : Nat} {x y : en_B} (h : a ≠ b) : uB (uB S a x) b y = uB (uB S b y) a x := by
  funext q; unfold uB
  by_cases h1 : q = a
  · subst h1; rw [if_neg h, if_pos rfl, if_pos rfl]
  · by_cases h2 : q = b
    · subst h2; rw [if_pos rfl, if_neg h1, if_pos rfl]
    · rw [if_neg h2, if_neg h1, if_neg h1, if_neg h2]
/-- n + 1 limbs from j on replaced -/
theorem vl_seg {d e : Nat → Nat} {m n j x V : Nat} (hm : n + j < m) (he : ∀ q, q < j ∨ j + n < q → e q = d q) (h0 : e (n + j) = 0) (hw : vl (fun i => e (j + i)) n + x * V = vl (fun i => d (j + i)) (n + 1)) : vl e m + x * V * BB ^ j = vl d m := by
  have s1 := vl_add d j (m - j)
  have s2 := vl_add e j (m - j)
  rw [Nat.add_sub_cancel' (by omega)] at s1 s2
  have s3 := vl_add (fun i => d (j + i)) (n + 1) (m - j - (n + 1))
  have s4 := vl_add (fun i => e (j + i)) (n + 1) (m - j - (n + 1))
  rw [Nat.add_sub_cancel' (by omega)] at s3 s4
  have c1 : vl e j = vl d j := vl_congr (fun i hi => he i (Or.inl hi))
  have c2 : vl (fun i => e (j + (n + 1 + i))) (m - j - (n + 1)) = vl (fun i => d (j + (n + 1 + i))) (m - j - (n + 1)) := vl_congr (fun i hi => he _ (Or.inr (by omega)))
  have c3 : vl (fun i => e (j + i)) (n + 1) = vl (fun i => e (j + i)) n := by
    show vl (fun i => e (j + i)) n + e (j + n) * BB ^ n = _
    rw [Nat.add_comm j n, h0, Nat.zero_mul, Nat.add_zero]
  rw [s1, s2, s3, s4, c1, c2, c3, ← hw]
  generalize vl (fun i => e (j + i)) n = A
  generalize vl (fun i => d (j + (n + 1 + i))) (m - j - (n + 1)) = B
  generalize vl d j = C
  generalize BB ^ j = P
  generalize BB ^ (n + 1) = R
  grind
section bench4
variable {X : en_X} {D : List Nat} {T0 : Nat → en_B}
theorem C_div_loop {ρ σ0 : en_S} {b0 dv ds pt bt rs q n m pl r1 n1 rq nq A sc : Nat} {sg1 sgq : Int32} {lv4 : Value} {Q : Option Value → en_S → Prop} (h1 : dv ∈ D) (h2 : ds ∈ D) (h3 : q ∈ D) (hne : dv ≠ ds) (hqv : q ≠ dv) (hqs : q ≠ ds) (hn : (T0 ds).2.2.1 = n) (hn2 : 2 ≤ n) (hmp : m = n + pl) (hv : ∀ i, i < n → (T0 ds).2.2.2.1 i < BB) (htop : BB ≤ 2 * (T0 ds).2.2.2.1 (n - 1)) (S0 : Nat → en_B)
    (k : ∀ (σ1 : en_S) (d1 qd : Nat → Nat), bw_R X D σ1 (uB (uB T0 dv (r1, n1, m, d1, sg1)) q (rq, nq, pl, qd, sgq)) → bw_St D σ0 S0 σ1 (uB (uB T0 dv (r1, n1, m, d1, sg1)) q (rq, nq, pl, qd, sgq)) → (∀ i, i < m → d1 i < BB) → (∀ i, i < pl → qd i < BB) → vl d1 m < vl (T0 ds).2.2.2.1 n → vl d1 m + vl (T0 ds).2.2.2.1 n * vl qd pl = A → look σ1 b0 = some (nE dv ds pt bt rs) → b0 < σ1.1 → WA X M_X0_divide ρ 215 [(6, .int (nI sc)), (4, lv4), (3, .ref q), (0, .ref b0)] [] σ1 Q) :
    ∀ (t : Nat) (σ : en_S) (d1 qd : Nat → Nat), t ≤ pl → bw_R X D σ (uB (uB T0 dv (r1, n1, m, d1, sg1)) q (rq, nq, pl, qd, sgq)) → bw_St D σ0 S0 σ (uB (uB T0 dv (r1, n1, m, d1, sg1)) q (rq, nq, pl, qd, sgq)) → (∀ i, i < m → d1 i < BB) → (∀ i, i < pl → qd i < BB) → (∀ i, n + t ≤ i → i < m → d1 i = 0) → vl (fun i => d1 (t + i)) n < vl (T0 ds).2.2.2.1 n → vl d1 m + vl (T0 ds).2.2.2.1 n * (BB ^ t * vl (fun i => qd (t + i)) (pl - t)) = A → look σ b0 = some (nE dv ds pt bt rs) → b0 < σ.1 →
      WA X M_X0_divide ρ 191 [(7, .int (iZ ((t : Int) - 1))), (6, .int (nI sc)), (4, lv4), (3, .ref q), (0, .ref b0)] [] σ Q := by
  have hB : BB = 1000000000 := rfl
  intro t
  induction t with
  | zero =>
    intro σ d1 qd ht w st hd hq hz hw hA hb hbl
    refine wa_iload q_X0_divide_191 rfl ?_
    refine wa_if_lt q_X0_divide_193 (fun hc => ?_) (fun hc => absurd (by decide) hc)
    have e1 : vl d1 m = vl d1 n := vl_pad (by omega) (fun i i1 i2 => hz i (by omega) i2)
    simp only [Nat.zero_add, Nat.pow_zero, Nat.one_mul, Nat.sub_zero] at hw hA
    exact wa_lv (k σ d1 qd w st hd hq (by rw [e1]; exact hw) hA hb hbl) rfl
  | succ t ih =>
    intro σ d1 qd ht w st hd hq hz hw hA hb hbl
    have e0 : iZ (((t + 1 : Nat) : Int) - 1) = nI t := by rw [nI_iZ]; congr 1; omega
    rw [e0]
    obtain ⟨q1, q2, q3, q4, q5, q6, q7⟩ := w.1 q h3
    rw [uB_s] at q1 q2 q3 q4 q5 q7
    have q1 : look σ q = some (bE sgq pl rq) := q1
    have q2 : look σ rq = some (ar X nq qd) := q2
    have q5 : nq ≤ 512 := q5
    have q3 : pl ≤ nq := q3
    have hSv : uB (uB T0 dv (r1, n1, m, d1, sg1)) q (rq, nq, pl, qd, sgq) dv = (r1, n1, m, d1, sg1) := by rw [uB_n (fun z => hqv z.symm), uB_s]
    have hSs : uB (uB T0 dv (r1, n1, m, d1, sg1)) q (rq, nq, pl, qd, sgq) ds = T0 ds := by rw [uB_n (fun z => hqs z.symm), uB_n (fun z => hne z.symm)]
    have hU : vl (fun i => d1 (t + i)) (n + 1) < vl (T0 ds).2.2.2.1 n * BB := by
      rw [vl_low]
      have c1 : vl (fun i => d1 (t + (i + 1))) n = vl (fun i => d1 (t + 1 + i)) n := vl_congr (fun i _ => by rw [show t + (i + 1) = t + 1 + i by omega])
      rw [c1]
      have c2 := hd t (by omega)
      have c3 : BB * (vl (fun i => d1 (t + 1 + i)) n + 1) ≤ BB * vl (T0 ds).2.2.2.1 n := Nat.mul_le_mul_left _ hw
      rw [Nat.mul_add, Nat.mul_one] at c3
      rw [Nat.mul_comm (vl (T0 ds).2.2.2.1 n)]
      show d1 (t + 0) + _ < _
      rw [Nat.add_zero]
      omega
    refine wa_iload q_X0_divide_191 rfl ?_
    refine wn_if_lt q_X0_divide_193 (by omega) (fun hc => ?_) (fun hc => ?_)
    · exact absurd hc id
    · refine wa_aload_n q_X0_divide_196 rfl ?_
      refine wa_getf q_X0_divide_197 f_RX0_69 (by assumption) rfl ?_
      refine wa_iload q_X0_divide_200 rfl ?_
      refine wa_aload_n q_X0_divide_202 rfl ?_
      refine wa_iload q_X0_divide_203 rfl ?_
      refine wa_callV q_X0_divide_205 g_X0_divide_205 w_X0_takeAway hb rfl (av := [_]) rfl rfl (lk rfl) (Calls.mono (C_take (n := n) (j := t) w hb hbl h1 h2 hne (by rw [hSs]; exact hn) hn2 (by rw [hSv]; show n + t < m; omega) (by rw [hSv]; exact hd) (by rw [hSs]; exact hv) (by rw [hSs]; exact htop) (by rw [hSv, hSs]; exact hU)) ?_)
      rintro _ σ1 ⟨rfl, d2, g1, g2, g3, g4, g5, g6⟩
      rw [hSv] at g1 g3 g4 g5 g6
      rw [hSs] at g3
      rw [hSv, hSs]
      have g1 : ∀ i, i < m → d2 i < BB := g1
      have g3 : vl (fun i => d2 (t + i)) n = vl (fun i => d1 (t + i)) (n + 1) % vl (T0 ds).2.2.2.1 n := g3
      have g4 : ∀ q, q < t ∨ t + n < q → d2 q = d1 q := g4
      have ec : uB (uB (uB T0 dv (r1, n1, m, d1, sg1)) q (rq, nq, pl, qd, sgq)) dv (r1, n1, m, d2, sg1) = uB (uB T0 dv (r1, n1, m, d2, sg1)) q (rq, nq, pl, qd, sgq) := by
        rw [uB_c hqv, uB_u]
      have g5 : bw_R X D σ1 (uB (uB T0 dv (r1, n1, m, d2, sg1)) q (rq, nq, pl, qd, sgq)) := by rw [← ec]; exact g5
      have g6 : bw_St D σ (uB (uB T0 dv (r1, n1, m, d1, sg1)) q (rq, nq, pl, qd, sgq)) σ1 (uB (uB T0 dv (r1, n1, m, d2, sg1)) q (rq, nq, pl, qd, sgq)) := by rw [← ec]; exact g6
      have hb1 := bw_obj g6 w hbl hb (by decide)
      have hbl1 : b0 < σ1.1 := Nat.lt_of_lt_of_le hbl g6.1
      have hVp : 0 < vl (T0 ds).2.2.2.1 n := by omega
      have hdm := Nat.div_add_mod (vl (fun i => d1 (t + i)) (n + 1)) (vl (T0 ds).2.2.2.1 n)
      have hql : vl (fun i => d1 (t + i)) (n + 1) / vl (T0 ds).2.2.2.1 n < BB := Nat.div_lt_of_lt_mul hU
      have hml := Nat.mod_lt (vl (fun i => d1 (t + i)) (n + 1)) hVp
      have hseg := vl_seg (d := d1) (e := d2) (m := m) (n := n) (j := t) (x := vl (fun i => d1 (t + i)) (n + 1) / vl (T0 ds).2.2.2.1 n) (V := vl (T0 ds).2.2.2.1 n) (by omega) g4 g2 (by rw [g3, Nat.mul_comm, Nat.add_comm]; exact hdm)
      obtain ⟨p1, p2, p3, p4, p5, p6, p7⟩ := g5.1 q h3
      rw [uB_s] at p1 p2
      have p1 : look σ1 q = some (bE sgq pl rq) := p1
      have p2 : look σ1 rq = some (ar X nq qd) := p2
      have hbq := ne_oa hb1 p2
      have hqq := ne_oa p1 p2
      generalize vl (fun i => d1 (t + i)) (n + 1) / vl (T0 ds).2.2.2.1 n = x at *
      refine wn_iast q_X0_divide_208 (by assumption) (by omega) (by omega) (fun σ_hr1 hr1 f_hr1 e1_hr1 e2_hr1 => ?_)
      have st2 := bw_R.keep (a := q) (sz := pl) (d := un qd t x) (sg := sgq) g5 h3 (by rw [uB_s]; exact (f_hr1 q hqq).trans p1) (by rw [uB_s]; exact hr1) (by rw [uB_s]; exact q3) (fun y y1 y2 => by rw [uB_s] at y2; exact f_hr1 y y2) (by omega) (by omega)
      rw [uB_u, uB_s] at st2
      have st2w : bw_R X D σ_hr1 (uB (uB T0 dv (r1, n1, m, d2, sg1)) q (rq, nq, pl, un qd t x, sgq)) := st2.1
      have st2s : bw_St D σ1 (uB (uB T0 dv (r1, n1, m, d2, sg1)) q (rq, nq, pl, qd, sgq)) σ_hr1 (uB (uB T0 dv (r1, n1, m, d2, sg1)) q (rq, nq, pl, un qd t x, sgq)) := st2.2
      refine wa_iinc q_X0_divide_209 rfl (v := iZ ((t : Int) - 1)) (by rw [nI_iZ]; exact iZ_add _ _) (by decide) ?_
      refine wa_goto q_X0_divide_212 ?_
      refine wa_lv (ih σ_hr1 d2 (un qd t x) (by omega) st2w (st.tr (g6.tr st2s)) g1 (un_lt hq hql) (fun i i1 i2 => ?_) (by rw [g3]; exact hml) ?_ ((f_hr1 b0 hbq).trans hb1) (by omega)) rfl
      · by_cases ei : i = n + t
        · rw [ei]; exact g2
        · rw [g4 i (by omega)]; exact hz i (by omega) i2
      · have es : pl - t = pl - (t + 1) + 1 := by omega
        rw [es, vl_low]
        show vl d2 m + _ * (BB ^ t * (un qd t x (t + 0) + _)) = A
        rw [Nat.add_zero, un_s]
        have c2 : vl (fun i => un qd t x (t + (i + 1))) (pl - (t + 1)) = vl (fun i => qd (t + 1 + i)) (pl - (t + 1)) := vl_congr (fun i _ => by rw [un_n (by omega), show t + (i + 1) = t + 1 + i by omega])
        rw [c2, ← hA, ← hseg, Nat.pow_succ]
        generalize vl d2 m = a1
        generalize vl (T0 ds).2.2.2.1 n = a2
        generalize vl (fun i => qd (t + 1 + i)) (pl - (t + 1)) = a3
        generalize BB ^ t = a4
        grind
end bench4
end
section
/-! EnclosedDigits$Bench: divide -/
theorem abs_sg (v : Int) : (if 0 ≤ sgI v then sgI v else 0 - sgI v) = sgI (v.natAbs : Int) := by
  rcases sgI_c v with ⟨p, e⟩ | ⟨p, e⟩ | ⟨p, e⟩ <;> rcases sgI_c (v.natAbs : Int) with ⟨q, g⟩ | ⟨q, g⟩ | ⟨q, g⟩ <;> first | omega | (rw [e, g]; decide)
theorem uB_self {S : Nat → en_B} {a : Nat} {x : en_B} (h : S a = x) : uB S a x = S := by rw [← h, uB_i]
theorem sg_pos {n : Nat} (h : 0 < n) : sgI (n : Int) = 1 := by
  rcases sgI_c (n : Int) with ⟨q, g⟩ | ⟨q, g⟩ | ⟨q, g⟩ <;> first | omega | exact g
section bench5
variable {X : en_X} {σ : en_S} {D : List Nat} {S : Nat → en_B} {V : Nat → Int}
set_option maxHeartbeats 1000000 in
theorem V_div {b0 dv ds pt bt rs a b q r : Nat} (h : bw_V X D σ S V) (hb0 : look σ b0 = some (nE dv ds pt bt rs)) (hbl : b0 < σ.1) (m1 : dv ∈ D) (m2 : ds ∈ D) (m3 : a ∈ D) (m4 : b ∈ D) (m5 : q ∈ D) (m6 : r ∈ D) (n1 : dv ≠ ds) (n2 : a ≠ dv) (n3 : a ≠ ds) (n4 : b ≠ dv) (n5 : b ≠ ds) (n6 : q ≠ dv) (n7 : q ≠ ds) (n8 : r ≠ dv) (n9 : r ≠ ds) (n10 : q ≠ r) (hbz : V b ≠ 0) (za : (V a).natAbs < BB ^ 240) (zb : (V b).natAbs < BB ^ 240) :
    Calls X M_X0_divide [.ref b0, .ref a, .ref b, .ref q, .ref r] σ (fun res τ => res = none ∧ ∃ S' V', bw_V X D τ S' V' ∧ V' q = (((V a).natAbs / (V b).natAbs : Nat) : Int) ∧ V' r = (((V a).natAbs % (V b).natAbs : Nat) : Int) ∧ (∀ x, x ≠ dv → x ≠ ds → x ≠ q → x ≠ r → V' x = V x) ∧ bw_St D σ S τ S') := by
  have hB : BB = 1000000000 := rfl
  have za2 : (V a).natAbs < BB ^ 250 := Nat.lt_of_lt_of_le za (pw_mono (by decide))
  have zb2 : (V b).natAbs < BB ^ 250 := Nat.lt_of_lt_of_le zb (pw_mono (by decide))
  have hbp : 0 < (V b).natAbs := by omega
  refine Calls.of rfl (lk rfl) ?_
  refine wa_aload_n q_X0_divide_0 rfl ?_
  refine wa_getf q_X0_divide_1 f_RX0_12 (by assumption) rfl ?_
  refine wa_aload_n q_X0_divide_4 rfl ?_
  obtain ⟨i1, -, -, -, -, -, -⟩ := h.1.1 dv m1
  refine wa_callV q_X0_divide_5 g_X0_divide_5 w_X1_copy (by assumption) rfl (av := [_]) rfl rfl (lk rfl) (Calls.mono (V_copy h m1 m3 (fun z => n2 z.symm) za2) ?_)
  rintro _ σ1 ⟨rfl, S1, v1, s1⟩
  have b1 := bw_obj s1 h.1 hbl hb0 (by decide)
  have l1 : b0 < σ1.1 := Nat.lt_of_lt_of_le hbl s1.1
  obtain ⟨i2, -, -, -, -, -, -⟩ := v1.1.1 ds m2
  refine wa_aload_n q_X0_divide_8 rfl ?_
  refine wa_getf q_X0_divide_9 f_RX0_18 (by assumption) rfl ?_
  refine wa_aload_n q_X0_divide_12 rfl ?_
  refine wa_callV q_X0_divide_13 g_X0_divide_13 w_X1_copy (by assumption) rfl (av := [_]) rfl rfl (lk rfl) (Calls.mono (V_copy v1 m2 m4 (fun z => n5 z.symm) (by rw [uV_n n4]; exact zb2)) ?_)
  rintro _ σ2 ⟨rfl, S2, v2, s2⟩
  rw [uV_n n4] at v2
  have b2 := bw_obj s2 v1.1 l1 b1 (by decide)
  have l2 : b0 < σ2.1 := Nat.lt_of_lt_of_le l1 s2.1
  obtain ⟨i3, i3r, i33, i34, i35, i36, i37⟩ := v2.1.1 dv m1
  obtain ⟨j3, -, -, -, -, -, -⟩ := v2.1.1 a m3
  have va := (v2.2 a m3).1
  rw [uV_n n3, uV_n n2] at va
  obtain ⟨w0, w1, w2⟩ := v2.2 dv m1
  rw [uV_n n1, uV_s] at w0 w1
  refine wa_aload_n q_X0_divide_16 rfl ?_
  refine wa_getf q_X0_divide_17 f_RX0_12 (by assumption) rfl ?_
  refine wa_aload_n q_X0_divide_20 rfl ?_
  refine wa_getf q_X0_divide_21 f_RX0_34 (by assumption) rfl ?_
  refine wa_mabs q_X0_divide_24 a_RX0_38 (lk rfl) (lk rfl) ?_
  rw [va, abs_sg]
  have hne3 := ne_oa i3 i3r
  refine wn_putf q_X0_divide_27 p_RX0_34 (by assumption) (lk rfl) rfl rfl rfl (fun σ_p1 p1 f_p1 e1_p1 e2_p1 => ?_)
  have st3 := bw_R.keep (a := dv) v2.1 m1 p1 ((f_p1 _ hne3.symm).trans i3r) i33 (fun y y1 y2 => f_p1 y y1) (by omega) (by omega)
  have v3 := v2.up (v := ((V a).natAbs : Int)) st3.1 ⟨rfl, by show vl _ _ = _; rw [w1]; omega, w2⟩
  have b3 := bw_obj st3.2 v2.1 l2 b2 (by decide)
  have l3 : b0 < σ_p1.1 := Nat.lt_of_lt_of_le l2 st3.2.1
  obtain ⟨i4, -, -, -, -, -, -⟩ := v3.1.1 q m5
  refine wa_aload_n q_X0_divide_30 rfl ?_
  refine wa_callV q_X0_divide_31 g_X0_divide_31 w_X1_clear (by assumption) rfl (av := []) rfl rfl (lk rfl) (Calls.mono (V_clear v3 m5) ?_)
  rintro _ σ4 ⟨rfl, S4, v4, s4⟩
  have b4 := bw_obj s4 v3.1 l3 b3 (by decide)
  have l4 : b0 < σ4.1 := Nat.lt_of_lt_of_le l3 s4.1
  have sA : bw_St D σ S σ4 S4 := s1.tr (s2.tr (st3.2.tr s4))
  obtain ⟨V4, hV4⟩ : ∃ V4, V4 = uV (uV (uV (uV V dv (V a)) ds (V b)) dv ((V a).natAbs : Int)) q 0 := ⟨_, rfl⟩
  rw [← hV4] at v4
  have y1 : V4 dv = ((V a).natAbs : Int) := by rw [hV4, uV_n (fun z => n6 z.symm), uV_s]
  have y2 : V4 ds = V b := by rw [hV4, uV_n (fun z => n7 z.symm), uV_n (fun z => n1 z.symm), uV_s]
  have y3 : V4 q = 0 := by rw [hV4, uV_s]
  have y4 : ∀ x, x ≠ dv → x ≠ ds → x ≠ q → V4 x = V x := fun x h1 h2 h3 => by rw [hV4, uV_n h3, uV_n h1, uV_n h2, uV_n h1]
  clear hV4
  -- the end: what is over goes to r
  have hfin : ∀ (σ5 : en_S) (S5 : Nat → en_B) (V5 : Nat → Int) (lv : List (Nat × Value)), bw_V X D σ5 S5 V5 → bw_St D σ S σ5 S5 → look σ5 b0 = some (nE dv ds pt bt rs) → V5 dv = (((V a).natAbs % (V b).natAbs : Nat) : Int) → V5 q = (((V a).natAbs / (V b).natAbs : Nat) : Int) → (∀ x, x ≠ dv → x ≠ ds → x ≠ q → V5 x = V x) → WA X M_X0_divide σ 239 [(4, .ref r), (0, .ref b0)] [] σ5 (fun res τ => res = none ∧ ∃ S' V', bw_V X D τ S' V' ∧ V' q = (((V a).natAbs / (V b).natAbs : Nat) : Int) ∧ V' r = (((V a).natAbs % (V b).natAbs : Nat) : Int) ∧ (∀ x, x ≠ dv → x ≠ ds → x ≠ q → x ≠ r → V' x = V x) ∧ bw_St D σ S τ S') := by
    intro σ5 S5 V5 lv v5 s5 b5 x1 x2 x3
    obtain ⟨i5, -, -, -, -, -, -⟩ := v5.1.1 r m6
    refine wa_aload q_X0_divide_239 rfl ?_
    refine wa_aload_n q_X0_divide_241 rfl ?_
    refine wa_getf q_X0_divide_242 f_RX0_12 (by assumption) rfl ?_
    refine wa_callV q_X0_divide_245 g_X0_divide_245 w_X1_copy (by assumption) rfl (av := [_]) rfl rfl (lk rfl) (Calls.mono (V_copy v5 m6 m1 n8 (by rw [x1]; exact Nat.lt_of_le_of_lt (Nat.mod_le _ _) za2)) ?_)
    rintro _ σ6 ⟨rfl, S6, v6, s6⟩
    refine wa_vret q_X0_divide_248 rfl ?_
    refine ⟨rfl, S6, _, v6, ?_, ?_, fun x h1 h2 h3 h4 => ?_, s5.tr s6⟩
    · rw [uV_n n10]; exact x2
    · rw [uV_s]; exact x1
    · rw [uV_n h4]; exact x3 x h1 h2 h3
  obtain ⟨d1, d2, d3, d4, d5, d6, d7⟩ := v4.1.1 dv m1
  obtain ⟨e1, e2, e3, e4, e5, e6, e7⟩ := v4.1.1 ds m2
  obtain ⟨f1, f2, f3, f4, f5, f6, f7⟩ := v4.1.1 q m5
  obtain ⟨dv0, dv1, dv2⟩ := v4.2 dv m1
  obtain ⟨ds0, ds1, ds2⟩ := v4.2 ds m2
  rw [y1] at dv0 dv1
  rw [y2] at ds0 ds1
  rw [Int.natAbs_natCast] at dv1
  have zs : (S4 dv).2.2.1 ≤ 240 := isV_le (v4.2 dv m1) (by rw [y1]; exact za)
  have zs2 : (S4 ds).2.2.1 ≤ 240 := isV_le (v4.2 ds m2) (by rw [y2]; exact zb)
  have hn0 : (S4 ds).2.2.1 ≠ 0 := fun z => hbz (by have := (isV_sz (v4.2 ds m2)).mp z; rw [y2] at this; exact this)
  refine wa_aload_n q_X0_divide_34 rfl ?_
  refine wa_getf q_X0_divide_35 f_RX0_12 (by assumption) rfl ?_
  refine wa_getf q_X0_divide_38 f_RX0_47 (by assumption) rfl ?_
  refine wa_aload_n q_X0_divide_41 rfl ?_
  refine wa_getf q_X0_divide_42 f_RX0_18 (by assumption) rfl ?_
  refine wa_getf q_X0_divide_45 f_RX0_47 (by assumption) rfl ?_
  refine wa_isub q_X0_divide_48 ?_
  refine wa_iconst q_X0_divide_49 (v := nI 1) (by decide) ?_
  refine wa_iadd q_X0_divide_50 ?_
  rw [show nI (S4 dv).2.2.1 - nI (S4 ds).2.2.1 + nI 1 = iZ (((S4 dv).2.2.1 : Int) - (S4 ds).2.2.1 + 1) by rw [nI_iZ, nI_iZ, nI_iZ, iZ_sub, iZ_add]; rfl]
  refine wa_istore q_X0_divide_51 (by decide) ?_
  refine wa_aload_n q_X0_divide_53 rfl ?_
  refine wa_getf q_X0_divide_54 f_RX0_18 (by assumption) rfl ?_
  refine wa_getf q_X0_divide_57 f_RX0_47 (by assumption) rfl ?_
  refine wn_if_ne q_X0_divide_60 (by omega) (fun hc1 => ?_) (fun hc1 => ?_)
  · refine wa_aload_n q_X0_divide_73 rfl ?_
    refine wa_getf q_X0_divide_74 f_RX0_18 (by assumption) rfl ?_
    refine wa_getf q_X0_divide_77 f_RX0_47 (by assumption) rfl ?_
    refine wa_iconst q_X0_divide_80 (v := nI 1) (by decide) ?_
    refine wn_icmp_ne q_X0_divide_81 (by omega) (by omega) (fun hc2 => ?_) (fun hc2 => ?_)
    · refine wa_iload q_X0_divide_115 rfl ?_
      refine wa_if_le q_X0_divide_117 (fun hc3 => ?_) (fun hc3 => ?_)
      · rw [iZ_0, iZ_le (by omega) (by omega) (by decide) (by decide)] at hc3
        have hlt := nrm_lt dv2 ds2 (by omega)
        rw [dv1, ds1] at hlt
        refine wa_lv (hfin σ4 S4 V4 [] v4 sA b4 (by rw [y1, Nat.mod_eq_of_lt hlt]) (by rw [y3, Nat.div_eq_of_lt hlt]; rfl) y4) rfl
      · rw [iZ_0, iZ_le (by omega) (by omega) (by decide) (by decide)] at hc3
        obtain ⟨pl, hpl, hpl1⟩ : ∃ pl, (S4 dv).2.2.1 + 1 = (S4 ds).2.2.1 + pl ∧ 1 ≤ pl := ⟨(S4 dv).2.2.1 + 1 - (S4 ds).2.2.1, by omega, by omega⟩
        rw [show iZ (((S4 dv).2.2.1 : Int) - (S4 ds).2.2.1 + 1) = nI pl by rw [nI_iZ]; congr 1; omega]
        have htz : (S4 ds).2.2.2.1 ((S4 ds).2.2.1 - 1) ≠ 0 := ds2.2.resolve_left hn0
        have htl := ds2.1 ((S4 ds).2.2.1 - 1) (by omega)
        have hVn : (V b).natAbs < ((S4 ds).2.2.2.1 ((S4 ds).2.2.1 - 1) + 1) * BB ^ ((S4 ds).2.2.1 - 1) ∧ (S4 ds).2.2.2.1 ((S4 ds).2.2.1 - 1) * BB ^ ((S4 ds).2.2.1 - 1) ≤ (V b).natAbs := by
          rw [← ds1]
          have e : vl (S4 ds).2.2.2.1 (S4 ds).2.2.1 = vl (S4 ds).2.2.2.1 ((S4 ds).2.2.1 - 1) + (S4 ds).2.2.2.1 ((S4 ds).2.2.1 - 1) * BB ^ ((S4 ds).2.2.1 - 1) := by
            conv => lhs; rw [show (S4 ds).2.2.1 = (S4 ds).2.2.1 - 1 + 1 by omega]
            rfl
          have e9 := vl_lt (d := (S4 ds).2.2.2.1) (n := (S4 ds).2.2.1 - 1) (fun i hi => ds2.1 i (by omega))
          rw [e, Nat.add_mul, Nat.one_mul]
          omega
        refine wa_ldc q_X0_divide_120 k_RX0_61 ?_
        refine wa_aload_n q_X0_divide_122 rfl ?_
        refine wa_getf q_X0_divide_123 f_RX0_18 (by assumption) rfl ?_
        refine wa_aload_n q_X0_divide_126 rfl ?_
        refine wa_getf q_X0_divide_127 f_RX0_18 (by assumption) rfl ?_
        refine wa_getf q_X0_divide_130 f_RX0_47 (by assumption) rfl ?_
        refine wa_iconst q_X0_divide_133 (v := nI 1) (by decide) ?_
        refine wn_isub q_X0_divide_134 (by omega) ?_
        refine wa_callV q_X0_divide_135 g_X0_divide_135 w_X1_limbAt (by assumption) rfl (av := [_]) rfl rfl (lk rfl) (Calls.mono (C_limbAt v4.1 m2 (by omega)) ?_)
        rintro _ _ ⟨rfl, rfl⟩
        rw [if_pos (by omega)]
        refine wa_iconst q_X0_divide_138 (v := nI 1) (by decide) ?_
        refine wn_iadd q_X0_divide_139 ?_
        refine wn_idiv q_X0_divide_140 (by omega) (by omega) (by omega) ?_
        obtain ⟨kn1, kn2, kn3⟩ := kn_norm (t := (S4 ds).2.2.2.1 ((S4 ds).2.2.1 - 1)) (s := 1000000000 / ((S4 ds).2.2.2.1 ((S4 ds).2.2.1 - 1) + 1)) (by omega) htl rfl
        generalize hsc : 1000000000 / ((S4 ds).2.2.2.1 ((S4 ds).2.2.1 - 1) + 1) = sc at *
        have hscB : sc ≤ BB := Nat.le_trans (Nat.le_mul_of_pos_right sc (by omega)) kn2
        refine wa_istore q_X0_divide_141 (by decide) ?_
        refine wa_aload_n q_X0_divide_143 rfl ?_
        refine wa_getf q_X0_divide_144 f_RX0_12 (by assumption) rfl ?_
        refine wa_aload_n q_X0_divide_147 rfl ?_
        refine wa_getf q_X0_divide_148 f_RX0_12 (by assumption) rfl ?_
        refine wa_getf q_X0_divide_151 f_RX0_47 (by assumption) rfl ?_
        refine wa_iconst q_X0_divide_154 (v := nI 1) (by decide) ?_
        refine wn_iadd q_X0_divide_155 ?_
        refine wa_callV q_X0_divide_156 g_X0_divide_156 w_X1_extend (by assumption) rfl (av := [_]) rfl rfl (lk rfl) (Calls.mono (C_extend v4.1 m1 (by omega)) ?_)
        rintro _ σ5 ⟨rfl, x1, g1, g2, g3, g4, g5, g6⟩
        have b5 := bw_obj g6 v4.1 l4 b4 (by decide)
        have l5 : b0 < σ5.1 := Nat.lt_of_lt_of_le l4 g6.1
        have hx1 : x1.2.2.1 = (S4 dv).2.2.1 + 1 := by omega
        have hxv : vl x1.2.2.2.1 x1.2.2.1 = (V a).natAbs := by
          rw [hx1, vl_pad (n := (S4 dv).2.2.1) (by omega) (fun i h1 h2 => g4 i h1 (by omega)), vl_congr g3]; exact dv1
        have hxd : ∀ i, i < x1.2.2.1 → x1.2.2.2.1 i < BB := by
          intro i hi
          rcases Nat.lt_or_ge i (S4 dv).2.2.1 with z | z
          · rw [g3 i z]; exact dv2.1 i z
          · rw [g4 i z (by omega)]; exact BB_pos
        have hal : (V a).natAbs < BB ^ (S4 dv).2.2.1 := by rw [← dv1]; exact vl_lt dv2.1
        have hfit : sc * (V a).natAbs < BB ^ ((S4 dv).2.2.1 + 1) := by
          rw [Nat.pow_succ, Nat.mul_comm (BB ^ _) BB]
          exact Nat.lt_of_le_of_lt (Nat.mul_le_mul_right _ hscB) (Nat.mul_lt_mul_of_pos_left hal BB_pos)
        obtain ⟨t1, -, -, -, -, -, -⟩ := g5.1 dv m1
        refine wa_aload_n q_X0_divide_159 rfl ?_
        refine wa_getf q_X0_divide_160 f_RX0_12 (by assumption) rfl ?_
        refine wa_iload q_X0_divide_163 rfl ?_
        refine wn_i2l q_X0_divide_165 (by omega) ?_
        refine wa_callV q_X0_divide_166 g_X0_divide_166 w_X1_multiplyLimbs (by assumption) rfl (av := [_]) rfl rfl (lk rfl) (Calls.mono (C_mulL g5 m1 hscB (by rw [uB_s]; exact hxd) (by rw [uB_s, hxv, hx1]; exact hfit)) ?_)
        rintro _ σ6 ⟨rfl, ⟨xr, xn, xs, xd, xg⟩, g7, g8, g9, g10, g11, g12⟩
        rw [uB_s] at g7 g8 g10
        rw [uB_u] at g11 g12
        have g7 : xs = x1.2.2.1 := g7
        have g9 : ∀ i, i < xs → xd i < BB := g9
        have g10 : vl xd xs = sc * vl x1.2.2.2.1 x1.2.2.1 := g10
        have hxs : xs = (S4 dv).2.2.1 + 1 := by omega
        rw [hxv] at g10
        have b6 := bw_obj g12 g5 l5 b5 (by decide)
        have l6 : b0 < σ6.1 := Nat.lt_of_lt_of_le l5 g12.1
        have hds6 : uB S4 dv (xr, xn, xs, xd, xg) ds = S4 ds := uB_n (fun z => n1 z.symm)
        obtain ⟨t2, -, -, -, -, -, -⟩ := g11.1 ds m2
        have hfit2 : sc * (V b).natAbs < BB ^ (S4 ds).2.2.1 := by
          have q1 : sc * (V b).natAbs < sc * (((S4 ds).2.2.2.1 ((S4 ds).2.2.1 - 1) + 1) * BB ^ ((S4 ds).2.2.1 - 1)) := Nat.mul_lt_mul_of_pos_left hVn.1 (by omega)
          have q2 : sc * (((S4 ds).2.2.2.1 ((S4 ds).2.2.1 - 1) + 1) * BB ^ ((S4 ds).2.2.1 - 1)) ≤ BB * BB ^ ((S4 ds).2.2.1 - 1) := by rw [← Nat.mul_assoc]; exact Nat.mul_le_mul_right _ kn2
          have q3 : BB * BB ^ ((S4 ds).2.2.1 - 1) = BB ^ (S4 ds).2.2.1 := by
            conv => rhs; rw [show (S4 ds).2.2.1 = (S4 ds).2.2.1 - 1 + 1 by omega, Nat.pow_succ, Nat.mul_comm]
          omega
        refine wa_aload_n q_X0_divide_169 rfl ?_
        refine wa_getf q_X0_divide_170 f_RX0_18 (by assumption) rfl ?_
        refine wa_iload q_X0_divide_173 rfl ?_
        refine wn_i2l q_X0_divide_175 (by omega) ?_
        refine wa_callV q_X0_divide_176 g_X0_divide_176 w_X1_multiplyLimbs (by assumption) rfl (av := [_]) rfl rfl (lk rfl) (Calls.mono (C_mulL g11 m2 hscB (by rw [hds6]; exact ds2.1) (by rw [hds6, ds1]; exact hfit2)) ?_)
        rintro _ σ7 ⟨rfl, y, e10, e11, e12, e13, e14, e15⟩
        rw [hds6] at e10 e11 e13
        rw [ds1] at e13
        have b7 := bw_obj e15 g11 l6 b6 (by decide)
        have l7 : b0 < σ7.1 := Nat.lt_of_lt_of_le l6 e15.1
        have hq7 : uB (uB S4 dv (xr, xn, xs, xd, xg)) ds y q = S4 q := by rw [uB_n n7, uB_n n6]
        have hq0 : (S4 q).2.2.1 = 0 := (isV_sz (v4.2 q m5)).mpr y3
        obtain ⟨t3, -, -, -, -, -, -⟩ := e14.1 q m5
        refine wa_aload_n q_X0_divide_179 rfl ?_
        refine wa_iload q_X0_divide_180 rfl ?_
        refine wa_callV q_X0_divide_182 g_X0_divide_182 w_X1_extend (by assumption) rfl (av := [_]) rfl rfl (lk rfl) (Calls.mono (C_extend e14 m5 (by omega)) ?_)
        rintro _ σ8 ⟨rfl, ⟨zr, zn, zz, zd, zg⟩, f10, f11, f12, f13, f14, f15⟩
        rw [hq7, hq0] at f10 f13
        have f10 : zz = pl := by rw [show zz = max 0 pl from f10]; omega
        subst f10
        have f13 : ∀ i, i < zz → zd i = 0 := fun i hi => f13 i (Nat.zero_le _) hi
        have b8 := bw_obj f15 e14 l7 b7 (by decide)
        have l8 : b0 < σ8.1 := Nat.lt_of_lt_of_le l7 f15.1
        have hT0v : uB (uB S4 dv (xr, xn, xs, xd, xg)) ds y dv = (xr, xn, xs, xd, xg) := by rw [uB_n n1, uB_s]
        have hT0s : uB (uB S4 dv (xr, xn, xs, xd, xg)) ds y ds = y := uB_s
        have hself : uB (uB (uB S4 dv (xr, xn, xs, xd, xg)) ds y) dv (xr, xn, xs, xd, xg) = uB (uB S4 dv (xr, xn, xs, xd, xg)) ds y := uB_self hT0v
        have hytop : BB ≤ 2 * y.2.2.2.1 ((S4 ds).2.2.1 - 1) := by
          have e : vl y.2.2.2.1 y.2.2.1 = vl y.2.2.2.1 ((S4 ds).2.2.1 - 1) + y.2.2.2.1 ((S4 ds).2.2.1 - 1) * BB ^ ((S4 ds).2.2.1 - 1) := by
            rw [e10]
            conv => lhs; rw [show (S4 ds).2.2.1 = (S4 ds).2.2.1 - 1 + 1 by omega]
            rfl
          have e9 := vl_lt (d := y.2.2.2.1) (n := (S4 ds).2.2.1 - 1) (fun i hi => e12 i (by omega))
          have q1 : sc * ((S4 ds).2.2.2.1 ((S4 ds).2.2.1 - 1) * BB ^ ((S4 ds).2.2.1 - 1)) ≤ sc * (V b).natAbs := Nat.mul_le_mul_left _ hVn.2
          rw [← Nat.mul_assoc] at q1
          have q2 : sc * (S4 ds).2.2.2.1 ((S4 ds).2.2.1 - 1) * BB ^ ((S4 ds).2.2.1 - 1) < (y.2.2.2.1 ((S4 ds).2.2.1 - 1) + 1) * BB ^ ((S4 ds).2.2.1 - 1) := by
            rw [Nat.add_mul, Nat.one_mul]; omega
          have q3 := Nat.lt_of_mul_lt_mul_right q2
          omega
        refine wa_iload q_X0_divide_185 rfl ?_
        refine wa_iconst q_X0_divide_187 (v := nI 1) (by decide) ?_
        refine wn_isub q_X0_divide_188 (by omega) ?_
        refine wa_istore q_X0_divide_189 (by decide) ?_
        rw [show nI (zz - 1) = iZ ((zz : Int) - 1) by rw [nI_iZ]; congr 1; omega]
        refine wa_lv (C_div_loop (T0 := uB (uB S4 dv (xr, xn, xs, xd, xg)) ds y) (σ0 := σ) (S0 := S) (A := sc * (V a).natAbs) (lv4 := .ref r) (r1 := xr) (n1 := xn) (sg1 := xg) (rq := zr) (nq := zn) (sgq := zg) m1 m2 m5 n1 n6 n7 (n := (S4 ds).2.2.1) (by rw [hT0s]; exact e10) (by omega) (m := xs) (pl := zz) (by omega) (by rw [hT0s]; intro i hi; exact e12 i (by omega)) (by rw [hT0s]; exact hytop) ?_ zz σ8 xd zd (Nat.le_refl _) (by rw [hself]; exact f14) (by rw [hself]; exact sA.tr (g6.tr (g12.tr (e15.tr f15)))) g9 (fun i hi => by rw [f13 i hi]; exact BB_pos) (fun i i1 i2 => absurd i2 (by omega)) ?_ ?_ b8 l8) rfl
        · rw [hT0s]
          intro σ9 d9 q9 w9 s9 hd9 hq9 hlt9 hA9 b9 l9
          have hyv : vl y.2.2.2.1 (S4 ds).2.2.1 = sc * (V b).natAbs := by rw [← e10]; exact e13
          rw [hyv] at hlt9 hA9
          have hdv := div_of (U := sc * (V a).natAbs) (V := sc * (V b).natAbs) (q := vl q9 zz) (by rw [Nat.mul_comm (vl q9 zz)]; omega) (by rw [Nat.add_mul, Nat.one_mul, Nat.mul_comm (vl q9 zz)]; omega)
          rw [Nat.mul_div_mul_left _ _ (by omega), Nat.mul_mod_mul_left] at hdv
          have hR : vl d9 xs = sc * ((V a).natAbs % (V b).natAbs) := by
            rw [hdv.2, ← hA9, Nat.mul_comm (sc * (V b).natAbs)]; omega
          obtain ⟨t9, -, -, -, -, -, -⟩ := w9.1 q m5
          refine wa_aload_n q_X0_divide_215 rfl ?_
          refine wa_iconst q_X0_divide_216 (v := nI 1) (by decide) ?_
          refine wa_callV q_X0_divide_217 g_X0_divide_217 w_X1_trim (by assumption) rfl (av := [_]) rfl rfl (lk rfl) (Calls.mono (C_trim w9 m5 (by rw [uB_s]; intro i hi; have := hq9 i hi; show q9 i < _; omega)) ?_)
          rintro _ σ10 ⟨rfl, bq, hbq, w10, s10⟩
          rw [uB_s] at hbq
          rw [uB_u] at w10 s10
          have b10 := bw_obj s10 w9 l9 b9 (by decide)
          have l10 : b0 < σ10.1 := Nat.lt_of_lt_of_le l9 s10.1
          have hv10 : uB (uB (uB (uB S4 dv (xr, xn, xs, xd, xg)) ds y) dv (xr, xn, xs, d9, xg)) q bq dv = (xr, xn, xs, d9, xg) := by rw [uB_n (fun z => n6 z.symm), uB_s]
          obtain ⟨t10, -, -, -, -, -, -⟩ := w10.1 dv m1
          refine wa_aload_n q_X0_divide_220 rfl ?_
          refine wa_getf q_X0_divide_221 f_RX0_12 (by assumption) rfl ?_
          refine wa_iconst q_X0_divide_224 (v := nI 1) (by decide) ?_
          refine wa_callV q_X0_divide_225 g_X0_divide_225 w_X1_trim (by assumption) rfl (av := [_]) rfl rfl (lk rfl) (Calls.mono (C_trim w10 m1 (by rw [hv10]; intro i hi; have := hd9 i hi; show d9 i < _; omega)) ?_)
          rintro _ σ11 ⟨rfl, bd, hbd, w11, s11⟩
          rw [hv10] at hbd
          have b11 := bw_obj s11 w10 l10 b10 (by decide)
          have l11 : b0 < σ11.1 := Nat.lt_of_lt_of_le l10 s11.1
          have v11 : bw_V X D σ11 (uB (uB (uB (uB (uB S4 dv (xr, xn, xs, xd, xg)) ds y) dv (xr, xn, xs, d9, xg)) q bq) dv bd) (uV (uV (uV V4 ds (V b * sc)) q (((V a).natAbs / (V b).natAbs : Nat) : Int)) dv ((sc * ((V a).natAbs % (V b).natAbs) : Nat) : Int)) := by
            refine ⟨w11, fun x hx => ?_⟩
            by_cases ex1 : x = dv
            · subst ex1
              rw [uB_s, uV_s]
              refine isV_of (s := nI 1) ?_ ?_ ?_ (fun hz => ?_)
              · subst hbd
                exact ⟨fun i hi => hd9 i (by have := tp_le d9 xs; have hi : i < tp d9 xs := hi; omega), tp_top _ _⟩
              · subst hbd
                show vl d9 (tp d9 xs) = _
                rw [vl_tp, hR, Int.natAbs_natCast]
              · subst hbd; rfl
              · rw [sg_pos (by omega)]; decide
            · by_cases ex2 : x = q
              · subst ex2
                rw [uB_n ex1, uB_s, uV_n ex1, uV_s]
                refine isV_of (s := nI 1) ?_ ?_ ?_ (fun hz => ?_)
                · subst hbq
                  exact ⟨fun i hi => hq9 i (by have := tp_le q9 zz; have hi : i < tp q9 zz := hi; omega), tp_top _ _⟩
                · subst hbq
                  show vl q9 (tp q9 zz) = _
                  rw [vl_tp, hdv.1, Int.natAbs_natCast]
                · subst hbq; rfl
                · rw [sg_pos (by omega)]; decide
              · rw [uB_n ex1, uB_n ex2, uB_n ex1, uV_n ex1, uV_n ex2]
                by_cases ex3 : x = ds
                · subst ex3
                  rw [uB_s, uV_s]
                  refine ⟨?_, ?_, ?_, ?_⟩
                  · rw [e11, ds0, sgI_mul, sg_pos (by omega)]; simp
                  · rw [e13, Int.natAbs_mul, Int.natAbs_natCast, Nat.mul_comm]
                  · exact e12
                  · refine Or.inr ?_
                    rw [e10]; omega
                · rw [uB_n ex3, uB_n ex1, uV_n ex3]; exact v4.2 x hx
          obtain ⟨t11, -, -, -, -, -, -⟩ := v11.1.1 dv m1
          refine wa_aload_n q_X0_divide_228 rfl ?_
          refine wa_getf q_X0_divide_229 f_RX0_12 (by assumption) rfl ?_
          refine wa_iload q_X0_divide_232 rfl ?_
          refine wn_i2l q_X0_divide_234 (by omega) ?_
          refine wa_callV q_X0_divide_235 g_X0_divide_235 w_X1_divideSmall (by assumption) rfl (av := [_]) rfl rfl (lk rfl) (Calls.mono (V_divS v11 m1 (by omega) (Nat.lt_of_le_of_lt (Nat.mul_le_mul_right _ hscB) (by decide))) ?_)
          rintro _ σ12 ⟨rfl, S12, v12, s12⟩
          rw [uV_s] at v12
          have b12 := bw_obj s12 v11.1 l11 b11 (by decide)
          refine wa_pop2 q_X0_divide_238 rfl ?_
          refine wa_lv (hfin σ12 S12 _ [] v12 (s9.tr (s10.tr (s11.tr s12))) b12 ?_ ?_ (fun x h1 h2 h3 => ?_)) rfl
          · rw [uV_s]
            show ((sc * ((V a).natAbs % (V b).natAbs) / sc : Nat) : Int) = _
            rw [Nat.mul_div_cancel_left _ (by omega)]
          · rw [uV_n n6, uV_n n6, uV_s]
          · rw [uV_n h1, uV_n h1, uV_n h3, uV_n h2]; exact y4 x h1 h2 h3
        · rw [hT0s, ← e10, e13]
          have hsp := vl_add xd zz (S4 ds).2.2.1
          rw [show zz + (S4 ds).2.2.1 = xs by omega, g10] at hsp
          have q1 : sc * (V a).natAbs < sc * BB ^ (S4 dv).2.2.1 := Nat.mul_lt_mul_of_pos_left hal (by omega)
          have q2 : BB ^ (S4 dv).2.2.1 = BB ^ zz * BB ^ ((S4 ds).2.2.1 - 1) := by rw [← Nat.pow_add]; congr 1; omega
          have q3 : BB ^ zz * vl (fun i => xd (zz + i)) (S4 ds).2.2.1 < BB ^ zz * (sc * BB ^ ((S4 ds).2.2.1 - 1)) := by
            have : sc * BB ^ (S4 dv).2.2.1 = BB ^ zz * (sc * BB ^ ((S4 ds).2.2.1 - 1)) := by rw [q2]; grind
            omega
          have q4 := Nat.lt_of_mul_lt_mul_left q3
          rw [e10]
          refine Nat.lt_of_lt_of_le q4 (Nat.mul_le_mul_left _ (Nat.le_trans ?_ hVn.2))
          exact Nat.le_mul_of_pos_left _ (by omega)
        · rw [Nat.sub_self, g10]
          show _ + _ * (_ * 0) = _
          rw [Nat.mul_zero, Nat.mul_zero, Nat.add_zero]
    · have hVB : (V b).natAbs < BB := by
        rw [← ds1]
        have := vl_lt ds2.1
        rw [hc2, Nat.pow_one] at this
        rw [hc2]; exact this
      refine wa_aload_n q_X0_divide_84 rfl ?_
      refine wa_aload_n q_X0_divide_85 rfl ?_
      refine wa_getf q_X0_divide_86 f_RX0_12 (by assumption) rfl ?_
      refine wa_callV q_X0_divide_89 g_X0_divide_89 w_X1_copy (by assumption) rfl (av := [_]) rfl rfl (lk rfl) (Calls.mono (V_copy v4 m5 m1 n6 (by rw [y1]; exact za2)) ?_)
      rintro _ σ5 ⟨rfl, S5, v5, s5⟩
      have b5 := bw_obj s5 v4.1 l4 b4 (by decide)
      have l5 : b0 < σ5.1 := Nat.lt_of_lt_of_le l4 s5.1
      obtain ⟨q5, -, -, -, -, -, -⟩ := v5.1.1 q m5
      obtain ⟨c5, -, -, -, -, -, -⟩ := v5.1.1 ds m2
      obtain ⟨-, u1, u2⟩ := v5.2 ds m2
      rw [uV_n (fun z => n7 z.symm), y2] at u1
      refine wa_aload_n q_X0_divide_92 rfl ?_
      refine wa_getf q_X0_divide_93 f_RX0_12 (by assumption) rfl ?_
      refine wa_aload_n q_X0_divide_96 rfl ?_
      refine wa_aload_n q_X0_divide_97 rfl ?_
      refine wa_getf q_X0_divide_98 f_RX0_18 (by assumption) rfl ?_
      refine wa_iconst q_X0_divide_101 (v := nI 0) (by decide) ?_
      refine wa_callV q_X0_divide_102 g_X0_divide_102 w_X1_limbAt (by assumption) rfl (av := [_]) rfl rfl (lk rfl) (Calls.mono (C_limbAt v5.1 m2 (by decide)) ?_)
      rintro _ _ ⟨rfl, rfl⟩
      rw [vl_dig u2.1, u1, Nat.pow_zero, Nat.div_one, Nat.mod_eq_of_lt hVB]
      refine wn_i2l q_X0_divide_105 (by omega) ?_
      refine wa_callV q_X0_divide_106 g_X0_divide_106 w_X1_divideSmall (by assumption) rfl (av := [_]) rfl rfl (lk rfl) (Calls.mono (V_divS v5 m5 hbp (Nat.lt_of_le_of_lt (Nat.mul_le_mul_right _ (Nat.le_of_lt hVB)) (by decide))) ?_)
      rintro _ σ6 ⟨rfl, S6, v6, s6⟩
      rw [uV_s, y1] at v6 ⊢
      rw [Int.natAbs_natCast, lN_lZ]
      have b6 := bw_obj s6 v5.1 l5 b5 (by decide)
      have l6 := Nat.lt_of_lt_of_le l5 s6.1
      obtain ⟨c6, -, -, -, -, -, -⟩ := v6.1.1 dv m1
      have hml := Nat.mod_lt (V a).natAbs hbp
      refine wa_callV q_X0_divide_109 g_X0_divide_109 w_X1_setLong (by assumption) rfl (av := [_]) rfl rfl (lk rfl) (Calls.mono (V_setL v6 m1 (by omega) (by omega)) ?_)
      rintro _ σ7 ⟨rfl, S7, v7, s7⟩
      have b7 := bw_obj s7 v6.1 l6 b6 (by decide)
      refine wa_goto q_X0_divide_112 ?_
      refine wa_lv (hfin σ7 S7 _ [] v7 (sA.tr (s5.tr (s6.tr s7))) b7 uV_s ?_ (fun x h1 h2 h3 => ?_)) rfl
      · rw [uV_n n6, uV_s]; rfl
      · rw [uV_n h1, uV_n h3, uV_n h3]; exact y4 x h1 h2 h3
  · exact absurd hc1 hn0
end bench5
end
section
/-! Newton's rounds for roots of whole numbers: they come down, and soon -/
def isq (N r : Nat) : Prop := r * r ≤ N ∧ N < (r + 1) * (r + 1)
theorem amgm {x y r : Nat} (h : x + y ≤ 2 * r) : x * y ≤ r * r := by
  rcases Nat.le_total x r with q | q
  · obtain ⟨a, rfl⟩ : ∃ a, r = x + a := ⟨r - x, by omega⟩
    have h1 : x * y ≤ x * (x + 2 * a) := Nat.mul_le_mul_left _ (by omega)
    have h2 : (x + a) * (x + a) = x * (x + 2 * a) + a * a := by grind
    omega
  · obtain ⟨a, rfl⟩ : ∃ a, x = r + a := ⟨x - r, by omega⟩
    have h0 : y + a ≤ r := by omega
    obtain ⟨c, rfl⟩ : ∃ c, r = y + a + c := ⟨r - (y + a), by omega⟩
    have h1 : (y + a + c) * (y + a + c) = (y + a + c + a) * y + (a * a + a * c + c * (y + a + c)) := by grind
    omega
theorem isq_u {N r s : Nat} (h : isq N r) (g : isq N s) : r = s := by
  have a1 : ∀ {r s : Nat}, isq N r → isq N s → r ≤ s := by
    intro r s h g
    rcases Nat.lt_or_ge s r with q | q
    · have : (s + 1) * (s + 1) ≤ r * r := Nat.mul_le_mul q q
      have := h.1; have := g.2
      omega
    · exact q
  exact Nat.le_antisymm (a1 h g) (a1 g h)
theorem nw_ge {N r R : Nat} (h : isq N r) (hR : 0 < R) : r ≤ (N / R + R) / 2 := by
  rcases Nat.lt_or_ge ((N / R + R) / 2) r with q | q
  · exfalso
    have h1 : R + (N / R + 1) ≤ 2 * r := by omega
    have h2 := amgm h1
    have h3 := Nat.lt_mul_div_succ N hR
    have h4 := h.1
    omega
  · exact q
theorem nw_lt {N r R : Nat} (h : isq N r) (hR : r < R) : (N / R + R) / 2 < R := by
  have h1 : N < R * R := Nat.lt_of_lt_of_le h.2 (Nat.mul_le_mul hR hR)
  have h2 : N / R < R := Nat.div_lt_of_lt_mul h1
  omega
theorem nw_err {N r E t : Nat} (h : isq N r) (hr : 0 < r) (ht : E * E < 2 * r * t) : (N / (r + E) + (r + E)) / 2 ≤ r + t := by
  rcases Nat.lt_or_ge (r + t) ((N / (r + E) + (r + E)) / 2) with q | q
  · exfalso
    have h1 : r + 2 * t + 2 ≤ N / (r + E) + E := by omega
    have h2 : (r + E) * (N / (r + E)) ≤ N := Nat.mul_div_le N (r + E)
    generalize N / (r + E) = x at *
    have h3 : (r + E) * (r + 2 * t + 2) ≤ (r + E) * (x + E) := Nat.mul_le_mul_left _ h1
    have h4 : (r + E) * (x + E) = (r + E) * x + r * E + E * E := by grind
    have h5 : (r + E) * (r + 2 * t + 2) = r * r + 2 * r * t + 2 * r + r * E + 2 * (E * t) + 2 * E := by grind
    have h6 : N < r * r + 2 * r + 1 := by have := h.2; have e : (r + 1) * (r + 1) = r * r + 2 * r + 1 := by grind
                                          omega
    omega
  · exact q
/-- how near the root is behind k rounds, from M above it on -/
def nwP (k E M : Nat) : Prop := (k = 0 ∧ E ≤ M) ∨ (k = 1 ∧ 2 * E ≤ M + 2) ∨ (∃ j, k = 2 + j ∧ j ≤ 9 ∧ E * 2 ^ (2 ^ (j + 1)) ≤ M) ∨ (E ≤ 1 ∧ k ≤ 12) ∨ (E = 0 ∧ k ≤ 13)
theorem nw_step {N r E M k : Nat} (h : isq N r) (hM : M ≤ r) (h16 : 32 ≤ M) (hM2 : M < 2 ^ 1920) (hE : 0 < E) (hP : nwP k E M) : ∃ E', (N / (r + E) + (r + E)) / 2 = r + E' ∧ E' < E ∧ nwP (k + 1) E' M := by
  have a1 := nw_ge h (show 0 < r + E by omega)
  have a2 := nw_lt h (show r < r + E by omega)
  obtain ⟨E', hE'⟩ : ∃ E', (N / (r + E) + (r + E)) / 2 = r + E' := ⟨(N / (r + E) + (r + E)) / 2 - r, by omega⟩
  refine ⟨E', hE', by omega, ?_⟩
  have hb : ∀ t, E * E < 2 * r * t → E' ≤ t := fun t ht => by
    have := nw_err h (by omega) ht
    omega
  rcases hP with ⟨rfl, h1⟩ | ⟨rfl, h1⟩ | ⟨j, rfl, hj, h1⟩ | ⟨h1, h2⟩ | ⟨h1, h2⟩
  · -- E ≤ M: E' ≤ M / 2 + 1
    refine Or.inr (Or.inl ⟨rfl, ?_⟩)
    have : E' ≤ M / 2 + 1 := hb _ (by
      have q1 : E * E ≤ M * M := Nat.mul_le_mul h1 h1
      have q2 : 2 * M * (M / 2 + 1) ≤ 2 * r * (M / 2 + 1) := Nat.mul_le_mul_right _ (by omega)
      have q3 : M * M < 2 * M * (M / 2 + 1) := by
        have : M < 2 * (M / 2 + 1) := by omega
        have := Nat.mul_lt_mul_of_pos_left this (show 0 < M by omega)
        have e : M * (2 * (M / 2 + 1)) = 2 * M * (M / 2 + 1) := by grind
        omega
      omega)
    omega
  · -- 2 E ≤ M + 2: 4 E' ≤ M
    refine Or.inr (Or.inr (Or.inl ⟨0, rfl, by omega, ?_⟩))
    show E' * 4 ≤ M
    have : E' ≤ M / 4 := hb _ (by
      have q1 : (2 * E) * (2 * E) ≤ (M + 2) * (M + 2) := Nat.mul_le_mul h1 h1
      have q2 : 2 * M * (M / 4) ≤ 2 * r * (M / 4) := Nat.mul_le_mul_right _ (by omega)
      have q3 : (2 * E) * (2 * E) = 4 * (E * E) := by grind
      have q4 : (M + 2) * (M + 2) = M * M + 4 * M + 4 := by grind
      have q5 : M ≤ 4 * (M / 4) + 3 := by omega
      have q6 : M * M ≤ M * (4 * (M / 4) + 3) := Nat.mul_le_mul_left _ q5
      have q7 : M * (4 * (M / 4) + 3) = 4 * (M * (M / 4)) + 3 * M := by grind
      have q8 : 2 * M * (M / 4) = 2 * (M * (M / 4)) := by grind
      have q9 : M * 8 ≤ M * (M / 4) := Nat.mul_le_mul_left _ (by omega)
      omega)
    omega
  · -- E 2^g ≤ M
    have hE2 : E * E * (2 ^ (2 ^ (j + 1)) * 2 ^ (2 ^ (j + 1))) ≤ M * M := by
      have := Nat.mul_le_mul h1 h1
      have e : E * 2 ^ (2 ^ (j + 1)) * (E * 2 ^ (2 ^ (j + 1))) = E * E * (2 ^ (2 ^ (j + 1)) * 2 ^ (2 ^ (j + 1))) := by grind
      omega
    have hgg : 2 ^ (2 ^ (j + 1)) * 2 ^ (2 ^ (j + 1)) = 2 ^ (2 ^ (j + 1 + 1)) := by rw [← Nat.pow_add]; congr 1; rw [Nat.pow_succ 2 (j + 1)]; omega
    rw [hgg] at hE2
    have hGp : 0 < 2 ^ (2 ^ (j + 1 + 1)) := Nat.pow_pos (by decide)
    generalize hG : 2 ^ (2 ^ (j + 1 + 1)) = G at *
    by_cases hlast : j ≤ 8 ∧ 2 * G ≤ M
    · refine Or.inr (Or.inr (Or.inl ⟨j + 1, by omega, by omega, ?_⟩))
      rw [hG]
      have q : E' ≤ M / G := hb _ (by
        -- E E G ≤ M M, so E E < 2 M (M / G)
        have q1 : M < G * (M / G + 1) := Nat.lt_mul_div_succ M hGp
        have q2 : 2 ≤ M / G := (Nat.le_div_iff_mul_le hGp).mpr hlast.2
        have q3 : M * M < M * (G * (M / G + 1)) := Nat.mul_lt_mul_of_pos_left q1 (by omega)
        have q4 : E * E * G < M * (M / G + 1) * G := by
          have : M * (G * (M / G + 1)) = M * (M / G + 1) * G := by grind
          omega
        have q5 := Nat.lt_of_mul_lt_mul_right q4
        have q6 : M * (M / G + 1) ≤ M * (2 * (M / G)) := Nat.mul_le_mul_left _ (by omega)
        have q7 : M * (2 * (M / G)) = 2 * M * (M / G) := by grind
        have q8 : 2 * M * (M / G) ≤ 2 * r * (M / G) := Nat.mul_le_mul_right _ (by omega)
        omega)
      exact Nat.le_trans (Nat.mul_le_mul_right _ q) (Nat.div_mul_le_self _ _)
    · refine Or.inr (Or.inr (Or.inr (Or.inl ⟨?_, by omega⟩)))
      have hMG : M < 2 * G := by
        rcases Nat.lt_or_ge M (2 * G) with z | z
        · exact z
        · have : j = 9 := by omega
          subst this
          have e : G = 2 ^ 2048 := by rw [← hG]
          have : 2 ^ 1920 ≤ 2 ^ 2048 := Nat.pow_le_pow_right (by decide) (by decide)
          rw [e] at z
          omega
      exact hb 1 (by
        have q1 : M * M < M * (2 * G) := Nat.mul_lt_mul_of_pos_left hMG (by omega)
        have q2 : M * (2 * G) = 2 * M * G := by grind
        have q3 : E * E * G < 2 * M * G := by omega
        have q4 := Nat.lt_of_mul_lt_mul_right q3
        have q5 : 2 * M ≤ 2 * r := by omega
        omega)
  · have : E' = 0 := by omega
    exact Or.inr (Or.inr (Or.inr (Or.inr ⟨this, by omega⟩)))
  · omega
end
section
/-! EnclosedDigits$Bench: startAbove, squareRoot -/
theorem isq_ex (N : Nat) : ∃ r, isq N r := by
  induction N with
  | zero => exact ⟨0, by decide, by decide⟩
  | succ N ih =>
    obtain ⟨r, h1, h2⟩ := ih
    by_cases h : (r + 1) * (r + 1) ≤ N + 1
    · refine ⟨r + 1, h, ?_⟩
      have : (r + 1 + 1) * (r + 1 + 1) = (r + 1) * (r + 1) + 2 * r + 3 := by grind
      omega
    · exact ⟨r, by omega, by omega⟩
theorem shl_1 : ∀ b : Fin 30, lN 1 <<< ((nI b.val).toInt64 &&& 63) = lN (2 ^ b.val) := by decide +kernel
def gd (k E r : Nat) : Prop := (E ≤ 1 ∧ k ≤ 12) ∨ (E = 0 ∧ k ≤ 13) ∨ ∃ M, M ≤ r ∧ 32 ≤ M ∧ M < 2 ^ 1920 ∧ nwP k E M
theorem gd_step {N r E k : Nat} (h : isq N r) (hE : 0 < E) (hG : gd k E r) : k ≤ 12 ∧ ∃ E', (N / (r + E) + (r + E)) / 2 = r + E' ∧ E' < E ∧ gd (k + 1) E' r := by
  rcases hG with ⟨h1, h2⟩ | ⟨h1, h2⟩ | ⟨M, h1, h2, h3, h4⟩
  · have a1 := nw_ge h (show 0 < r + E by omega)
    have a2 := nw_lt h (show r < r + E by omega)
    exact ⟨h2, 0, by omega, by omega, Or.inr (Or.inl ⟨rfl, by omega⟩)⟩
  · omega
  · refine ⟨?_, ?_⟩
    · rcases h4 with ⟨rfl, -⟩ | ⟨rfl, -⟩ | ⟨j, rfl, hj, -⟩ | ⟨-, q⟩ | ⟨q, -⟩ <;> omega
    · obtain ⟨E', e1, e2, e3⟩ := nw_step h h1 h2 h3 hE h4
      exact ⟨E', e1, e2, Or.inr (Or.inr ⟨M, h1, h2, h3, e3⟩)⟩
theorem gd_k {k E r : Nat} (h : gd k E r) : k ≤ 13 := by
  rcases h with ⟨h1, h2⟩ | ⟨h1, h2⟩ | ⟨M, h1, h2, h3, h4⟩
  · omega
  · exact h2
  · rcases h4 with ⟨rfl, -⟩ | ⟨rfl, -⟩ | ⟨j, rfl, hj, -⟩ | ⟨-, q⟩ | ⟨-, q⟩ <;> omega
/-- the next level: from one more than the root of fewer pairs -/
theorem lev {N u m r : Nat} (hm : m ≤ u) (hm1 : 1 ≤ m) (hm2 : m ≤ 64) (h : isq (N / BB ^ (2 * u)) r) (hr : 1 ≤ r) : ∃ r' E, isq (N / BB ^ (2 * (u - m))) r' ∧ (r + 1) * BB ^ m = r' + E ∧ 1 ≤ r' ∧ gd 0 E r' := by
  obtain ⟨r', h'⟩ := isq_ex (N / BB ^ (2 * (u - m)))
  have hP := pw_pos m
  have e1 : N / BB ^ (2 * u) = N / BB ^ (2 * (u - m)) / (BB ^ m * BB ^ m) := by
    rw [Nat.div_div_eq_div_mul, ← Nat.pow_add, ← Nat.pow_add]; congr 2; omega
  generalize N / BB ^ (2 * (u - m)) = N' at *
  rw [e1] at h
  have hPP : 0 < BB ^ m * BB ^ m := Nat.mul_pos hP hP
  have hd := Nat.div_add_mod N' (BB ^ m * BB ^ m)
  have hml := Nat.mod_lt N' hPP
  generalize N' / (BB ^ m * BB ^ m) = A at *
  have hM : BB ^ m < 2 ^ 1920 := Nat.lt_of_le_of_lt (pw_mono hm2) (by decide +kernel)
  have hM2 : BB ^ 1 ≤ BB ^ m := pw_mono hm1
  generalize BB ^ m = P at *
  -- r P ≤ r'
  have h1 : r * P ≤ r' := by
    rcases Nat.lt_or_ge r' (r * P) with q | q
    · have q1 : (r' + 1) * (r' + 1) ≤ r * P * (r * P) := Nat.mul_le_mul q q
      have q2 : r * P * (r * P) = r * r * (P * P) := by grind
      have q3 : r * r * (P * P) ≤ A * (P * P) := Nat.mul_le_mul_right _ h.1
      have q4 : A * (P * P) = P * P * A := Nat.mul_comm _ _
      have := h'.2
      omega
    · exact q
  -- r' < (r + 1) P
  have h2 : r' < (r + 1) * P := by
    rcases Nat.lt_or_ge r' ((r + 1) * P) with q | q
    · exact q
    · have q1 : (r + 1) * P * ((r + 1) * P) ≤ r' * r' := Nat.mul_le_mul q q
      have q2 : (r + 1) * P * ((r + 1) * P) = (r + 1) * (r + 1) * (P * P) := by grind
      have q3 : (A + 1) * (P * P) ≤ (r + 1) * (r + 1) * (P * P) := Nat.mul_le_mul_right _ h.2
      have q4 : (A + 1) * (P * P) = P * P * A + P * P := by grind
      have := h'.1
      omega
  have h3 : (r + 1) * P = r * P + P := by rw [Nat.add_mul, Nat.one_mul]
  have h4 : 1 * P ≤ r * P := Nat.mul_le_mul_right _ hr
  have hBv : BB ^ 1 = 1000000000 := rfl
  exact ⟨r', (r + 1) * P - r', h', by omega, by omega, Or.inr (Or.inr ⟨P, by omega, by omega, hM, Or.inl ⟨rfl, by omega⟩⟩)⟩
section root
variable {X : en_X} {σ : en_S} {D : List Nat} {S : Nat → en_B} {V : Nat → Int}
theorem C_start_loop {ρ : en_S} {top : Nat} {Q : Option Value → en_S → Prop} (ht : top < 1000000000000000000) (k : ∀ s, isq top s → s < 2 ^ 30 → Q (some (.long (lN (s + 1)))) σ) :
    ∀ (t s : Nat), t ≤ 30 → s * s ≤ top → top < (s + 2 ^ t) * (s + 2 ^ t) → s + 2 ^ t ≤ 2 ^ 30 → WA X M_X0_startAbove ρ 31 [(6, .int (iZ ((t : Int) - 1))), (4, .long (lN s)), (2, .long (lN top))] [] σ Q := by
  intro t
  induction t with
  | zero =>
    intro s h0 h1 h2 h3
    refine wa_iload q_X0_startAbove_31 rfl ?_
    refine wa_if_lt q_X0_startAbove_33 (fun hc => ?_) (fun hc => absurd (by decide) hc)
    refine wa_lload q_X0_startAbove_65 rfl ?_
    refine wa_lconst q_X0_startAbove_67 (v := lN 1) (by decide) ?_
    refine wn_ladd q_X0_startAbove_68 ?_
    refine wa_lret q_X0_startAbove_69 rfl ?_
    exact k s ⟨h1, h2⟩ (by omega)
  | succ t ih =>
    intro s h0 h1 h2 h3
    have e0 : iZ (((t + 1 : Nat) : Int) - 1) = nI t := by rw [nI_iZ]; congr 1; omega
    rw [e0]
    have hp : 2 ^ (t + 1) = 2 * 2 ^ t := by rw [Nat.pow_succ]; omega
    rw [hp] at h2 h3
    have h30 : s + 2 ^ t < 2 ^ 30 := by have : 0 < 2 ^ t := Nat.pow_pos (by decide); omega
    refine wa_iload q_X0_startAbove_31 rfl ?_
    refine wn_if_lt q_X0_startAbove_33 (by omega) (fun hc => ?_) (fun hc => ?_)
    · exact absurd hc id
    · refine wa_lload q_X0_startAbove_36 rfl ?_
      refine wa_lconst q_X0_startAbove_38 (v := lN 1) (by decide) ?_
      refine wa_iload q_X0_startAbove_39 rfl ?_
      refine wa_lshl q_X0_startAbove_41 (shl_1 ⟨t, by omega⟩) ?_
      show WA X M_X0_startAbove ρ 42 _ (.long (lN (2 ^ t)) :: .long (lN s) :: []) σ Q
      have hsq : (s + 2 ^ t) * (s + 2 ^ t) < 2 ^ 63 := Nat.lt_of_lt_of_le (Nat.mul_lt_mul'' h30 h30) (by decide)
      refine wn_ladd q_X0_startAbove_42 ?_
      refine wa_lstore q_X0_startAbove_43 (by decide) ?_
      refine wa_lload q_X0_startAbove_45 rfl ?_
      refine wa_lload q_X0_startAbove_47 rfl ?_
      refine wn_lmul q_X0_startAbove_49 ?_
      refine wa_lload_n q_X0_startAbove_50 rfl ?_
      refine wn_lcmp_gt q_X0_startAbove_51 q_X0_startAbove_52 (by omega) (by omega) (fun hd => ?_) (fun hd => ?_)
      · refine wa_iinc q_X0_startAbove_59 rfl (v := iZ ((t : Int) - 1)) (by rw [nI_iZ]; exact iZ_add _ _) (by decide) ?_
        refine wa_goto q_X0_startAbove_62 ?_
        exact wa_lv (ih s (by omega) h1 hd (by omega)) rfl
      · refine wa_lload q_X0_startAbove_55 rfl ?_
        refine wa_lstore q_X0_startAbove_57 (by decide) ?_
        refine wa_iinc q_X0_startAbove_59 rfl (v := iZ ((t : Int) - 1)) (by rw [nI_iZ]; exact iZ_add _ _) (by decide) ?_
        refine wa_goto q_X0_startAbove_62 ?_
        refine wa_lv (ih (s + 2 ^ t) (by omega) hd ?_ (by omega)) rfl
        rw [show s + 2 ^ t + 2 ^ t = s + 2 * 2 ^ t by omega]; exact h2
theorem V_start {a u : Nat} (h : bw_V X D σ S V) (ha : a ∈ D) (hu : u ≤ 100) (hz : (V a).natAbs < BB ^ (2 * u + 2)) : Calls X M_X0_startAbove [.ref a, .int (nI u)] σ (fun res τ => (∃ s, res = some (.long (lN (s + 1))) ∧ isq ((V a).natAbs / BB ^ (2 * u)) s ∧ s < 2 ^ 30) ∧ τ = σ) := by
  obtain ⟨a1, -, -, -, -, -, -⟩ := h.1.1 a ha
  obtain ⟨va, wa, na⟩ := h.2 a ha
  have hB : BB = 1000000000 := rfl
  refine Calls.of rfl (lk rfl) ?_
  refine wa_aload_n q_X0_startAbove_0 rfl ?_
  refine wa_iconst q_X0_startAbove_1 (v := nI 2) (by decide) ?_
  refine wa_iload_n q_X0_startAbove_2 rfl ?_
  refine wn_imul q_X0_startAbove_3 ?_
  refine wa_iconst q_X0_startAbove_4 (v := nI 1) (by decide) ?_
  refine wn_iadd q_X0_startAbove_5 ?_
  refine wa_callV q_X0_startAbove_6 g_X0_startAbove_6 w_X1_limbAt (by assumption) rfl (av := [_]) rfl rfl (lk rfl) (Calls.mono (C_limbAt h.1 ha (by omega)) ?_)
  rintro _ _ ⟨rfl, rfl⟩
  rw [vl_dig na.1, wa]
  have m1 := Nat.mod_lt ((V a).natAbs / BB ^ (2 * u + 1)) BB_pos
  have m0 := Nat.mod_lt ((V a).natAbs / BB ^ (2 * u)) BB_pos
  refine wn_i2l q_X0_startAbove_9 (by omega) ?_
  refine wa_ldc2 q_X0_startAbove_10 k_RX0_83 ?_
  refine wn_lmul q_X0_startAbove_13 ?_
  refine wa_aload_n q_X0_startAbove_14 rfl ?_
  refine wa_iconst q_X0_startAbove_15 (v := nI 2) (by decide) ?_
  refine wa_iload_n q_X0_startAbove_16 rfl ?_
  refine wn_imul q_X0_startAbove_17 ?_
  refine wa_callV q_X0_startAbove_18 g_X0_startAbove_18 w_X1_limbAt (by assumption) rfl (av := [_]) rfl rfl (lk rfl) (Calls.mono (C_limbAt h.1 ha (by omega)) ?_)
  rintro _ _ ⟨rfl, rfl⟩
  rw [vl_dig na.1, wa]
  refine wn_i2l q_X0_startAbove_21 (by omega) ?_
  refine wn_ladd q_X0_startAbove_22 ?_
  have ht : (V a).natAbs / BB ^ (2 * u + 1) % BB * 1000000000 + (V a).natAbs / BB ^ (2 * u) % BB = (V a).natAbs / BB ^ (2 * u) := by
    have e1 : (V a).natAbs / BB ^ (2 * u + 1) = (V a).natAbs / BB ^ (2 * u) / BB := by rw [Nat.pow_succ, Nat.div_div_eq_div_mul]
    have e2 : (V a).natAbs / BB ^ (2 * u) < BB * BB := Nat.div_lt_of_lt_mul (by rw [← Nat.mul_assoc, ← Nat.pow_succ, ← Nat.pow_succ]; exact hz)
    rw [e1]
    generalize (V a).natAbs / BB ^ (2 * u) = x at *
    have e3 : x / BB < BB := Nat.div_lt_of_lt_mul e2
    rw [Nat.mod_eq_of_lt e3]
    have := Nat.div_add_mod x BB
    rw [hB] at this ⊢
    omega
  rw [ht]
  have hlt : (V a).natAbs / BB ^ (2 * u) < 1000000000000000000 := Nat.div_lt_of_lt_mul (by
    have : BB ^ (2 * u) * 1000000000000000000 = BB ^ (2 * u + 2) := by rw [Nat.pow_succ, Nat.pow_succ, Nat.mul_assoc]; rfl
    rw [this]; exact hz)
  refine wa_lstore_n q_X0_startAbove_23 (by decide) ?_
  refine wa_lconst q_X0_startAbove_24 (v := lN 0) (by decide) ?_
  refine wa_lstore q_X0_startAbove_25 (by decide) ?_
  refine wa_bipush q_X0_startAbove_27 (v := nI 29) (by decide) ?_
  refine wa_istore q_X0_startAbove_29 (by decide) ?_
  refine wa_lv (C_start_loop hlt ?_ 30 0 (Nat.le_refl _) (Nat.zero_le _) ?_ (by decide)) rfl
  · intro s s1 s2
    exact ⟨⟨s, rfl, s1, s2⟩, rfl⟩
  · refine Nat.lt_of_lt_of_le hlt (by decide)
end root
end
section
/-! EnclosedDigits$Bench: squareRoot -/
theorem nE_sg1 : nI 1 = sgI 1 := by decide
theorem shr_pos {N p : Nat} : shr (N : Int) p (-1) = ((N / 10 ^ p : Nat) : Int) := by
  unfold shr; rw [if_pos rfl]; rfl
theorem gd_le {k E r : Nat} (h : gd k E r) (hr : 1 ≤ r) : E ≤ r + 1 := by
  rcases h with ⟨h1, h2⟩ | ⟨h1, h2⟩ | ⟨M, h1, h2, h3, h4⟩
  · omega
  · omega
  · rcases h4 with ⟨-, q⟩ | ⟨-, q⟩ | ⟨j, -, -, q⟩ | ⟨q, -⟩ | ⟨q, -⟩
    · omega
    · omega
    · have : E ≤ E * 2 ^ (2 ^ (j + 1)) := Nat.le_mul_of_pos_right _ (Nat.pow_pos (by decide))
      omega
    · omega
    · omega
theorem cmp_ge {x y : Int} (h : 0 ≤ cmpI x y) : y ≤ x := by
  unfold cmpI at h
  split at h
  · exact absurd h (by decide)
  · omega
theorem cmp_lt {x y : Int} (h : ¬ 0 ≤ cmpI x y) : x < y := by
  unfold cmpI at h
  split at h
  · assumption
  · split at h <;> exact absurd (by decide) h
section root2
variable {X : en_X} {σ : en_S} {D : List Nat} {S : Nat → en_B} {V : Nat → Int}
set_option maxHeartbeats 1000000 in
theorem C_root_loop {ρ σ0 : en_S} {S0 : Nat → en_B} {V0 : Nat → Int} {b0 dv ds pt bt rs nn rt N u0 : Nat} {Q : Option Value → en_S → Prop} (m1 : dv ∈ D) (m2 : ds ∈ D) (m3 : pt ∈ D) (m4 : bt ∈ D) (m5 : rs ∈ D) (m6 : nn ∈ D) (m7 : rt ∈ D)
    (hdis : [dv, ds, pt, bt, rs, nn, rt].Nodup) (hN : N < BB ^ 150) (hN0 : V0 nn = (N : Int)) (hu0 : u0 ≤ 100) (hNu : BB ^ (2 * u0) ≤ N)
    (k : ∀ (σ1 : en_S) (S1 : Nat → en_B) (V1 : Nat → Int) (r : Nat), bw_V X D σ1 S1 V1 → bw_St D σ0 S0 σ1 S1 → look σ1 b0 = some (nE dv ds pt bt rs) → b0 < σ1.1 → V1 rt = (r : Int) → isq N r → (∀ x, x ≠ dv → x ≠ ds → x ≠ pt → x ≠ bt → x ≠ rs → x ≠ rt → V1 x = V0 x) → WA X M_X0_squareRoot ρ 169 [(2, .ref rt), (1, .ref nn), (0, .ref b0)] [] σ1 Q) :
    ∀ (t i u se l kk r E : Nat) (σ : en_S) (S : Nat → en_B) (V : Nat → Int), 120 - i = t → i ≤ 14 * l + kk → l ≤ 7 → u ≤ u0 → (0 < u → se = 2 ^ l ∧ 2 ^ l + u ≤ 101) → se ≤ 200 → isq (N / BB ^ (2 * u)) r → 1 ≤ r → gd kk E r → bw_V X D σ S V → bw_St D σ0 S0 σ S → look σ b0 = some (nE dv ds pt bt rs) → b0 < σ.1 → V rt = ((r + E : Nat) : Int) → (∀ x, x ≠ dv → x ≠ ds → x ≠ pt → x ≠ bt → x ≠ rs → x ≠ rt → V x = V0 x) →
      WA X M_X0_squareRoot ρ 37 [(5, .int (nI i)), (4, .int (nI se)), (3, .int (nI u)), (2, .ref rt), (1, .ref nn), (0, .ref b0)] [] σ Q := by
  have hB : BB = 1000000000 := rfl
  simp only [List.nodup_cons, List.mem_cons, not_or, List.not_mem_nil, not_false_eq_true, List.nodup_nil, and_true] at hdis
  obtain ⟨⟨d12, d13, d14, d15, d16, d17⟩, ⟨d23, d24, d25, d26, d27⟩, ⟨d34, d35, d36, d37⟩, ⟨d45, d46, d47⟩, ⟨d56, d57⟩, d67⟩ := hdis
  intro t
  induction t with
  | zero =>
    intro i u se l kk r E σ S V ht hi hl hu hse hse2 hisq hr1 hg v st hb hbl hrt hfr
    have := gd_k hg
    omega
  | succ t ih =>
    intro i u se l kk r E σ S V ht hi hl hu hse hse2 hisq hr1 hg v st hb hbl hrt hfr
    have hk13 := gd_k hg
    have hnn : V nn = (N : Int) := by rw [hfr nn (Ne.symm d16) (Ne.symm d26) (Ne.symm d36) (Ne.symm d46) (Ne.symm d56) d67]; exact hN0
    -- the root is not long
    have hNle : N / BB ^ (2 * u) ≤ N := Nat.div_le_self _ _
    have hrN : r ≤ N := by
      have q1 : 1 * r ≤ r * r := Nat.mul_le_mul_right _ hr1
      have := hisq.1
      omega
    have hrb : r < BB ^ 75 := by
      rcases Nat.lt_or_ge r (BB ^ 75) with q | q
      · exact q
      · have q1 : BB ^ 150 ≤ r * r := by
          have := Nat.mul_le_mul q q
          rw [← Nat.pow_add] at this
          exact this
        have := hisq.1
        omega
    have hEl := gd_le hg hr1
    have h76 : BB ^ 76 = BB ^ 75 * BB := by rw [Nat.pow_succ]
    have hR : r + E + 1 < BB ^ 76 := by
      have : BB ^ 75 * 1000000000 = BB ^ 75 * BB := rfl
      have := pw_pos 75
      omega
    have hR240 : BB ^ 76 ≤ BB ^ 240 := pw_mono (by decide)
    have hR250 : BB ^ 76 ≤ BB ^ 250 := pw_mono (by decide)
    have hN240 : BB ^ 150 ≤ BB ^ 240 := pw_mono (by decide)
    have hN250 : BB ^ 150 ≤ BB ^ 250 := pw_mono (by decide)
    have hRp : 0 < r + E := by omega
    refine wa_iload q_X0_squareRoot_37 rfl ?_
    refine wa_sipush q_X0_squareRoot_39 (v := nI 200) (by decide) ?_
    refine wn_icmp_ge q_X0_squareRoot_42 (by omega) (by omega) (fun hc => ?_) (fun hc => ?_)
    · exact absurd hc (by omega)
    · obtain ⟨i1, -, -, -, -, -, -⟩ := v.1.1 pt m3
      refine wa_aload_n q_X0_squareRoot_45 rfl ?_
      refine wa_getf q_X0_squareRoot_46 f_RX0_21 (by assumption) rfl ?_
      refine wa_aload_n q_X0_squareRoot_49 rfl ?_
      refine wa_callV q_X0_squareRoot_50 g_X0_squareRoot_50 w_X1_copy (by assumption) rfl (av := [_]) rfl rfl (lk rfl) (Calls.mono (V_copy v m3 m6 d36 (by rw [hnn, Int.natAbs_natCast]; omega)) ?_)
      rintro _ σ1 ⟨rfl, S1, v1, s1⟩
      rw [hnn] at v1
      have b1 := bw_obj s1 v.1 hbl hb (by decide)
      have l1 : b0 < σ1.1 := Nat.lt_of_lt_of_le hbl s1.1
      obtain ⟨i2, -, -, -, -, -, -⟩ := v1.1.1 pt m3
      refine wa_aload_n q_X0_squareRoot_53 rfl ?_
      refine wa_getf q_X0_squareRoot_54 f_RX0_21 (by assumption) rfl ?_
      refine wa_iconst q_X0_squareRoot_57 (v := nI 2) (by decide) ?_
      refine wa_iload_n q_X0_squareRoot_58 rfl ?_
      refine wn_imul q_X0_squareRoot_59 ?_
      refine wa_bipush q_X0_squareRoot_60 (v := nI 9) (by decide) ?_
      refine wn_imul q_X0_squareRoot_62 ?_
      refine wa_iconst q_X0_squareRoot_63 (v := sgI (-1)) (by decide) ?_
      refine wa_callV q_X0_squareRoot_64 g_X0_squareRoot_64 w_X1_shrink (by assumption) rfl (av := [_, _]) rfl rfl (lk rfl) (Calls.mono (V_shrink v1 m3 (by omega) (Or.inr rfl) (by rw [uV_s, Int.natAbs_natCast]; omega)) ?_)
      rintro _ σ2 ⟨rfl, S2, v2, s2⟩
      rw [uV_s, shr_pos, show 2 * u * 9 = 9 * (2 * u) by omega, ← pw_ten] at v2
      have b2 := bw_obj s2 v1.1 l1 b1 (by decide)
      have l2 : b0 < σ2.1 := Nat.lt_of_lt_of_le l1 s2.1
      obtain ⟨V2, hV2⟩ : ∃ V2, V2 = uV (uV V pt (N : Int)) pt ((N / BB ^ (2 * u) : Nat) : Int) := ⟨_, rfl⟩
      rw [← hV2] at v2
      have y1 : V2 pt = ((N / BB ^ (2 * u) : Nat) : Int) := by rw [hV2, uV_s]
      have y2 : V2 rt = ((r + E : Nat) : Int) := by rw [hV2, uV_n (Ne.symm d37), uV_n (Ne.symm d37)]; exact hrt
      have y3 : ∀ x, x ≠ pt → V2 x = V x := fun x h1 => by rw [hV2, uV_n h1, uV_n h1]
      clear hV2
      refine wa_aload_n q_X0_squareRoot_67 rfl ?_
      refine wa_aload_n q_X0_squareRoot_68 rfl ?_
      refine wa_getf q_X0_squareRoot_69 f_RX0_21 (by assumption) rfl ?_
      refine wa_aload_n q_X0_squareRoot_72 rfl ?_
      refine wa_aload_n q_X0_squareRoot_73 rfl ?_
      refine wa_getf q_X0_squareRoot_74 f_RX0_24 (by assumption) rfl ?_
      refine wa_aload_n q_X0_squareRoot_77 rfl ?_
      refine wa_getf q_X0_squareRoot_78 f_RX0_27 (by assumption) rfl ?_
      refine wa_callV q_X0_squareRoot_81 g_X0_squareRoot_81 w_X0_divide (by assumption) rfl (av := [_, _, _, _]) rfl rfl (lk rfl) (Calls.mono (V_div v2 b2 l2 m1 m2 m3 m7 m4 m5 d12 (Ne.symm d13) (Ne.symm d23) (Ne.symm d17) (Ne.symm d27) (Ne.symm d14) (Ne.symm d24) (Ne.symm d15) (Ne.symm d25) d45 (by rw [y2]; omega) (by rw [y1, Int.natAbs_natCast]; omega) (by rw [y2, Int.natAbs_natCast]; omega)) ?_)
      rintro _ σ3 ⟨rfl, S3, V3, v3, q1, q2, q3, s3⟩
      rw [y1, y2, Int.natAbs_natCast, Int.natAbs_natCast] at q1
      have z1 : V3 rt = ((r + E : Nat) : Int) := by rw [q3 rt (Ne.symm d17) (Ne.symm d27) (Ne.symm d47) (Ne.symm d57)]; exact y2
      have b3 := bw_obj s3 v2.1 l2 b2 (by decide)
      have l3 : b0 < σ3.1 := Nat.lt_of_lt_of_le l2 s3.1
      obtain ⟨i3, -, -, -, -, -, -⟩ := v3.1.1 bt m4
      have hql : N / BB ^ (2 * u) / (r + E) ≤ N := Nat.le_trans (Nat.div_le_self _ _) hNle
      refine wa_aload_n q_X0_squareRoot_84 rfl ?_
      refine wa_getf q_X0_squareRoot_85 f_RX0_24 (by assumption) rfl ?_
      refine wa_aload_n q_X0_squareRoot_88 rfl ?_
      refine wa_callV q_X0_squareRoot_89 g_X0_squareRoot_89 w_X1_add (by assumption) rfl (av := [_]) rfl rfl (lk rfl) (Calls.mono (V_add v3 m4 m7 d47 (by rw [q1, Int.natAbs_natCast]; omega) (by rw [z1, Int.natAbs_natCast]; omega)) ?_)
      rintro _ σ4 ⟨rfl, S4, v4, s4⟩
      rw [q1, z1] at v4
      have b4 := bw_obj s4 v3.1 l3 b3 (by decide)
      have l4 : b0 < σ4.1 := Nat.lt_of_lt_of_le l3 s4.1
      obtain ⟨i4, -, -, -, -, -, -⟩ := v4.1.1 bt m4
      refine wa_aload_n q_X0_squareRoot_92 rfl ?_
      refine wa_getf q_X0_squareRoot_93 f_RX0_24 (by assumption) rfl ?_
      refine wa_ldc2 q_X0_squareRoot_96 k_RX0_103 ?_
      refine wa_callV q_X0_squareRoot_99 g_X0_squareRoot_99 w_X1_divideSmall (by assumption) rfl (av := [_]) rfl rfl (lk rfl) (Calls.mono (V_divS v4 m4 (by decide) (by decide)) ?_)
      rintro _ σ5 ⟨rfl, S5, v5, s5⟩
      rw [uV_s] at v5
      have b5 := bw_obj s5 v4.1 l4 b4 (by decide)
      have l5 : b0 < σ5.1 := Nat.lt_of_lt_of_le l4 s5.1
      obtain ⟨V5, hV5⟩ : ∃ V5, V5 = uV (uV V3 bt (((N / BB ^ (2 * u) / (r + E) : Nat) : Int) + ((r + E : Nat) : Int))) bt ((((N / BB ^ (2 * u) / (r + E) : Nat) : Int) + ((r + E : Nat) : Int)).tdiv (2 : Nat)) := ⟨_, rfl⟩
      rw [← hV5] at v5
      have w1 : V5 bt = (((N / BB ^ (2 * u) / (r + E) + (r + E)) / 2 : Nat) : Int) := by rw [hV5, uV_s]; rfl
      have w2 : V5 rt = ((r + E : Nat) : Int) := by rw [hV5, uV_n (Ne.symm d47), uV_n (Ne.symm d47)]; exact z1
      have w3 : ∀ x, x ≠ dv → x ≠ ds → x ≠ pt → x ≠ bt → x ≠ rs → V5 x = V x := fun x h1 h2 h3 h4 h5 => by rw [hV5, uV_n h4, uV_n h4, q3 x h1 h2 h4 h5, y3 x h3]
      clear hV5
      have sA : bw_St D σ0 S0 σ5 S5 := st.tr (s1.tr (s2.tr (s3.tr (s4.tr s5))))
      obtain ⟨i5, -, -, -, -, -, -⟩ := v5.1.1 bt m4
      obtain ⟨i6, -, -, -, -, -, -⟩ := v5.1.1 rt m7
      have hge := nw_ge hisq hRp
      refine wa_pop2 q_X0_squareRoot_102 rfl ?_
      refine wa_aload_n q_X0_squareRoot_103 rfl ?_
      refine wa_getf q_X0_squareRoot_104 f_RX0_24 (by assumption) rfl ?_
      refine wa_aload_n q_X0_squareRoot_107 rfl ?_
      refine wa_callV q_X0_squareRoot_108 g_X0_squareRoot_108 w_X1_compare (by assumption) rfl (av := [_]) rfl rfl (lk rfl) (Calls.mono (V_cmp v5 m4 m7) ?_)
      rintro _ _ ⟨rfl, rfl⟩
      rw [w1, w2]
      refine wa_if_ge q_X0_squareRoot_111 (fun hx => ?_) (fun hx => ?_)
      · have hx := cmp_ge hx
        have hE0 : E = 0 := by
          rcases Nat.eq_zero_or_pos E with z | z
          · exact z
          · obtain ⟨-, E', e1, e2, -⟩ := gd_step hisq z hg
            rw [e1] at hx
            omega
        subst hE0
        refine wa_iload_n q_X0_squareRoot_125 rfl ?_
        refine wn_if_le q_X0_squareRoot_126 (by omega) (fun hu1 => ?_) (fun hu1 => ?_)
        · subst hu1
          rw [Nat.mul_zero, Nat.pow_zero, Nat.div_one] at hisq
          exact wa_lv (k _ S5 V5 r v5 sA b5 l5 w2 hisq (fun x h1 h2 h3 h4 h5 h6 => (w3 x h1 h2 h3 h4 h5).trans (hfr x h1 h2 h3 h4 h5 h6))) rfl
        · obtain ⟨hs1, hs2⟩ := hse hu1
          have hl6 : l ≤ 6 := by
            rcases Nat.lt_or_ge l 7 with z | z
            · omega
            · have : l = 7 := by omega
              subst this; omega
          have hl64 : 2 ^ l ≤ 2 ^ 6 := Nat.pow_le_pow_right (by decide) hl6
          have hlp : 0 < 2 ^ l := Nat.pow_pos (by decide)
          have h64 : (2 : Nat) ^ 6 = 64 := by decide
          have hm1 : 1 ≤ min se u := by omega
          have hm2 : min se u ≤ 64 := by omega
          have hm3 : min se u ≤ u := Nat.min_le_right _ _
          have hm4 : min se u = u ∨ min se u = se := by omega
          refine wa_iload q_X0_squareRoot_129 rfl ?_
          refine wa_iload_n q_X0_squareRoot_131 rfl ?_
          refine wn_mmin q_X0_squareRoot_132 a_RX0_109 (lk rfl) (lk rfl) (by omega) (by omega) ?_
          generalize hmm : min se u = m at *
          refine wa_istore q_X0_squareRoot_135 (by decide) ?_
          refine wa_aload_n q_X0_squareRoot_137 rfl ?_
          refine wa_iconst q_X0_squareRoot_138 (v := sgI 1) (by decide) ?_
          refine wa_callV q_X0_squareRoot_139 g_X0_squareRoot_139 w_X1_grow (by assumption) rfl (av := [_]) rfl rfl (lk rfl) (Calls.mono (V_grow v5 m7 (Or.inl rfl) (by rw [w2, Int.natAbs_natCast]; omega)) ?_)
          rintro _ σ6 ⟨rfl, S6, v6, s6⟩
          have egr : grw (V5 rt) 1 = ((r + 1 : Nat) : Int) := by
            rw [w2]; unfold grw; rw [if_neg (by omega), if_neg (by omega)]; omega
          rw [egr] at v6
          have b6 := bw_obj s6 v5.1 l5 b5 (by decide)
          have l6 : b0 < σ6.1 := Nat.lt_of_lt_of_le l5 s6.1
          obtain ⟨i7, -, -, -, -, -, -⟩ := v6.1.1 rt m7
          refine wa_aload_n q_X0_squareRoot_142 rfl ?_
          refine wa_iload q_X0_squareRoot_143 rfl ?_
          refine wa_bipush q_X0_squareRoot_145 (v := nI 9) (by decide) ?_
          refine wn_imul q_X0_squareRoot_147 ?_
          have hp10 : (10 : Nat) ^ (m * 9) = BB ^ m := by rw [pw_ten, Nat.mul_comm]
          have hbig : (r + 1) * BB ^ m < BB ^ 250 := by
            have q1 : (r + 1) * BB ^ m ≤ BB ^ 76 * BB ^ m := Nat.mul_le_mul_right _ (by omega)
            rw [← Nat.pow_add] at q1
            have q2 : BB ^ (76 + m) < BB ^ 250 := (Nat.pow_lt_pow_iff_right (by decide)).mpr (by omega)
            omega
          refine wa_callV q_X0_squareRoot_148 g_X0_squareRoot_148 w_X1_shiftUp (by assumption) rfl (av := [_]) rfl rfl (lk rfl) (Calls.mono (V_shiftUp v6 m7 (by omega) (by rw [uV_s, Int.natAbs_natCast, hp10]; exact hbig)) ?_)
          rintro _ σ7 ⟨rfl, S7, v7, s7⟩
          have b7 := bw_obj s7 v6.1 l6 b6 (by decide)
          have l7 : b0 < σ7.1 := Nat.lt_of_lt_of_le l6 s7.1
          refine wa_iload q_X0_squareRoot_151 rfl ?_
          refine wa_iload q_X0_squareRoot_153 rfl ?_
          refine wn_iadd q_X0_squareRoot_155 ?_
          refine wa_istore q_X0_squareRoot_156 (by decide) ?_
          refine wa_iload_n q_X0_squareRoot_158 rfl ?_
          refine wa_iload q_X0_squareRoot_159 rfl ?_
          refine wn_isub q_X0_squareRoot_161 (by omega) ?_
          refine wa_istore_n q_X0_squareRoot_162 (by decide) ?_
          refine wn_iinc q_X0_squareRoot_163 rfl (by decide) ?_
          refine wa_goto q_X0_squareRoot_166 ?_
          obtain ⟨r', E', f1, f2, f3, f4⟩ := lev (N := N) hm3 hm1 hm2 hisq hr1
          refine wa_lv (ih (i + 1) (u - m) (se + m) (l + 1) 0 r' E' σ7 S7 _ (by omega) (by omega) (by omega) (by omega) (fun hz => ?_) (by omega) f1 f3 f4 v7 (sA.tr (s6.tr s7)) b7 l7 ?_ (fun x h1 h2 h3 h4 h5 h6 => ?_)) rfl
          · have : 2 ^ (l + 1) = 2 * 2 ^ l := by rw [Nat.pow_succ]; omega
            omega
          · rw [uV_s, uV_s, ← f2, ← hp10]
            rw [Int.natCast_mul, Int.natCast_pow]; rfl
          · rw [uV_n h6, uV_n h6, w3 x h1 h2 h3 h4 h5]; exact hfr x h1 h2 h3 h4 h5 h6
      · have hx := cmp_lt hx
        have hEp : 0 < E := by omega
        obtain ⟨hk12, E', e1, e2, e3⟩ := gd_step hisq hEp hg
        rw [e1] at w1
        refine wa_aload_n q_X0_squareRoot_114 rfl ?_
        refine wa_aload_n q_X0_squareRoot_115 rfl ?_
        refine wa_getf q_X0_squareRoot_116 f_RX0_24 (by assumption) rfl ?_
        refine wa_callV q_X0_squareRoot_119 g_X0_squareRoot_119 w_X1_copy (by assumption) rfl (av := [_]) rfl rfl (lk rfl) (Calls.mono (V_copy v5 m7 m4 (Ne.symm d47) (by rw [w1, Int.natAbs_natCast]; omega)) ?_)
        rintro _ σ6 ⟨rfl, S6, v6, s6⟩
        rw [w1] at v6
        have b6 := bw_obj s6 v5.1 l5 b5 (by decide)
        have l6 : b0 < σ6.1 := Nat.lt_of_lt_of_le l5 s6.1
        refine wa_goto q_X0_squareRoot_122 ?_
        refine wn_iinc q_X0_squareRoot_163 rfl (by decide) ?_
        refine wa_goto q_X0_squareRoot_166 ?_
        refine wa_lv (ih (i + 1) u se l (kk + 1) r E' σ6 S6 _ (by omega) (by omega) hl hu hse hse2 hisq hr1 e3 v6 (sA.tr s6) b6 l6 uV_s (fun x h1 h2 h3 h4 h5 h6 => ?_)) rfl
        rw [uV_n h6, w3 x h1 h2 h3 h4 h5]; exact hfr x h1 h2 h3 h4 h5 h6
set_option maxHeartbeats 1000000 in
/-- the root of a number that is not below 0; 1 if its square is less -/
theorem V_root {b0 dv ds pt bt rs nn rt N : Nat} (h : bw_V X D σ S V) (hb : look σ b0 = some (nE dv ds pt bt rs)) (hbl : b0 < σ.1) (m1 : dv ∈ D) (m2 : ds ∈ D) (m3 : pt ∈ D) (m4 : bt ∈ D) (m5 : rs ∈ D) (m6 : nn ∈ D) (m7 : rt ∈ D) (hdis : [dv, ds, pt, bt, rs, nn, rt].Nodup) (hN : N < BB ^ 150) (hV : V nn = (N : Int)) :
    Calls X M_X0_squareRoot [.ref b0, .ref nn, .ref rt] σ (fun res τ => ∃ r, isq N r ∧ res = some (.int (nI (if r * r < N then 1 else 0))) ∧ ∃ S' V', bw_V X D τ S' V' ∧ V' rt = (r : Int) ∧ (∀ x, x ≠ dv → x ≠ ds → x ≠ pt → x ≠ bt → x ≠ rs → x ≠ rt → V' x = V x) ∧ bw_St D σ S τ S') := by
  have hB : BB = 1000000000 := rfl
  have hdis' := hdis
  simp only [List.nodup_cons, List.mem_cons, not_or, List.not_mem_nil, not_false_eq_true, List.nodup_nil, and_true] at hdis'
  obtain ⟨⟨d12, d13, d14, d15, d16, d17⟩, ⟨d23, d24, d25, d26, d27⟩, ⟨d34, d35, d36, d37⟩, ⟨d45, d46, d47⟩, ⟨d56, d57⟩, d67⟩ := hdis'
  obtain ⟨j1, -, -, -, -, -, -⟩ := h.1.1 rt m7
  refine Calls.of rfl (lk rfl) ?_
  refine wa_aload_n q_X0_squareRoot_0 rfl ?_
  refine wa_callV q_X0_squareRoot_1 g_X0_squareRoot_1 w_X1_clear (by assumption) rfl (av := []) rfl rfl (lk rfl) (Calls.mono (V_clear h m7) ?_)
  rintro _ σ1 ⟨rfl, S1, v1, s1⟩
  have b1 := bw_obj s1 h.1 hbl hb (by decide)
  have l1 : b0 < σ1.1 := Nat.lt_of_lt_of_le hbl s1.1
  have hn1 : uV V rt 0 nn = (N : Int) := by rw [uV_n d67]; exact hV
  obtain ⟨j2, -, -, -, -, -, -⟩ := v1.1.1 nn m6
  obtain ⟨w0, w1, w2⟩ := v1.2 nn m6
  rw [hn1] at w0 w1
  rw [Int.natAbs_natCast] at w1
  refine wa_aload_n q_X0_squareRoot_4 rfl ?_
  refine wa_getf q_X0_squareRoot_5 f_RX0_34 (by assumption) rfl ?_
  rw [w0]
  refine wa_if_gt q_X0_squareRoot_8 (fun hc => ?_) (fun hc => ?_)
  · have hNp : 0 < N := by
      rcases Nat.eq_zero_or_pos N with z | z
      · subst z; exact absurd hc (by decide)
      · exact z
    have hz0 : (S1 nn).2.2.1 ≠ 0 := fun z => by have := (nrm_zero w2).mpr z; omega
    have hz1 : (S1 nn).2.2.1 ≤ 150 := nrm_le w2 (by rw [w1]; exact hN)
    rw [w0] at j2
    refine wa_aload_n q_X0_squareRoot_13 rfl ?_
    refine wa_getf q_X0_squareRoot_14 f_RX0_47 (by assumption) rfl ?_
    refine wa_iconst q_X0_squareRoot_17 (v := nI 1) (by decide) ?_
    refine wn_isub q_X0_squareRoot_18 (by omega) ?_
    refine wa_iconst q_X0_squareRoot_19 (v := nI 2) (by decide) ?_
    refine wn_idiv q_X0_squareRoot_20 (by omega) (by omega) (by omega) ?_
    refine wa_istore_n q_X0_squareRoot_21 (by decide) ?_
    refine wa_iconst q_X0_squareRoot_22 (v := nI 1) (by decide) ?_
    refine wa_istore q_X0_squareRoot_23 (by decide) ?_
    refine wa_aload_n q_X0_squareRoot_25 rfl ?_
    refine wa_aload_n q_X0_squareRoot_26 rfl ?_
    refine wa_iload_n q_X0_squareRoot_27 rfl ?_
    have hlt : N < BB ^ (2 * (((S1 nn).2.2.1 - 1) / 2) + 2) := by
      rw [← w1]
      exact Nat.lt_of_lt_of_le (vl_lt w2.1) (pw_mono (by omega))
    have hge : BB ^ (2 * (((S1 nn).2.2.1 - 1) / 2)) ≤ N := by
      rw [← w1]
      have q1 := vl_ge (d := (S1 nn).2.2.2.1) (n := (S1 nn).2.2.1 - 1) (w2.2.resolve_left hz0)
      rw [Nat.sub_add_cancel (by omega)] at q1
      exact Nat.le_trans (pw_mono (by omega)) q1
    generalize hu : ((S1 nn).2.2.1 - 1) / 2 = u at *
    have hu74 : u ≤ 74 := by omega
    refine wa_callS q_X0_squareRoot_28 g_X0_squareRoot_28 w_X0_startAbove (av := [_, _]) rfl rfl (lk rfl) (Calls.mono (V_start v1 m6 (by omega) (by rw [hn1, Int.natAbs_natCast]; exact hlt)) ?_)
    rintro _ _ ⟨⟨s, rfl, s1', s2'⟩, rfl⟩
    rw [hn1, Int.natAbs_natCast] at s1'
    rw [lN_lZ]
    obtain ⟨j3, -, -, -, -, -, -⟩ := v1.1.1 rt m7
    refine wa_callV q_X0_squareRoot_31 g_X0_squareRoot_31 w_X1_setLong (by assumption) rfl (av := [_]) rfl rfl (lk rfl) (Calls.mono (V_setL v1 m7 (by omega) (by omega)) ?_)
    rintro _ σ2 ⟨rfl, S2, v2, s2⟩
    have b2 := bw_obj s2 v1.1 l1 b1 (by decide)
    have l2 : b0 < σ2.1 := Nat.lt_of_lt_of_le l1 s2.1
    refine wa_iconst q_X0_squareRoot_34 (v := nI 0) (by decide) ?_
    refine wa_istore q_X0_squareRoot_35 (by decide) ?_
    have hNu1 : 1 ≤ N / BB ^ (2 * u) := (Nat.le_div_iff_mul_le (pw_pos _)).mpr (by rw [Nat.one_mul]; exact hge)
    have hs1 : 1 ≤ s := by
      rcases Nat.eq_zero_or_pos s with z | z
      · subst z; have := s1'.2; omega
      · exact z
    refine wa_lv (C_root_loop (σ0 := σ) (S0 := S) (V0 := V) (u0 := u) m1 m2 m3 m4 m5 m6 m7 hdis hN hV (by omega) hge ?_ _ 0 u 1 0 0 s 1 σ2 S2 _ rfl (by omega) (by omega) (Nat.le_refl _) (fun _ => ⟨rfl, by omega⟩) (by omega) s1' hs1 (Or.inl ⟨by omega, by omega⟩) v2 (s1.tr s2) b2 l2 uV_s (fun x h1 h2 h3 h4 h5 h6 => by rw [uV_n h6, uV_n h6])) rfl
    intro σ3 S3 V3 r v3 s3 b3 l3 g1 g2 g3
    have hrb : r < BB ^ 75 := by
      rcases Nat.lt_or_ge r (BB ^ 75) with q | q
      · exact q
      · have q1 : BB ^ 150 ≤ r * r := by
          have := Nat.mul_le_mul q q
          rw [← Nat.pow_add] at this
          exact this
        have := g2.1
        omega
    have h125 : BB ^ 75 ≤ BB ^ 125 := pw_mono (by decide)
    obtain ⟨j4, -, -, -, -, -, -⟩ := v3.1.1 bt m4
    refine wa_aload_n q_X0_squareRoot_169 rfl ?_
    refine wa_getf q_X0_squareRoot_170 f_RX0_24 (by assumption) rfl ?_
    refine wa_aload_n q_X0_squareRoot_173 rfl ?_
    refine wa_aload_n q_X0_squareRoot_174 rfl ?_
    refine wa_callV q_X0_squareRoot_175 g_X0_squareRoot_175 w_X1_setProduct (by assumption) rfl (av := [_, _]) rfl rfl (lk rfl) (Calls.mono (V_prod v3 m4 m7 m7 d47 d47 (by rw [g1, Int.natAbs_natCast]; omega) (by rw [g1, Int.natAbs_natCast]; omega)) ?_)
    rintro _ σ4 ⟨rfl, S4, v4, s4⟩
    rw [g1] at v4
    have b4 := bw_obj s4 v3.1 l3 b3 (by decide)
    obtain ⟨j5, -, -, -, -, -, -⟩ := v4.1.1 bt m4
    refine wa_aload_n q_X0_squareRoot_178 rfl ?_
    refine wa_getf q_X0_squareRoot_179 f_RX0_24 (by assumption) rfl ?_
    refine wa_aload_n q_X0_squareRoot_182 rfl ?_
    refine wa_callV q_X0_squareRoot_183 g_X0_squareRoot_183 w_X1_compare (by assumption) rfl (av := [_]) rfl rfl (lk rfl) (Calls.mono (V_cmp v4 m4 m6) ?_)
    rintro _ _ ⟨rfl, rfl⟩
    have hnn4 : uV V3 bt ((r : Int) * (r : Int)) nn = (N : Int) := by rw [uV_n (Ne.symm d46), g3 nn (Ne.symm d16) (Ne.symm d26) (Ne.symm d36) (Ne.symm d46) (Ne.symm d56) d67]; exact hV
    rw [uV_s, hnn4]
    have hfr : ∀ x, x ≠ dv → x ≠ ds → x ≠ pt → x ≠ bt → x ≠ rs → x ≠ rt → uV V3 bt ((r : Int) * (r : Int)) x = V x := fun x h1 h2 h3 h4 h5 h6 => by rw [uV_n h4]; exact g3 x h1 h2 h3 h4 h5 h6
    have hrr : uV V3 bt ((r : Int) * (r : Int)) rt = (r : Int) := by rw [uV_n (Ne.symm d47)]; exact g1
    refine wa_if_ge q_X0_squareRoot_186 (fun hx => ?_) (fun hx => ?_)
    · have hx := cmp_ge hx
      refine wa_iconst q_X0_squareRoot_193 (v := nI 0) (by decide) ?_
      refine wa_zret q_X0_squareRoot_194 rfl rfl ?_
      exact ⟨r, g2, by rw [if_neg (by rw [← Int.natCast_mul] at hx; omega)], S4, _, v4, hrr, hfr, s3.tr s4⟩
    · have hx := cmp_lt hx
      refine wa_iconst q_X0_squareRoot_189 (v := nI 1) (by decide) ?_
      refine wa_goto q_X0_squareRoot_190 ?_
      refine wa_zret q_X0_squareRoot_194 rfl rfl ?_
      exact ⟨r, g2, by rw [if_pos (by rw [← Int.natCast_mul] at hx; omega)], S4, _, v4, hrr, hfr, s3.tr s4⟩
  · have hN0 : N = 0 := by
      rcases Nat.eq_zero_or_pos N with z | z
      · exact z
      · exact absurd (by rw [sg_pos z]; decide) hc
    subst hN0
    refine wa_iconst q_X0_squareRoot_11 (v := nI 0) (by decide) ?_
    refine wa_zret q_X0_squareRoot_12 rfl rfl ?_
    refine ⟨0, ⟨by decide, by decide⟩, rfl, S1, _, v1, uV_s, fun x h1 h2 h3 h4 h5 h6 => uV_n h6, s1⟩
end root2
end
section
/-! EnclosedDigits$Encloser: one kind of VALUE at a time -/
abbrev vE (kd : Int32) (a b : Int) (f s at' op : Int32) (lo hi : Nat) (fa : Int32) (fi : Nat) : va_E := .inr (5, [.int kd, .long (lZ a), .long (lZ b), .int f, .int s, .int at', .int op, .ref lo, .ref hi, .int fa, .ref fi])
abbrev eE (bn se dn up ov un rs : Nat) : va_E := .inr (2, [.ref bn, .ref se, .ref dn, .ref up, .ref ov, .ref un, .ref rs])
section enc1
variable {X : en_X} {σ : en_S} {D : List Nat} {S : Nat → en_B} {V : Nat → Int}
theorem F_exact {v lo hi fi : Nat} {kd f s at' op fa : Int32} {a b : Int} (h : bw_V X D σ S V) (hv : look σ v = some (vE kd a b f s at' op lo hi fa fi)) (m1 : lo ∈ D) (m2 : hi ∈ D) : Calls X M_X2_isExact [.ref v] σ (fun res τ => res = some (.int (nI (if V lo = V hi then 1 else 0))) ∧ τ = σ) := by
  obtain ⟨i1, -, -, -, -, -, -⟩ := h.1.1 lo m1
  refine Calls.of rfl (lk rfl) ?_
  refine wa_aload_n q_X2_isExact_0 rfl ?_
  refine wa_getf q_X2_isExact_1 f_RX2_107 (by assumption) rfl ?_
  refine wa_aload_n q_X2_isExact_4 rfl ?_
  refine wa_getf q_X2_isExact_5 f_RX2_114 (by assumption) rfl ?_
  refine wa_callV q_X2_isExact_8 g_X2_isExact_8 w_X1_compare (by assumption) rfl (av := [_]) rfl rfl (lk rfl) (Calls.mono (V_cmp h m1 m2) ?_)
  rintro _ _ ⟨rfl, rfl⟩
  refine wa_if_ne q_X2_isExact_11 (fun hx => ?_) (fun hx => ?_)
  · refine wa_iconst q_X2_isExact_18 (v := nI 0) (by decide) ?_
    refine wa_zret q_X2_isExact_19 rfl rfl ?_
    refine ⟨?_, rfl⟩
    rw [if_neg (fun z => hx (by unfold cmpI; rw [if_neg (by omega), if_pos z]))]
  · refine wa_iconst q_X2_isExact_14 (v := nI 1) (by decide) ?_
    refine wa_goto q_X2_isExact_15 ?_
    refine wa_zret q_X2_isExact_19 rfl rfl ?_
    refine ⟨?_, rfl⟩
    rw [if_pos (by unfold cmpI at hx; split at hx; exact absurd hx (by decide); split at hx; assumption; exact absurd hx (by decide))]
theorem F_long {a : Nat} (h : bw_V X D σ S V) (m1 : a ∈ D) : Calls X M_X2_isTooLong [.ref a] σ (fun res τ => res = some (.int (nI (if (V a).natAbs < 10 ^ 800 then 0 else 1))) ∧ τ = σ) := by
  obtain ⟨i1, -, -, -, -, -, -⟩ := h.1.1 a m1
  refine Calls.of rfl (lk rfl) ?_
  refine wa_aload_n q_X2_isTooLong_0 rfl ?_
  refine wa_callV q_X2_isTooLong_1 g_X2_isTooLong_1 w_X1_digitCount (by assumption) rfl (av := []) rfl rfl (lk rfl) (Calls.mono (V_dC h m1) ?_)
  rintro _ _ ⟨⟨c, hc, rfl, hd⟩, rfl⟩
  refine wa_sipush q_X2_isTooLong_4 (v := nI 800) (by decide) ?_
  refine wn_icmp_le q_X2_isTooLong_7 (by omega) (by omega) (fun hx => ?_) (fun hx => ?_)
  · refine wa_iconst q_X2_isTooLong_14 (v := nI 0) (by decide) ?_
    refine wa_zret q_X2_isTooLong_15 rfl rfl ?_
    refine ⟨?_, rfl⟩
    rw [if_pos (Nat.lt_of_lt_of_le hd.1 (Nat.pow_le_pow_right (by decide) hx))]
  · refine wa_iconst q_X2_isTooLong_10 (v := nI 1) (by decide) ?_
    refine wa_goto q_X2_isTooLong_11 ?_
    refine wa_zret q_X2_isTooLong_15 rfl rfl ?_
    refine ⟨?_, rfl⟩
    rw [if_neg ?_]
    have q1 := hd.2.resolve_left (by omega)
    have q2 : 10 ^ 800 ≤ 10 ^ (c - 1) := Nat.pow_le_pow_right (by decide) (by omega)
    exact Nat.not_lt.mpr (Nat.le_trans q2 q1)
theorem p10_lt {p : Nat} (hp : p ≤ 480) : 10 ^ p ≤ BB ^ 54 := by
  rw [pw_ten]; exact Nat.pow_le_pow_right (by decide) (by omega)
theorem F_whole {v lo hi fi p : Nat} {kd f s at' op fa : Int32} {a b : Int} (h : bw_V X D σ S V) (hv : look σ v = some (vE kd a b f s at' op lo hi fa fi)) (hvl : v < σ.1) (m1 : lo ∈ D) (m2 : hi ∈ D) (hne : lo ≠ hi) (ha1 : -9223372036854775808 ≤ a) (ha2 : a < 9223372036854775808) (hp : p ≤ 480) :
    Calls X M_X2_fillWhole [.ref v, .int (nI p)] σ (fun res τ => res = none ∧ ∃ S' V', bw_V X D τ S' V' ∧ V' lo = a * 10 ^ p ∧ V' hi = a * 10 ^ p ∧ (∀ x, x ≠ lo → x ≠ hi → V' x = V x) ∧ bw_St D σ S τ S') := by
  obtain ⟨i1, -, -, -, -, -, -⟩ := h.1.1 lo m1
  have hsm : a.natAbs * 10 ^ p < BB ^ 250 := by
    have q1 : a.natAbs * 10 ^ p ≤ BB ^ 3 * BB ^ 54 := Nat.mul_le_mul (by have : BB ^ 3 = 1000000000000000000000000000 := rfl; omega) (p10_lt hp)
    rw [← Nat.pow_add] at q1
    exact Nat.lt_of_le_of_lt q1 ((Nat.pow_lt_pow_iff_right (by decide)).mpr (by decide))
  refine Calls.of rfl (lk rfl) ?_
  refine wa_aload_n q_X2_fillWhole_0 rfl ?_
  refine wa_getf q_X2_fillWhole_1 f_RX2_107 (by assumption) rfl ?_
  refine wa_aload_n q_X2_fillWhole_4 rfl ?_
  refine wa_getf q_X2_fillWhole_5 f_RX2_127 (by assumption) rfl ?_
  refine wa_callV q_X2_fillWhole_8 g_X2_fillWhole_8 w_X1_setLong (by assumption) rfl (av := [_]) rfl rfl (lk rfl) (Calls.mono (V_setL h m1 ha1 ha2) ?_)
  rintro _ σ1 ⟨rfl, S1, v1, s1⟩
  have w1 := bw_obj s1 h.1 hvl hv (by decide)
  have l1 : v < σ1.1 := Nat.lt_of_lt_of_le hvl s1.1
  obtain ⟨i2, -, -, -, -, -, -⟩ := v1.1.1 lo m1
  refine wa_aload_n q_X2_fillWhole_11 rfl ?_
  refine wa_getf q_X2_fillWhole_12 f_RX2_107 (by assumption) rfl ?_
  refine wa_iload_n q_X2_fillWhole_15 rfl ?_
  refine wa_callV q_X2_fillWhole_16 g_X2_fillWhole_16 w_X1_shiftUp (by assumption) rfl (av := [_]) rfl rfl (lk rfl) (Calls.mono (V_shiftUp v1 m1 (by omega) (by rw [uV_s]; exact hsm)) ?_)
  rintro _ σ2 ⟨rfl, S2, v2, s2⟩
  rw [uV_s] at v2
  have w2 := bw_obj s2 v1.1 l1 w1 (by decide)
  obtain ⟨i3, -, -, -, -, -, -⟩ := v2.1.1 hi m2
  refine wa_aload_n q_X2_fillWhole_19 rfl ?_
  refine wa_getf q_X2_fillWhole_20 f_RX2_114 (by assumption) rfl ?_
  refine wa_aload_n q_X2_fillWhole_23 rfl ?_
  refine wa_getf q_X2_fillWhole_24 f_RX2_107 (by assumption) rfl ?_
  refine wa_callV q_X2_fillWhole_27 g_X2_fillWhole_27 w_X1_copy (by assumption) rfl (av := [_]) rfl rfl (lk rfl) (Calls.mono (V_copy v2 m2 m1 (Ne.symm hne) (by rw [uV_s, Int.natAbs_mul, Int.natAbs_pow]; exact hsm)) ?_)
  rintro _ σ3 ⟨rfl, S3, v3, s3⟩
  rw [uV_s] at v3
  refine wa_vret q_X2_fillWhole_30 rfl ?_
  refine ⟨rfl, S3, _, v3, ?_, ?_, fun x h1 h2 => ?_, s1.tr (s2.tr s3)⟩
  · rw [uV_n hne, uV_s]
  · rw [uV_s]
  · rw [uV_n h2, uV_n h1, uV_n h1]
theorem F_sum {v lo hi fi v1 lo1 hi1 fi1 v2 lo2 hi2 fi2 : Nat} {kd f s at' op fa kd1 f1 s1 at1 op1 fa1 kd2 f2 s2 at2 op2 fa2 : Int32} {a b a1 b1 a2 b2 : Int} (h : bw_V X D σ S V) (hv : look σ v = some (vE kd a b f s at' op lo hi fa fi)) (hvl : v < σ.1) (hv1 : look σ v1 = some (vE kd1 a1 b1 f1 s1 at1 op1 lo1 hi1 fa1 fi1)) (hvl1 : v1 < σ.1) (hv2 : look σ v2 = some (vE kd2 a2 b2 f2 s2 at2 op2 lo2 hi2 fa2 fi2)) (hvl2 : v2 < σ.1) (m1 : lo ∈ D) (m2 : hi ∈ D) (m3 : lo1 ∈ D) (m4 : hi1 ∈ D) (m5 : lo2 ∈ D) (m6 : hi2 ∈ D) (n1 : lo ≠ hi) (n2 : lo ≠ lo1) (n3 : lo ≠ lo2) (n4 : lo ≠ hi1) (n5 : lo ≠ hi2) (n6 : hi ≠ hi1) (n7 : hi ≠ hi2)
    (z1 : (V lo1).natAbs < BB ^ 90) (z2 : (V hi1).natAbs < BB ^ 90) (z3 : (V lo2).natAbs < BB ^ 90) (z4 : (V hi2).natAbs < BB ^ 90) :
    Calls X M_X2_fillSum [.ref v, .ref v1, .ref v2] σ (fun res τ => res = none ∧ ∃ S' V', bw_V X D τ S' V' ∧ V' lo = V lo1 + V lo2 ∧ V' hi = V hi1 + V hi2 ∧ (∀ x, x ≠ lo → x ≠ hi → V' x = V x) ∧ bw_St D σ S τ S') := by
  have hb : BB ^ 90 ≤ BB ^ 250 := pw_mono (by decide)
  obtain ⟨i1, -, -, -, -, -, -⟩ := h.1.1 lo m1
  refine Calls.of rfl (lk rfl) ?_
  refine wa_aload_n q_X2_fillSum_0 rfl ?_
  refine wa_getf q_X2_fillSum_1 f_RX2_107 (by assumption) rfl ?_
  refine wa_aload_n q_X2_fillSum_4 rfl ?_
  refine wa_getf q_X2_fillSum_5 f_RX2_107 (by assumption) rfl ?_
  refine wa_callV q_X2_fillSum_8 g_X2_fillSum_8 w_X1_copy (by assumption) rfl (av := [_]) rfl rfl (lk rfl) (Calls.mono (V_copy h m1 m3 n2 (by omega)) ?_)
  rintro _ σ1 ⟨rfl, S1, w1, t1⟩
  have a0 := bw_obj t1 h.1 hvl hv (by decide)
  have a1' := bw_obj t1 h.1 hvl1 hv1 (by decide)
  have a2' := bw_obj t1 h.1 hvl2 hv2 (by decide)
  obtain ⟨i2, -, -, -, -, -, -⟩ := w1.1.1 lo m1
  refine wa_aload_n q_X2_fillSum_11 rfl ?_
  refine wa_getf q_X2_fillSum_12 f_RX2_107 (by assumption) rfl ?_
  refine wa_aload_n q_X2_fillSum_15 rfl ?_
  refine wa_getf q_X2_fillSum_16 f_RX2_107 (by assumption) rfl ?_
  refine wa_callV q_X2_fillSum_19 g_X2_fillSum_19 w_X1_add (by assumption) rfl (av := [_]) rfl rfl (lk rfl) (Calls.mono (V_add w1 m1 m5 n3 (by rw [uV_s]; omega) (by rw [uV_n (Ne.symm n3)]; omega)) ?_)
  rintro _ σ2 ⟨rfl, S2, w2, t2⟩
  rw [uV_s, uV_n (Ne.symm n3)] at w2
  have c0 := bw_obj t2 w1.1 (Nat.lt_of_lt_of_le hvl t1.1) a0 (by decide)
  have c1 := bw_obj t2 w1.1 (Nat.lt_of_lt_of_le hvl1 t1.1) a1' (by decide)
  have c2 := bw_obj t2 w1.1 (Nat.lt_of_lt_of_le hvl2 t1.1) a2' (by decide)
  obtain ⟨i3, -, -, -, -, -, -⟩ := w2.1.1 hi m2
  have e1 : uV (uV V lo (V lo1)) lo (V lo1 + V lo2) hi1 = V hi1 := by rw [uV_n (Ne.symm n4), uV_n (Ne.symm n4)]
  have e2 : uV (uV V lo (V lo1)) lo (V lo1 + V lo2) hi2 = V hi2 := by rw [uV_n (Ne.symm n5), uV_n (Ne.symm n5)]
  refine wa_aload_n q_X2_fillSum_22 rfl ?_
  refine wa_getf q_X2_fillSum_23 f_RX2_114 (by assumption) rfl ?_
  refine wa_aload_n q_X2_fillSum_26 rfl ?_
  refine wa_getf q_X2_fillSum_27 f_RX2_114 (by assumption) rfl ?_
  refine wa_callV q_X2_fillSum_30 g_X2_fillSum_30 w_X1_copy (by assumption) rfl (av := [_]) rfl rfl (lk rfl) (Calls.mono (V_copy w2 m2 m4 n6 (by rw [e1]; omega)) ?_)
  rintro _ σ3 ⟨rfl, S3, w3, t3⟩
  rw [e1] at w3
  have d0 := bw_obj t3 w2.1 (Nat.lt_of_lt_of_le hvl (Nat.le_trans t1.1 t2.1)) c0 (by decide)
  have d2 := bw_obj t3 w2.1 (Nat.lt_of_lt_of_le hvl2 (Nat.le_trans t1.1 t2.1)) c2 (by decide)
  obtain ⟨i4, -, -, -, -, -, -⟩ := w3.1.1 hi m2
  refine wa_aload_n q_X2_fillSum_33 rfl ?_
  refine wa_getf q_X2_fillSum_34 f_RX2_114 (by assumption) rfl ?_
  refine wa_aload_n q_X2_fillSum_37 rfl ?_
  refine wa_getf q_X2_fillSum_38 f_RX2_114 (by assumption) rfl ?_
  refine wa_callV q_X2_fillSum_41 g_X2_fillSum_41 w_X1_add (by assumption) rfl (av := [_]) rfl rfl (lk rfl) (Calls.mono (V_add w3 m2 m6 n7 (by rw [uV_s]; omega) (by rw [uV_n (Ne.symm n7), e2]; omega)) ?_)
  rintro _ σ4 ⟨rfl, S4, w4, t4⟩
  rw [uV_s, uV_n (Ne.symm n7), e2] at w4
  refine wa_vret q_X2_fillSum_44 rfl ?_
  refine ⟨rfl, S4, _, w4, ?_, ?_, fun x h1 h2 => ?_, t1.tr (t2.tr (t3.tr t4))⟩
  · rw [uV_n n1, uV_n n1, uV_s]
  · rw [uV_s]
  · rw [uV_n h2, uV_n h2, uV_n h1, uV_n h1]
theorem F_diff {v lo hi fi v1 lo1 hi1 fi1 v2 lo2 hi2 fi2 : Nat} {kd f s at' op fa kd1 f1 s1 at1 op1 fa1 kd2 f2 s2 at2 op2 fa2 : Int32} {a b a1 b1 a2 b2 : Int} (h : bw_V X D σ S V) (hv : look σ v = some (vE kd a b f s at' op lo hi fa fi)) (hvl : v < σ.1) (hv1 : look σ v1 = some (vE kd1 a1 b1 f1 s1 at1 op1 lo1 hi1 fa1 fi1)) (hvl1 : v1 < σ.1) (hv2 : look σ v2 = some (vE kd2 a2 b2 f2 s2 at2 op2 lo2 hi2 fa2 fi2)) (hvl2 : v2 < σ.1) (m1 : lo ∈ D) (m2 : hi ∈ D) (m3 : lo1 ∈ D) (m4 : hi1 ∈ D) (m5 : lo2 ∈ D) (m6 : hi2 ∈ D) (n1 : lo ≠ hi) (n2 : lo ≠ lo1) (n3 : lo ≠ lo2) (n4 : lo ≠ hi1) (n5 : lo ≠ hi2) (n6 : hi ≠ hi1) (n7 : hi ≠ lo2)
    (z1 : (V lo1).natAbs < BB ^ 90) (z2 : (V hi1).natAbs < BB ^ 90) (z3 : (V lo2).natAbs < BB ^ 90) (z4 : (V hi2).natAbs < BB ^ 90) :
    Calls X M_X2_fillDifference [.ref v, .ref v1, .ref v2] σ (fun res τ => res = none ∧ ∃ S' V', bw_V X D τ S' V' ∧ V' lo = V lo1 - V hi2 ∧ V' hi = V hi1 - V lo2 ∧ (∀ x, x ≠ lo → x ≠ hi → V' x = V x) ∧ bw_St D σ S τ S') := by
  have hb : BB ^ 90 ≤ BB ^ 250 := pw_mono (by decide)
  obtain ⟨i1, -, -, -, -, -, -⟩ := h.1.1 lo m1
  refine Calls.of rfl (lk rfl) ?_
  refine wa_aload_n q_X2_fillDifference_0 rfl ?_
  refine wa_getf q_X2_fillDifference_1 f_RX2_107 (by assumption) rfl ?_
  refine wa_aload_n q_X2_fillDifference_4 rfl ?_
  refine wa_getf q_X2_fillDifference_5 f_RX2_107 (by assumption) rfl ?_
  refine wa_callV q_X2_fillDifference_8 g_X2_fillDifference_8 w_X1_copy (by assumption) rfl (av := [_]) rfl rfl (lk rfl) (Calls.mono (V_copy h m1 m3 n2 (by omega)) ?_)
  rintro _ σ1 ⟨rfl, S1, w1, t1⟩
  have a0 := bw_obj t1 h.1 hvl hv (by decide)
  have a1' := bw_obj t1 h.1 hvl1 hv1 (by decide)
  have a2' := bw_obj t1 h.1 hvl2 hv2 (by decide)
  obtain ⟨i2, -, -, -, -, -, -⟩ := w1.1.1 lo m1
  refine wa_aload_n q_X2_fillDifference_11 rfl ?_
  refine wa_getf q_X2_fillDifference_12 f_RX2_107 (by assumption) rfl ?_
  refine wa_aload_n q_X2_fillDifference_15 rfl ?_
  refine wa_getf q_X2_fillDifference_16 f_RX2_114 (by assumption) rfl ?_
  refine wa_callV q_X2_fillDifference_19 g_X2_fillDifference_19 w_X1_subtract (by assumption) rfl (av := [_]) rfl rfl (lk rfl) (Calls.mono (V_sub w1 m1 m6 n5 (by rw [uV_s]; omega) (by rw [uV_n (Ne.symm n5)]; omega)) ?_)
  rintro _ σ2 ⟨rfl, S2, w2, t2⟩
  rw [uV_s, uV_n (Ne.symm n5)] at w2
  have c0 := bw_obj t2 w1.1 (Nat.lt_of_lt_of_le hvl t1.1) a0 (by decide)
  have c1 := bw_obj t2 w1.1 (Nat.lt_of_lt_of_le hvl1 t1.1) a1' (by decide)
  have c2 := bw_obj t2 w1.1 (Nat.lt_of_lt_of_le hvl2 t1.1) a2' (by decide)
  obtain ⟨i3, -, -, -, -, -, -⟩ := w2.1.1 hi m2
  have e1 : uV (uV V lo (V lo1)) lo (V lo1 - V hi2) hi1 = V hi1 := by rw [uV_n (Ne.symm n4), uV_n (Ne.symm n4)]
  have e2 : uV (uV V lo (V lo1)) lo (V lo1 - V hi2) lo2 = V lo2 := by rw [uV_n (Ne.symm n3), uV_n (Ne.symm n3)]
  refine wa_aload_n q_X2_fillDifference_22 rfl ?_
  refine wa_getf q_X2_fillDifference_23 f_RX2_114 (by assumption) rfl ?_
  refine wa_aload_n q_X2_fillDifference_26 rfl ?_
  refine wa_getf q_X2_fillDifference_27 f_RX2_114 (by assumption) rfl ?_
  refine wa_callV q_X2_fillDifference_30 g_X2_fillDifference_30 w_X1_copy (by assumption) rfl (av := [_]) rfl rfl (lk rfl) (Calls.mono (V_copy w2 m2 m4 n6 (by rw [e1]; omega)) ?_)
  rintro _ σ3 ⟨rfl, S3, w3, t3⟩
  rw [e1] at w3
  have d0 := bw_obj t3 w2.1 (Nat.lt_of_lt_of_le hvl (Nat.le_trans t1.1 t2.1)) c0 (by decide)
  have d2 := bw_obj t3 w2.1 (Nat.lt_of_lt_of_le hvl2 (Nat.le_trans t1.1 t2.1)) c2 (by decide)
  obtain ⟨i4, -, -, -, -, -, -⟩ := w3.1.1 hi m2
  refine wa_aload_n q_X2_fillDifference_33 rfl ?_
  refine wa_getf q_X2_fillDifference_34 f_RX2_114 (by assumption) rfl ?_
  refine wa_aload_n q_X2_fillDifference_37 rfl ?_
  refine wa_getf q_X2_fillDifference_38 f_RX2_107 (by assumption) rfl ?_
  refine wa_callV q_X2_fillDifference_41 g_X2_fillDifference_41 w_X1_subtract (by assumption) rfl (av := [_]) rfl rfl (lk rfl) (Calls.mono (V_sub w3 m2 m5 n7 (by rw [uV_s]; omega) (by rw [uV_n (Ne.symm n7), e2]; omega)) ?_)
  rintro _ σ4 ⟨rfl, S4, w4, t4⟩
  rw [uV_s, uV_n (Ne.symm n7), e2] at w4
  refine wa_vret q_X2_fillDifference_44 rfl ?_
  refine ⟨rfl, S4, _, w4, ?_, ?_, fun x h1 h2 => ?_, t1.tr (t2.tr (t3.tr t4))⟩
  · rw [uV_n n1, uV_n n1, uV_s]
  · rw [uV_s]
  · rw [uV_n h2, uV_n h2, uV_n h1, uV_n h1]
end enc1
end
section
/-! EnclosedDigits$Encloser: divideBothWays, multiplyBothWays -/
/-- a quotient rounded down, and up -/
def qdn (a b : Int) : Int := if a * b < 0 then (if a.natAbs % b.natAbs = 0 then -((a.natAbs / b.natAbs : Nat) : Int) else -((a.natAbs / b.natAbs : Nat) : Int) - 1) else ((a.natAbs / b.natAbs : Nat) : Int)
def qup (a b : Int) : Int := if a * b < 0 then -((a.natAbs / b.natAbs : Nat) : Int) else (if a.natAbs % b.natAbs = 0 then ((a.natAbs / b.natAbs : Nat) : Int) else ((a.natAbs / b.natAbs : Nat) : Int) + 1)
section enc2
variable {X : en_X} {σ : en_S} {D : List Nat} {S : Nat → en_B} {V : Nat → Int}
theorem F_mulBoth {e bn se dn up ov un rs a b p : Nat} (h : bw_V X D σ S V) (he : look σ e = some (eE bn se dn up ov un rs)) (hel : e < σ.1) (m1 : dn ∈ D) (m2 : up ∈ D) (m3 : a ∈ D) (m4 : b ∈ D) (n1 : dn ≠ up) (n2 : dn ≠ a) (n3 : dn ≠ b) (hp : p ≤ 480) (za : (V a).natAbs < BB ^ 90) (zb : (V b).natAbs < BB ^ 90) :
    Calls X M_X2_multiplyBothWays [.ref e, .ref a, .ref b, .int (nI p)] σ (fun res τ => res = none ∧ ∃ S' V', bw_V X D τ S' V' ∧ V' dn = shr (V a * V b) p (-1) ∧ V' up = shr (V a * V b) p 1 ∧ (∀ x, x ≠ dn → x ≠ up → V' x = V x) ∧ bw_St D σ S τ S') := by
  have hb : BB ^ 90 ≤ BB ^ 125 := pw_mono (by decide)
  have hz : (V a * V b).natAbs < BB ^ 250 := by
    rw [Int.natAbs_mul]
    have q1 : (V a).natAbs * (V b).natAbs ≤ BB ^ 90 * BB ^ 90 := Nat.mul_le_mul (Nat.le_of_lt za) (Nat.le_of_lt zb)
    rw [← Nat.pow_add] at q1
    exact Nat.lt_of_le_of_lt q1 ((Nat.pow_lt_pow_iff_right (by decide)).mpr (by decide))
  obtain ⟨i1, -, -, -, -, -, -⟩ := h.1.1 dn m1
  refine Calls.of rfl (lk rfl) ?_
  refine wa_aload_n q_X2_multiplyBothWays_0 rfl ?_
  refine wa_getf q_X2_multiplyBothWays_1 f_RX2_28 (by assumption) rfl ?_
  refine wa_aload_n q_X2_multiplyBothWays_4 rfl ?_
  refine wa_aload_n q_X2_multiplyBothWays_5 rfl ?_
  refine wa_callV q_X2_multiplyBothWays_6 g_X2_multiplyBothWays_6 w_X1_setProduct (by assumption) rfl (av := [_, _]) rfl rfl (lk rfl) (Calls.mono (V_prod h m1 m3 m4 n2 n3 (by omega) (by omega)) ?_)
  rintro _ σ1 ⟨rfl, S1, v1, s1⟩
  have e1 := bw_obj s1 h.1 hel he (by decide)
  have l1 := Nat.lt_of_lt_of_le hel s1.1
  obtain ⟨i2, -, -, -, -, -, -⟩ := v1.1.1 up m2
  refine wa_aload_n q_X2_multiplyBothWays_9 rfl ?_
  refine wa_getf q_X2_multiplyBothWays_10 f_RX2_32 (by assumption) rfl ?_
  refine wa_aload_n q_X2_multiplyBothWays_13 rfl ?_
  refine wa_getf q_X2_multiplyBothWays_14 f_RX2_28 (by assumption) rfl ?_
  refine wa_callV q_X2_multiplyBothWays_17 g_X2_multiplyBothWays_17 w_X1_copy (by assumption) rfl (av := [_]) rfl rfl (lk rfl) (Calls.mono (V_copy v1 m2 m1 (Ne.symm n1) (by rw [uV_s]; exact hz)) ?_)
  rintro _ σ2 ⟨rfl, S2, v2, s2⟩
  rw [uV_s] at v2
  have e2 := bw_obj s2 v1.1 l1 e1 (by decide)
  have l2 := Nat.lt_of_lt_of_le l1 s2.1
  obtain ⟨i3, -, -, -, -, -, -⟩ := v2.1.1 dn m1
  refine wa_aload_n q_X2_multiplyBothWays_20 rfl ?_
  refine wa_getf q_X2_multiplyBothWays_21 f_RX2_28 (by assumption) rfl ?_
  refine wa_iload_n q_X2_multiplyBothWays_24 rfl ?_
  refine wa_iconst q_X2_multiplyBothWays_25 (v := sgI (-1)) (by decide) ?_
  refine wa_callV q_X2_multiplyBothWays_26 g_X2_multiplyBothWays_26 w_X1_shrink (by assumption) rfl (av := [_, _]) rfl rfl (lk rfl) (Calls.mono (V_shrink v2 m1 (by omega) (Or.inr rfl) (by rw [uV_n n1, uV_s]; exact hz)) ?_)
  rintro _ σ3 ⟨rfl, S3, v3, s3⟩
  rw [uV_n n1, uV_s] at v3
  have e3 := bw_obj s3 v2.1 l2 e2 (by decide)
  obtain ⟨i4, -, -, -, -, -, -⟩ := v3.1.1 up m2
  refine wa_aload_n q_X2_multiplyBothWays_29 rfl ?_
  refine wa_getf q_X2_multiplyBothWays_30 f_RX2_32 (by assumption) rfl ?_
  refine wa_iload_n q_X2_multiplyBothWays_33 rfl ?_
  refine wa_iconst q_X2_multiplyBothWays_34 (v := sgI 1) (by decide) ?_
  refine wa_callV q_X2_multiplyBothWays_35 g_X2_multiplyBothWays_35 w_X1_shrink (by assumption) rfl (av := [_, _]) rfl rfl (lk rfl) (Calls.mono (V_shrink v3 m2 (by omega) (Or.inl rfl) (by rw [uV_n (Ne.symm n1), uV_s]; exact hz)) ?_)
  rintro _ σ4 ⟨rfl, S4, v4, s4⟩
  rw [uV_n (Ne.symm n1), uV_s] at v4
  refine wa_vret q_X2_multiplyBothWays_38 rfl ?_
  refine ⟨rfl, S4, _, v4, ?_, ?_, fun x h1 h2 => ?_, s1.tr (s2.tr (s3.tr s4))⟩
  · rw [uV_n n1, uV_s]
  · rw [uV_s]
  · rw [uV_n h2, uV_n h1, uV_n h2, uV_n h1]
set_option maxHeartbeats 1000000 in
theorem F_divBoth {e bn se dn up ov un rs dv ds pt bt brs a b : Nat} (h : bw_V X D σ S V) (he : look σ e = some (eE bn se dn up ov un rs)) (hel : e < σ.1) (hb0 : look σ bn = some (nE dv ds pt bt brs)) (hbl : bn < σ.1) (m1 : dn ∈ D) (m2 : up ∈ D) (m3 : rs ∈ D) (m4 : dv ∈ D) (m5 : ds ∈ D) (m6 : a ∈ D) (m7 : b ∈ D) (hdis : [dn, up, rs, dv, ds].Nodup) (a1 : a ≠ dn) (a2 : a ≠ up) (a3 : a ≠ rs) (a4 : a ≠ dv) (a5 : a ≠ ds) (b1 : b ≠ dn) (b2 : b ≠ up) (b3 : b ≠ rs) (b4 : b ≠ dv) (b5 : b ≠ ds) (hbz : V b ≠ 0) (za : (V a).natAbs < BB ^ 240) (zb : (V b).natAbs < BB ^ 240) :
    Calls X M_X2_divideBothWays [.ref e, .ref a, .ref b] σ (fun res τ => res = none ∧ ∃ S' V', bw_V X D τ S' V' ∧ V' dn = qdn (V a) (V b) ∧ V' up = qup (V a) (V b) ∧ (∀ x, x ≠ dn → x ≠ up → x ≠ rs → x ≠ dv → x ≠ ds → V' x = V x) ∧ bw_St D σ S τ S') := by
  simp only [List.nodup_cons, List.mem_cons, not_or, List.not_mem_nil, not_false_eq_true, List.nodup_nil, and_true] at hdis
  obtain ⟨⟨d12, d13, d14, d15⟩, ⟨d23, d24, d25⟩, ⟨d34, d35⟩, d45⟩ := hdis
  obtain ⟨i1, -, -, -, -, -, -⟩ := h.1.1 a m6
  obtain ⟨i2, -, -, -, -, -, -⟩ := h.1.1 b m7
  have sa := (h.2 a m6).1
  have sb := (h.2 b m7).1
  have h240 : BB ^ 240 ≤ BB ^ 250 := pw_mono (by decide)
  refine Calls.of rfl (lk rfl) ?_
  refine wa_aload_n q_X2_divideBothWays_0 rfl ?_
  refine wa_getf q_X2_divideBothWays_1 f_RX2_169 (by assumption) rfl ?_
  refine wa_aload_n q_X2_divideBothWays_4 rfl ?_
  refine wa_getf q_X2_divideBothWays_5 f_RX2_169 (by assumption) rfl ?_
  refine wa_imul q_X2_divideBothWays_8 ?_
  rw [sa, sb, ← sgI_mul]
  refine wa_istore_n q_X2_divideBothWays_9 (by decide) ?_
  refine wa_aload_n q_X2_divideBothWays_10 rfl ?_
  refine wa_getf q_X2_divideBothWays_11 f_RX2_12 (by assumption) rfl ?_
  refine wa_aload_n q_X2_divideBothWays_14 rfl ?_
  refine wa_aload_n q_X2_divideBothWays_15 rfl ?_
  refine wa_aload_n q_X2_divideBothWays_16 rfl ?_
  refine wa_getf q_X2_divideBothWays_17 f_RX2_28 (by assumption) rfl ?_
  refine wa_aload_n q_X2_divideBothWays_20 rfl ?_
  refine wa_getf q_X2_divideBothWays_21 f_RX2_41 (by assumption) rfl ?_
  refine wa_callV q_X2_divideBothWays_24 g_X2_divideBothWays_24 w_X0_divide (by assumption) rfl (av := [_, _, _, _]) rfl rfl (lk rfl) (Calls.mono (V_div h hb0 hbl m4 m5 m6 m7 m1 m3 d45 a4 a5 b4 b5 d14 d15 d34 d35 d13 hbz za zb) ?_)
  rintro _ σ1 ⟨rfl, S1, V1, v1, q1, q2, q3, s1⟩
  have e1 := bw_obj s1 h.1 hel he (by decide)
  have l1 := Nat.lt_of_lt_of_le hel s1.1
  have hql : (V a).natAbs / (V b).natAbs ≤ (V a).natAbs := Nat.div_le_self _ _
  obtain ⟨j1, j2, j3, j4, j5, j6, j7⟩ := v1.1.1 dn m1
  obtain ⟨o0, o1, o2⟩ := v1.2 dn m1
  rw [q1] at o0 o1
  rw [Int.natAbs_natCast] at o1
  refine wa_aload_n q_X2_divideBothWays_27 rfl ?_
  refine wa_getf q_X2_divideBothWays_28 f_RX2_28 (by assumption) rfl ?_
  refine wa_dup q_X2_divideBothWays_31 rfl ?_
  refine wa_getf q_X2_divideBothWays_32 f_RX2_169 (by assumption) rfl ?_
  refine wa_iload_n q_X2_divideBothWays_35 rfl ?_
  refine wa_imul q_X2_divideBothWays_36 ?_
  rw [o0, ← sgI_mul]
  have hne := ne_oa j1 j2
  refine wn_putf q_X2_divideBothWays_37 p_RX2_169 (by assumption) (lk rfl) rfl rfl rfl (fun σ_p1 p1 f_p1 e1_p1 e2_p1 => ?_)
  have st2 := bw_R.keep (a := dn) v1.1 m1 p1 ((f_p1 _ hne.symm).trans j2) j3 (fun y y1 y2 => f_p1 y y1) (by omega) (by omega)
  -- the quotient with its sign
  obtain ⟨w, hw⟩ : ∃ w : Int, w = if V a * V b < 0 then -(((V a).natAbs / (V b).natAbs : Nat) : Int) else (((V a).natAbs / (V b).natAbs : Nat) : Int) := ⟨_, rfl⟩
  have hab0 : V a * V b = 0 → (V a).natAbs / (V b).natAbs = 0 := fun z => by
    rcases Int.mul_eq_zero.mp z with y | y
    · rw [y]; simp
    · exact absurd y hbz
  have v2 := v1.up (v := w) st2.1 ⟨by
      show sgI _ = sgI w
      rw [hw]
      rcases sgI_c (V a * V b) with ⟨y, g⟩ | ⟨y, g⟩ | ⟨y, g⟩
      · rw [if_pos y, sgI_neg, sgI_mul, g]
        rcases sgI_c ((((V a).natAbs / (V b).natAbs : Nat) : Int)) with ⟨_, e⟩ | ⟨_, e⟩ | ⟨_, e⟩ <;> (rw [e]; decide)
      · rw [hab0 y]; simp
      · rw [if_neg (by omega), sgI_mul, g, Int32.mul_one], by
      show vl _ _ = w.natAbs
      rw [o1, hw]; split <;> omega, o2⟩
  have e2 := bw_obj st2.2 v1.1 l1 e1 (by decide)
  have l2 := Nat.lt_of_lt_of_le l1 st2.2.1
  have hwa : w.natAbs = (V a).natAbs / (V b).natAbs := by rw [hw]; split <;> omega
  obtain ⟨k1, -, -, -, -, -, -⟩ := v2.1.1 up m2
  refine wa_aload_n q_X2_divideBothWays_40 rfl ?_
  refine wa_getf q_X2_divideBothWays_41 f_RX2_32 (by assumption) rfl ?_
  refine wa_aload_n q_X2_divideBothWays_44 rfl ?_
  refine wa_getf q_X2_divideBothWays_45 f_RX2_28 (by assumption) rfl ?_
  refine wa_callV q_X2_divideBothWays_48 g_X2_divideBothWays_48 w_X1_copy (by assumption) rfl (av := [_]) rfl rfl (lk rfl) (Calls.mono (V_copy v2 m2 m1 (Ne.symm d12) (by rw [uV_s, hwa]; omega)) ?_)
  rintro _ σ3 ⟨rfl, S3, v3, s3⟩
  rw [uV_s] at v3
  have e3 := bw_obj s3 v2.1 l2 e2 (by decide)
  have l3 := Nat.lt_of_lt_of_le l2 s3.1
  obtain ⟨V3, hV3⟩ : ∃ V3, V3 = uV (uV V1 dn w) up w := ⟨_, rfl⟩
  rw [← hV3] at v3
  have y1 : V3 dn = w := by rw [hV3, uV_n d12, uV_s]
  have y2 : V3 up = w := by rw [hV3, uV_s]
  have y3 : V3 rs = (((V a).natAbs % (V b).natAbs : Nat) : Int) := by rw [hV3, uV_n (Ne.symm d23), uV_n (Ne.symm d13)]; exact q2
  have y4 : ∀ x, x ≠ dn → x ≠ up → x ≠ rs → x ≠ dv → x ≠ ds → V3 x = V x := fun x h1 h2 h3 h4 h5 => by rw [hV3, uV_n h2, uV_n h1]; exact q3 x h4 h5 h1 h3
  clear hV3
  have sA : bw_St D σ S σ3 S3 := s1.tr (st2.2.tr s3)
  obtain ⟨k2, -, -, -, -, -, -⟩ := v3.1.1 rs m3
  have sr := (v3.2 rs m3).1
  rw [y3] at sr
  refine wa_aload_n q_X2_divideBothWays_51 rfl ?_
  refine wa_getf q_X2_divideBothWays_52 f_RX2_41 (by assumption) rfl ?_
  refine wa_getf q_X2_divideBothWays_55 f_RX2_169 (by assumption) rfl ?_
  rw [sr]
  refine wa_if_eq q_X2_divideBothWays_58 (fun hx => ?_) (fun hx => ?_)
  · have hr0 : (V a).natAbs % (V b).natAbs = 0 := by have := sgI_0.mp hx; omega
    refine wa_vret q_X2_divideBothWays_84 rfl ?_
    refine ⟨rfl, S3, V3, v3, ?_, ?_, y4, sA⟩
    · rw [y1, hw]; unfold qdn; rw [if_pos hr0]
    · rw [y2, hw]; unfold qup; rw [if_pos hr0]
  · have hr0 : ¬ (V a).natAbs % (V b).natAbs = 0 := fun z => hx (sgI_0.mpr (by rw [z]; rfl))
    have ha0 : V a ≠ 0 := fun z => hr0 (by rw [z]; simp)
    have hab : V a * V b ≠ 0 := fun z => by rcases Int.mul_eq_zero.mp z with y | y; exact ha0 y; exact hbz y
    obtain ⟨k3, -, -, -, -, -, -⟩ := v3.1.1 dn m1
    obtain ⟨k4, -, -, -, -, -, -⟩ := v3.1.1 up m2
    refine wa_iload_n q_X2_divideBothWays_61 rfl ?_
    refine wa_if_ge q_X2_divideBothWays_62 (fun hy => ?_) (fun hy => ?_)
    · have hpos : 0 < V a * V b := by
        rcases sgI_c (V a * V b) with ⟨y, g⟩ | ⟨y, g⟩ | ⟨y, g⟩
        · rw [g] at hy; exact absurd hy (by decide)
        · exact absurd y hab
        · exact y
      have esg : sgI (V a * V b) = sgI 1 := by rcases sgI_c (V a * V b) with ⟨y, g⟩ | ⟨y, g⟩ | ⟨y, g⟩ <;> first | omega | (rw [g]; decide)
      refine wa_aload_n q_X2_divideBothWays_72 rfl ?_
      refine wa_getf q_X2_divideBothWays_73 f_RX2_32 (by assumption) rfl ?_
      refine wa_astore q_X2_divideBothWays_76 (by decide) ?_
      refine wa_aload q_X2_divideBothWays_78 rfl ?_
      refine wa_iload_n q_X2_divideBothWays_80 rfl ?_
      rw [esg]
      refine wa_callV q_X2_divideBothWays_81 g_X2_divideBothWays_81 w_X1_grow (by assumption) rfl (av := [_]) rfl rfl (lk rfl) (Calls.mono (V_grow v3 m2 (Or.inl rfl) (by rw [y2, hwa]; omega)) ?_)
      rintro _ σ4 ⟨rfl, S4, v4, s4⟩
      refine wa_vret q_X2_divideBothWays_84 rfl ?_
      rw [if_neg (by omega)] at hw
      refine ⟨rfl, S4, _, v4, ?_, ?_, fun x h1 h2 h3 h4 h5 => ?_, sA.tr s4⟩
      · rw [uV_n d12, y1, hw]; unfold qdn; rw [if_neg (by omega)]
      · have eu : qup (V a) (V b) = (((V a).natAbs / (V b).natAbs : Nat) : Int) + 1 := by unfold qup; rw [if_neg (by omega), if_neg hr0]
        rw [uV_s, y2, hw, eu]; unfold grw
        generalize (V a).natAbs / (V b).natAbs = qq
        split
        · omega
        · rw [if_neg (by omega)]
      · rw [uV_n h2]; exact y4 x h1 h2 h3 h4 h5
    · have hneg : V a * V b < 0 := by
        rcases sgI_c (V a * V b) with ⟨y, g⟩ | ⟨y, g⟩ | ⟨y, g⟩
        · exact y
        · exact absurd y hab
        · rw [g] at hy; exact absurd (by decide) hy
      have esg : sgI (V a * V b) = sgI (-1) := by rcases sgI_c (V a * V b) with ⟨y, g⟩ | ⟨y, g⟩ | ⟨y, g⟩ <;> first | omega | (rw [g]; decide)
      refine wa_aload_n q_X2_divideBothWays_65 rfl ?_
      refine wa_getf q_X2_divideBothWays_66 f_RX2_28 (by assumption) rfl ?_
      refine wa_goto q_X2_divideBothWays_69 ?_
      refine wa_astore q_X2_divideBothWays_76 (by decide) ?_
      refine wa_aload q_X2_divideBothWays_78 rfl ?_
      refine wa_iload_n q_X2_divideBothWays_80 rfl ?_
      rw [esg]
      refine wa_callV q_X2_divideBothWays_81 g_X2_divideBothWays_81 w_X1_grow (by assumption) rfl (av := [_]) rfl rfl (lk rfl) (Calls.mono (V_grow v3 m1 (Or.inr rfl) (by rw [y1, hwa]; omega)) ?_)
      rintro _ σ4 ⟨rfl, S4, v4, s4⟩
      refine wa_vret q_X2_divideBothWays_84 rfl ?_
      rw [if_pos hneg] at hw
      refine ⟨rfl, S4, _, v4, ?_, ?_, fun x h1 h2 h3 h4 h5 => ?_, sA.tr s4⟩
      · have ed : qdn (V a) (V b) = -(((V a).natAbs / (V b).natAbs : Nat) : Int) - 1 := by unfold qdn; rw [if_pos hneg, if_neg hr0]
        rw [uV_s, y1, hw, ed]; unfold grw
        generalize (V a).natAbs / (V b).natAbs = qq
        split
        · omega
        · rw [if_pos (by omega)]
      · rw [uV_n (Ne.symm d12), y2, hw]; unfold qup; rw [if_pos hneg]
      · rw [uV_n h1]; exact y4 x h1 h2 h3 h4 h5
end enc2
end
section
/-! Numbers by their places in a list: z gives the address of the i-th number, U its value -/
abbrev zD (z : Nat → Nat) (N : Nat) : List Nat := (List.range N).map z
def zI (z : Nat → Nat) (N : Nat) : Prop := ∀ i j, i < N → j < N → z i = z j → i = j
def zW (X : en_X) (z : Nat → Nat) (N : Nat) (σ : en_S) (S : Nat → en_B) (U : Nat → Int) : Prop := zI z N ∧ ∃ V, bw_V X (zD z N) σ S V ∧ ∀ i, i < N → V (z i) = U i
theorem zD_m {z : Nat → Nat} {N i : Nat} (h : i < N) : z i ∈ zD z N := List.mem_map.mpr ⟨i, List.mem_range.mpr h, rfl⟩
theorem zD_e {z : Nat → Nat} {N a : Nat} (h : a ∈ zD z N) : ∃ i, i < N ∧ z i = a := by
  obtain ⟨i, h1, h2⟩ := List.mem_map.mp h
  exact ⟨i, List.mem_range.mp h1, h2⟩
theorem zI.ne {z : Nat → Nat} {N i j : Nat} (h : zI z N) (hi : i < N) (hj : j < N) (hij : i ≠ j) : z i ≠ z j := fun e => hij (h i j hi hj e)
section zw
variable {X : en_X} {σ : en_S} {z : Nat → Nat} {N : Nat} {S : Nat → en_B} {U : Nat → Int}
theorem zW.up {τ : en_S} {S' : Nat → en_B} {V : Nat → Int} {i : Nat} {v : Int} (hI : zI z N) (h : bw_V X (zD z N) τ S' (uV V (z i) v)) (hU : ∀ j, j < N → V (z j) = U j) (hi : i < N) : zW X z N τ S' (uV U i v) := by
  refine ⟨hI, _, h, fun j hj => ?_⟩
  by_cases e : j = i
  · subst e; rw [uV_s, uV_s]
  · rw [uV_n e, uV_n (hI.ne hj hi e)]; exact hU j hj
theorem zW.R (h : zW X z N σ S U) : bw_R X (zD z N) σ S := h.2.choose_spec.1.1
theorem zW.big (h : zW X z N σ S U) {i : Nat} (hi : i < N) : look σ (z i) = some (bE (sgI (U i)) (S (z i)).2.2.1 (S (z i)).1) := by
  obtain ⟨-, V, h1, h2⟩ := h
  have e := (h1.1.1 _ (zD_m hi)).1
  rw [(h1.2 _ (zD_m hi)).1, h2 i hi] at e
  exact e
theorem zW.lt (h : zW X z N σ S U) {i : Nat} (hi : i < N) : z i < σ.1 := (h.R.1 _ (zD_m hi)).2.2.2.2.2.1
theorem zW.eq {U' : Nat → Int} (h : zW X z N σ S U) (e : ∀ i, i < N → U' i = U i) : zW X z N σ S U' := by
  obtain ⟨h0, V, h1, h2⟩ := h
  exact ⟨h0, V, h1, fun i hi => (h2 i hi).trans (e i hi).symm⟩
/-- an object that is no number, or another array, changes: the numbers stay -/
theorem bw_R.ext {D : List Nat} {τ : en_S} {a : Nat} (h : bw_R X D σ S) (hf : ∀ q, q ≠ a → look τ q = look σ q) (ha : a ∉ D) (hr : ∀ d ∈ D, a ≠ (S d).1) (e1 : τ.1 = σ.1) : bw_R X D τ S := by
  refine ⟨fun d hd => ?_, h.2⟩
  obtain ⟨c1, c2, c3, c4, c5, c6, c7⟩ := h.1 d hd
  exact ⟨(hf d (fun z => ha (z ▸ hd))).trans c1, (hf _ (fun z => hr d hd z.symm)).trans c2, c3, c4, c5, by omega, by omega⟩
theorem bw_no {D : List Nat} {a : Nat} {en : va_E} (h : bw_R X D σ S) (hl : look σ a = some en) (h1 : ∀ l, en ≠ .inr (1, l)) (h2 : ∀ n d, en ≠ ar X n d) : a ∉ D ∧ ∀ d ∈ D, a ≠ (S d).1 := by
  refine ⟨fun m => ?_, fun d hd e => ?_⟩
  · have := (h.1 a m).1
    rw [hl] at this
    exact h1 _ (Option.some.inj this)
  · have := (h.1 d hd).2.1
    rw [← e, hl] at this
    exact h2 _ _ (Option.some.inj this)
theorem bw_oth {D : List Nat} {τ : en_S} {T : Nat → en_B} {a : Nat} {en : va_E} (s : bw_St D σ S τ T) (h : bw_R X D σ S) (hq : a < σ.1) (hl : look σ a = some en) (h1 : ∀ l, en ≠ .inr (1, l)) (h2 : ∀ n d, en ≠ ar X n d) : look τ a = some en := by
  obtain ⟨g1, g2⟩ := bw_no h hl h1 h2
  rw [s.2.1 a hq g1 g2]; exact hl
theorem zW.ext {τ : en_S} {a : Nat} {ci : Nat} {fs : List Value} (h : zW X z N σ S U) (hf : ∀ q, q ≠ a → look τ q = look σ q) (hl : look σ a = some (.inr (ci, fs))) (hc : ci ≠ 1) (e1 : τ.1 = σ.1) : zW X z N τ S U := by
  obtain ⟨h0, V, h1, h2⟩ := h
  obtain ⟨g1, g2⟩ := bw_no h1.1 hl (fun l e => by cases e; exact hc rfl) (fun n d e => by cases e)
  exact ⟨h0, V, ⟨h1.1.ext hf g1 g2 e1, h1.2⟩, h2⟩
theorem Z_copy {i j : Nat} (h : zW X z N σ S U) (hi : i < N) (hj : j < N) (hij : i ≠ j) (hz : (U j).natAbs < BB ^ 250) : Calls X M_X1_copy [.ref (z i), .ref (z j)] σ (fun res τ => res = none ∧ ∃ S', zW X z N τ S' (uV U i (U j)) ∧ bw_St (zD z N) σ S τ S') := by
  obtain ⟨h0, V, h1, h2⟩ := h
  refine Calls.mono (V_copy h1 (zD_m hi) (zD_m hj) (h0.ne hi hj hij) (by rw [h2 j hj]; exact hz)) ?_
  rintro r τ ⟨rfl, S', k1, k2⟩
  rw [h2 j hj] at k1
  exact ⟨rfl, S', zW.up h0 k1 h2 hi, k2⟩
theorem Z_clear {i : Nat} (h : zW X z N σ S U) (hi : i < N) : Calls X M_X1_clear [.ref (z i)] σ (fun res τ => res = none ∧ ∃ S', zW X z N τ S' (uV U i 0) ∧ bw_St (zD z N) σ S τ S') := by
  obtain ⟨h0, V, h1, h2⟩ := h
  refine Calls.mono (V_clear h1 (zD_m hi)) ?_
  rintro r τ ⟨rfl, S', k1, k2⟩
  exact ⟨rfl, S', zW.up h0 k1 h2 hi, k2⟩
theorem Z_setL {i : Nat} {n : Int} (h : zW X z N σ S U) (hi : i < N) (h1 : -9223372036854775808 ≤ n) (h2 : n < 9223372036854775808) : Calls X M_X1_setLong [.ref (z i), .long (lZ n)] σ (fun res τ => res = none ∧ ∃ S', zW X z N τ S' (uV U i n) ∧ bw_St (zD z N) σ S τ S') := by
  obtain ⟨h0, V, g1, g2⟩ := h
  refine Calls.mono (V_setL g1 (zD_m hi) h1 h2) ?_
  rintro r τ ⟨rfl, S', k1, k2⟩
  exact ⟨rfl, S', zW.up h0 k1 g2 hi, k2⟩
theorem Z_add {i j : Nat} (h : zW X z N σ S U) (hi : i < N) (hj : j < N) (hij : i ≠ j) (zi : (U i).natAbs < BB ^ 250) (zj : (U j).natAbs < BB ^ 250) : Calls X M_X1_add [.ref (z i), .ref (z j)] σ (fun res τ => res = none ∧ ∃ S', zW X z N τ S' (uV U i (U i + U j)) ∧ bw_St (zD z N) σ S τ S') := by
  obtain ⟨h0, V, h1, h2⟩ := h
  refine Calls.mono (V_add h1 (zD_m hi) (zD_m hj) (h0.ne hi hj hij) (by rw [h2 i hi]; exact zi) (by rw [h2 j hj]; exact zj)) ?_
  rintro r τ ⟨rfl, S', k1, k2⟩
  rw [h2 j hj, h2 i hi] at k1
  exact ⟨rfl, S', zW.up h0 k1 h2 hi, k2⟩
theorem Z_sub {i j : Nat} (h : zW X z N σ S U) (hi : i < N) (hj : j < N) (hij : i ≠ j) (zi : (U i).natAbs < BB ^ 250) (zj : (U j).natAbs < BB ^ 250) : Calls X M_X1_subtract [.ref (z i), .ref (z j)] σ (fun res τ => res = none ∧ ∃ S', zW X z N τ S' (uV U i (U i - U j)) ∧ bw_St (zD z N) σ S τ S') := by
  obtain ⟨h0, V, h1, h2⟩ := h
  refine Calls.mono (V_sub h1 (zD_m hi) (zD_m hj) (h0.ne hi hj hij) (by rw [h2 i hi]; exact zi) (by rw [h2 j hj]; exact zj)) ?_
  rintro r τ ⟨rfl, S', k1, k2⟩
  rw [h2 j hj, h2 i hi] at k1
  exact ⟨rfl, S', zW.up h0 k1 h2 hi, k2⟩
theorem Z_grow {i : Nat} {t : Int} (h : zW X z N σ S U) (hi : i < N) (ht : t = 1 ∨ t = -1) (zi : (U i).natAbs < BB ^ 250) : Calls X M_X1_grow [.ref (z i), .int (sgI t)] σ (fun res τ => res = none ∧ ∃ S', zW X z N τ S' (uV U i (grw (U i) t)) ∧ bw_St (zD z N) σ S τ S') := by
  obtain ⟨h0, V, h1, h2⟩ := h
  refine Calls.mono (V_grow h1 (zD_m hi) ht (by rw [h2 i hi]; exact zi)) ?_
  rintro r τ ⟨rfl, S', k1, k2⟩
  rw [h2 i hi] at k1
  exact ⟨rfl, S', zW.up h0 k1 h2 hi, k2⟩
theorem Z_mulS {i f : Nat} (h : zW X z N σ S U) (hi : i < N) (hf : f ≤ BB) (zi : (U i).natAbs < BB ^ 250) : Calls X M_X1_multiplySmall [.ref (z i), .long (lN f)] σ (fun res τ => res = none ∧ ∃ S', zW X z N τ S' (uV U i (U i * f)) ∧ bw_St (zD z N) σ S τ S') := by
  obtain ⟨h0, V, h1, h2⟩ := h
  refine Calls.mono (V_mulS h1 (zD_m hi) hf (by rw [h2 i hi]; exact zi)) ?_
  rintro r τ ⟨rfl, S', k1, k2⟩
  rw [h2 i hi] at k1
  exact ⟨rfl, S', zW.up h0 k1 h2 hi, k2⟩
theorem Z_divS {i f : Nat} (h : zW X z N σ S U) (hi : i < N) (hf0 : 0 < f) (hf : f * BB < 2 ^ 63) : Calls X M_X1_divideSmall [.ref (z i), .long (lN f)] σ (fun res τ => res = some (.long (lN ((U i).natAbs % f))) ∧ ∃ S', zW X z N τ S' (uV U i ((U i).tdiv f)) ∧ bw_St (zD z N) σ S τ S') := by
  obtain ⟨h0, V, h1, h2⟩ := h
  refine Calls.mono (V_divS h1 (zD_m hi) hf0 hf) ?_
  rintro r τ ⟨rfl, S', k1, k2⟩
  rw [h2 i hi] at k1 ⊢
  exact ⟨rfl, S', zW.up h0 k1 h2 hi, k2⟩
theorem Z_shiftUp {i p : Nat} (h : zW X z N σ S U) (hi : i < N) (hp : p ≤ 1000) (zi : (U i).natAbs * 10 ^ p < BB ^ 250) : Calls X M_X1_shiftUp [.ref (z i), .int (nI p)] σ (fun res τ => res = none ∧ ∃ S', zW X z N τ S' (uV U i (U i * 10 ^ p)) ∧ bw_St (zD z N) σ S τ S') := by
  obtain ⟨h0, V, h1, h2⟩ := h
  refine Calls.mono (V_shiftUp h1 (zD_m hi) hp (by rw [h2 i hi]; exact zi)) ?_
  rintro r τ ⟨rfl, S', k1, k2⟩
  rw [h2 i hi] at k1
  exact ⟨rfl, S', zW.up h0 k1 h2 hi, k2⟩
theorem Z_shrink {i p : Nat} {tw : Int} (h : zW X z N σ S U) (hi : i < N) (hp : p ≤ 9000) (ht : tw = 1 ∨ tw = -1) (zi : (U i).natAbs < BB ^ 250) : Calls X M_X1_shrink [.ref (z i), .int (nI p), .int (sgI tw)] σ (fun res τ => res = none ∧ ∃ S', zW X z N τ S' (uV U i (shr (U i) p tw)) ∧ bw_St (zD z N) σ S τ S') := by
  obtain ⟨h0, V, h1, h2⟩ := h
  refine Calls.mono (V_shrink h1 (zD_m hi) hp ht (by rw [h2 i hi]; exact zi)) ?_
  rintro r τ ⟨rfl, S', k1, k2⟩
  rw [h2 i hi] at k1
  exact ⟨rfl, S', zW.up h0 k1 h2 hi, k2⟩
theorem Z_cmp {i j : Nat} (h : zW X z N σ S U) (hi : i < N) (hj : j < N) : Calls X M_X1_compare [.ref (z i), .ref (z j)] σ (fun res τ => res = some (.int (cmpI (U i) (U j))) ∧ τ = σ) := by
  obtain ⟨h0, V, h1, h2⟩ := h
  have := V_cmp h1 (zD_m hi) (zD_m hj)
  rw [h2 i hi, h2 j hj] at this
  exact this
/-- the numbers at the places of l alone may have changed -/
theorem zW.of {τ : en_S} {S' : Nat → en_B} {V V' : Nat → Int} (hI : zI z N) (h : bw_V X (zD z N) τ S' V') (hU : ∀ j, j < N → V (z j) = U j) (l : List Nat) (hl : ∀ j ∈ l, j < N) (hf : ∀ x, x ∉ l.map z → V' x = V x) : ∃ U', zW X z N τ S' U' ∧ (∀ j, j < N → U' j = V' (z j)) ∧ ∀ j, j ∉ l → U' j = U j := by
  refine ⟨fun j => if j < N then V' (z j) else U j, ⟨hI, V', h, fun j hj => (if_pos hj).symm⟩, fun j hj => if_pos hj, fun j hj => ?_⟩
  by_cases hN : j < N
  · show (if j < N then V' (z j) else U j) = U j
    rw [if_pos hN, hf (z j) (fun m => ?_), hU j hN]
    obtain ⟨i, i1, i2⟩ := List.mem_map.mp m
    exact hj (hI i j (hl i i1) hN i2 ▸ i1)
  · exact if_neg hN
end zw
end
section
/-! EnclosedDigits$Encloser by places: 0 down, 1 up, 2 over, 3 under, 4 rest; its bench: 5 dividend, 6 divisor, 7 part, 8 better, 9 rest -/
def eO (σ : en_S) (z : Nat → Nat) (e bn se : Nat) : Prop := look σ e = some (eE bn se (z 0) (z 1) (z 2) (z 3) (z 4)) ∧ e < σ.1 ∧ look σ bn = some (nE (z 5) (z 6) (z 7) (z 8) (z 9)) ∧ bn < σ.1
theorem eO.st {X : en_X} {σ τ : en_S} {z : Nat → Nat} {D : List Nat} {S T : Nat → en_B} {e bn se : Nat} (h : eO σ z e bn se) (s : bw_St D σ S τ T) (w : bw_R X D σ S) : eO τ z e bn se :=
  ⟨bw_obj s w h.2.1 h.1 (by decide), Nat.lt_of_lt_of_le h.2.1 s.1, bw_obj s w h.2.2.2 h.2.2.1 (by decide), Nat.lt_of_lt_of_le h.2.2.2 s.1⟩
theorem eO.ext {σ τ : en_S} {z : Nat → Nat} {e bn se a ci : Nat} {fs : List Value} (h : eO σ z e bn se) (hf : ∀ q, q ≠ a → look τ q = look σ q) (hl : look σ a = some (.inr (ci, fs))) (h0 : ci ≠ 0) (h2 : ci ≠ 2) (e1 : τ.1 = σ.1) : eO τ z e bn se := by
  obtain ⟨g1, g2, g3, g4⟩ := h
  refine ⟨(hf _ (fun q => ?_)).trans g1, by omega, (hf _ (fun q => ?_)).trans g3, by omega⟩
  · rw [q, hl] at g1; cases g1; exact h2 rfl
  · rw [q, hl] at g3; cases g3; exact h0 rfl
/-- the value at v stands with these numbers -/
abbrev vO (σ : en_S) (z : Nat → Nat) (v l : Nat) (kd : Int32) (a b : Int) (f s at' op fa : Int32) : Prop := look σ v = some (vE kd a b f s at' op (z l) (z (l + 1)) fa (z (l + 2)))
section enc3
variable {X : en_X} {σ : en_S} {z : Nat → Nat} {N : Nat} {S : Nat → en_B} {U : Nat → Int} {e bn se : Nat}
theorem Z_mulBoth {i j p : Nat} (h : zW X z N σ S U) (ho : eO σ z e bn se) (hi : i < N) (hj : j < N) (ci : 10 ≤ i) (cj : 10 ≤ j) (hp : p ≤ 480) (zi : (U i).natAbs < BB ^ 90) (zj : (U j).natAbs < BB ^ 90) :
    Calls X M_X2_multiplyBothWays [.ref e, .ref (z i), .ref (z j), .int (nI p)] σ (fun res τ => res = none ∧ ∃ S' U', zW X z N τ S' U' ∧ U' 0 = shr (U i * U j) p (-1) ∧ U' 1 = shr (U i * U j) p 1 ∧ (∀ k, k ∉ [0, 1] → U' k = U k) ∧ bw_St (zD z N) σ S τ S') := by
  obtain ⟨h0, V, h1, h2⟩ := h
  refine Calls.mono (F_mulBoth h1 ho.1 ho.2.1 (zD_m (by omega)) (zD_m (by omega)) (zD_m hi) (zD_m hj) (h0.ne (by omega) (by omega) (by omega)) (h0.ne (by omega) (by omega) (by omega)) (h0.ne (by omega) (by omega) (by omega)) hp (by rw [h2 i hi]; exact zi) (by rw [h2 j hj]; exact zj)) ?_
  rintro r τ ⟨rfl, S', V', k1, k2, k3, k4, k5⟩
  rw [h2 i hi, h2 j hj] at k2 k3
  obtain ⟨U', u1, u2, u3⟩ := zW.of h0 k1 h2 [0, 1] (fun j hj => by simp at hj; omega) (fun x hx => by simp only [List.map_cons, List.map_nil, List.mem_cons, List.not_mem_nil, or_false, not_or] at hx; exact k4 x hx.1 hx.2)
  exact ⟨rfl, S', U', u1, (u2 0 (by omega)).trans k2, (u2 1 (by omega)).trans k3, u3, k5⟩
theorem Z_divBoth {i j : Nat} (h : zW X z N σ S U) (ho : eO σ z e bn se) (hN : 10 ≤ N) (hi : i < N) (hj : j < N) (ci : i ∉ [0, 1, 4, 5, 6]) (cj : j ∉ [0, 1, 4, 5, 6]) (hz : U j ≠ 0) (zi : (U i).natAbs < BB ^ 240) (zj : (U j).natAbs < BB ^ 240) :
    Calls X M_X2_divideBothWays [.ref e, .ref (z i), .ref (z j)] σ (fun res τ => res = none ∧ ∃ S' U', zW X z N τ S' U' ∧ U' 0 = qdn (U i) (U j) ∧ U' 1 = qup (U i) (U j) ∧ (∀ k, k ∉ [0, 1, 4, 5, 6] → U' k = U k) ∧ bw_St (zD z N) σ S τ S') := by
  obtain ⟨h0, V, h1, h2⟩ := h
  simp only [List.mem_cons, List.not_mem_nil, or_false, not_or] at ci cj
  refine Calls.mono (F_divBoth h1 ho.1 ho.2.1 ho.2.2.1 ho.2.2.2 (zD_m (by omega)) (zD_m (by omega)) (zD_m (by omega)) (zD_m (by omega)) (zD_m (by omega)) (zD_m hi) (zD_m hj) ?_ (h0.ne (by omega) (by omega) (by omega)) (h0.ne (by omega) (by omega) (by omega)) (h0.ne (by omega) (by omega) (by omega)) (h0.ne (by omega) (by omega) (by omega)) (h0.ne (by omega) (by omega) (by omega)) (h0.ne (by omega) (by omega) (by omega)) (h0.ne (by omega) (by omega) (by omega)) (h0.ne (by omega) (by omega) (by omega)) (h0.ne (by omega) (by omega) (by omega)) (h0.ne (by omega) (by omega) (by omega)) (by rw [h2 j hj]; exact hz) (by rw [h2 i hi]; exact zi) (by rw [h2 j hj]; exact zj)) ?_
  · simp only [List.nodup_cons, List.mem_cons, not_or, List.not_mem_nil, not_false_eq_true, List.nodup_nil, and_true]
    refine ⟨⟨?_, ?_, ?_, ?_⟩, ⟨?_, ?_, ?_⟩, ⟨?_, ?_⟩, ?_⟩ <;> exact h0.ne (by omega) (by omega) (by omega)
  rintro r τ ⟨rfl, S', V', k1, k2, k3, k4, k5⟩
  rw [h2 i hi, h2 j hj] at k2 k3
  obtain ⟨U', u1, u2, u3⟩ := zW.of h0 k1 h2 [0, 1, 4, 5, 6] (fun j hj => by simp at hj; omega) (fun x hx => by simp only [List.map_cons, List.map_nil, List.mem_cons, List.not_mem_nil, or_false, not_or] at hx; exact k4 x hx.1 hx.2.1 hx.2.2.1 hx.2.2.2.1 hx.2.2.2.2)
  exact ⟨rfl, S', U', u1, (u2 0 (by omega)).trans k2, (u2 1 (by omega)).trans k3, u3, k5⟩
/-- what a fill leaves: both ends, the numbers from 10 on otherwise as they were -/
abbrev Fil (X : en_X) (z : Nat → Nat) (N : Nat) (σ : en_S) (S : Nat → en_B) (U : Nat → Int) (l : Nat) (L H : Int) (τ : en_S) : Prop := ∃ S' U', zW X z N τ S' U' ∧ U' l = L ∧ U' (l + 1) = H ∧ (∀ k, 10 ≤ k → k ≠ l → k ≠ l + 1 → U' k = U k) ∧ bw_St (zD z N) σ S τ S'
theorem lp_lt {a : Int} {p : Nat} (ha1 : -9223372036854775808 ≤ a) (ha2 : a < 9223372036854775808) (hp : p ≤ 480) : a.natAbs * 10 ^ p < BB ^ 58 := by
  have q1 : a.natAbs * 10 ^ p ≤ BB ^ 3 * BB ^ 54 := Nat.mul_le_mul (by have : BB ^ 3 = 1000000000000000000000000000 := rfl; omega) (p10_lt hp)
  rw [← Nat.pow_add] at q1
  exact Nat.lt_of_le_of_lt q1 ((Nat.pow_lt_pow_iff_right (by decide)).mpr (by decide))
theorem lp_le {a n m : Nat} (h : a < BB ^ n) (hm : n ≤ m) : a < BB ^ m := Nat.lt_of_lt_of_le h (pw_mono hm)
theorem l_lt {a : Int} (ha1 : -9223372036854775808 ≤ a) (ha2 : a < 9223372036854775808) : a.natAbs < BB ^ 3 := by
  have : BB ^ 3 = 1000000000000000000000000000 := rfl
  omega
theorem G_whole {v l p : Nat} {kd f s at' op fa : Int32} {a b : Int} (h : zW X z N σ S U) (hv : vO σ z v l kd a b f s at' op fa) (hvl : v < σ.1) (hl : l + 3 ≤ N) (ha1 : -9223372036854775808 ≤ a) (ha2 : a < 9223372036854775808) (hp : p ≤ 480) :
    Calls X M_X2_fillWhole [.ref v, .int (nI p)] σ (fun res τ => res = none ∧ Fil X z N σ S U l (a * 10 ^ p) (a * 10 ^ p) τ) := by
  obtain ⟨h0, V, h1, h2⟩ := h
  refine Calls.mono (F_whole h1 hv hvl (zD_m (by omega)) (zD_m (by omega)) (h0.ne (by omega) (by omega) (by omega)) ha1 ha2 hp) ?_
  rintro r τ ⟨rfl, S', V', k1, k2, k3, k4, k5⟩
  obtain ⟨U', u1, u2, u3⟩ := zW.of h0 k1 h2 [l, l + 1] (fun j hj => by simp at hj; omega) (fun x hx => by simp only [List.map_cons, List.map_nil, List.mem_cons, List.not_mem_nil, or_false, not_or] at hx; exact k4 x hx.1 hx.2)
  exact ⟨rfl, S', U', u1, (u2 _ (by omega)).trans k2, (u2 _ (by omega)).trans k3, fun k _ q1 q2 => u3 k (by simp; omega), k5⟩
theorem G_sum {v l v1 l1 v2 l2 : Nat} {kd f s at' op fa kd1 f1 s1 at1 op1 fa1 kd2 f2 s2 at2 op2 fa2 : Int32} {a b a1 b1 a2 b2 : Int} (h : zW X z N σ S U) (hv : vO σ z v l kd a b f s at' op fa) (hvl : v < σ.1) (hv1 : vO σ z v1 l1 kd1 a1 b1 f1 s1 at1 op1 fa1) (hvl1 : v1 < σ.1) (hv2 : vO σ z v2 l2 kd2 a2 b2 f2 s2 at2 op2 fa2) (hvl2 : v2 < σ.1) (hl : l + 3 ≤ N) (hl1 : l1 + 3 ≤ l) (hl2 : l2 + 3 ≤ l)
    (z1 : (U l1).natAbs < BB ^ 90) (z2 : (U (l1 + 1)).natAbs < BB ^ 90) (z3 : (U l2).natAbs < BB ^ 90) (z4 : (U (l2 + 1)).natAbs < BB ^ 90) :
    Calls X M_X2_fillSum [.ref v, .ref v1, .ref v2] σ (fun res τ => res = none ∧ Fil X z N σ S U l (U l1 + U l2) (U (l1 + 1) + U (l2 + 1)) τ) := by
  obtain ⟨h0, V, h1, h2⟩ := h
  refine Calls.mono (F_sum h1 hv hvl hv1 hvl1 hv2 hvl2 (zD_m (by omega)) (zD_m (by omega)) (zD_m (by omega)) (zD_m (by omega)) (zD_m (by omega)) (zD_m (by omega)) (h0.ne (by omega) (by omega) (by omega)) (h0.ne (by omega) (by omega) (by omega)) (h0.ne (by omega) (by omega) (by omega)) (h0.ne (by omega) (by omega) (by omega)) (h0.ne (by omega) (by omega) (by omega)) (h0.ne (by omega) (by omega) (by omega)) (h0.ne (by omega) (by omega) (by omega)) (by rw [h2 _ (by omega)]; exact z1) (by rw [h2 _ (by omega)]; exact z2) (by rw [h2 _ (by omega)]; exact z3) (by rw [h2 _ (by omega)]; exact z4)) ?_
  rintro r τ ⟨rfl, S', V', k1, k2, k3, k4, k5⟩
  rw [h2 l1 (by omega), h2 l2 (by omega)] at k2
  rw [h2 (l1 + 1) (by omega), h2 (l2 + 1) (by omega)] at k3
  obtain ⟨U', u1, u2, u3⟩ := zW.of h0 k1 h2 [l, l + 1] (fun j hj => by simp at hj; omega) (fun x hx => by simp only [List.map_cons, List.map_nil, List.mem_cons, List.not_mem_nil, or_false, not_or] at hx; exact k4 x hx.1 hx.2)
  exact ⟨rfl, S', U', u1, (u2 _ (by omega)).trans k2, (u2 _ (by omega)).trans k3, fun k _ q1 q2 => u3 k (by simp; omega), k5⟩
theorem G_diff {v l v1 l1 v2 l2 : Nat} {kd f s at' op fa kd1 f1 s1 at1 op1 fa1 kd2 f2 s2 at2 op2 fa2 : Int32} {a b a1 b1 a2 b2 : Int} (h : zW X z N σ S U) (hv : vO σ z v l kd a b f s at' op fa) (hvl : v < σ.1) (hv1 : vO σ z v1 l1 kd1 a1 b1 f1 s1 at1 op1 fa1) (hvl1 : v1 < σ.1) (hv2 : vO σ z v2 l2 kd2 a2 b2 f2 s2 at2 op2 fa2) (hvl2 : v2 < σ.1) (hl : l + 3 ≤ N) (hl1 : l1 + 3 ≤ l) (hl2 : l2 + 3 ≤ l)
    (z1 : (U l1).natAbs < BB ^ 90) (z2 : (U (l1 + 1)).natAbs < BB ^ 90) (z3 : (U l2).natAbs < BB ^ 90) (z4 : (U (l2 + 1)).natAbs < BB ^ 90) :
    Calls X M_X2_fillDifference [.ref v, .ref v1, .ref v2] σ (fun res τ => res = none ∧ Fil X z N σ S U l (U l1 - U (l2 + 1)) (U (l1 + 1) - U l2) τ) := by
  obtain ⟨h0, V, h1, h2⟩ := h
  refine Calls.mono (F_diff h1 hv hvl hv1 hvl1 hv2 hvl2 (zD_m (by omega)) (zD_m (by omega)) (zD_m (by omega)) (zD_m (by omega)) (zD_m (by omega)) (zD_m (by omega)) (h0.ne (by omega) (by omega) (by omega)) (h0.ne (by omega) (by omega) (by omega)) (h0.ne (by omega) (by omega) (by omega)) (h0.ne (by omega) (by omega) (by omega)) (h0.ne (by omega) (by omega) (by omega)) (h0.ne (by omega) (by omega) (by omega)) (h0.ne (by omega) (by omega) (by omega)) (by rw [h2 _ (by omega)]; exact z1) (by rw [h2 _ (by omega)]; exact z2) (by rw [h2 _ (by omega)]; exact z3) (by rw [h2 _ (by omega)]; exact z4)) ?_
  rintro r τ ⟨rfl, S', V', k1, k2, k3, k4, k5⟩
  rw [h2 l1 (by omega), h2 (l2 + 1) (by omega)] at k2
  rw [h2 (l1 + 1) (by omega), h2 l2 (by omega)] at k3
  obtain ⟨U', u1, u2, u3⟩ := zW.of h0 k1 h2 [l, l + 1] (fun j hj => by simp at hj; omega) (fun x hx => by simp only [List.map_cons, List.map_nil, List.mem_cons, List.not_mem_nil, or_false, not_or] at hx; exact k4 x hx.1 hx.2)
  exact ⟨rfl, S', U', u1, (u2 _ (by omega)).trans k2, (u2 _ (by omega)).trans k3, fun k _ q1 q2 => u3 k (by simp; omega), k5⟩
theorem qdn_le (a b : Int) : (qdn a b).natAbs ≤ a.natAbs / b.natAbs + 1 ∧ (qup a b).natAbs ≤ a.natAbs / b.natAbs + 1 := by
  unfold qdn qup
  generalize a.natAbs / b.natAbs = q
  constructor
  · split
    · split <;> omega
    · omega
  · split
    · omega
    · split <;> omega
theorem pw_s {a n m : Nat} (h : a < BB ^ n) (hm : n < m) : a + 1 < BB ^ m := by
  have q1 : BB ^ n < BB ^ m := (Nat.pow_lt_pow_iff_right (by decide)).mpr hm
  omega
theorem G_ratio {v l p : Nat} {kd f s at' op fa : Int32} {a b : Int} (h : zW X z N σ S U) (ho : eO σ z e bn se) (hv : vO σ z v l kd a b f s at' op fa) (hvl : v < σ.1) (h10 : 10 ≤ l) (hl : l + 3 ≤ N) (ha1 : -9223372036854775808 ≤ a) (ha2 : a < 9223372036854775808) (hb0 : b ≠ 0) (hb1 : -9223372036854775808 ≤ b) (hb2 : b < 9223372036854775808) (hp : p ≤ 480) :
    Calls X M_X2_fillRatio [.ref e, .ref v, .int (nI p)] σ (fun res τ => res = none ∧ Fil X z N σ S U l (qdn (a * 10 ^ p) b) (qup (a * 10 ^ p) b) τ) := by
  obtain ⟨ho1, ho2, ho3, ho4⟩ := ho
  have i1 := h.big (i := 2) (by omega)
  have hab : (a * 10 ^ p).natAbs < BB ^ 58 := by rw [Int.natAbs_mul, Int.natAbs_pow]; exact lp_lt ha1 ha2 hp
  refine Calls.of rfl (lk rfl) ?_
  refine wa_aload_n q_X2_fillRatio_0 rfl ?_
  refine wa_getf q_X2_fillRatio_1 f_RX2_35 (by assumption) rfl ?_
  refine wa_aload_n q_X2_fillRatio_4 rfl ?_
  refine wa_getf q_X2_fillRatio_5 f_RX2_127 (by assumption) rfl ?_
  refine wa_callV q_X2_fillRatio_8 g_X2_fillRatio_8 w_X1_setLong (by assumption) rfl (av := [_]) rfl rfl (lk rfl) (Calls.mono (Z_setL h (i := 2) (by omega) ha1 ha2) ?_)
  rintro _ σ1 ⟨rfl, S1, w1, t1⟩
  obtain ⟨ho1, ho2, ho3, ho4⟩ := eO.st ⟨ho1, ho2, ho3, ho4⟩ t1 h.R
  have hv1 := bw_obj t1 h.R hvl hv (by decide)
  have hvl1 := Nat.lt_of_lt_of_le hvl t1.1
  have i2 := w1.big (i := 2) (by omega)
  refine wa_aload_n q_X2_fillRatio_11 rfl ?_
  refine wa_getf q_X2_fillRatio_12 f_RX2_35 (by assumption) rfl ?_
  refine wa_iload_n q_X2_fillRatio_15 rfl ?_
  refine wa_callV q_X2_fillRatio_16 g_X2_fillRatio_16 w_X1_shiftUp (by assumption) rfl (av := [_]) rfl rfl (lk rfl) (Calls.mono (Z_shiftUp w1 (i := 2) (by omega) (by omega) (by rw [uV_s]; exact lp_le (lp_lt ha1 ha2 hp) (by decide))) ?_)
  rintro _ σ2 ⟨rfl, S2, w2, t2⟩
  rw [uV_s] at w2
  obtain ⟨ho1, ho2, ho3, ho4⟩ := eO.st ⟨ho1, ho2, ho3, ho4⟩ t2 w1.R
  have hv2 := bw_obj t2 w1.R hvl1 hv1 (by decide)
  have hvl2 := Nat.lt_of_lt_of_le hvl1 t2.1
  have i3 := w2.big (i := 3) (by omega)
  refine wa_aload_n q_X2_fillRatio_19 rfl ?_
  refine wa_getf q_X2_fillRatio_20 f_RX2_38 (by assumption) rfl ?_
  refine wa_aload_n q_X2_fillRatio_23 rfl ?_
  refine wa_getf q_X2_fillRatio_24 f_RX2_143 (by assumption) rfl ?_
  refine wa_callV q_X2_fillRatio_27 g_X2_fillRatio_27 w_X1_setLong (by assumption) rfl (av := [_]) rfl rfl (lk rfl) (Calls.mono (Z_setL w2 (i := 3) (by omega) hb1 hb2) ?_)
  rintro _ σ3 ⟨rfl, S3, w3, t3⟩
  obtain ⟨ho1, ho2, ho3, ho4⟩ := eO.st ⟨ho1, ho2, ho3, ho4⟩ t3 w2.R
  have hv3 := bw_obj t3 w2.R hvl2 hv2 (by decide)
  have hvl3 := Nat.lt_of_lt_of_le hvl2 t3.1
  obtain ⟨U3, hU3⟩ : ∃ U3, U3 = uV (uV (uV U 2 a) 2 (a * 10 ^ p)) 3 b := ⟨_, rfl⟩
  rw [← hU3] at w3
  have y1 : U3 2 = a * 10 ^ p := by rw [hU3, uV_n (by decide), uV_s]
  have y2 : U3 3 = b := by rw [hU3, uV_s]
  have y3 : ∀ k, 10 ≤ k → U3 k = U k := fun k hk => by rw [hU3, uV_n (by omega), uV_n (by omega), uV_n (by omega)]
  clear hU3
  refine wa_aload_n q_X2_fillRatio_30 rfl ?_
  refine wa_aload_n q_X2_fillRatio_31 rfl ?_
  refine wa_getf q_X2_fillRatio_32 f_RX2_35 (by assumption) rfl ?_
  refine wa_aload_n q_X2_fillRatio_35 rfl ?_
  refine wa_getf q_X2_fillRatio_36 f_RX2_38 (by assumption) rfl ?_
  refine wa_callV q_X2_fillRatio_39 g_X2_fillRatio_39 w_X2_divideBothWays (by assumption) rfl (av := [_, _]) rfl rfl (lk rfl) (Calls.mono (Z_divBoth w3 ⟨ho1, ho2, ho3, ho4⟩ (i := 2) (j := 3) (by omega) (by omega) (by omega) (by decide) (by decide) (by rw [y2]; exact hb0) (by rw [y1]; exact lp_le hab (by decide)) (by rw [y2]; exact lp_le (l_lt hb1 hb2) (by decide))) ?_)
  rintro _ σ4 ⟨rfl, S4, U4, w4, x1, x2, x3, t4⟩
  rw [y1, y2] at x1 x2
  obtain ⟨ho1, ho2, ho3, ho4⟩ := eO.st ⟨ho1, ho2, ho3, ho4⟩ t4 w3.R
  have hv4 := bw_obj t4 w3.R hvl3 hv3 (by decide)
  have hvl4 := Nat.lt_of_lt_of_le hvl3 t4.1
  have i5 := w4.big (i := l) (by omega)
  have hdl : (a * 10 ^ p).natAbs / b.natAbs + 1 < BB ^ 250 := Nat.lt_of_le_of_lt (Nat.succ_le_succ (Nat.div_le_self _ _)) (pw_s hab (by decide))
  have hq := qdn_le (a * 10 ^ p) b
  refine wa_aload_n q_X2_fillRatio_42 rfl ?_
  refine wa_getf q_X2_fillRatio_43 f_RX2_107 (by assumption) rfl ?_
  refine wa_aload_n q_X2_fillRatio_46 rfl ?_
  refine wa_getf q_X2_fillRatio_47 f_RX2_28 (by assumption) rfl ?_
  refine wa_callV q_X2_fillRatio_50 g_X2_fillRatio_50 w_X1_copy (by assumption) rfl (av := [_]) rfl rfl (lk rfl) (Calls.mono (Z_copy w4 (i := l) (j := 0) (by omega) (by omega) (by omega) (by rw [x1]; exact Nat.lt_of_le_of_lt hq.1 hdl)) ?_)
  rintro _ σ5 ⟨rfl, S5, w5, t5⟩
  obtain ⟨ho1, ho2, ho3, ho4⟩ := eO.st ⟨ho1, ho2, ho3, ho4⟩ t5 w4.R
  have hv5 := bw_obj t5 w4.R hvl4 hv4 (by decide)
  have i6 := w5.big (i := l + 1) (by omega)
  refine wa_aload_n q_X2_fillRatio_53 rfl ?_
  refine wa_getf q_X2_fillRatio_54 f_RX2_114 (by assumption) rfl ?_
  refine wa_aload_n q_X2_fillRatio_57 rfl ?_
  refine wa_getf q_X2_fillRatio_58 f_RX2_32 (by assumption) rfl ?_
  refine wa_callV q_X2_fillRatio_61 g_X2_fillRatio_61 w_X1_copy (by assumption) rfl (av := [_]) rfl rfl (lk rfl) (Calls.mono (Z_copy w5 (i := l + 1) (j := 1) (by omega) (by omega) (by omega) (by rw [uV_n (by omega), x2]; exact Nat.lt_of_le_of_lt hq.2 hdl)) ?_)
  rintro _ σ6 ⟨rfl, S6, w6, t6⟩
  refine wa_vret q_X2_fillRatio_64 rfl ?_
  refine ⟨rfl, S6, _, w6, ?_, ?_, fun k k1 k2 k3 => ?_, t1.tr (t2.tr (t3.tr (t4.tr (t5.tr t6))))⟩
  · rw [uV_n (by omega), uV_s, x1]
  · rw [uV_s, uV_n (by omega), x2]
  · rw [uV_n k3, uV_n k2, x3 k (by simp; omega), y3 k k1]
theorem fl_abs (v : Int) {m : Nat} (hm : 0 < m) : (v / (m : Int)).natAbs ≤ v.natAbs := by
  rcases Int.lt_or_le v 0 with h | h
  · have h1 : v ≤ v / (m : Int) := by
      refine Int.le_ediv_of_mul_le (by omega) ?_
      have := Int.mul_le_mul_of_nonpos_left (a := v) (b := (m : Int)) (c := 1) (by omega) (by omega)
      omega
    have h2 : v / (m : Int) < 0 := Int.ediv_neg_of_neg_of_pos h (by omega)
    omega
  · have h1 := Int.ediv_le_self (m : Int) h
    have h2 : 0 ≤ v / (m : Int) := Int.ediv_nonneg h (by omega)
    omega
theorem shr_dn (v : Int) (p : Nat) : shr v p (-1) = v / ((10 ^ p : Nat) : Int) := if_pos rfl
/-- the end cut from a finer one: the floor at p places, and one more -/
theorem G_fine {v l p q : Nat} {kd f s at' op : Int32} {a b : Int} (h : zW X z N σ S U) (hv : vO σ z v l kd a b f s at' op (nI q)) (hvl : v < σ.1) (h10 : 10 ≤ l) (hl : l + 3 ≤ N) (hp : p ≤ q) (hq : q ≤ 480) (hz : (U (l + 2)).natAbs < BB ^ 200) :
    Calls X M_X2_fillFromFine [.ref v, .int (nI p)] σ (fun res τ => res = none ∧ Fil X z N σ S U l (shr (U (l + 2)) (q - p) (-1)) (grw (shr (U (l + 2)) (q - p) (-1)) 1) τ) := by
  have i1 := h.big (i := l) (by omega)
  have hs2 : (shr (U (l + 2)) (q - p) (-1)).natAbs < BB ^ 200 := by
    rw [shr_dn]; exact Nat.lt_of_le_of_lt (fl_abs _ (Nat.pow_pos (by decide))) hz
  refine Calls.of rfl (lk rfl) ?_
  refine wa_aload_n q_X2_fillFromFine_0 rfl ?_
  refine wa_getf q_X2_fillFromFine_1 f_RX2_107 (by assumption) rfl ?_
  refine wa_aload_n q_X2_fillFromFine_4 rfl ?_
  refine wa_getf q_X2_fillFromFine_5 f_RX2_150 (by assumption) rfl ?_
  refine wa_callV q_X2_fillFromFine_8 g_X2_fillFromFine_8 w_X1_copy (by assumption) rfl (av := [_]) rfl rfl (lk rfl) (Calls.mono (Z_copy h (i := l) (j := l + 2) (by omega) (by omega) (by omega) (lp_le hz (by decide))) ?_)
  rintro _ σ1 ⟨rfl, S1, w1, t1⟩
  have hv1 := bw_obj t1 h.R hvl hv (by decide)
  have hvl1 := Nat.lt_of_lt_of_le hvl t1.1
  have i2 := w1.big (i := l) (by omega)
  refine wa_aload_n q_X2_fillFromFine_11 rfl ?_
  refine wa_getf q_X2_fillFromFine_12 f_RX2_107 (by assumption) rfl ?_
  refine wa_aload_n q_X2_fillFromFine_15 rfl ?_
  refine wa_getf q_X2_fillFromFine_16 f_RX2_153 (by assumption) rfl ?_
  refine wa_iload_n q_X2_fillFromFine_19 rfl ?_
  refine wn_isub q_X2_fillFromFine_20 (by omega) ?_
  refine wa_iconst q_X2_fillFromFine_21 (v := sgI (-1)) (by decide) ?_
  refine wa_callV q_X2_fillFromFine_22 g_X2_fillFromFine_22 w_X1_shrink (by assumption) rfl (av := [_, _]) rfl rfl (lk rfl) (Calls.mono (Z_shrink w1 (i := l) (by omega) (by omega) (Or.inr rfl) (by rw [uV_s]; exact lp_le hz (by decide))) ?_)
  rintro _ σ2 ⟨rfl, S2, w2, t2⟩
  rw [uV_s] at w2
  have hv2 := bw_obj t2 w1.R hvl1 hv1 (by decide)
  have hvl2 := Nat.lt_of_lt_of_le hvl1 t2.1
  have i3 := w2.big (i := l + 1) (by omega)
  refine wa_aload_n q_X2_fillFromFine_25 rfl ?_
  refine wa_getf q_X2_fillFromFine_26 f_RX2_114 (by assumption) rfl ?_
  refine wa_aload_n q_X2_fillFromFine_29 rfl ?_
  refine wa_getf q_X2_fillFromFine_30 f_RX2_107 (by assumption) rfl ?_
  refine wa_callV q_X2_fillFromFine_33 g_X2_fillFromFine_33 w_X1_copy (by assumption) rfl (av := [_]) rfl rfl (lk rfl) (Calls.mono (Z_copy w2 (i := l + 1) (j := l) (by omega) (by omega) (by omega) (by rw [uV_s]; exact lp_le hs2 (by decide))) ?_)
  rintro _ σ3 ⟨rfl, S3, w3, t3⟩
  rw [uV_s] at w3
  have hv3 := bw_obj t3 w2.R hvl2 hv2 (by decide)
  have i4 := w3.big (i := l + 1) (by omega)
  refine wa_aload_n q_X2_fillFromFine_36 rfl ?_
  refine wa_getf q_X2_fillFromFine_37 f_RX2_114 (by assumption) rfl ?_
  refine wa_iconst q_X2_fillFromFine_40 (v := sgI 1) (by decide) ?_
  refine wa_callV q_X2_fillFromFine_41 g_X2_fillFromFine_41 w_X1_grow (by assumption) rfl (av := [_]) rfl rfl (lk rfl) (Calls.mono (Z_grow w3 (i := l + 1) (by omega) (Or.inl rfl) (by rw [uV_s]; exact lp_le hs2 (by decide))) ?_)
  rintro _ σ4 ⟨rfl, S4, w4, t4⟩
  rw [uV_s] at w4
  refine wa_vret q_X2_fillFromFine_44 rfl ?_
  refine ⟨rfl, S4, _, w4, ?_, ?_, fun k k1 k2 k3 => ?_, t1.tr (t2.tr (t3.tr t4))⟩
  · rw [uV_n (by omega), uV_n (by omega), uV_s]
  · rw [uV_s]
  · rw [uV_n k3, uV_n k3, uV_n k2, uV_n k2]
end enc3
end
section
/-! EnclosedDigits$Encloser: fillRoot -/
section enc4
variable {X : en_X} {σ : en_S} {z : Nat → Nat} {N : Nat} {S : Nat → en_B} {U : Nat → Int} {e bn se : Nat}
theorem Z_root {i j : Nat} (h : zW X z N σ S U) (hb : look σ bn = some (nE (z 5) (z 6) (z 7) (z 8) (z 9))) (hbl : bn < σ.1) (hN : 10 ≤ N) (hi : i < N) (hj : j < N) (ci : i < 5 ∨ 10 ≤ i) (cj : j < 5 ∨ 10 ≤ j) (hij : i ≠ j) (hz : (U i).natAbs < BB ^ 150) :
    Calls X M_X0_squareRoot [.ref bn, .ref (z i), .ref (z j)] σ (fun res τ => ∃ r, isq (U i).toNat r ∧ res = some (.int (nI (if r * r < (U i).toNat then 1 else 0))) ∧ ∃ S' U', zW X z N τ S' U' ∧ U' j = (r : Int) ∧ (∀ k, k < 5 ∨ 10 ≤ k → k ≠ j → U' k = U k) ∧ bw_St (zD z N) σ S τ S') := by
  rcases Int.lt_or_le (U i) 0 with hn | hn
  · have i1 := h.big hj
    refine Calls.of rfl (lk rfl) ?_
    refine wa_aload_n q_X0_squareRoot_0 rfl ?_
    refine wa_callV q_X0_squareRoot_1 g_X0_squareRoot_1 w_X1_clear (by assumption) rfl (av := []) rfl rfl (lk rfl) (Calls.mono (Z_clear h hj) ?_)
    rintro _ σ1 ⟨rfl, S1, w1, t1⟩
    have i2 := w1.big hi
    rw [uV_n hij] at i2
    refine wa_aload_n q_X0_squareRoot_4 rfl ?_
    refine wa_getf q_X0_squareRoot_5 f_RX0_34 (by assumption) rfl ?_
    refine wa_if_gt q_X0_squareRoot_8 (fun hc => ?_) (fun hc => ?_)
    · rcases sgI_c (U i) with ⟨q, g⟩ | ⟨q, g⟩ | ⟨q, g⟩
      · rw [g] at hc; exact absurd hc (by decide)
      · omega
      · omega
    · refine wa_iconst q_X0_squareRoot_11 (v := nI 0) (by decide) ?_
      refine wa_zret q_X0_squareRoot_12 rfl rfl ?_
      have e0 : (U i).toNat = 0 := by omega
      refine ⟨0, by rw [e0]; exact ⟨Nat.le_refl _, by decide⟩, by rw [e0]; rfl, S1, _, w1, by rw [uV_s]; rfl, fun k _ kj => uV_n kj, t1⟩
  · obtain ⟨h0, V, h1, h2⟩ := h
    refine Calls.mono (V_root (N := (U i).toNat) h1 hb hbl (zD_m (by omega)) (zD_m (by omega)) (zD_m (by omega)) (zD_m (by omega)) (zD_m (by omega)) (zD_m hi) (zD_m hj) ?_ (by omega) (by rw [h2 i hi]; omega)) ?_
    · simp only [List.nodup_cons, List.mem_cons, not_or, List.not_mem_nil, not_false_eq_true, List.nodup_nil, and_true]
      refine ⟨⟨?_, ?_, ?_, ?_, ?_, ?_⟩, ⟨?_, ?_, ?_, ?_, ?_⟩, ⟨?_, ?_, ?_, ?_⟩, ⟨?_, ?_, ?_⟩, ⟨?_, ?_⟩, ?_⟩ <;> exact h0.ne (by omega) (by omega) (by omega)
    rintro res τ ⟨r, r1, r2, S', V', k1, k2, k3, k4⟩
    obtain ⟨U', u1, u2, u3⟩ := zW.of h0 k1 h2 [5, 6, 7, 8, 9, j] (fun k hk => by simp at hk; omega) (fun x hx => by simp only [List.map_cons, List.map_nil, List.mem_cons, List.not_mem_nil, or_false, not_or] at hx; exact k3 x hx.1 hx.2.1 hx.2.2.1 hx.2.2.2.1 hx.2.2.2.2.1 hx.2.2.2.2.2)
    exact ⟨r, r1, r2, S', U', u1, (u2 j hj).trans k2, fun k q1 q2 => u3 k (by simp; omega), k4⟩
theorem isq_lt {n r k : Nat} (h : isq n r) (hn : n < BB ^ k) : r < BB ^ k := by
  have : r ≤ r * r := by
    rcases Nat.eq_zero_or_pos r with q | q
    · omega
    · exact Nat.le_mul_of_pos_left r q
  have := h.1
  omega
/-- both ends of a root -/
def isRt (l h : Int) (p : Nat) (L H : Int) : Prop := ∃ r s, isq (l * 10 ^ p).toNat r ∧ isq (h * 10 ^ p).toNat s ∧ L = (r : Int) ∧ H = (if s * s < (h * 10 ^ p).toNat then ((s + 1 : Nat) : Int) else (s : Int))
theorem op_lt {a : Int} {p : Nat} (ha : a.natAbs < BB ^ 90) (hp : p ≤ 480) : (a * 10 ^ p).natAbs < BB ^ 150 := by
  rw [Int.natAbs_mul, Int.natAbs_pow]
  have q1 : a.natAbs * (10 : Int).natAbs ^ p ≤ BB ^ 90 * BB ^ 54 := Nat.mul_le_mul (Nat.le_of_lt ha) (p10_lt hp)
  rw [← Nat.pow_add] at q1
  exact Nat.lt_of_le_of_lt q1 ((Nat.pow_lt_pow_iff_right (by decide)).mpr (by decide))
set_option maxHeartbeats 1000000 in
theorem G_root {v l v1 l1 p : Nat} {kd f s at' fa kd1 f1 s1 at1 op1 fa1 : Int32} {a b a1 b1 : Int} (h : zW X z N σ S U) (ho : eO σ z e bn se) (hv : vO σ z v l kd a b f s at' 0 fa) (hvl : v < σ.1) (hv1 : vO σ z v1 l1 kd1 a1 b1 f1 s1 at1 op1 fa1) (hvl1 : v1 < σ.1) (h10 : 10 ≤ l1) (hl : l + 3 ≤ N) (hl1 : l1 + 3 ≤ l) (hp : p ≤ 480)
    (z1 : (U l1).natAbs < BB ^ 90) (z2 : (U (l1 + 1)).natAbs < BB ^ 90) :
    Calls X M_X2_fillRoot [.ref e, .ref v, .ref v1, .int (nI p)] σ (fun res τ => res = none ∧ ((U (l1 + 1) < 0 ∧ vO τ z v l kd a b f s at' 1 fa ∧ (∀ q, q ≠ v → look τ q = look σ q) ∧ τ.1 = σ.1 ∧ τ.2.1 = σ.2.1) ∨ (0 ≤ U (l1 + 1) ∧ ∃ L H, isRt (U l1) (U (l1 + 1)) p L H ∧ Fil X z N σ S U l L H τ))) := by
  obtain ⟨ho1, ho2, ho3, ho4⟩ := ho
  have hsm : ∀ {x : Int}, x.natAbs < BB ^ 90 → x.natAbs * 10 ^ p < BB ^ 250 := fun {x} hx => by
    have := op_lt hx hp
    rw [Int.natAbs_mul, Int.natAbs_pow] at this
    exact lp_le this (by decide)
  have i0 := h.big (i := l1 + 1) (by omega)
  refine Calls.of rfl (lk rfl) ?_
  refine wa_aload_n q_X2_fillRoot_0 rfl ?_
  refine wa_getf q_X2_fillRoot_1 f_RX2_114 (by assumption) rfl ?_
  refine wa_getf q_X2_fillRoot_4 f_RX2_169 (by assumption) rfl ?_
  refine wa_if_ge q_X2_fillRoot_7 (fun hc => ?_) (fun hc => ?_)
  · have hnn : 0 ≤ U (l1 + 1) := by
      rcases sgI_c (U (l1 + 1)) with ⟨q, g⟩ | ⟨q, g⟩ | ⟨q, g⟩
      · rw [g] at hc; exact absurd hc (by decide)
      · omega
      · omega
    have i1 := h.big (i := 2) (by omega)
    refine wa_aload_n q_X2_fillRoot_16 rfl ?_
    refine wa_getf q_X2_fillRoot_17 f_RX2_35 (by assumption) rfl ?_
    refine wa_aload_n q_X2_fillRoot_20 rfl ?_
    refine wa_getf q_X2_fillRoot_21 f_RX2_107 (by assumption) rfl ?_
    refine wa_callV q_X2_fillRoot_24 g_X2_fillRoot_24 w_X1_copy (by assumption) rfl (av := [_]) rfl rfl (lk rfl) (Calls.mono (Z_copy h (i := 2) (j := l1) (by omega) (by omega) (by omega) (lp_le z1 (by decide))) ?_)
    rintro _ σ1 ⟨rfl, S1, w1, t1⟩
    obtain ⟨ho1, ho2, ho3, ho4⟩ := eO.st ⟨ho1, ho2, ho3, ho4⟩ t1 h.R
    have hv := bw_obj t1 h.R hvl hv (by decide)
    have hvl := Nat.lt_of_lt_of_le hvl t1.1
    have hv1 := bw_obj t1 h.R hvl1 hv1 (by decide)
    have hvl1 := Nat.lt_of_lt_of_le hvl1 t1.1
    have i2 := w1.big (i := 2) (by omega)
    refine wa_aload_n q_X2_fillRoot_27 rfl ?_
    refine wa_getf q_X2_fillRoot_28 f_RX2_35 (by assumption) rfl ?_
    refine wa_iload_n q_X2_fillRoot_31 rfl ?_
    refine wa_callV q_X2_fillRoot_32 g_X2_fillRoot_32 w_X1_shiftUp (by assumption) rfl (av := [_]) rfl rfl (lk rfl) (Calls.mono (Z_shiftUp w1 (i := 2) (by omega) (by omega) (by rw [uV_s]; exact hsm z1)) ?_)
    rintro _ σ2 ⟨rfl, S2, w2, t2⟩
    rw [uV_s] at w2
    obtain ⟨ho1, ho2, ho3, ho4⟩ := eO.st ⟨ho1, ho2, ho3, ho4⟩ t2 w1.R
    have hv := bw_obj t2 w1.R hvl hv (by decide)
    have hvl := Nat.lt_of_lt_of_le hvl t2.1
    have hv1 := bw_obj t2 w1.R hvl1 hv1 (by decide)
    have hvl1 := Nat.lt_of_lt_of_le hvl1 t2.1
    refine wa_aload_n q_X2_fillRoot_35 rfl ?_
    refine wa_getf q_X2_fillRoot_36 f_RX2_12 (by assumption) rfl ?_
    refine wa_aload_n q_X2_fillRoot_39 rfl ?_
    refine wa_getf q_X2_fillRoot_40 f_RX2_35 (by assumption) rfl ?_
    refine wa_aload_n q_X2_fillRoot_43 rfl ?_
    refine wa_getf q_X2_fillRoot_44 f_RX2_107 (by assumption) rfl ?_
    refine wa_callV q_X2_fillRoot_47 g_X2_fillRoot_47 w_X0_squareRoot (by assumption) rfl (av := [_, _]) rfl rfl (lk rfl) (Calls.mono (Z_root w2 ho3 ho4 (i := 2) (j := l) (by omega) (by omega) (by omega) (by omega) (by omega) (by omega) (by rw [uV_s]; exact op_lt z1 hp)) ?_)
    rintro _ σ3 ⟨r, hr, rfl, S3, U3, w3, x1, x2, t3⟩
    rw [uV_s] at hr
    rw [uV_s]
    have hr1 : r < BB ^ 150 := isq_lt hr (by have := op_lt z1 hp; omega)
    obtain ⟨ho1, ho2, ho3, ho4⟩ := eO.st ⟨ho1, ho2, ho3, ho4⟩ t3 w2.R
    have hv := bw_obj t3 w2.R hvl hv (by decide)
    have hvl := Nat.lt_of_lt_of_le hvl t3.1
    have hv1 := bw_obj t3 w2.R hvl1 hv1 (by decide)
    have hvl1 := Nat.lt_of_lt_of_le hvl1 t3.1
    have y3 : ∀ k, 10 ≤ k → k ≠ l → U3 k = U k := fun k k1 k2 => by rw [x2 k (by omega) k2, uV_n (by omega), uV_n (by omega)]
    have i4 := w3.big (i := l + 1) (by omega)
    refine wa_istore q_X2_fillRoot_50 (by decide) ?_
    refine wa_aload_n q_X2_fillRoot_52 rfl ?_
    refine wa_getf q_X2_fillRoot_53 f_RX2_114 (by assumption) rfl ?_
    refine wa_aload_n q_X2_fillRoot_56 rfl ?_
    refine wa_getf q_X2_fillRoot_57 f_RX2_107 (by assumption) rfl ?_
    refine wa_callV q_X2_fillRoot_60 g_X2_fillRoot_60 w_X1_copy (by assumption) rfl (av := [_]) rfl rfl (lk rfl) (Calls.mono (Z_copy w3 (i := l + 1) (j := l) (by omega) (by omega) (by omega) (by rw [x1, Int.natAbs_natCast]; exact lp_le hr1 (by decide))) ?_)
    rintro _ σ4 ⟨rfl, S4, w4, t4⟩
    rw [x1] at w4
    obtain ⟨ho1, ho2, ho3, ho4⟩ := eO.st ⟨ho1, ho2, ho3, ho4⟩ t4 w3.R
    have hv := bw_obj t4 w3.R hvl hv (by decide)
    have hvl := Nat.lt_of_lt_of_le hvl t4.1
    have hv1 := bw_obj t4 w3.R hvl1 hv1 (by decide)
    have hvl1 := Nat.lt_of_lt_of_le hvl1 t4.1
    have y4 : ∀ k, 10 ≤ k → k ≠ l → k ≠ l + 1 → uV U3 (l + 1) r k = U k := fun k k1 k2 k3 => by rw [uV_n k3]; exact y3 k k1 k2
    have yl : uV U3 (l + 1) r l = (r : Int) := by rw [uV_n (by omega)]; exact x1
    have yh : uV U3 (l + 1) r (l + 1) = (r : Int) := uV_s
    obtain ⟨U4, hU4⟩ : ∃ U4, U4 = uV U3 (l + 1) r := ⟨_, rfl⟩
    rw [← hU4] at w4 y4 yl yh
    clear hU4
    have sA := t1.tr (t2.tr (t3.tr t4))
    -- the end: one more where the square is less
    have hend : ∀ (σ5 : en_S) (S5 : Nat → en_B) (U5 : Nat → Int) (r2 : Nat), zW X z N σ5 S5 U5 → vO σ5 z v l kd a b f s at' 0 fa → isq (U (l1 + 1) * 10 ^ p).toNat r2 → U5 l = (r : Int) → U5 (l + 1) = (r2 : Int) → (∀ k, 10 ≤ k → k ≠ l → k ≠ l + 1 → U5 k = U k) → bw_St (zD z N) σ S σ5 S5 →
        WA X M_X2_fillRoot σ 106 [(4, .int (nI (if r2 * r2 < (U (l1 + 1) * 10 ^ p).toNat then 1 else 0))), (0, .ref e), (1, .ref v), (2, .ref v1), (3, .int (nI p))] [] σ5 (fun res τ => res = none ∧ ((U (l1 + 1) < 0 ∧ vO τ z v l kd a b f s at' 1 fa ∧ (∀ q, q ≠ v → look τ q = look σ q) ∧ τ.1 = σ.1 ∧ τ.2.1 = σ.2.1) ∨ (0 ≤ U (l1 + 1) ∧ ∃ L H, isRt (U l1) (U (l1 + 1)) p L H ∧ Fil X z N σ S U l L H τ))) := by
      intro σ5 S5 U5 r2 w5 hv5 hr2 q1 q2 q3 sB
      have hr3 : r2 < BB ^ 150 := isq_lt hr2 (by have := op_lt z2 hp; omega)
      have hif : (if r2 * r2 < (U (l1 + 1) * 10 ^ p).toNat then 1 else 0) < 2 := by split <;> decide
      refine wa_iload q_X2_fillRoot_106 rfl ?_
      refine wn_if_eq q_X2_fillRoot_108 (by omega) (fun hx => ?_) (fun hx => ?_)
      · have hge : ¬ r2 * r2 < (U (l1 + 1) * 10 ^ p).toNat := fun y => by rw [if_pos y] at hx; omega
        refine wa_vret q_X2_fillRoot_119 rfl ?_
        exact ⟨rfl, Or.inr ⟨hnn, _, _, ⟨r, r2, hr, hr2, rfl, by rw [if_neg hge]⟩, S5, U5, w5, q1, q2, q3, sB⟩⟩
      · have hlt : r2 * r2 < (U (l1 + 1) * 10 ^ p).toNat := Classical.byContradiction (fun y => by rw [if_neg y] at hx; omega)
        have i5 := w5.big (i := l + 1) (by omega)
        refine wa_aload_n q_X2_fillRoot_111 rfl ?_
        refine wa_getf q_X2_fillRoot_112 f_RX2_114 (by assumption) rfl ?_
        refine wa_iconst q_X2_fillRoot_115 (v := sgI 1) (by decide) ?_
        refine wa_callV q_X2_fillRoot_116 g_X2_fillRoot_116 w_X1_grow (by assumption) rfl (av := [_]) rfl rfl (lk rfl) (Calls.mono (Z_grow w5 (i := l + 1) (by omega) (Or.inl rfl) (by rw [q2, Int.natAbs_natCast]; exact lp_le hr3 (by decide))) ?_)
        rintro _ σ6 ⟨rfl, S6, w6, t6⟩
        rw [q2] at w6
        refine wa_vret q_X2_fillRoot_119 rfl ?_
        refine ⟨rfl, Or.inr ⟨hnn, _, _, ⟨r, r2, hr, hr2, rfl, by rw [if_pos hlt]⟩, S6, _, w6, by rw [uV_n (by omega)]; exact q1, ?_, fun k k1 k2 k3 => by rw [uV_n k3]; exact q3 k k1 k2 k3, sB.tr t6⟩⟩
        rw [uV_s]; unfold grw; split
        · omega
        · rw [if_neg (by omega)]; omega
    obtain ⟨-, V4, g1, g2⟩ := id w4
    refine wa_aload_n q_X2_fillRoot_63 rfl ?_
    refine wa_callS q_X2_fillRoot_64 g_X2_fillRoot_64 w_X2_isExact (av := [_]) rfl rfl (lk rfl) (Calls.mono (F_exact g1 hv1 (zD_m (by omega)) (zD_m (by omega))) ?_)
    rintro _ _ ⟨rfl, rfl⟩
    rw [g2 l1 (by omega), g2 (l1 + 1) (by omega), y4 l1 (by omega) (by omega) (by omega), y4 (l1 + 1) (by omega) (by omega) (by omega)]
    have hif : (if U l1 = U (l1 + 1) then 1 else 0) < 2 := by split <;> decide
    refine wn_if_ne q_X2_fillRoot_67 (by omega) (fun hx => ?_) (fun hx => ?_)
    · have hex : U l1 = U (l1 + 1) := Classical.byContradiction (fun y => by rw [if_neg y] at hx; omega)
      have eN : (U l1 * 10 ^ p).toNat = (U (l1 + 1) * 10 ^ p).toNat := by rw [hex]
      have hr := hr
      rw [eN] at hr
      rw [eN]
      have hq := hend _ _ _ r w4 hv hr yl yh y4 sA
      refine wa_lv hq ?_
      rfl
    · have i5 := w4.big (i := 2) (by omega)
      refine wa_aload_n q_X2_fillRoot_70 rfl ?_
      refine wa_getf q_X2_fillRoot_71 f_RX2_35 (by assumption) rfl ?_
      refine wa_aload_n q_X2_fillRoot_74 rfl ?_
      refine wa_getf q_X2_fillRoot_75 f_RX2_114 (by assumption) rfl ?_
      refine wa_callV q_X2_fillRoot_78 g_X2_fillRoot_78 w_X1_copy (by assumption) rfl (av := [_]) rfl rfl (lk rfl) (Calls.mono (Z_copy w4 (i := 2) (j := l1 + 1) (by omega) (by omega) (by omega) (by rw [y4 _ (by omega) (by omega) (by omega)]; exact lp_le z2 (by decide))) ?_)
      rintro _ σ5 ⟨rfl, S5, w5, t5⟩
      rw [y4 _ (by omega) (by omega) (by omega)] at w5
      obtain ⟨ho1, ho2, ho3, ho4⟩ := eO.st ⟨ho1, ho2, ho3, ho4⟩ t5 w4.R
      have hv := bw_obj t5 w4.R hvl hv (by decide)
      have hvl := Nat.lt_of_lt_of_le hvl t5.1
      have i6 := w5.big (i := 2) (by omega)
      refine wa_aload_n q_X2_fillRoot_81 rfl ?_
      refine wa_getf q_X2_fillRoot_82 f_RX2_35 (by assumption) rfl ?_
      refine wa_iload_n q_X2_fillRoot_85 rfl ?_
      refine wa_callV q_X2_fillRoot_86 g_X2_fillRoot_86 w_X1_shiftUp (by assumption) rfl (av := [_]) rfl rfl (lk rfl) (Calls.mono (Z_shiftUp w5 (i := 2) (by omega) (by omega) (by rw [uV_s]; exact hsm z2)) ?_)
      rintro _ σ6 ⟨rfl, S6, w6, t6⟩
      rw [uV_s] at w6
      obtain ⟨ho1, ho2, ho3, ho4⟩ := eO.st ⟨ho1, ho2, ho3, ho4⟩ t6 w5.R
      have hv := bw_obj t6 w5.R hvl hv (by decide)
      have hvl := Nat.lt_of_lt_of_le hvl t6.1
      refine wa_aload_n q_X2_fillRoot_89 rfl ?_
      refine wa_getf q_X2_fillRoot_90 f_RX2_12 (by assumption) rfl ?_
      refine wa_aload_n q_X2_fillRoot_93 rfl ?_
      refine wa_getf q_X2_fillRoot_94 f_RX2_35 (by assumption) rfl ?_
      refine wa_aload_n q_X2_fillRoot_97 rfl ?_
      refine wa_getf q_X2_fillRoot_98 f_RX2_114 (by assumption) rfl ?_
      refine wa_callV q_X2_fillRoot_101 g_X2_fillRoot_101 w_X0_squareRoot (by assumption) rfl (av := [_, _]) rfl rfl (lk rfl) (Calls.mono (Z_root w6 ho3 ho4 (i := 2) (j := l + 1) (by omega) (by omega) (by omega) (by omega) (by omega) (by omega) (by rw [uV_s]; exact op_lt z2 hp)) ?_)
      rintro _ σ7 ⟨r2, hr2, rfl, S7, U7, w7, x3, x4, t7⟩
      rw [uV_s] at hr2
      rw [uV_s]
      have hv := bw_obj t7 w6.R hvl hv (by decide)
      refine wa_istore q_X2_fillRoot_104 (by decide) ?_
      have hq := hend _ _ _ r2 w7 hv hr2 (by rw [x4 l (by omega) (by omega), uV_n (by omega), uV_n (by omega)]; exact yl) x3 (fun k k1 k2 k3 => by rw [x4 k (by omega) k3, uV_n (by omega), uV_n (by omega)]; exact y4 k k1 k2 k3) (sA.tr (t5.tr (t6.tr t7)))
      exact wa_lv hq rfl
  · have hneg : U (l1 + 1) < 0 := by
      rcases sgI_c (U (l1 + 1)) with ⟨q, g⟩ | ⟨q, g⟩ | ⟨q, g⟩
      · exact q
      · rw [g] at hc; exact absurd (by decide) hc
      · rw [g] at hc; exact absurd (by decide) hc
    refine wa_aload_n q_X2_fillRoot_10 rfl ?_
    refine wa_iconst q_X2_fillRoot_11 (v := nI 1) (by decide) ?_
    refine wn_putf q_X2_fillRoot_12 p_RX2_75 (by assumption) (lk rfl) rfl rfl rfl (fun σ_p1 p1 f_p1 e1_p1 e2_p1 => ?_)
    refine wa_vret q_X2_fillRoot_15 rfl ?_
    exact ⟨rfl, Or.inl ⟨hneg, p1, f_p1, e1_p1, e2_p1⟩⟩
end enc4
end
section
/-! EnclosedDigits$Encloser: fillCorners -/
def cdn (dv : Bool) (p : Nat) (x y : Int) : Int := if dv then qdn (x * 10 ^ p) y else shr (x * y) p (-1)
def cup (dv : Bool) (p : Nat) (x y : Int) : Int := if dv then qup (x * 10 ^ p) y else shr (x * y) p 1
def nmin (n : Nat) (a c : Int) : Int := if n = 0 ∨ c < a then c else a
def nmax (n : Nat) (a c : Int) : Int := if n = 0 ∨ a < c then c else a
theorem nmin_i {n : Nat} {a c : Int} : nmin (n + 1) (nmin n a c) c = nmin n a c := by
  unfold nmin
  by_cases h : n = 0 ∨ c < a
  · rw [if_pos h]; split <;> rfl
  · rw [if_neg h, if_neg (fun q => by rcases q with q | q; omega; exact h (Or.inr q))]
theorem nmax_i {n : Nat} {a c : Int} : nmax (n + 1) (nmax n a c) c = nmax n a c := by
  unfold nmax
  by_cases h : n = 0 ∨ a < c
  · rw [if_pos h]; split <;> rfl
  · rw [if_neg h, if_neg (fun q => by rcases q with q | q; omega; exact h (Or.inr q))]
theorem mul_lt {a b n m : Nat} (h : a < BB ^ n) (g : b < BB ^ m) : a * b < BB ^ (n + m + 1) := by
  have q1 : a * b ≤ BB ^ n * BB ^ m := Nat.mul_le_mul (Nat.le_of_lt h) (Nat.le_of_lt g)
  rw [← Nat.pow_add] at q1
  exact Nat.lt_of_le_of_lt q1 ((Nat.pow_lt_pow_iff_right (by decide)).mpr (by omega))
theorem shr_abs (v : Int) (p : Nat) (tw : Int) : (shr v p tw).natAbs ≤ v.natAbs := by
  have hp : 0 < 10 ^ p := Nat.pow_pos (by decide)
  unfold shr
  split
  · exact fl_abs v hp
  · have := fl_abs (-v) hp
    omega
theorem cor_lt {dv : Bool} {p : Nat} {x y : Int} (hx : x.natAbs < BB ^ 90) (hy : y.natAbs < BB ^ 90) (hp : p ≤ 480) : (cdn dv p x y).natAbs < BB ^ 200 ∧ (cup dv p x y).natAbs < BB ^ 200 := by
  have h1 := op_lt hx hp
  have h2 := qdn_le (x * 10 ^ p) y
  have h3 : (x * 10 ^ p).natAbs / y.natAbs + 1 < BB ^ 200 := Nat.lt_of_le_of_lt (Nat.succ_le_succ (Nat.div_le_self _ _)) (pw_s h1 (by decide))
  have h4 : (x * y).natAbs < BB ^ 200 := by rw [Int.natAbs_mul]; exact lp_le (mul_lt hx hy) (by decide)
  unfold cdn cup
  cases dv
  · exact ⟨Nat.lt_of_le_of_lt (shr_abs (x * y) p (-1)) h4, Nat.lt_of_le_of_lt (shr_abs (x * y) p 1) h4⟩
  · exact ⟨Nat.lt_of_le_of_lt h2.1 h3, Nat.lt_of_le_of_lt h2.2 h3⟩
section enc5
variable {X : en_X} {z : Nat → Nat} {N : Nat} {e bn se : Nat} {ρ : en_S} {Q : Option Value → en_S → Prop} {v l v1 l1 v2 l2 p : Nat} {kd f s at' fa kd1 f1 s1 at1 op1 fa1 kd2 f2 s2 at2 op2 fa2 : Int32} {a b a1 b1 a2 b2 : Int} {dv : Bool} {i j lf rg : Nat}
/-- the locals of fillCorners in its loops -/
abbrev fcL (e v v1 v2 p : Nat) (dv : Bool) (lf rg i j : Nat) : List (Nat × Value) := [(0, .ref e), (1, .ref v), (2, .ref v1), (3, .ref v2), (4, .int (nI p)), (5, .int (nI (if dv then 1 else 0))), (6, .int (nI lf)), (7, .int (nI rg)), (8, .int (nI i)), (9, .int (nI j))]
theorem cor_3 {σ : en_S} {S : Nat → en_B} {U : Nat → Int} {c d : Int} (h : zW X z N σ S U) (ho : eO σ z e bn se) (hv : vO σ z v l kd a b f s at' 0 fa) (hvl : v < σ.1) (h10 : 10 ≤ l) (hl : l + 3 ≤ N) (hi : i < 2) (hj : j < 2) (x1 : U 0 = c) (x2 : U 1 = d) (zc : c.natAbs < BB ^ 200) (zd : d.natAbs < BB ^ 200)
    (k : ∀ σ' S' U', zW X z N σ' S' U' → U' l = nmin (i + j) (U l) c → U' (l + 1) = nmax (i + j) (U (l + 1)) d → (∀ k, 10 ≤ k → k ≠ l → k ≠ l + 1 → U' k = U k) → bw_St (zD z N) σ S σ' S' → WA X M_X2_fillCorners ρ 243 (fcL e v v1 v2 p dv lf rg i j) [] σ' Q) :
    WA X M_X2_fillCorners ρ 177 (fcL e v v1 v2 p dv lf rg i j) [] σ Q := by
  have up : ∀ σ' S' U', zW X z N σ' S' U' → U' l = nmin (i + j) (U l) c → (∀ k, k ≠ l → U' k = U k) → bw_St (zD z N) σ S σ' S' → WA X M_X2_fillCorners ρ 210 (fcL e v v1 v2 p dv lf rg i j) [] σ' Q := by
    intro σ1 S1 U1 w1 y1 y2 t1
    obtain ⟨ho1, ho2, ho3, ho4⟩ := eO.st ho t1 h.R
    have hv := bw_obj t1 h.R hvl hv (by decide)
    have hvl := Nat.lt_of_lt_of_le hvl t1.1
    have e1 : U1 1 = d := (y2 1 (by omega)).trans x2
    have eh : U1 (l + 1) = U (l + 1) := y2 _ (by omega)
    have go : nmax (i + j) (U (l + 1)) d = d → WA X M_X2_fillCorners ρ 232 (fcL e v v1 v2 p dv lf rg i j) [] σ1 Q := by
      intro em
      have i1 := w1.big (i := l + 1) (by omega)
      refine wa_aload_n q_X2_fillCorners_232 rfl ?_
      refine wa_getf q_X2_fillCorners_233 f_RX2_114 (by assumption) rfl ?_
      refine wa_aload_n q_X2_fillCorners_236 rfl ?_
      refine wa_getf q_X2_fillCorners_237 f_RX2_32 (by assumption) rfl ?_
      refine wa_callV q_X2_fillCorners_240 g_X2_fillCorners_240 w_X1_copy (by assumption) rfl (av := [_]) rfl rfl (lk rfl) (Calls.mono (Z_copy w1 (i := l + 1) (j := 1) (by omega) (by omega) (by omega) (by rw [e1]; exact lp_le zd (by decide))) ?_)
      rintro _ σ2 ⟨rfl, S2, w2, t2⟩
      rw [e1] at w2
      exact wa_lv (k σ2 S2 _ w2 (by rw [uV_n (by omega)]; exact y1) (by rw [uV_s, em]) (fun k k1 k2 k3 => by rw [uV_n k3]; exact y2 k k2) (t1.tr t2)) rfl
    refine wa_iload q_X2_fillCorners_210 rfl ?_
    refine wa_iload q_X2_fillCorners_212 rfl ?_
    refine wn_iadd q_X2_fillCorners_214 ?_
    refine wn_if_eq q_X2_fillCorners_215 (by omega) (fun hx => ?_) (fun hx => ?_)
    · exact go (if_pos (Or.inl hx))
    · have i1 := w1.big (i := 1) (by omega)
      refine wa_aload_n q_X2_fillCorners_218 rfl ?_
      refine wa_getf q_X2_fillCorners_219 f_RX2_32 (by assumption) rfl ?_
      refine wa_aload_n q_X2_fillCorners_222 rfl ?_
      refine wa_getf q_X2_fillCorners_223 f_RX2_114 (by assumption) rfl ?_
      refine wa_callV q_X2_fillCorners_226 g_X2_fillCorners_226 w_X1_compare (by assumption) rfl (av := [_]) rfl rfl (lk rfl) (Calls.mono (Z_cmp w1 (i := 1) (j := l + 1) (by omega) (by omega)) ?_)
      rintro _ _ ⟨rfl, rfl⟩
      rw [e1, eh]
      refine wa_if_le q_X2_fillCorners_229 (fun hy => ?_) (fun hy => ?_)
      · have hle : d ≤ U (l + 1) := by
          unfold cmpI at hy
          split at hy
          · omega
          · split at hy
            · omega
            · exact absurd hy (by decide)
        exact wa_lv (k _ S1 U1 w1 y1 (by rw [eh]; unfold nmax; rw [if_neg (by omega)]) (fun k _ k2 _ => y2 k k2) t1) rfl
      · have hgt : U (l + 1) < d := by
          unfold cmpI at hy
          split at hy
          · exact absurd (by decide) hy
          · split at hy
            · exact absurd (by decide) hy
            · omega
        exact go (if_pos (Or.inr hgt))
  obtain ⟨ho1, ho2, ho3, ho4⟩ := ho
  have go : nmin (i + j) (U l) c = c → WA X M_X2_fillCorners ρ 199 (fcL e v v1 v2 p dv lf rg i j) [] σ Q := by
    intro em
    have i1 := h.big (i := l) (by omega)
    refine wa_aload_n q_X2_fillCorners_199 rfl ?_
    refine wa_getf q_X2_fillCorners_200 f_RX2_107 (by assumption) rfl ?_
    refine wa_aload_n q_X2_fillCorners_203 rfl ?_
    refine wa_getf q_X2_fillCorners_204 f_RX2_28 (by assumption) rfl ?_
    refine wa_callV q_X2_fillCorners_207 g_X2_fillCorners_207 w_X1_copy (by assumption) rfl (av := [_]) rfl rfl (lk rfl) (Calls.mono (Z_copy h (i := l) (j := 0) (by omega) (by omega) (by omega) (by rw [x1]; exact lp_le zc (by decide))) ?_)
    rintro _ σ2 ⟨rfl, S2, w2, t2⟩
    rw [x1] at w2
    exact wa_lv (up σ2 S2 _ w2 (by rw [uV_s, em]) (fun k k1 => uV_n k1) t2) rfl
  refine wa_iload q_X2_fillCorners_177 rfl ?_
  refine wa_iload q_X2_fillCorners_179 rfl ?_
  refine wn_iadd q_X2_fillCorners_181 ?_
  refine wn_if_eq q_X2_fillCorners_182 (by omega) (fun hx => ?_) (fun hx => ?_)
  · exact go (if_pos (Or.inl hx))
  · have i1 := h.big (i := 0) (by omega)
    refine wa_aload_n q_X2_fillCorners_185 rfl ?_
    refine wa_getf q_X2_fillCorners_186 f_RX2_28 (by assumption) rfl ?_
    refine wa_aload_n q_X2_fillCorners_189 rfl ?_
    refine wa_getf q_X2_fillCorners_190 f_RX2_107 (by assumption) rfl ?_
    refine wa_callV q_X2_fillCorners_193 g_X2_fillCorners_193 w_X1_compare (by assumption) rfl (av := [_]) rfl rfl (lk rfl) (Calls.mono (Z_cmp h (i := 0) (j := l) (by omega) (by omega)) ?_)
    rintro _ _ ⟨rfl, rfl⟩
    rw [x1]
    refine wa_if_ge q_X2_fillCorners_196 (fun hy => ?_) (fun hy => ?_)
    · have hle : U l ≤ c := by
        unfold cmpI at hy
        split at hy
        · exact absurd hy (by decide)
        · omega
      exact wa_lv (up _ S U h (by unfold nmin; rw [if_neg (by omega)]) (fun _ _ => rfl) (bw_St.rf _ _ _)) rfl
    · have hgt : c < U l := by
        unfold cmpI at hy
        split at hy
        · assumption
        · split at hy
          · exact absurd (by decide) hy
          · exact absurd (by decide) hy
      exact go (if_pos (Or.inr hgt))
theorem cor_2 {σ : en_S} {S : Nat → en_B} {U : Nat → Int} {x y : Nat} (h : zW X z N σ S U) (ho : eO σ z e bn se) (hv : vO σ z v l kd a b f s at' 0 fa) (hvl : v < σ.1) (h10 : 10 ≤ l) (hl : l + 3 ≤ N) (hi : i < 2) (hj : j < 2) (hp : p ≤ 480) (hx10 : 10 ≤ x) (hy10 : 10 ≤ y) (hxl : x < l) (hyl : y < l) (zx : (U x).natAbs < BB ^ 90) (zy : (U y).natAbs < BB ^ 90) (hnz : dv = true → U y ≠ 0)
    (k : ∀ σ' S' U', zW X z N σ' S' U' → U' l = nmin (i + j) (U l) (cdn dv p (U x) (U y)) → U' (l + 1) = nmax (i + j) (U (l + 1)) (cup dv p (U x) (U y)) → (∀ k, 10 ≤ k → k ≠ l → k ≠ l + 1 → U' k = U k) → bw_St (zD z N) σ S σ' S' → WA X M_X2_fillCorners ρ 243 (fcL e v v1 v2 p dv lf rg i j) [] σ' Q) :
    WA X M_X2_fillCorners ρ 131 ((11, .ref (z y)) :: (10, .ref (z x)) :: fcL e v v1 v2 p dv lf rg i j) [] σ Q := by
  obtain ⟨zc, zd⟩ := cor_lt (dv := dv) zx zy hp
  have ho' := ho
  obtain ⟨ho1, ho2, ho3, ho4⟩ := ho
  have fin : ∀ (σ2 : en_S) (S2 : Nat → en_B) (U2 : Nat → Int), zW X z N σ2 S2 U2 → U2 0 = cdn dv p (U x) (U y) → U2 1 = cup dv p (U x) (U y) → (∀ k, 10 ≤ k → U2 k = U k) → bw_St (zD z N) σ S σ2 S2 → WA X M_X2_fillCorners ρ 177 (fcL e v v1 v2 p dv lf rg i j) [] σ2 Q := by
    intro σ2 S2 U2 w2 x1 x2 x3 t2
    exact cor_3 w2 (ho'.st t2 h.R) (bw_obj t2 h.R hvl hv (by decide)) (Nat.lt_of_lt_of_le hvl t2.1) h10 hl hi hj x1 x2 zc zd (fun σ' S' U' w' y1 y2 y3 t' => k σ' S' U' w' (by rw [y1, x3 l h10]) (by rw [y2, x3 (l + 1) (by omega)]) (fun k k1 k2 k3 => (y3 k k1 k2 k3).trans (x3 k k1)) (t2.tr t'))
  refine wa_iload q_X2_fillCorners_131 rfl ?_
  cases dv
  · refine wn_if_eq q_X2_fillCorners_133 (by decide) (fun hx => ?_) (fun hx => absurd hx (by decide))
    refine wa_aload_n q_X2_fillCorners_167 rfl ?_
    refine wa_aload q_X2_fillCorners_168 rfl ?_
    refine wa_aload q_X2_fillCorners_170 rfl ?_
    refine wa_iload q_X2_fillCorners_172 rfl ?_
    refine wa_callV q_X2_fillCorners_174 g_X2_fillCorners_174 w_X2_multiplyBothWays (by assumption) rfl (av := [_, _, _]) rfl rfl (lk rfl) (Calls.mono (Z_mulBoth h ho' (i := x) (j := y) (by omega) (by omega) hx10 hy10 hp zx zy) ?_)
    rintro _ σ2 ⟨rfl, S2, U2, w2, x1, x2, x3, t2⟩
    exact wa_lv (fin σ2 S2 U2 w2 x1 x2 (fun k hk => x3 k (by simp; omega)) t2) rfl
  · refine wn_if_eq q_X2_fillCorners_133 (by decide) (fun hx => absurd hx (by decide)) (fun hx => ?_)
    have i1 := h.big (i := 2) (by omega)
    refine wa_aload_n q_X2_fillCorners_136 rfl ?_
    refine wa_getf q_X2_fillCorners_137 f_RX2_35 (by assumption) rfl ?_
    refine wa_aload q_X2_fillCorners_140 rfl ?_
    refine wa_callV q_X2_fillCorners_142 g_X2_fillCorners_142 w_X1_copy (by assumption) rfl (av := [_]) rfl rfl (lk rfl) (Calls.mono (Z_copy h (i := 2) (j := x) (by omega) (by omega) (by omega) (lp_le zx (by decide))) ?_)
    rintro _ σ1 ⟨rfl, S1, w1, t1⟩
    obtain ⟨ho1, ho2, ho3, ho4⟩ := eO.st ⟨ho1, ho2, ho3, ho4⟩ t1 h.R
    have i2 := w1.big (i := 2) (by omega)
    have hsm := op_lt zx hp
    refine wa_aload_n q_X2_fillCorners_145 rfl ?_
    refine wa_getf q_X2_fillCorners_146 f_RX2_35 (by assumption) rfl ?_
    refine wa_iload q_X2_fillCorners_149 rfl ?_
    refine wa_callV q_X2_fillCorners_151 g_X2_fillCorners_151 w_X1_shiftUp (by assumption) rfl (av := [_]) rfl rfl (lk rfl) (Calls.mono (Z_shiftUp w1 (i := 2) (by omega) (by omega) (by rw [uV_s]; rw [Int.natAbs_mul, Int.natAbs_pow] at hsm; exact lp_le hsm (by decide))) ?_)
    rintro _ σ2 ⟨rfl, S2, w2, t2⟩
    rw [uV_s] at w2
    obtain ⟨ho1, ho2, ho3, ho4⟩ := eO.st ⟨ho1, ho2, ho3, ho4⟩ t2 w1.R
    obtain ⟨U2, hU2⟩ : ∃ U2, U2 = uV (uV U 2 (U x)) 2 (U x * 10 ^ p) := ⟨_, rfl⟩
    rw [← hU2] at w2
    have y1 : U2 2 = U x * 10 ^ p := by rw [hU2, uV_s]
    have y2 : ∀ k, 10 ≤ k → U2 k = U k := fun k hk => by rw [hU2, uV_n (by omega), uV_n (by omega)]
    clear hU2
    refine wa_aload_n q_X2_fillCorners_154 rfl ?_
    refine wa_aload_n q_X2_fillCorners_155 rfl ?_
    refine wa_getf q_X2_fillCorners_156 f_RX2_35 (by assumption) rfl ?_
    refine wa_aload q_X2_fillCorners_159 rfl ?_
    refine wa_callV q_X2_fillCorners_161 g_X2_fillCorners_161 w_X2_divideBothWays (by assumption) rfl (av := [_, _]) rfl rfl (lk rfl) (Calls.mono (Z_divBoth w2 ⟨ho1, ho2, ho3, ho4⟩ (i := 2) (j := y) (by omega) (by omega) (by omega) (by decide) (by simp; omega) (by rw [y2 y hy10]; exact hnz rfl) (by rw [y1]; exact lp_le hsm (by decide)) (by rw [y2 y hy10]; exact lp_le zy (by decide))) ?_)
    rintro _ σ3 ⟨rfl, S3, U3, w3, x1, x2, x3, t3⟩
    rw [y1, y2 y hy10] at x1 x2
    refine wa_goto q_X2_fillCorners_164 ?_
    exact wa_lv (fin σ3 S3 U3 w3 x1 x2 (fun k hk => (x3 k (by simp; omega)).trans (y2 k hk)) (t1.tr (t2.tr t3))) rfl
theorem cor_1 {σ : en_S} {S : Nat → en_B} {U : Nat → Int} (h : zW X z N σ S U) (ho : eO σ z e bn se) (hv : vO σ z v l kd a b f s at' 0 fa) (hvl : v < σ.1) (hv1 : vO σ z v1 l1 kd1 a1 b1 f1 s1 at1 op1 fa1) (hv2 : vO σ z v2 l2 kd2 a2 b2 f2 s2 at2 op2 fa2) (h10 : 10 ≤ l1) (h20 : 10 ≤ l2) (hl : l + 3 ≤ N) (hl1 : l1 + 3 ≤ l) (hl2 : l2 + 3 ≤ l) (hi : i < 2) (hj : j < 2) (hp : p ≤ 480)
    (zx : (U (l1 + i)).natAbs < BB ^ 90) (zy : (U (l2 + j)).natAbs < BB ^ 90) (hnz : dv = true → U (l2 + j) ≠ 0)
    (k : ∀ σ' S' U', zW X z N σ' S' U' → U' l = nmin (i + j) (U l) (cdn dv p (U (l1 + i)) (U (l2 + j))) → U' (l + 1) = nmax (i + j) (U (l + 1)) (cup dv p (U (l1 + i)) (U (l2 + j))) → (∀ k, 10 ≤ k → k ≠ l → k ≠ l + 1 → U' k = U k) → bw_St (zD z N) σ S σ' S' → WA X M_X2_fillCorners ρ 243 (fcL e v v1 v2 p dv lf rg i j) [] σ' Q) :
    WA X M_X2_fillCorners ρ 95 (fcL e v v1 v2 p dv lf rg i j) [] σ Q := by
  have g2 := cor_2 (lf := lf) (rg := rg) (v1 := v1) (v2 := v2) (ρ := ρ) (Q := Q) (x := l1 + i) (y := l2 + j) h ho hv hvl (by omega) hl hi hj hp (by omega) (by omega) (by omega) (by omega) zx zy hnz k
  have g1 : WA X M_X2_fillCorners ρ 113 ((10, .ref (z (l1 + i))) :: fcL e v v1 v2 p dv lf rg i j) [] σ Q := by
    refine wa_iload q_X2_fillCorners_113 rfl ?_
    refine wn_if_ne q_X2_fillCorners_115 (by omega) (fun hx => ?_) (fun hx => ?_)
    · have e1 : j = 1 := by omega
      subst e1
      refine wa_aload_n q_X2_fillCorners_125 rfl ?_
      refine wa_getf q_X2_fillCorners_126 f_RX2_114 (by assumption) rfl ?_
      refine wa_astore q_X2_fillCorners_129 (by decide) ?_
      exact wa_lv g2 rfl
    · subst hx
      refine wa_aload_n q_X2_fillCorners_118 rfl ?_
      refine wa_getf q_X2_fillCorners_119 f_RX2_107 (by assumption) rfl ?_
      refine wa_goto q_X2_fillCorners_122 ?_
      refine wa_astore q_X2_fillCorners_129 (by decide) ?_
      exact wa_lv g2 rfl
  refine wa_iload q_X2_fillCorners_95 rfl ?_
  refine wn_if_ne q_X2_fillCorners_97 (by omega) (fun hx => ?_) (fun hx => ?_)
  · have e1 : i = 1 := by omega
    subst e1
    refine wa_aload_n q_X2_fillCorners_107 rfl ?_
    refine wa_getf q_X2_fillCorners_108 f_RX2_114 (by assumption) rfl ?_
    refine wa_astore q_X2_fillCorners_111 (by decide) ?_
    exact wa_lv g1 rfl
  · subst hx
    refine wa_aload_n q_X2_fillCorners_100 rfl ?_
    refine wa_getf q_X2_fillCorners_101 f_RX2_107 (by assumption) rfl ?_
    refine wa_goto q_X2_fillCorners_104 ?_
    refine wa_astore q_X2_fillCorners_111 (by decide) ?_
    exact wa_lv g1 rfl
/-- the inner loop -/
theorem cor_in {σ : en_S} {S : Nat → en_B} {U : Nat → Int} (h : zW X z N σ S U) (ho : eO σ z e bn se) (hv : vO σ z v l kd a b f s at' 0 fa) (hvl : v < σ.1) (hv1 : vO σ z v1 l1 kd1 a1 b1 f1 s1 at1 op1 fa1) (hvl1 : v1 < σ.1) (hv2 : vO σ z v2 l2 kd2 a2 b2 f2 s2 at2 op2 fa2) (hvl2 : v2 < σ.1) (h10 : 10 ≤ l1) (h20 : 10 ≤ l2) (hl : l + 3 ≤ N) (hl1 : l1 + 3 ≤ l) (hl2 : l2 + 3 ≤ l) (hi : i < 2) (hp : p ≤ 480)
    (zx : (U (l1 + i)).natAbs < BB ^ 90) (zy : (U l2).natAbs < BB ^ 90) (zy1 : (U (l2 + 1)).natAbs < BB ^ 90) (hnz : dv = true → U l2 ≠ 0 ∧ U (l2 + 1) ≠ 0) (hrg : rg = 2 ∨ rg = 1 ∧ U l2 = U (l2 + 1))
    (k : ∀ σ' S' U' j', zW X z N σ' S' U' → U' l = nmin (i + 1) (nmin i (U l) (cdn dv p (U (l1 + i)) (U l2))) (cdn dv p (U (l1 + i)) (U (l2 + 1))) → U' (l + 1) = nmax (i + 1) (nmax i (U (l + 1)) (cup dv p (U (l1 + i)) (U l2))) (cup dv p (U (l1 + i)) (U (l2 + 1))) → (∀ k, 10 ≤ k → k ≠ l → k ≠ l + 1 → U' k = U k) → bw_St (zD z N) σ S σ' S' → WA X M_X2_fillCorners ρ 249 (fcL e v v1 v2 p dv lf rg i j') [] σ' Q) :
    WA X M_X2_fillCorners ρ 88 (fcL e v v1 v2 p dv lf rg i 0) [] σ Q := by
  refine wa_iload q_X2_fillCorners_88 rfl ?_
  refine wa_iload q_X2_fillCorners_90 rfl ?_
  refine wn_icmp_ge q_X2_fillCorners_92 (by omega) (by omega) (fun hx => ?_) (fun hx => ?_)
  · omega
  refine cor_1 (j := 0) h ho hv hvl hv1 hv2 h10 h20 hl hl1 hl2 hi (by decide) hp zx zy (fun q => (hnz q).1) (fun σ1 S1 U1 w1 y1 y2 y3 t1 => ?_)
  have ho := ho.st t1 h.R
  have hv := bw_obj t1 h.R hvl hv (by decide)
  have hv1 := bw_obj t1 h.R hvl1 hv1 (by decide)
  have hv2 := bw_obj t1 h.R hvl2 hv2 (by decide)
  have hvl := Nat.lt_of_lt_of_le hvl t1.1
  have hvl1 := Nat.lt_of_lt_of_le hvl1 t1.1
  have hvl2 := Nat.lt_of_lt_of_le hvl2 t1.1
  refine wn_iinc q_X2_fillCorners_243 rfl (by decide) ?_
  refine wa_goto q_X2_fillCorners_246 ?_
  refine wa_iload q_X2_fillCorners_88 rfl ?_
  refine wa_iload q_X2_fillCorners_90 rfl ?_
  refine wn_icmp_ge q_X2_fillCorners_92 (by omega) (by omega) (fun hx => ?_) (fun hx => ?_)
  · have e1 : U l2 = U (l2 + 1) := by rcases hrg with q | ⟨_, q⟩; omega; exact q
    refine wa_lv (k σ1 S1 U1 1 w1 ?_ ?_ y3 t1) rfl
    · rw [← e1, nmin_i]; exact y1
    · rw [← e1, nmax_i]; exact y2
  · have y4 : U1 (l1 + i) = U (l1 + i) := y3 _ (by omega) (by omega) (by omega)
    have y5 : U1 (l2 + 1) = U (l2 + 1) := y3 _ (by omega) (by omega) (by omega)
    refine wa_lv (lv' := fcL e v v1 v2 p dv lf rg i 1) ?_ rfl
    refine cor_1 (j := 1) w1 ho hv hvl hv1 hv2 h10 h20 hl hl1 hl2 hi (by decide) hp (by rw [y4]; exact zx) (by rw [y5]; exact zy1) (fun q => by rw [y5]; exact (hnz q).2) (fun σ2 S2 U2 w2 x1 x2 x3 t2 => ?_)
    rw [y4, y5, y1] at x1
    rw [y4, y5, y2] at x2
    refine wn_iinc q_X2_fillCorners_243 rfl (by decide) ?_
    refine wa_goto q_X2_fillCorners_246 ?_
    refine wa_iload q_X2_fillCorners_88 rfl ?_
    refine wa_iload q_X2_fillCorners_90 rfl ?_
    refine wn_icmp_ge q_X2_fillCorners_92 (by omega) (by omega) (fun hy => ?_) (fun hy => ?_)
    · exact wa_lv (k σ2 S2 U2 2 w2 x1 x2 (fun k k1 k2 k3 => (x3 k k1 k2 k3).trans (y3 k k1 k2 k3)) (t1.tr t2)) rfl
    · omega
/-- both ends of a product or a quotient -/
def crL (dv : Bool) (p : Nat) (a b c d : Int) : Int := nmin 1 (nmin 1 (nmin 1 (cdn dv p a c) (cdn dv p a d)) (cdn dv p b c)) (cdn dv p b d)
def crH (dv : Bool) (p : Nat) (a b c d : Int) : Int := nmax 1 (nmax 1 (nmax 1 (cup dv p a c) (cup dv p a d)) (cup dv p b c)) (cup dv p b d)
theorem sg_le {v : Int} : sgI v ≤ 0 ↔ v ≤ 0 := by
  rcases sgI_c v with ⟨q, g⟩ | ⟨q, g⟩ | ⟨q, g⟩ <;> rw [g]
  · exact ⟨fun _ => by omega, fun _ => by decide⟩
  · exact ⟨fun _ => by omega, fun _ => by decide⟩
  · exact ⟨fun h => absurd h (by decide), fun h => by omega⟩
theorem sg_ge {v : Int} : 0 ≤ sgI v ↔ 0 ≤ v := by
  rcases sgI_c v with ⟨q, g⟩ | ⟨q, g⟩ | ⟨q, g⟩ <;> rw [g]
  · exact ⟨fun h => absurd h (by decide), fun h => by omega⟩
  · exact ⟨fun _ => by omega, fun _ => by decide⟩
  · exact ⟨fun _ => by omega, fun _ => by decide⟩
theorem F_exactZ {σ : en_S} {S : Nat → en_B} {U : Nat → Int} {op1 : Int32} (h : zW X z N σ S U) (hv1 : vO σ z v1 l1 kd1 a1 b1 f1 s1 at1 op1 fa1) (hl : l1 + 3 ≤ N) : Calls X M_X2_isExact [.ref v1] σ (fun res τ => res = some (.int (nI (if U l1 = U (l1 + 1) then 1 else 0))) ∧ τ = σ) := by
  obtain ⟨h0, V, h1, h2⟩ := h
  have := F_exact h1 hv1 (zD_m (N := N) (by omega)) (zD_m (N := N) (by omega))
  rw [h2 l1 (by omega), h2 (l1 + 1) (by omega)] at this
  exact this
set_option maxHeartbeats 1000000 in
theorem G_corn {σ : en_S} {S : Nat → en_B} {U : Nat → Int} (h : zW X z N σ S U) (ho : eO σ z e bn se) (hk : kd = nI (if dv then 9 else 8)) (hv : vO σ z v l kd a b f s at' 0 fa) (hvl : v < σ.1) (hv1 : vO σ z v1 l1 kd1 a1 b1 f1 s1 at1 op1 fa1) (hvl1 : v1 < σ.1) (hv2 : vO σ z v2 l2 kd2 a2 b2 f2 s2 at2 op2 fa2) (hvl2 : v2 < σ.1) (h10 : 10 ≤ l1) (h20 : 10 ≤ l2) (hl : l + 3 ≤ N) (hl1 : l1 + 3 ≤ l) (hl2 : l2 + 3 ≤ l) (hp : p ≤ 480)
    (z1 : (U l1).natAbs < BB ^ 90) (z2 : (U (l1 + 1)).natAbs < BB ^ 90) (z3 : (U l2).natAbs < BB ^ 90) (z4 : (U (l2 + 1)).natAbs < BB ^ 90) (hle : U l2 ≤ U (l2 + 1)) :
    Calls X M_X2_fillCorners [.ref e, .ref v, .ref v1, .ref v2, .int (nI p)] σ (fun res τ => res = none ∧ ((dv = true ∧ (U l2 ≤ 0 ∧ 0 ≤ U (l2 + 1)) ∧ vO τ z v l kd a b f s at' 1 fa ∧ (∀ q, q ≠ v → look τ q = look σ q) ∧ τ.1 = σ.1 ∧ τ.2.1 = σ.2.1) ∨ ((dv = true → ¬ (U l2 ≤ 0 ∧ 0 ≤ U (l2 + 1))) ∧ Fil X z N σ S U l (crL dv p (U l1) (U (l1 + 1)) (U l2) (U (l2 + 1))) (crH dv p (U l1) (U (l1 + 1)) (U l2) (U (l2 + 1))) τ))) := by
  obtain ⟨QQ, hQQ⟩ : ∃ QQ : Option Value → en_S → Prop, QQ = (fun res τ => res = none ∧ ((dv = true ∧ (U l2 ≤ 0 ∧ 0 ≤ U (l2 + 1)) ∧ vO τ z v l kd a b f s at' 1 fa ∧ (∀ q, q ≠ v → look τ q = look σ q) ∧ τ.1 = σ.1 ∧ τ.2.1 = σ.2.1) ∨ ((dv = true → ¬ (U l2 ≤ 0 ∧ 0 ≤ U (l2 + 1))) ∧ Fil X z N σ S U l (crL dv p (U l1) (U (l1 + 1)) (U l2) (U (l2 + 1))) (crH dv p (U l1) (U (l1 + 1)) (U l2) (U (l2 + 1))) τ))) := ⟨_, rfl⟩
  rw [← hQQ]
  -- behind the test
  have main : (dv = true → ¬ (U l2 ≤ 0 ∧ 0 ≤ U (l2 + 1))) → WA X M_X2_fillCorners σ 47 [(5, .int (nI (if dv then 1 else 0))), (0, .ref e), (1, .ref v), (2, .ref v1), (3, .ref v2), (4, .int (nI p))] [] σ QQ := by
    intro hop
    have hnz : dv = true → U l2 ≠ 0 ∧ U (l2 + 1) ≠ 0 := fun q => ⟨fun y => hop q ⟨by omega, by omega⟩, fun y => hop q ⟨by omega, by omega⟩⟩
    have loop : ∀ lf rg, (lf = 2 ∨ lf = 1 ∧ U l1 = U (l1 + 1)) → (rg = 2 ∨ rg = 1 ∧ U l2 = U (l2 + 1)) → WA X M_X2_fillCorners σ 78 [(8, .int (nI 0)), (7, .int (nI rg)), (6, .int (nI lf)), (5, .int (nI (if dv then 1 else 0))), (0, .ref e), (1, .ref v), (2, .ref v1), (3, .ref v2), (4, .int (nI p))] [] σ QQ := by
      intro lf rg hlf hrg
      refine wa_iload q_X2_fillCorners_78 rfl ?_
      refine wa_iload q_X2_fillCorners_80 rfl ?_
      refine wn_icmp_ge q_X2_fillCorners_82 (by omega) (by omega) (fun hx => ?_) (fun hx => ?_)
      · omega
      refine wa_iconst q_X2_fillCorners_85 (v := nI 0) (by decide) ?_
      refine wa_istore q_X2_fillCorners_86 (by decide) ?_
      refine wa_lv (lv' := fcL e v v1 v2 p dv lf rg 0 0) ?_ rfl
      refine cor_in (i := 0) h ho hv hvl hv1 hvl1 hv2 hvl2 h10 h20 hl hl1 hl2 (by decide) hp z1 z3 z4 hnz hrg (fun σ1 S1 U1 j1 w1 y1 y2 y3 t1 => ?_)
      have ho := ho.st t1 h.R
      have hv := bw_obj t1 h.R hvl hv (by decide)
      have hv1 := bw_obj t1 h.R hvl1 hv1 (by decide)
      have hv2 := bw_obj t1 h.R hvl2 hv2 (by decide)
      have hvl := Nat.lt_of_lt_of_le hvl t1.1
      have hvl1 := Nat.lt_of_lt_of_le hvl1 t1.1
      have hvl2 := Nat.lt_of_lt_of_le hvl2 t1.1
      have y1 : U1 l = nmin 1 (cdn dv p (U l1) (U l2)) (cdn dv p (U l1) (U (l2 + 1))) := y1
      have y2 : U1 (l + 1) = nmax 1 (cup dv p (U l1) (U l2)) (cup dv p (U l1) (U (l2 + 1))) := y2
      refine wn_iinc q_X2_fillCorners_249 rfl (by decide) ?_
      refine wa_goto q_X2_fillCorners_252 ?_
      refine wa_iload q_X2_fillCorners_78 rfl ?_
      refine wa_iload q_X2_fillCorners_80 rfl ?_
      refine wn_icmp_ge q_X2_fillCorners_82 (by omega) (by omega) (fun hx => ?_) (fun hx => ?_)
      · have e1 : U l1 = U (l1 + 1) := by rcases hlf with q | ⟨_, q⟩; omega; exact q
        refine wa_vret q_X2_fillCorners_255 rfl ?_
        rw [hQQ]
        refine ⟨rfl, Or.inr ⟨hop, S1, U1, w1, ?_, ?_, y3, t1⟩⟩
        · rw [y1, ← e1]; unfold crL nmin; simp only [Nat.one_ne_zero, false_or]
          (repeat' split) <;> omega
        · rw [y2, ← e1]; unfold crH nmax; simp only [Nat.one_ne_zero, false_or]
          (repeat' split) <;> omega
      · have u1 : U1 (l1 + 1) = U (l1 + 1) := y3 _ (by omega) (by omega) (by omega)
        have u2 : U1 l2 = U l2 := y3 _ (by omega) (by omega) (by omega)
        have u3 : U1 (l2 + 1) = U (l2 + 1) := y3 _ (by omega) (by omega) (by omega)
        refine wa_iconst q_X2_fillCorners_85 (v := nI 0) (by decide) ?_
        refine wa_istore q_X2_fillCorners_86 (by decide) ?_
        refine wa_lv (lv' := fcL e v v1 v2 p dv lf rg 1 0) ?_ rfl
        refine cor_in (i := 1) w1 ho hv hvl hv1 hvl1 hv2 hvl2 h10 h20 hl hl1 hl2 (by decide) hp (by rw [u1]; exact z2) (by rw [u2]; exact z3) (by rw [u3]; exact z4) (by rw [u2, u3]; exact hnz) (by rw [u2, u3]; exact hrg) (fun σ2 S2 U2 j2 w2 x1 x2 x3 t2 => ?_)
        rw [u1, u2, u3, y1] at x1
        rw [u1, u2, u3, y2] at x2
        refine wn_iinc q_X2_fillCorners_249 rfl (by decide) ?_
        refine wa_goto q_X2_fillCorners_252 ?_
        refine wa_iload q_X2_fillCorners_78 rfl ?_
        refine wa_iload q_X2_fillCorners_80 rfl ?_
        refine wn_icmp_ge q_X2_fillCorners_82 (by omega) (by omega) (fun hy => ?_) (fun hy => ?_)
        · refine wa_vret q_X2_fillCorners_255 rfl ?_
          rw [hQQ]
          refine ⟨rfl, Or.inr ⟨hop, S2, U2, w2, ?_, ?_, fun k k1 k2 k3 => (x3 k k1 k2 k3).trans (y3 k k1 k2 k3), t1.tr t2⟩⟩
          · rw [x1]; unfold crL nmin; simp only [Nat.one_ne_zero, Nat.succ_ne_zero, false_or]
          · rw [x2]; unfold crH nmax; simp only [Nat.one_ne_zero, Nat.succ_ne_zero, false_or]
        · omega
    have rgt : ∀ lf, (lf = 2 ∨ lf = 1 ∧ U l1 = U (l1 + 1)) → WA X M_X2_fillCorners σ 61 [(6, .int (nI lf)), (5, .int (nI (if dv then 1 else 0))), (0, .ref e), (1, .ref v), (2, .ref v1), (3, .ref v2), (4, .int (nI p))] [] σ QQ := by
      intro lf hlf
      refine wa_aload_n q_X2_fillCorners_61 rfl ?_
      refine wa_callS q_X2_fillCorners_62 g_X2_fillCorners_62 w_X2_isExact (av := [_]) rfl rfl (lk rfl) (Calls.mono (F_exactZ h hv2 (by omega)) ?_)
      rintro _ _ ⟨rfl, rfl⟩
      by_cases ex : U l2 = U (l2 + 1)
      · rw [if_pos ex]
        refine wn_if_eq q_X2_fillCorners_65 (by decide) (fun hx => absurd hx (by decide)) (fun hx => ?_)
        refine wa_iconst q_X2_fillCorners_68 (v := nI 1) (by decide) ?_
        refine wa_goto q_X2_fillCorners_69 ?_
        refine wa_istore q_X2_fillCorners_73 (by decide) ?_
        refine wa_iconst q_X2_fillCorners_75 (v := nI 0) (by decide) ?_
        refine wa_istore q_X2_fillCorners_76 (by decide) ?_
        exact wa_lv (loop lf 1 hlf (Or.inr ⟨rfl, ex⟩)) rfl
      · rw [if_neg ex]
        refine wn_if_eq q_X2_fillCorners_65 (by decide) (fun hx => ?_) (fun hx => absurd hx (by decide))
        refine wa_iconst q_X2_fillCorners_72 (v := nI 2) (by decide) ?_
        refine wa_istore q_X2_fillCorners_73 (by decide) ?_
        refine wa_iconst q_X2_fillCorners_75 (v := nI 0) (by decide) ?_
        refine wa_istore q_X2_fillCorners_76 (by decide) ?_
        exact wa_lv (loop lf 2 hlf (Or.inl rfl)) rfl
    refine wa_aload_n q_X2_fillCorners_47 rfl ?_
    refine wa_callS q_X2_fillCorners_48 g_X2_fillCorners_48 w_X2_isExact (av := [_]) rfl rfl (lk rfl) (Calls.mono (F_exactZ h hv1 (by omega)) ?_)
    rintro _ _ ⟨rfl, rfl⟩
    by_cases ex : U l1 = U (l1 + 1)
    · rw [if_pos ex]
      refine wn_if_eq q_X2_fillCorners_51 (by decide) (fun hx => absurd hx (by decide)) (fun hx => ?_)
      refine wa_iconst q_X2_fillCorners_54 (v := nI 1) (by decide) ?_
      refine wa_goto q_X2_fillCorners_55 ?_
      refine wa_istore q_X2_fillCorners_59 (by decide) ?_
      exact wa_lv (rgt 1 (Or.inr ⟨rfl, ex⟩)) rfl
    · rw [if_neg ex]
      refine wn_if_eq q_X2_fillCorners_51 (by decide) (fun hx => ?_) (fun hx => absurd hx (by decide))
      refine wa_iconst q_X2_fillCorners_58 (v := nI 2) (by decide) ?_
      refine wa_istore q_X2_fillCorners_59 (by decide) ?_
      exact wa_lv (rgt 2 (Or.inl rfl)) rfl
  refine Calls.of rfl (lk rfl) ?_
  refine wa_aload_n q_X2_fillCorners_0 rfl ?_
  refine wa_getf q_X2_fillCorners_1 f_RX2_68 (by assumption) rfl ?_
  refine wa_bipush q_X2_fillCorners_4 (v := nI 8) (by decide) ?_
  subst hk
  cases dv
  · refine wn_icmp_eq q_X2_fillCorners_6 (by decide) (by decide) (fun hx => ?_) (fun hx => absurd rfl hx)
    refine wa_iconst q_X2_fillCorners_13 (v := nI 0) (by decide) ?_
    refine wa_istore q_X2_fillCorners_14 (by decide) ?_
    refine wa_iload q_X2_fillCorners_16 rfl ?_
    refine wn_if_eq q_X2_fillCorners_18 (by decide) (fun hx => ?_) (fun hx => absurd hx (by decide))
    exact wa_lv (main (fun q => absurd q (by decide))) rfl
  · refine wn_icmp_eq q_X2_fillCorners_6 (by decide) (by decide) (fun hx => absurd hx (by decide)) (fun hx => ?_)
    refine wa_iconst q_X2_fillCorners_9 (v := nI 1) (by decide) ?_
    refine wa_goto q_X2_fillCorners_10 ?_
    refine wa_istore q_X2_fillCorners_14 (by decide) ?_
    refine wa_iload q_X2_fillCorners_16 rfl ?_
    refine wn_if_eq q_X2_fillCorners_18 (by decide) (fun hx => absurd hx (by decide)) (fun hx => ?_)
    have i1 := h.big (i := l2) (by omega)
    have i2 := h.big (i := l2 + 1) (by omega)
    refine wa_aload_n q_X2_fillCorners_21 rfl ?_
    refine wa_getf q_X2_fillCorners_22 f_RX2_107 (by assumption) rfl ?_
    refine wa_getf q_X2_fillCorners_25 f_RX2_169 (by assumption) rfl ?_
    refine wa_if_gt q_X2_fillCorners_28 (fun hy => ?_) (fun hy => ?_)
    · refine wa_lv (main (fun _ q => ?_)) rfl
      have := sg_le.mpr q.1
      exact absurd hy (Int32.not_lt.mpr this)
    · have hy1 : U l2 ≤ 0 := sg_le.mp (Int32.not_lt.mp hy)
      refine wa_aload_n q_X2_fillCorners_31 rfl ?_
      refine wa_getf q_X2_fillCorners_32 f_RX2_114 (by assumption) rfl ?_
      refine wa_getf q_X2_fillCorners_35 f_RX2_169 (by assumption) rfl ?_
      refine wa_if_lt q_X2_fillCorners_38 (fun hw => ?_) (fun hw => ?_)
      · refine wa_lv (main (fun _ q => ?_)) rfl
        have := sg_ge.mpr q.2
        exact absurd hw (Int32.not_lt.mpr this)
      · have hw1 : 0 ≤ U (l2 + 1) := sg_ge.mp (Int32.not_lt.mp hw)
        refine wa_aload_n q_X2_fillCorners_41 rfl ?_
        refine wa_iconst q_X2_fillCorners_42 (v := nI 1) (by decide) ?_
        refine wn_putf q_X2_fillCorners_43 p_RX2_75 (by assumption) (lk rfl) rfl rfl rfl (fun σ_p1 p1 f_p1 e1_p1 e2_p1 => ?_)
        refine wa_vret q_X2_fillCorners_46 rfl ?_
        rw [hQQ]
        exact ⟨rfl, Or.inl ⟨rfl, ⟨hy1, hw1⟩, p1, f_p1, e1_p1, e2_p1⟩⟩
end enc5
end
section
/-! VALUES in their slots; marks of those that are needed -/
def sA (X : en_X) (n : Nat) (g : Nat → Option Nat) : va_E := .inl (X.2.2.1.2.2.2, n, .inr (.inr (.inr (.inr g))))
theorem sA_ar {X : en_X} {n m : Nat} {g : Nat → Option Nat} {d : Nat → Nat} (e : sA X n g = ar X m d) : False := by
  have := congrArg (fun (w : va_E) => match w with | Sum.inl q => (match q.2.2 with | Sum.inl _ => true | _ => false) | _ => true) e
  cases this
section vals0
variable {X : en_X} {y : en_M} {ρ σ : en_S} {pc nx : Nat} {lv : List (Nat × Value)} {st : List Value} {Q : Option Value → en_S → Prop}
theorem wn_aald {a n j b : Nat} {g : Nat → Option Nat} (q : decode y.2.1 pc = .ok (.aaload, 1) ∧ pc + 1 = nx) (h : look σ a = some (sA X n g)) (hj : j < n) (hn : n < 2 ^ 31) (e : g j = some b) (k : WA X y ρ nx lv (.ref b :: st) σ Q) : WA X y ρ pc lv (.int (nI j) :: .ref a :: st) σ Q :=
  wa_aald q h (vp_in_nI hj hn) (by rw [nI_clamp (by omega), e]; exact k)
theorem wn_aaldN {a n j : Nat} {g : Nat → Option Nat} (q : decode y.2.1 pc = .ok (.aaload, 1) ∧ pc + 1 = nx) (h : look σ a = some (sA X n g)) (hj : j < n) (hn : n < 2 ^ 31) (e : g j = none) (k : WA X y ρ nx lv (.null :: st) σ Q) : WA X y ρ pc lv (.int (nI j) :: .ref a :: st) σ Q :=
  wa_aald q h (vp_in_nI hj hn) (by rw [nI_clamp (by omega), e]; exact k)
theorem wn_aalen {a n : Nat} {g : Nat → Option Nat} (q : decode y.2.1 pc = .ok (.arraylength, 1) ∧ pc + 1 = nx) (h : look σ a = some (sA X n g)) (kw : WA X y ρ nx lv (.int (nI n) :: st) σ Q) : WA X y ρ pc lv (.ref a :: st) σ Q := wa_alen (t0 := 3) q h rfl kw
end vals0
/-- the i-th VALUE's fields; its numbers stand at 30 + 3 i and on -/
abbrev vEi (z kd fs sn at' op fa : Nat → Nat) (A B : Nat → Int) (i : Nat) : va_E := vE (nI (kd i)) (A i) (B i) (nI (fs i)) (nI (sn i)) (nI (at' i)) (nI (op i)) (z (30 + 3 * i)) (z (30 + 3 * i + 1)) (nI (fa i)) (z (30 + 3 * i + 2))
def vW (X : en_X) (σ : en_S) (z : Nat → Nat) (sl : Nat) (va : Nat → Nat) (mk : Nat) (kd fs sn at' op fa : Nat → Nat) (A B : Nat → Int) : Prop :=
  (∃ g, look σ sl = some (sA X 60 g) ∧ ∀ i, i < 60 → g i = if i < mk then some (va i) else none) ∧ sl < σ.1 ∧ (∀ i, i < mk → look σ (va i) = some (vEi z kd fs sn at' op fa A B i) ∧ va i < σ.1) ∧ (∀ i j, i < mk → j < mk → va i = va j → i = j) ∧ mk ≤ 60 ∧ (∀ i, i < mk → kd i ≤ 9 ∧ fs i < 100 ∧ sn i < 100 ∧ at' i ≤ 480 ∧ op i < 2 ∧ fa i ≤ 480)
section vals1
variable {X : en_X} {σ : en_S} {z : Nat → Nat} {sl : Nat} {va : Nat → Nat} {mk : Nat} {kd fs sn at' op fa : Nat → Nat} {A B : Nat → Int}
theorem vW.at {i : Nat} (h : vW X σ z sl va mk kd fs sn at' op fa A B) (hi : i < mk) : look σ (va i) = some (vEi z kd fs sn at' op fa A B i) := (h.2.2.1 i hi).1
theorem vW.lt {i : Nat} (h : vW X σ z sl va mk kd fs sn at' op fa A B) (hi : i < mk) : va i < σ.1 := (h.2.2.1 i hi).2
theorem vW.st {τ : en_S} {D : List Nat} {S T : Nat → en_B} (h : vW X σ z sl va mk kd fs sn at' op fa A B) (s : bw_St D σ S τ T) (w : bw_R X D σ S) : vW X τ z sl va mk kd fs sn at' op fa A B := by
  obtain ⟨⟨g, h1, h2⟩, h3, h4, h5⟩ := h
  refine ⟨⟨g, bw_oth s w h3 h1 (fun l e => by cases e) (fun n d e => sA_ar e), h2⟩, Nat.lt_of_lt_of_le h3 s.1, fun i hi => ⟨bw_obj s w (h4 i hi).2 (h4 i hi).1 (by decide), Nat.lt_of_lt_of_le (h4 i hi).2 s.1⟩, h5⟩
/-- one VALUE's fields change -/
theorem vW.set {τ : en_S} {i : Nat} {at2 op2 fa2 : Nat → Nat} (h : vW X σ z sl va mk kd fs sn at' op fa A B) (hi : i < mk) (hn : look τ (va i) = some (vEi z kd fs sn at2 op2 fa2 A B i)) (hf : ∀ q, q ≠ va i → look τ q = look σ q) (e1 : τ.1 = σ.1) (hj : ∀ j, j ≠ i → at2 j = at' j ∧ op2 j = op j ∧ fa2 j = fa j) (hb : at2 i ≤ 480 ∧ op2 i < 2 ∧ fa2 i ≤ 480) : vW X τ z sl va mk kd fs sn at2 op2 fa2 A B := by
  obtain ⟨⟨g, h1, h2⟩, h3, h4, h5, h6, h7⟩ := h
  have hsl : sl ≠ va i := fun e => by rw [e, (h4 i hi).1] at h1; cases h1
  refine ⟨⟨g, (hf sl hsl).trans h1, h2⟩, by omega, fun j hjm => ⟨?_, by rw [e1]; exact (h4 j hjm).2⟩, h5, h6, fun j hjm => ?_⟩
  · by_cases e : j = i
    · subst e; exact hn
    · rw [hf _ (fun q => e (h5 j i hjm hi q)), (h4 j hjm).1]
      obtain ⟨q1, q2, q3⟩ := hj j e
      show some (vEi _ _ _ _ _ _ _ _ _ j) = some (vEi _ _ _ _ _ _ _ _ _ j)
      unfold vEi
      rw [q1, q2, q3]
  · obtain ⟨g1, g2, g3, g4, g5, g6⟩ := h7 j hjm
    by_cases e : j = i
    · subst e; exact ⟨g1, g2, g3, hb.1, hb.2.1, hb.2.2⟩
    · obtain ⟨q1, q2, q3⟩ := hj j e
      exact ⟨g1, g2, g3, by omega, by omega, by omega⟩
theorem F_open {i : Nat} (h : vW X σ z sl va mk kd fs sn at' op fa A B) (hi : i < mk) : Calls X M_X2_isOpen [.ref (va i)] σ (fun res τ => res = some (.int (nI (op i))) ∧ τ = σ) := by
  have e1 := h.at hi
  have hb := (h.2.2.2.2.2 i hi).2.2.2.2.1
  refine Calls.of rfl (lk rfl) ?_
  refine wa_aload_n q_X2_isOpen_0 rfl ?_
  refine wa_ifnull q_X2_isOpen_1 ?_
  refine wa_aload_n q_X2_isOpen_4 rfl ?_
  refine wa_getf q_X2_isOpen_5 f_RX2_75 (by assumption) rfl ?_
  refine wn_if_eq q_X2_isOpen_8 (by omega) (fun hx => ?_) (fun hx => ?_)
  · refine wa_iconst q_X2_isOpen_15 (v := nI 0) (by decide) ?_
    refine wa_zret q_X2_isOpen_16 rfl rfl ?_
    exact ⟨by rw [hx], rfl⟩
  · refine wa_iconst q_X2_isOpen_11 (v := nI 1) (by decide) ?_
    refine wa_goto q_X2_isOpen_12 ?_
    refine wa_zret q_X2_isOpen_16 rfl rfl ?_
    exact ⟨by rw [show op i = 1 by omega], rfl⟩
theorem F_openN : Calls X M_X2_isOpen [.null] σ (fun res τ => res = some (.int (nI 1)) ∧ τ = σ) := by
  refine Calls.of rfl (lk rfl) ?_
  refine wa_aload_nN q_X2_isOpen_0 rfl ?_
  refine wa_ifnullN q_X2_isOpen_1 ?_
  refine wa_iconst q_X2_isOpen_11 (v := nI 1) (by decide) ?_
  refine wa_goto q_X2_isOpen_12 ?_
  refine wa_zret q_X2_isOpen_16 rfl rfl ?_
  exact ⟨rfl, rfl⟩
/-- the part, if it stands below -/
theorem F_part {c i : Nat} (h : vW X σ z sl va mk kd fs sn at' op fa A B) (hc : c < i) (hi : i < mk) : Calls X M_X2_partOf [.ref sl, .int (nI c), .int (nI i)] σ (fun res τ => res = some (.ref (va c)) ∧ τ = σ) := by
  obtain ⟨⟨g, h1, h2⟩, h3, h4, h5, h6, h7⟩ := h
  refine Calls.of rfl (lk rfl) ?_
  refine wa_iload_n q_X2_partOf_0 rfl ?_
  refine wn_if_lt q_X2_partOf_1 (by omega) (fun hx => ?_) (fun hx => ?_)
  · exact absurd hx id
  refine wa_iload_n q_X2_partOf_4 rfl ?_
  refine wa_iload_n q_X2_partOf_5 rfl ?_
  refine wn_icmp_ge q_X2_partOf_6 (by omega) (by omega) (fun hy => ?_) (fun hy => ?_)
  · omega
  refine wa_iload_n q_X2_partOf_9 rfl ?_
  refine wa_aload_n q_X2_partOf_10 rfl ?_
  refine wn_aalen q_X2_partOf_11 h1 ?_
  refine wn_icmp_lt q_X2_partOf_12 (by omega) (by omega) (fun hw => ?_) (fun hw => ?_)
  · refine wa_aload_n q_X2_partOf_19 rfl ?_
    refine wa_iload_n q_X2_partOf_20 rfl ?_
    refine wn_aald q_X2_partOf_21 h1 (by omega) (by decide) (by rw [h2 c (by omega), if_pos (by omega)]) ?_
    refine wa_aret q_X2_partOf_22 rfl (Or.inl ⟨_, rfl⟩) (Or.inr ⟨_, rfl⟩) ?_
    exact ⟨rfl, rfl⟩
  · omega
/-- whatever it is: a reference or null, nothing changes -/
theorem F_partA {c i : Nat} (h : vW X σ z sl va mk kd fs sn at' op fa A B) (hc : c < 100) (hi : i < mk) : Calls X M_X2_partOf [.ref sl, .int (nI c), .int (nI i)] σ (fun res τ => (res = some .null ∨ ∃ b, res = some (.ref b)) ∧ τ = σ) := by
  obtain ⟨⟨g, h1, h2⟩, h3, h4, h5, h6, h7⟩ := h
  refine Calls.of rfl (lk rfl) ?_
  refine wa_iload_n q_X2_partOf_0 rfl ?_
  refine wn_if_lt q_X2_partOf_1 (by omega) (fun hx => ?_) (fun hx => ?_)
  · exact absurd hx id
  refine wa_iload_n q_X2_partOf_4 rfl ?_
  refine wa_iload_n q_X2_partOf_5 rfl ?_
  refine wn_icmp_ge q_X2_partOf_6 (by omega) (by omega) (fun hy => ?_) (fun hy => ?_)
  · refine wa_null q_X2_partOf_15 ?_
    refine wa_goto q_X2_partOf_16 ?_
    refine wa_aret q_X2_partOf_22 rfl (Or.inl ⟨_, rfl⟩) (Or.inl rfl) ?_
    exact ⟨Or.inl rfl, rfl⟩
  refine wa_iload_n q_X2_partOf_9 rfl ?_
  refine wa_aload_n q_X2_partOf_10 rfl ?_
  refine wn_aalen q_X2_partOf_11 h1 ?_
  refine wn_icmp_lt q_X2_partOf_12 (by omega) (by omega) (fun hw => ?_) (fun hw => ?_)
  · refine wa_aload_n q_X2_partOf_19 rfl ?_
    refine wa_iload_n q_X2_partOf_20 rfl ?_
    refine wn_aald q_X2_partOf_21 h1 (by omega) (by decide) (by rw [h2 c (by omega), if_pos (by omega)]) ?_
    refine wa_aret q_X2_partOf_22 rfl (Or.inl ⟨_, rfl⟩) (Or.inr ⟨_, rfl⟩) ?_
    exact ⟨Or.inr ⟨_, rfl⟩, rfl⟩
  · omega
end vals1
-- bits of a long
def b64 (w : Int64) (j : Nat) : Bool := w.toBitVec.getLsbD j
theorem b64_test {w : Int64} {s : UInt64} {j : Nat} (hj : j < 64) (hs : s.toNat = j) : ((w.toUInt64 >>> s).toInt64 &&& 1) = 0 ↔ b64 w j = false := by
  have e : (w.toUInt64 >>> s).toInt64.toBitVec = w.toBitVec >>> j := by
    apply BitVec.eq_of_toNat_eq
    show (w.toUInt64 >>> s).toNat = _
    rw [UInt64.toNat_shiftRight, hs, Nat.mod_eq_of_lt hj, BitVec.toNat_ushiftRight]
    rfl
  rw [← Int64.toBitVec_inj, Int64.toBitVec_and, e]
  show w.toBitVec >>> j &&& 1#64 = 0#64 ↔ _
  constructor
  · intro h
    have t := congrArg (fun x => x.getLsbD 0) h
    simpa [b64] using t
  · intro h
    apply BitVec.eq_of_getLsbD_eq
    intro i hi
    cases i with
    | zero => simp [show w.toBitVec.getLsbD j = false from h]
    | succ i => simp
theorem b64_one : ∀ l, l < 64 → ((lN 1) <<< ((nI l).toInt64 &&& 63)).toBitVec = BitVec.twoPow 64 l := by decide +kernel
theorem b64_sh : ∀ l, l < 64 → ((nI l).toInt64.toUInt64 &&& Int64.toUInt64 63).toNat = l := by decide +kernel
theorem b64_pow {l i : Nat} (hl : l < 64) (hi : i < 64) : b64 ((lN 1) <<< ((nI l).toInt64 &&& 63)) i = decide (l = i) := by
  unfold b64
  rw [b64_one l hl, BitVec.getLsbD_twoPow]
  simp [hl]
theorem b64_or {a b : Int64} {i : Nat} : b64 (a ||| b) i = (b64 a i || b64 b i) := by unfold b64; rw [Int64.toBitVec_or, BitVec.getLsbD_or]
theorem b64_and {a b : Int64} {i : Nat} : b64 (a &&& b) i = (b64 a i && b64 b i) := by unfold b64; rw [Int64.toBitVec_and, BitVec.getLsbD_and]
theorem b64_not {a : Int64} {i : Nat} (hi : i < 64) : b64 (a ^^^ (-1)) i = !(b64 a i) := by
  have ha : (-1 : Int64).toBitVec = BitVec.allOnes 64 := by decide
  unfold b64
  rw [Int64.toBitVec_xor, BitVec.getLsbD_xor, ha, BitVec.getLsbD_allOnes]
  simp [hi]
section vals2
variable {X : en_X} {σ : en_S} {z : Nat → Nat} {sl : Nat} {va : Nat → Nat} {mk : Nat} {kd fs sn at' op fa : Nat → Nat} {A B : Nat → Int}
theorem F_marked {M : Int64} {i : Nat} (hi : i < 64) : Calls X M_X2_isMarked [.long M, .int (nI i)] σ (fun res τ => res = some (.int (nI (if b64 M i then 1 else 0))) ∧ τ = σ) := by
  refine Calls.of rfl (lk rfl) ?_
  refine wa_lload_n q_X2_isMarked_0 rfl ?_
  refine wa_iload_n q_X2_isMarked_1 rfl ?_
  refine wa_lushr q_X2_isMarked_2 rfl ?_
  refine wa_lconst q_X2_isMarked_3 (v := lN 1) (by decide) ?_
  refine wa_land q_X2_isMarked_4 ?_
  refine wa_lconst q_X2_isMarked_5 (v := lN 0) (by decide) ?_
  refine wa_lcmp q_X2_isMarked_6 ?_
  refine wa_if_eq q_X2_isMarked_7 (fun hx => ?_) (fun hx => ?_)
  · have hb : b64 M i = false := (b64_test hi (b64_sh i hi)).mp ((lg_cmp_eq _ _).mp hx)
    refine wa_iconst q_X2_isMarked_14 (v := nI 0) (by decide) ?_
    refine wa_zret q_X2_isMarked_15 rfl rfl ?_
    exact ⟨by rw [hb]; rfl, rfl⟩
  · have hb : b64 M i = true := by
      cases hq : b64 M i
      · exact absurd ((lg_cmp_eq _ _).mpr ((b64_test hi (b64_sh i hi)).mpr hq)) hx
      · rfl
    refine wa_iconst q_X2_isMarked_10 (v := nI 1) (by decide) ?_
    refine wa_goto q_X2_isMarked_11 ?_
    refine wa_zret q_X2_isMarked_15 rfl rfl ?_
    exact ⟨by rw [hb]; rfl, rfl⟩
/-- what the marks must say for the VALUES above t -/
def mkI (M : Int64) (v p t : Nat) (kd fs sn at' : Nat → Nat) : Prop := (b64 M v = true ∨ t ≤ v ∧ at' v = p) ∧ ∀ j, t ≤ j → j ≤ v → b64 M j = true → at' j ≠ p ∧ (5 ≤ kd j → (b64 M (fs j) = true ∨ t ≤ fs j ∧ at' (fs j) = p) ∧ (b64 M (sn j) = true ∨ t ≤ sn j ∧ at' (sn j) = p))
theorem F_need_loop {v p : Nat} {Q : Option Value → en_S → Prop} (h : vW X σ z sl va mk kd fs sn at' op fa A B) (hv : v < mk) (hp : p ≤ 480) (hpt : ∀ j, j ≤ v → 5 ≤ kd j → fs j < j ∧ sn j < j) (k : ∀ M, mkI M v p 0 kd fs sn at' → Q (some (.long M)) σ) :
    ∀ t M, t ≤ v + 1 → mkI M v p t kd fs sn at' → WA X M_X2_neededFor σ 7 [(5, .int (nI t + (-1))), (3, .long M), (0, .ref sl), (1, .int (nI v)), (2, .int (nI p))] [] σ Q := by
  have h' := h
  obtain ⟨⟨g, h1, h2⟩, h3, h4, h5, h6, h7⟩ := h
  intro t
  induction t with
  | zero =>
    intro M _ hM
    refine wa_iload q_X2_neededFor_7 rfl ?_
    refine wa_if_lt q_X2_neededFor_9 (fun hx => ?_) (fun hx => absurd (by decide) hx)
    refine wa_lload_n q_X2_neededFor_91 rfl ?_
    refine wa_lret q_X2_neededFor_92 rfl ?_
    exact k M hM
  | succ t ih =>
    intro M ht hM
    rw [pk_m1]
    obtain ⟨q1, q2, q3, q4, q5, q6⟩ := h7 t (by omega)
    have e1 := h'.at (i := t) (by omega)
    have low : ∀ M', mkI M' v p t kd fs sn at' → WA X M_X2_neededFor σ 85 [(6, .ref (va t)), (5, .int (nI t)), (3, .long M'), (0, .ref sl), (1, .int (nI v)), (2, .int (nI p))] [] σ Q := by
      intro M' hM'
      refine wa_iinc q_X2_neededFor_85 rfl rfl (by decide) ?_
      refine wa_goto q_X2_neededFor_88 ?_
      exact wa_lv (ih M' (by omega) hM') rfl
    refine wa_iload q_X2_neededFor_7 rfl ?_
    refine wn_if_lt q_X2_neededFor_9 (by omega) (fun hx => ?_) (fun hx => ?_)
    · exact absurd hx id
    refine wa_aload_n q_X2_neededFor_12 rfl ?_
    refine wa_iload q_X2_neededFor_13 rfl ?_
    refine wn_aald q_X2_neededFor_15 h1 (by omega) (by decide) (by rw [h2 t (by omega), if_pos (by omega)]) ?_
    refine wa_astore q_X2_neededFor_16 (by decide) ?_
    refine wa_aload q_X2_neededFor_18 rfl ?_
    refine wa_ifnull q_X2_neededFor_20 ?_
    refine wa_lload_n q_X2_neededFor_23 rfl ?_
    refine wa_iload q_X2_neededFor_24 rfl ?_
    refine wa_callS q_X2_neededFor_26 g_X2_neededFor_26 w_X2_isMarked (av := [_, _]) rfl rfl (lk rfl) (Calls.mono (F_marked (by omega)) ?_)
    rintro _ _ ⟨rfl, rfl⟩
    cases hb : b64 M t
    · refine wn_if_ne q_X2_neededFor_29 (by decide) (fun hx => absurd hx (by decide)) (fun hx => ?_)
      refine wa_goto q_X2_neededFor_32 ?_
      refine wa_lv (low M ⟨hM.1.imp id (fun w => ⟨by omega, w.2⟩), fun j j1 j2 j3 => ?_⟩) rfl
      have hjt : j ≠ t := fun e => by rw [e, hb] at j3; cases j3
      obtain ⟨w1, w2⟩ := hM.2 j (by omega) j2 j3
      exact ⟨w1, fun w => ⟨(w2 w).1.imp id (fun y => ⟨by omega, y.2⟩), (w2 w).2.imp id (fun y => ⟨by omega, y.2⟩)⟩⟩
    · refine wn_if_ne q_X2_neededFor_29 (by decide) (fun hx => ?_) (fun hx => absurd hx (by decide))
      refine wa_aload q_X2_neededFor_35 rfl ?_
      refine wa_getf q_X2_neededFor_37 f_RX2_65 (by assumption) rfl ?_
      refine wa_iload_n q_X2_neededFor_40 rfl ?_
      refine wn_icmp_ne q_X2_neededFor_41 (by omega) (by omega) (fun hx => ?_) (fun hx => ?_)
      · refine wa_aload q_X2_neededFor_58 rfl ?_
        refine wa_getf q_X2_neededFor_60 f_RX2_68 (by assumption) rfl ?_
        refine wa_iconst q_X2_neededFor_63 (v := nI 5) (by decide) ?_
        refine wn_icmp_lt q_X2_neededFor_64 (by omega) (by decide) (fun hy => ?_) (fun hy => ?_)
        · refine wa_lv (low M ⟨hM.1.imp id (fun w => ⟨by omega, w.2⟩), fun j j1 j2 j3 => ?_⟩) rfl
          by_cases hjt : j = t
          · subst hjt
            exact ⟨hx, fun w => by omega⟩
          · obtain ⟨w1, w2⟩ := hM.2 j (by omega) j2 j3
            exact ⟨w1, fun w => ⟨(w2 w).1.imp id (fun y => ⟨by omega, y.2⟩), (w2 w).2.imp id (fun y => ⟨by omega, y.2⟩)⟩⟩
        · obtain ⟨c1, c2⟩ := hpt t (by omega) hy
          refine wa_lload_n q_X2_neededFor_67 rfl ?_
          refine wa_lconst q_X2_neededFor_68 (v := lN 1) (by decide) ?_
          refine wa_aload q_X2_neededFor_69 rfl ?_
          refine wa_getf q_X2_neededFor_71 f_RX2_52 (by assumption) rfl ?_
          refine wa_lshl q_X2_neededFor_74 rfl ?_
          refine wa_lconst q_X2_neededFor_75 (v := lN 1) (by decide) ?_
          refine wa_aload q_X2_neededFor_76 rfl ?_
          refine wa_getf q_X2_neededFor_78 f_RX2_62 (by assumption) rfl ?_
          refine wa_lshl q_X2_neededFor_81 rfl ?_
          refine wa_lor q_X2_neededFor_82 ?_
          refine wa_lor q_X2_neededFor_83 ?_
          refine wa_lstore_n q_X2_neededFor_84 (by decide) ?_
          have hbt : ∀ j, j < 64 → b64 (M ||| (((lN 1) <<< ((nI (fs t)).toInt64 &&& 63)) ||| ((lN 1) <<< ((nI (sn t)).toInt64 &&& 63)))) j = (b64 M j || (decide (fs t = j) || decide (sn t = j))) := fun j hj => by rw [b64_or, b64_or, b64_pow (by omega) hj, b64_pow (by omega) hj]
          refine wa_lv (low _ ⟨?_, fun j j1 j2 j3 => ?_⟩) rfl
          · rcases hM.1 with w | w
            · left; rw [hbt v (by omega), w]; rfl
            · right; exact ⟨by omega, w.2⟩
          · rw [hbt j (by omega)] at j3
            have hjn : (decide (fs t = j) || decide (sn t = j)) = false := by simp; omega
            rw [hjn, Bool.or_false] at j3
            by_cases hjt : j = t
            · subst hjt
              refine ⟨hx, fun w => ⟨Or.inl ?_, Or.inl ?_⟩⟩
              · rw [hbt _ (by omega)]; simp
              · rw [hbt _ (by omega)]; simp
            · obtain ⟨w1, w2⟩ := hM.2 j (by omega) j2 j3
              have hj5 := h7 j (by omega)
              refine ⟨w1, fun w => ⟨?_, ?_⟩⟩
              · have c := hpt j (by omega) w
                rcases (w2 w).1 with y | y
                · left; rw [hbt _ (by omega), y]; rfl
                · right; exact ⟨by omega, y.2⟩
              · have c := hpt j (by omega) w
                rcases (w2 w).2 with y | y
                · left; rw [hbt _ (by omega), y]; rfl
                · right; exact ⟨by omega, y.2⟩
      · refine wa_lload_n q_X2_neededFor_44 rfl ?_
        refine wa_lconst q_X2_neededFor_45 (v := lN 1) (by decide) ?_
        refine wa_iload q_X2_neededFor_46 rfl ?_
        refine wa_lshl q_X2_neededFor_48 rfl ?_
        refine wa_ldc2 q_X2_neededFor_49 k_RX2_117 ?_
        refine wa_lxor q_X2_neededFor_52 ?_
        refine wa_land q_X2_neededFor_53 ?_
        refine wa_lstore_n q_X2_neededFor_54 (by decide) ?_
        refine wa_goto q_X2_neededFor_55 ?_
        have hbt : ∀ j, j < 64 → b64 (M &&& (((lN 1) <<< ((nI t).toInt64 &&& 63)) ^^^ (-1))) j = (b64 M j && !(decide (t = j))) := fun j hj => by rw [b64_and, b64_not hj, b64_pow (by omega) hj]
        refine wa_lv (low _ ⟨?_, fun j j1 j2 j3 => ?_⟩) rfl
        · by_cases e : t = v
          · right; exact ⟨by omega, by rw [← e]; exact hx⟩
          · rcases hM.1 with w | w
            · left; rw [hbt v (by omega), w]; simp [e]
            · right; exact ⟨by omega, w.2⟩
        · rw [hbt j (by omega)] at j3
          have hjt : j ≠ t := fun e => by rw [e] at j3; simp at j3
          have j3 : b64 M j = true := by
            cases hq : b64 M j
            · rw [hq] at j3; cases j3
            · rfl
          obtain ⟨w1, w2⟩ := hM.2 j (by omega) j2 j3
          have sub : ∀ c, c < 64 → (b64 M c = true ∨ t + 1 ≤ c ∧ at' c = p) → b64 (M &&& (((lN 1) <<< ((nI t).toInt64 &&& 63)) ^^^ (-1))) c = true ∨ t ≤ c ∧ at' c = p := by
            intro c hc w
            by_cases e : t = c
            · right; exact ⟨by omega, by rw [← e]; exact hx⟩
            · rcases w with y | y
              · left; rw [hbt c hc, y]; simp [e]
              · right; exact ⟨by omega, y.2⟩
          exact ⟨w1, fun w => ⟨sub _ (by have := hpt j (by omega) w; omega) (w2 w).1, sub _ (by have := hpt j (by omega) w; omega) (w2 w).2⟩⟩
theorem F_need {v p : Nat} (h : vW X σ z sl va mk kd fs sn at' op fa A B) (hv : v < mk) (hp : p ≤ 480) (hpt : ∀ j, j ≤ v → 5 ≤ kd j → fs j < j ∧ sn j < j) :
    Calls X M_X2_neededFor [.ref sl, .int (nI v), .int (nI p)] σ (fun res τ => (∃ M, res = some (.long M) ∧ mkI M v p 0 kd fs sn at') ∧ τ = σ) := by
  have hmk := h.2.2.2.2.1
  refine Calls.of rfl (lk rfl) ?_
  refine wa_lconst q_X2_neededFor_0 (v := lN 1) (by decide) ?_
  refine wa_iload_n q_X2_neededFor_1 rfl ?_
  refine wa_lshl q_X2_neededFor_2 rfl ?_
  refine wa_lstore_n q_X2_neededFor_3 (by decide) ?_
  refine wa_iload_n q_X2_neededFor_4 rfl ?_
  refine wa_istore q_X2_neededFor_5 (by decide) ?_
  refine wa_lv (F_need_loop h hv hp hpt (fun M hM => ⟨⟨M, rfl, hM⟩, rfl⟩) (v + 1) ((lN 1) <<< ((nI v).toInt64 &&& 63)) (Nat.le_refl _) ⟨Or.inl (by rw [b64_pow (by omega) (by omega)]; simp), fun j j1 j2 => by omega⟩) ?_
  rw [pk_m1]; rfl
end vals2
end
