-- ===== PART A: goes FIRST, ahead of the names: the tables' words, and 'selects' of the private methods out of them =====
/-- a private method of a class that the tables say can be made, by its rows of tables_1 -/
def lw_okq (q : MethodName × Nat) : Prop := (q.1.cls ≠ "java/lang/invoke/MethodHandle" ∧ q.1.cls ≠ "java/lang/invoke/VarHandle") ∧ Cond.instantiable q.1.cls q.2 ∈ tables_1 ∧ Cond.privateMethod q.1 ∈ tables_1 ∧ Cond.instanceMethod q.1 ∈ tables_1
theorem lw_p0 : lw_okq (⟨"OneADay$Reader", "skipBlanks", "()V"⟩, 5) := ⟨⟨by decide +kernel, by decide +kernel⟩, List.mem_of_getElem? (i := 23) (by decide +kernel), List.mem_of_getElem? (i := 341) (by decide +kernel), List.mem_of_getElem? (i := 342) (by decide +kernel)⟩
theorem lw_p1 : lw_okq (⟨"OneADay$Reader", "letterHere", "()C"⟩, 5) := ⟨⟨by decide +kernel, by decide +kernel⟩, List.mem_of_getElem? (i := 23) (by decide +kernel), List.mem_of_getElem? (i := 345) (by decide +kernel), List.mem_of_getElem? (i := 346) (by decide +kernel)⟩
theorem lw_p2 : lw_okq (⟨"OneADay$Reader", "readClause", "(LOneADay$Rock;)V"⟩, 5) := ⟨⟨by decide +kernel, by decide +kernel⟩, List.mem_of_getElem? (i := 23) (by decide +kernel), List.mem_of_getElem? (i := 349) (by decide +kernel), List.mem_of_getElem? (i := 350) (by decide +kernel)⟩
theorem lw_p3 : lw_okq (⟨"OneADay$Reader", "blame", "(II)V"⟩, 5) := ⟨⟨by decide +kernel, by decide +kernel⟩, List.mem_of_getElem? (i := 23) (by decide +kernel), List.mem_of_getElem? (i := 356) (by decide +kernel), List.mem_of_getElem? (i := 357) (by decide +kernel)⟩
theorem lw_p4 : lw_okq (⟨"OneADay$Reader", "readHermit", "(LOneADay$Rock;)V"⟩, 5) := ⟨⟨by decide +kernel, by decide +kernel⟩, List.mem_of_getElem? (i := 23) (by decide +kernel), List.mem_of_getElem? (i := 363) (by decide +kernel), List.mem_of_getElem? (i := 364) (by decide +kernel)⟩
theorem lw_p5 : lw_okq (⟨"OneADay$Reader", "readNumber", "(II)I"⟩, 5) := ⟨⟨by decide +kernel, by decide +kernel⟩, List.mem_of_getElem? (i := 23) (by decide +kernel), List.mem_of_getElem? (i := 367) (by decide +kernel), List.mem_of_getElem? (i := 368) (by decide +kernel)⟩
theorem lw_p6 : lw_okq (⟨"OneADay$Reader", "readVillage", "(LOneADay$Rock;)V"⟩, 5) := ⟨⟨by decide +kernel, by decide +kernel⟩, List.mem_of_getElem? (i := 23) (by decide +kernel), List.mem_of_getElem? (i := 374) (by decide +kernel), List.mem_of_getElem? (i := 375) (by decide +kernel)⟩
theorem lw_p7 : lw_okq (⟨"OneADay$Reader", "readMarkedDay", "([J)I"⟩, 5) := ⟨⟨by decide +kernel, by decide +kernel⟩, List.mem_of_getElem? (i := 23) (by decide +kernel), List.mem_of_getElem? (i := 378) (by decide +kernel), List.mem_of_getElem? (i := 379) (by decide +kernel)⟩
theorem lw_p8 : lw_okq (⟨"OneADay$Reader", "readEnd", "()V"⟩, 5) := ⟨⟨by decide +kernel, by decide +kernel⟩, List.mem_of_getElem? (i := 23) (by decide +kernel), List.mem_of_getElem? (i := 388) (by decide +kernel), List.mem_of_getElem? (i := 389) (by decide +kernel)⟩
theorem lw_p9 : lw_okq (⟨"OneADay", "refusalOfDays", "(I)I"⟩, 16) := ⟨⟨by decide +kernel, by decide +kernel⟩, List.mem_of_getElem? (i := 15) (by decide +kernel), List.mem_of_getElem? (i := 470) (by decide +kernel), List.mem_of_getElem? (i := 471) (by decide +kernel)⟩
theorem lw_p10 : lw_okq (⟨"OneADay$Days", "firstThroughInn", "(II)I"⟩, 14) := ⟨⟨by decide +kernel, by decide +kernel⟩, List.mem_of_getElem? (i := 126) (by decide +kernel), List.mem_of_getElem? (i := 496) (by decide +kernel), List.mem_of_getElem? (i := 497) (by decide +kernel)⟩
theorem lw_p11 : lw_okq (⟨"OneADay$Days", "close", "(II)V"⟩, 14) := ⟨⟨by decide +kernel, by decide +kernel⟩, List.mem_of_getElem? (i := 126) (by decide +kernel), List.mem_of_getElem? (i := 500) (by decide +kernel), List.mem_of_getElem? (i := 501) (by decide +kernel)⟩
theorem lw_p12 : lw_okq (⟨"OneADay", "shiftByDraws", "()V"⟩, 16) := ⟨⟨by decide +kernel, by decide +kernel⟩, List.mem_of_getElem? (i := 15) (by decide +kernel), List.mem_of_getElem? (i := 524) (by decide +kernel), List.mem_of_getElem? (i := 525) (by decide +kernel)⟩
theorem lw_p13 : lw_okq (⟨"OneADay", "draw", "(I)I"⟩, 16) := ⟨⟨by decide +kernel, by decide +kernel⟩, List.mem_of_getElem? (i := 15) (by decide +kernel), List.mem_of_getElem? (i := 528) (by decide +kernel), List.mem_of_getElem? (i := 529) (by decide +kernel)⟩
theorem lw_p14 : lw_okq (⟨"OneADay", "isPeaceful", "(II)Z"⟩, 16) := ⟨⟨by decide +kernel, by decide +kernel⟩, List.mem_of_getElem? (i := 15) (by decide +kernel), List.mem_of_getElem? (i := 586) (by decide +kernel), List.mem_of_getElem? (i := 587) (by decide +kernel)⟩
theorem lw_p15 : lw_okq (⟨"OneADay", "isLargeEnough", "(II)Z"⟩, 16) := ⟨⟨by decide +kernel, by decide +kernel⟩, List.mem_of_getElem? (i := 15) (by decide +kernel), List.mem_of_getElem? (i := 599) (by decide +kernel), List.mem_of_getElem? (i := 600) (by decide +kernel)⟩
def lw_privs_1 : List (MethodName × Nat) := [(⟨"OneADay$Reader", "skipBlanks", "()V"⟩, 5), (⟨"OneADay$Reader", "letterHere", "()C"⟩, 5), (⟨"OneADay$Reader", "readClause", "(LOneADay$Rock;)V"⟩, 5), (⟨"OneADay$Reader", "blame", "(II)V"⟩, 5), (⟨"OneADay$Reader", "readHermit", "(LOneADay$Rock;)V"⟩, 5), (⟨"OneADay$Reader", "readNumber", "(II)I"⟩, 5), (⟨"OneADay$Reader", "readVillage", "(LOneADay$Rock;)V"⟩, 5), (⟨"OneADay$Reader", "readMarkedDay", "([J)I"⟩, 5), (⟨"OneADay$Reader", "readEnd", "()V"⟩, 5), (⟨"OneADay", "refusalOfDays", "(I)I"⟩, 16), (⟨"OneADay$Days", "firstThroughInn", "(II)I"⟩, 14), (⟨"OneADay$Days", "close", "(II)V"⟩, 14), (⟨"OneADay", "shiftByDraws", "()V"⟩, 16), (⟨"OneADay", "draw", "(I)I"⟩, 16), (⟨"OneADay", "isPeaceful", "(II)Z"⟩, 16), (⟨"OneADay", "isLargeEnough", "(II)Z"⟩, 16)]
theorem lw_r1 : ∀ q ∈ lw_privs_1, lw_okq q := List.forall_mem_cons.mpr ⟨lw_p0, List.forall_mem_cons.mpr ⟨lw_p1, List.forall_mem_cons.mpr ⟨lw_p2, List.forall_mem_cons.mpr ⟨lw_p3, List.forall_mem_cons.mpr ⟨lw_p4, List.forall_mem_cons.mpr ⟨lw_p5, List.forall_mem_cons.mpr ⟨lw_p6, List.forall_mem_cons.mpr ⟨lw_p7, List.forall_mem_cons.mpr ⟨lw_p8, List.forall_mem_cons.mpr ⟨lw_p9, List.forall_mem_cons.mpr ⟨lw_p10, List.forall_mem_cons.mpr ⟨lw_p11, List.forall_mem_cons.mpr ⟨lw_p12, List.forall_mem_cons.mpr ⟨lw_p13, List.forall_mem_cons.mpr ⟨lw_p14, List.forall_mem_cons.mpr ⟨lw_p15, fun _ h => absurd h List.not_mem_nil⟩⟩⟩⟩⟩⟩⟩⟩⟩⟩⟩⟩⟩⟩⟩⟩
theorem lw_p16 : lw_okq (⟨"OneADay$Plan", "choose", "(LOneADay$Rock;I)I"⟩, 4) := ⟨⟨by decide +kernel, by decide +kernel⟩, List.mem_of_getElem? (i := 248) (by decide +kernel), List.mem_of_getElem? (i := 616) (by decide +kernel), List.mem_of_getElem? (i := 617) (by decide +kernel)⟩
theorem lw_p17 : lw_okq (⟨"OneADay$Plan", "freeOn", "(LOneADay$Rock;I)I"⟩, 4) := ⟨⟨by decide +kernel, by decide +kernel⟩, List.mem_of_getElem? (i := 248) (by decide +kernel), List.mem_of_getElem? (i := 620) (by decide +kernel), List.mem_of_getElem? (i := 621) (by decide +kernel)⟩
theorem lw_p18 : lw_okq (⟨"OneADay$Plan", "leastFrom", "(LOneADay$Rock;I)I"⟩, 4) := ⟨⟨by decide +kernel, by decide +kernel⟩, List.mem_of_getElem? (i := 248) (by decide +kernel), List.mem_of_getElem? (i := 627) (by decide +kernel), List.mem_of_getElem? (i := 628) (by decide +kernel)⟩
theorem lw_p19 : lw_okq (⟨"OneADay$Plan", "leastWith", "(LOneADay$Rock;II)I"⟩, 4) := ⟨⟨by decide +kernel, by decide +kernel⟩, List.mem_of_getElem? (i := 248) (by decide +kernel), List.mem_of_getElem? (i := 634) (by decide +kernel), List.mem_of_getElem? (i := 635) (by decide +kernel)⟩
theorem lw_p20 : lw_okq (⟨"OneADay$Notes", "fits", "(LOneADay$Rock;LOneADay$Days;II)Z"⟩, 6) := ⟨⟨by decide +kernel, by decide +kernel⟩, List.mem_of_getElem? (i := 210) (by decide +kernel), List.mem_of_getElem? (i := 660) (by decide +kernel), List.mem_of_getElem? (i := 661) (by decide +kernel)⟩
theorem lw_p21 : lw_okq (⟨"OneADay", "dayToLookAt", "(II)I"⟩, 16) := ⟨⟨by decide +kernel, by decide +kernel⟩, List.mem_of_getElem? (i := 15) (by decide +kernel), List.mem_of_getElem? (i := 668) (by decide +kernel), List.mem_of_getElem? (i := 669) (by decide +kernel)⟩
theorem lw_p22 : lw_okq (⟨"OneADayModel", "here", "()I"⟩, 45) := ⟨⟨by decide +kernel, by decide +kernel⟩, List.mem_of_getElem? (i := 709) (by decide +kernel), List.mem_of_getElem? (i := 867) (by decide +kernel), List.mem_of_getElem? (i := 868) (by decide +kernel)⟩
theorem lw_p23 : lw_okq (⟨"OneADayModel", "takeClause", "()I"⟩, 45) := ⟨⟨by decide +kernel, by decide +kernel⟩, List.mem_of_getElem? (i := 709) (by decide +kernel), List.mem_of_getElem? (i := 871) (by decide +kernel), List.mem_of_getElem? (i := 872) (by decide +kernel)⟩
theorem lw_p24 : lw_okq (⟨"OneADayModel", "fails", "(II)I"⟩, 45) := ⟨⟨by decide +kernel, by decide +kernel⟩, List.mem_of_getElem? (i := 709) (by decide +kernel), List.mem_of_getElem? (i := 875) (by decide +kernel), List.mem_of_getElem? (i := 876) (by decide +kernel)⟩
theorem lw_p25 : lw_okq (⟨"OneADayModel", "takeHermit", "()I"⟩, 45) := ⟨⟨by decide +kernel, by decide +kernel⟩, List.mem_of_getElem? (i := 709) (by decide +kernel), List.mem_of_getElem? (i := 879) (by decide +kernel), List.mem_of_getElem? (i := 880) (by decide +kernel)⟩
theorem lw_p26 : lw_okq (⟨"OneADayModel", "into", "([IIII)I"⟩, 45) := ⟨⟨by decide +kernel, by decide +kernel⟩, List.mem_of_getElem? (i := 709) (by decide +kernel), List.mem_of_getElem? (i := 883) (by decide +kernel), List.mem_of_getElem? (i := 884) (by decide +kernel)⟩
theorem lw_p27 : lw_okq (⟨"OneADayModel", "takeNumber", "(II)I"⟩, 45) := ⟨⟨by decide +kernel, by decide +kernel⟩, List.mem_of_getElem? (i := 709) (by decide +kernel), List.mem_of_getElem? (i := 887) (by decide +kernel), List.mem_of_getElem? (i := 888) (by decide +kernel)⟩
theorem lw_p28 : lw_okq (⟨"OneADayModel", "takeVillage", "()I"⟩, 45) := ⟨⟨by decide +kernel, by decide +kernel⟩, List.mem_of_getElem? (i := 709) (by decide +kernel), List.mem_of_getElem? (i := 893) (by decide +kernel), List.mem_of_getElem? (i := 894) (by decide +kernel)⟩
theorem lw_p29 : lw_okq (⟨"OneADayModel", "takeDay", "([II)I"⟩, 45) := ⟨⟨by decide +kernel, by decide +kernel⟩, List.mem_of_getElem? (i := 709) (by decide +kernel), List.mem_of_getElem? (i := 897) (by decide +kernel), List.mem_of_getElem? (i := 898) (by decide +kernel)⟩
theorem lw_p30 : lw_okq (⟨"OneADayModel", "takeRead", "()V"⟩, 45) := ⟨⟨by decide +kernel, by decide +kernel⟩, List.mem_of_getElem? (i := 709) (by decide +kernel), List.mem_of_getElem? (i := 901) (by decide +kernel), List.mem_of_getElem? (i := 902) (by decide +kernel)⟩
theorem lw_p31 : lw_okq (⟨"OneADayModel", "isVillage", "(I)Z"⟩, 45) := ⟨⟨by decide +kernel, by decide +kernel⟩, List.mem_of_getElem? (i := 709) (by decide +kernel), List.mem_of_getElem? (i := 917) (by decide +kernel), List.mem_of_getElem? (i := 918) (by decide +kernel)⟩
def lw_privs_2 : List (MethodName × Nat) := [(⟨"OneADay$Plan", "choose", "(LOneADay$Rock;I)I"⟩, 4), (⟨"OneADay$Plan", "freeOn", "(LOneADay$Rock;I)I"⟩, 4), (⟨"OneADay$Plan", "leastFrom", "(LOneADay$Rock;I)I"⟩, 4), (⟨"OneADay$Plan", "leastWith", "(LOneADay$Rock;II)I"⟩, 4), (⟨"OneADay$Notes", "fits", "(LOneADay$Rock;LOneADay$Days;II)Z"⟩, 6), (⟨"OneADay", "dayToLookAt", "(II)I"⟩, 16), (⟨"OneADayModel", "here", "()I"⟩, 45), (⟨"OneADayModel", "takeClause", "()I"⟩, 45), (⟨"OneADayModel", "fails", "(II)I"⟩, 45), (⟨"OneADayModel", "takeHermit", "()I"⟩, 45), (⟨"OneADayModel", "into", "([IIII)I"⟩, 45), (⟨"OneADayModel", "takeNumber", "(II)I"⟩, 45), (⟨"OneADayModel", "takeVillage", "()I"⟩, 45), (⟨"OneADayModel", "takeDay", "([II)I"⟩, 45), (⟨"OneADayModel", "takeRead", "()V"⟩, 45), (⟨"OneADayModel", "isVillage", "(I)Z"⟩, 45)]
theorem lw_r2 : ∀ q ∈ lw_privs_2, lw_okq q := List.forall_mem_cons.mpr ⟨lw_p16, List.forall_mem_cons.mpr ⟨lw_p17, List.forall_mem_cons.mpr ⟨lw_p18, List.forall_mem_cons.mpr ⟨lw_p19, List.forall_mem_cons.mpr ⟨lw_p20, List.forall_mem_cons.mpr ⟨lw_p21, List.forall_mem_cons.mpr ⟨lw_p22, List.forall_mem_cons.mpr ⟨lw_p23, List.forall_mem_cons.mpr ⟨lw_p24, List.forall_mem_cons.mpr ⟨lw_p25, List.forall_mem_cons.mpr ⟨lw_p26, List.forall_mem_cons.mpr ⟨lw_p27, List.forall_mem_cons.mpr ⟨lw_p28, List.forall_mem_cons.mpr ⟨lw_p29, List.forall_mem_cons.mpr ⟨lw_p30, List.forall_mem_cons.mpr ⟨lw_p31, fun _ h => absurd h List.not_mem_nil⟩⟩⟩⟩⟩⟩⟩⟩⟩⟩⟩⟩⟩⟩⟩⟩
theorem lw_p32 : lw_okq (⟨"OneADayModel", "comers", "(I)I"⟩, 45) := ⟨⟨by decide +kernel, by decide +kernel⟩, List.mem_of_getElem? (i := 709) (by decide +kernel), List.mem_of_getElem? (i := 927) (by decide +kernel), List.mem_of_getElem? (i := 928) (by decide +kernel)⟩
theorem lw_p33 : lw_okq (⟨"OneADayModel", "goers", "(I)I"⟩, 45) := ⟨⟨by decide +kernel, by decide +kernel⟩, List.mem_of_getElem? (i := 709) (by decide +kernel), List.mem_of_getElem? (i := 931) (by decide +kernel), List.mem_of_getElem? (i := 932) (by decide +kernel)⟩
theorem lw_p34 : lw_okq (⟨"OneADayModel", "goesBy", "(III)Z"⟩, 45) := ⟨⟨by decide +kernel, by decide +kernel⟩, List.mem_of_getElem? (i := 709) (by decide +kernel), List.mem_of_getElem? (i := 938) (by decide +kernel), List.mem_of_getElem? (i := 939) (by decide +kernel)⟩
theorem lw_p35 : lw_okq (⟨"OneADayModel", "isFeast", "(I)Z"⟩, 45) := ⟨⟨by decide +kernel, by decide +kernel⟩, List.mem_of_getElem? (i := 709) (by decide +kernel), List.mem_of_getElem? (i := 942) (by decide +kernel), List.mem_of_getElem? (i := 943) (by decide +kernel)⟩
theorem lw_p36 : lw_okq (⟨"OneADayModel", "isFog", "(I)Z"⟩, 45) := ⟨⟨by decide +kernel, by decide +kernel⟩, List.mem_of_getElem? (i := 709) (by decide +kernel), List.mem_of_getElem? (i := 946) (by decide +kernel), List.mem_of_getElem? (i := 947) (by decide +kernel)⟩
theorem lw_p37 : lw_okq (⟨"OneADayModel", "daysRefused", "(I)I"⟩, 45) := ⟨⟨by decide +kernel, by decide +kernel⟩, List.mem_of_getElem? (i := 709) (by decide +kernel), List.mem_of_getElem? (i := 958) (by decide +kernel), List.mem_of_getElem? (i := 959) (by decide +kernel)⟩
theorem lw_p38 : lw_okq (⟨"OneADayModel", "remember", "()V"⟩, 45) := ⟨⟨by decide +kernel, by decide +kernel⟩, List.mem_of_getElem? (i := 709) (by decide +kernel), List.mem_of_getElem? (i := 964) (by decide +kernel), List.mem_of_getElem? (i := 965) (by decide +kernel)⟩
theorem lw_p39 : lw_okq (⟨"OneADayModel", "pass", "(I)V"⟩, 45) := ⟨⟨by decide +kernel, by decide +kernel⟩, List.mem_of_getElem? (i := 709) (by decide +kernel), List.mem_of_getElem? (i := 968) (by decide +kernel), List.mem_of_getElem? (i := 969) (by decide +kernel)⟩
theorem lw_p40 : lw_okq (⟨"OneADayModel", "fromRow", "(II)I"⟩, 45) := ⟨⟨by decide +kernel, by decide +kernel⟩, List.mem_of_getElem? (i := 709) (by decide +kernel), List.mem_of_getElem? (i := 972) (by decide +kernel), List.mem_of_getElem? (i := 973) (by decide +kernel)⟩
theorem lw_p41 : lw_okq (⟨"OneADayModel", "least", "(I)I"⟩, 45) := ⟨⟨by decide +kernel, by decide +kernel⟩, List.mem_of_getElem? (i := 709) (by decide +kernel), List.mem_of_getElem? (i := 979) (by decide +kernel), List.mem_of_getElem? (i := 980) (by decide +kernel)⟩
theorem lw_p42 : lw_okq (⟨"OneADayModel", "draw", "(I)I"⟩, 45) := ⟨⟨by decide +kernel, by decide +kernel⟩, List.mem_of_getElem? (i := 709) (by decide +kernel), List.mem_of_getElem? (i := 992) (by decide +kernel), List.mem_of_getElem? (i := 993) (by decide +kernel)⟩
theorem lw_p43 : lw_okq (⟨"OneADayModel", "save", "()V"⟩, 45) := ⟨⟨by decide +kernel, by decide +kernel⟩, List.mem_of_getElem? (i := 709) (by decide +kernel), List.mem_of_getElem? (i := 1008) (by decide +kernel), List.mem_of_getElem? (i := 1009) (by decide +kernel)⟩
theorem lw_p44 : lw_okq (⟨"OneADayModel", "putBack", "()V"⟩, 45) := ⟨⟨by decide +kernel, by decide +kernel⟩, List.mem_of_getElem? (i := 709) (by decide +kernel), List.mem_of_getElem? (i := 1012) (by decide +kernel), List.mem_of_getElem? (i := 1013) (by decide +kernel)⟩
theorem lw_p45 : lw_okq (⟨"OneADayModel", "findCertain", "(I)Z"⟩, 45) := ⟨⟨by decide +kernel, by decide +kernel⟩, List.mem_of_getElem? (i := 709) (by decide +kernel), List.mem_of_getElem? (i := 1025) (by decide +kernel), List.mem_of_getElem? (i := 1026) (by decide +kernel)⟩
theorem lw_p46 : lw_okq (⟨"OneADayModel", "next", "(II)I"⟩, 45) := ⟨⟨by decide +kernel, by decide +kernel⟩, List.mem_of_getElem? (i := 709) (by decide +kernel), List.mem_of_getElem? (i := 1029) (by decide +kernel), List.mem_of_getElem? (i := 1030) (by decide +kernel)⟩
theorem lw_p47 : lw_okq (⟨"OneADayModel", "before", "(II)I"⟩, 45) := ⟨⟨by decide +kernel, by decide +kernel⟩, List.mem_of_getElem? (i := 709) (by decide +kernel), List.mem_of_getElem? (i := 1033) (by decide +kernel), List.mem_of_getElem? (i := 1034) (by decide +kernel)⟩
def lw_privs_3 : List (MethodName × Nat) := [(⟨"OneADayModel", "comers", "(I)I"⟩, 45), (⟨"OneADayModel", "goers", "(I)I"⟩, 45), (⟨"OneADayModel", "goesBy", "(III)Z"⟩, 45), (⟨"OneADayModel", "isFeast", "(I)Z"⟩, 45), (⟨"OneADayModel", "isFog", "(I)Z"⟩, 45), (⟨"OneADayModel", "daysRefused", "(I)I"⟩, 45), (⟨"OneADayModel", "remember", "()V"⟩, 45), (⟨"OneADayModel", "pass", "(I)V"⟩, 45), (⟨"OneADayModel", "fromRow", "(II)I"⟩, 45), (⟨"OneADayModel", "least", "(I)I"⟩, 45), (⟨"OneADayModel", "draw", "(I)I"⟩, 45), (⟨"OneADayModel", "save", "()V"⟩, 45), (⟨"OneADayModel", "putBack", "()V"⟩, 45), (⟨"OneADayModel", "findCertain", "(I)Z"⟩, 45), (⟨"OneADayModel", "next", "(II)I"⟩, 45), (⟨"OneADayModel", "before", "(II)I"⟩, 45)]
theorem lw_r3 : ∀ q ∈ lw_privs_3, lw_okq q := List.forall_mem_cons.mpr ⟨lw_p32, List.forall_mem_cons.mpr ⟨lw_p33, List.forall_mem_cons.mpr ⟨lw_p34, List.forall_mem_cons.mpr ⟨lw_p35, List.forall_mem_cons.mpr ⟨lw_p36, List.forall_mem_cons.mpr ⟨lw_p37, List.forall_mem_cons.mpr ⟨lw_p38, List.forall_mem_cons.mpr ⟨lw_p39, List.forall_mem_cons.mpr ⟨lw_p40, List.forall_mem_cons.mpr ⟨lw_p41, List.forall_mem_cons.mpr ⟨lw_p42, List.forall_mem_cons.mpr ⟨lw_p43, List.forall_mem_cons.mpr ⟨lw_p44, List.forall_mem_cons.mpr ⟨lw_p45, List.forall_mem_cons.mpr ⟨lw_p46, List.forall_mem_cons.mpr ⟨lw_p47, fun _ h => absurd h List.not_mem_nil⟩⟩⟩⟩⟩⟩⟩⟩⟩⟩⟩⟩⟩⟩⟩⟩
theorem lw_p48 : lw_okq (⟨"OneADayModel", "isFree", "(II)Z"⟩, 45) := ⟨⟨by decide +kernel, by decide +kernel⟩, List.mem_of_getElem? (i := 709) (by decide +kernel), List.mem_of_getElem? (i := 1037) (by decide +kernel), List.mem_of_getElem? (i := 1038) (by decide +kernel)⟩
theorem lw_p49 : lw_okq (⟨"OneADayModel", "findFeet", "(I)V"⟩, 45) := ⟨⟨by decide +kernel, by decide +kernel⟩, List.mem_of_getElem? (i := 709) (by decide +kernel), List.mem_of_getElem? (i := 1063) (by decide +kernel), List.mem_of_getElem? (i := 1064) (by decide +kernel)⟩
theorem lw_p50 : lw_okq (⟨"OneADayModel", "findLow", "(I)V"⟩, 45) := ⟨⟨by decide +kernel, by decide +kernel⟩, List.mem_of_getElem? (i := 709) (by decide +kernel), List.mem_of_getElem? (i := 1067) (by decide +kernel), List.mem_of_getElem? (i := 1068) (by decide +kernel)⟩
theorem lw_p51 : lw_okq (⟨"OneADayModel", "mayGo", "(II)Z"⟩, 45) := ⟨⟨by decide +kernel, by decide +kernel⟩, List.mem_of_getElem? (i := 709) (by decide +kernel), List.mem_of_getElem? (i := 1072) (by decide +kernel), List.mem_of_getElem? (i := 1073) (by decide +kernel)⟩
theorem lw_p52 : lw_okq (⟨"OneADayModel", "wasChosen", "(II)Z"⟩, 45) := ⟨⟨by decide +kernel, by decide +kernel⟩, List.mem_of_getElem? (i := 709) (by decide +kernel), List.mem_of_getElem? (i := 1076) (by decide +kernel), List.mem_of_getElem? (i := 1077) (by decide +kernel)⟩
theorem lw_p53 : lw_okq (⟨"OneADayModel", "spent", "(I)I"⟩, 45) := ⟨⟨by decide +kernel, by decide +kernel⟩, List.mem_of_getElem? (i := 709) (by decide +kernel), List.mem_of_getElem? (i := 1080) (by decide +kernel), List.mem_of_getElem? (i := 1081) (by decide +kernel)⟩
theorem lw_p54 : lw_okq (⟨"OneADayModel", "latest", "(I)I"⟩, 45) := ⟨⟨by decide +kernel, by decide +kernel⟩, List.mem_of_getElem? (i := 709) (by decide +kernel), List.mem_of_getElem? (i := 1084) (by decide +kernel), List.mem_of_getElem? (i := 1085) (by decide +kernel)⟩
theorem lw_p55 : lw_okq (⟨"OneADayModel", "offsetsOf", "(I)I"⟩, 45) := ⟨⟨by decide +kernel, by decide +kernel⟩, List.mem_of_getElem? (i := 709) (by decide +kernel), List.mem_of_getElem? (i := 1101) (by decide +kernel), List.mem_of_getElem? (i := 1102) (by decide +kernel)⟩
theorem lw_p56 : lw_okq (⟨"OneADayModel", "howBy", "(III)I"⟩, 45) := ⟨⟨by decide +kernel, by decide +kernel⟩, List.mem_of_getElem? (i := 709) (by decide +kernel), List.mem_of_getElem? (i := 1105) (by decide +kernel), List.mem_of_getElem? (i := 1106) (by decide +kernel)⟩
def lw_privs_4 : List (MethodName × Nat) := [(⟨"OneADayModel", "isFree", "(II)Z"⟩, 45), (⟨"OneADayModel", "findFeet", "(I)V"⟩, 45), (⟨"OneADayModel", "findLow", "(I)V"⟩, 45), (⟨"OneADayModel", "mayGo", "(II)Z"⟩, 45), (⟨"OneADayModel", "wasChosen", "(II)Z"⟩, 45), (⟨"OneADayModel", "spent", "(I)I"⟩, 45), (⟨"OneADayModel", "latest", "(I)I"⟩, 45), (⟨"OneADayModel", "offsetsOf", "(I)I"⟩, 45), (⟨"OneADayModel", "howBy", "(III)I"⟩, 45)]
theorem lw_r4 : ∀ q ∈ lw_privs_4, lw_okq q := List.forall_mem_cons.mpr ⟨lw_p48, List.forall_mem_cons.mpr ⟨lw_p49, List.forall_mem_cons.mpr ⟨lw_p50, List.forall_mem_cons.mpr ⟨lw_p51, List.forall_mem_cons.mpr ⟨lw_p52, List.forall_mem_cons.mpr ⟨lw_p53, List.forall_mem_cons.mpr ⟨lw_p54, List.forall_mem_cons.mpr ⟨lw_p55, List.forall_mem_cons.mpr ⟨lw_p56, fun _ h => absurd h List.not_mem_nil⟩⟩⟩⟩⟩⟩⟩⟩⟩
def lw_privs : List (MethodName × Nat) := lw_privs_1 ++ (lw_privs_2 ++ (lw_privs_3 ++ (lw_privs_4)))
def lw_tbl : List Cond := k2_sels lw_privs ++ tables_1
theorem lw_privs_ok : ∀ q ∈ lw_privs, lw_okq q := by
  show ∀ q ∈ lw_privs_1 ++ (lw_privs_2 ++ (lw_privs_3 ++ (lw_privs_4))), lw_okq q
  exact List.forall_mem_append.mpr ⟨lw_r1, List.forall_mem_append.mpr ⟨lw_r2, List.forall_mem_append.mpr ⟨lw_r3, lw_r4⟩⟩⟩
def RX0 : String := "OneADay$Cover"
def TX0 : u_T := fun k => match k with
  | _ => ("OneADay$Cover", "offset", "[I", true)
def tyX0 : Nat → FieldType := fun k => match k with
  | _ => .array .int
abbrev wsX00 : List Cond := u_ws RX0 TX0 1
theorem nmX0 : ∀ a, a < 1 → ∀ b, b < 1 → a ≠ b → (TX0 a).2.1 ≠ (TX0 b).2.1 := by decide +kernel
theorem tyX0_ok : ∀ k, k < 1 → parseFieldDescriptor (TX0 k).2.2.1 = some (tyX0 k) := by decide +kernel
abbrev cX0_init : ByteArray := prog_2_method_1_code
def yX0_init : MethodName := ⟨RX0, "<init>", "()V"⟩
abbrev cX0_find : ByteArray := prog_2_method_2_code
def yX0_find : MethodName := ⟨RX0, "find", "(LOneADay$Rock;I)Z"⟩
abbrev cX0_comesOften : ByteArray := prog_2_method_3_code
def yX0_comesOften : MethodName := ⟨RX0, "comesOften", "(LOneADay$Rock;I)Z"⟩
abbrev cX0_canPassEachOther : ByteArray := prog_2_method_4_code
def yX0_canPassEachOther : MethodName := ⟨RX0, "canPassEachOther", "(LOneADay$Rock;I)Z"⟩
abbrev cX0_place : ByteArray := prog_2_method_5_code
def yX0_place : MethodName := ⟨RX0, "place", "(LOneADay$Rock;II[I)Z"⟩
abbrev cX0_meetsOneBefore : ByteArray := prog_2_method_6_code
def yX0_meetsOneBefore : MethodName := ⟨RX0, "meetsOneBefore", "(LOneADay$Rock;III[I)Z"⟩
abbrev cX0_commonDivisor : ByteArray := prog_2_method_7_code
def yX0_commonDivisor : MethodName := ⟨RX0, "commonDivisor", "(II)I"⟩
def RX1 : String := "OneADay$Days"
def TX1 : u_T := fun k => match k with
  | 0 => ("OneADay$Days", "offset", "[I", true)
  | 1 => ("OneADay$Days", "last", "[I", true)
  | 2 => ("OneADay$Days", "row", "[I", true)
  | 3 => ("OneADay$Days", "history", "[I", true)
  | 4 => ("OneADay$Days", "stays", "I", false)
  | 5 => ("OneADay$Days", "waiting", "I", false)
  | 6 => ("OneADay$Days", "days", "I", false)
  | 7 => ("OneADay$Days", "emptyRun", "I", false)
  | 8 => ("OneADay$Days", "blessings", "I", false)
  | 9 => ("OneADay$Days", "failures", "I", false)
  | 10 => ("OneADay$Days", "empties", "I", false)
  | 11 => ("OneADay$Days", "walked", "I", false)
  | 12 => ("OneADay$Days", "sentHome", "I", false)
  | _ => ("OneADay$Days", "down", "Z", false)
def tyX1 : Nat → FieldType := fun k => match k with
  | 0 => .array .int
  | 1 => .array .int
  | 2 => .array .int
  | 3 => .array .int
  | 4 => .int
  | 5 => .int
  | 6 => .int
  | 7 => .int
  | 8 => .int
  | 9 => .int
  | 10 => .int
  | 11 => .int
  | 12 => .int
  | _ => .boolean
abbrev wsX10 : List Cond := u_ws RX1 TX1 14
theorem nmX1 : ∀ a, a < 14 → ∀ b, b < 14 → a ≠ b → (TX1 a).2.1 ≠ (TX1 b).2.1 := by decide +kernel
theorem tyX1_ok : ∀ k, k < 14 → parseFieldDescriptor (TX1 k).2.2.1 = some (tyX1 k) := by decide +kernel
abbrev cX1_init : ByteArray := prog_3_method_1_code
def yX1_init : MethodName := ⟨RX1, "<init>", "()V"⟩
abbrev cX1_begin : ByteArray := prog_3_method_2_code
def yX1_begin : MethodName := ⟨RX1, "begin", "(LOneADay$Rock;)V"⟩
abbrev cX1_copy : ByteArray := prog_3_method_3_code
def yX1_copy : MethodName := ⟨RX1, "copy", "(LOneADay$Days;)V"⟩
abbrev cX1_goOnFrom : ByteArray := prog_3_method_4_code
def yX1_goOnFrom : MethodName := ⟨RX1, "goOnFrom", "(LOneADay$Days;)V"⟩
abbrev cX1_staysAway : ByteArray := prog_3_method_5_code
def yX1_staysAway : MethodName := ⟨RX1, "staysAway", "(I)Z"⟩
abbrev cX1_comersByCalendar : ByteArray := prog_3_method_6_code
def yX1_comersByCalendar : MethodName := ⟨RX1, "comersByCalendar", "(LOneADay$Rock;I)I"⟩
abbrev cX1_comers : ByteArray := prog_3_method_7_code
def yX1_comers : MethodName := ⟨RX1, "comers", "(LOneADay$Rock;I)I"⟩
abbrev cX1_outcomeWith : ByteArray := prog_3_method_8_code
def yX1_outcomeWith : MethodName := ⟨RX1, "outcomeWith", "(LOneADay$Rock;III)I"⟩
abbrev cX1_live : ByteArray := prog_3_method_9_code
def yX1_live : MethodName := ⟨RX1, "live", "(LOneADay$Rock;I)V"⟩
abbrev cX1_firstThroughInn : ByteArray := prog_3_method_10_code
def yX1_firstThroughInn : MethodName := ⟨RX1, "firstThroughInn", "(II)I"⟩
abbrev cX1_close : ByteArray := prog_3_method_11_code
def yX1_close : MethodName := ⟨RX1, "close", "(II)V"⟩
abbrev cX1_isLatest : ByteArray := prog_3_method_12_code
def yX1_isLatest : MethodName := ⟨RX1, "isLatest", "(I)Z"⟩
abbrev cX1_blessedOn : ByteArray := prog_3_method_13_code
def yX1_blessedOn : MethodName := ⟨RX1, "blessedOn", "(I)I"⟩
def RX2 : String := "OneADay$Notes"
def TX2 : u_T := fun k => match k with
  | 0 => ("OneADay$Notes", "seenDay", "[I", true)
  | 1 => ("OneADay$Notes", "seenHow", "[I", true)
  | 2 => ("OneADay$Notes", "entryDay", "[I", true)
  | 3 => ("OneADay$Notes", "entryWho", "[I", true)
  | 4 => ("OneADay$Notes", "seen", "I", false)
  | _ => ("OneADay$Notes", "entries", "I", false)
def tyX2 : Nat → FieldType := fun k => match k with
  | 0 => .array .int
  | 1 => .array .int
  | 2 => .array .int
  | 3 => .array .int
  | 4 => .int
  | _ => .int
abbrev wsX20 : List Cond := u_ws RX2 TX2 6
theorem nmX2 : ∀ a, a < 6 → ∀ b, b < 6 → a ≠ b → (TX2 a).2.1 ≠ (TX2 b).2.1 := by decide +kernel
theorem tyX2_ok : ∀ k, k < 6 → parseFieldDescriptor (TX2 k).2.2.1 = some (tyX2 k) := by decide +kernel
abbrev cX2_init : ByteArray := prog_4_method_1_code
def yX2_init : MethodName := ⟨RX2, "<init>", "()V"⟩
abbrev cX2_clear : ByteArray := prog_4_method_2_code
def yX2_clear : MethodName := ⟨RX2, "clear", "()V"⟩
abbrev cX2_addSeen : ByteArray := prog_4_method_3_code
def yX2_addSeen : MethodName := ⟨RX2, "addSeen", "(II)Z"⟩
abbrev cX2_addEntry : ByteArray := prog_4_method_4_code
def yX2_addEntry : MethodName := ⟨RX2, "addEntry", "(II)Z"⟩
abbrev cX2_fitting : ByteArray := prog_4_method_5_code
def yX2_fitting : MethodName := ⟨RX2, "fitting", "(LOneADay$Rock;LOneADay$Days;I)I"⟩
abbrev cX2_fits : ByteArray := prog_4_method_6_code
def yX2_fits : MethodName := ⟨RX2, "fits", "(LOneADay$Rock;LOneADay$Days;II)Z"⟩
abbrev cX2_firstWrong : ByteArray := prog_4_method_7_code
def yX2_firstWrong : MethodName := ⟨RX2, "firstWrong", "(LOneADay$Days;)I"⟩
def RX3 : String := "OneADay$Past"
def TX3 : u_T := fun k => match k with
  | 0 => ("OneADay$Past", "kept", "[LOneADay$Days;", true)
  | 1 => ("OneADay$Past", "next", "I", false)
  | _ => ("OneADay$Past", "count", "I", false)
def tyX3 : Nat → FieldType := fun k => match k with
  | 0 => .array (.object "OneADay$Days")
  | 1 => .int
  | _ => .int
abbrev wsX30 : List Cond := u_ws RX3 TX3 3
theorem nmX3 : ∀ a, a < 3 → ∀ b, b < 3 → a ≠ b → (TX3 a).2.1 ≠ (TX3 b).2.1 := by decide +kernel
theorem tyX3_ok : ∀ k, k < 3 → parseFieldDescriptor (TX3 k).2.2.1 = some (tyX3 k) := by decide +kernel
abbrev cX3_init : ByteArray := prog_5_method_1_code
def yX3_init : MethodName := ⟨RX3, "<init>", "()V"⟩
abbrev cX3_clear : ByteArray := prog_5_method_2_code
def yX3_clear : MethodName := ⟨RX3, "clear", "()V"⟩
abbrev cX3_push : ByteArray := prog_5_method_3_code
def yX3_push : MethodName := ⟨RX3, "push", "(LOneADay$Days;)V"⟩
abbrev cX3_pop : ByteArray := prog_5_method_4_code
def yX3_pop : MethodName := ⟨RX3, "pop", "(LOneADay$Days;)V"⟩
def RX4 : String := "OneADay$Plan"
def TX4 : u_T := fun k => match k with
  | 0 => ("OneADay$Plan", "chosen", "[I", true)
  | 1 => ("OneADay$Plan", "firstDay", "I", false)
  | 2 => ("OneADay$Plan", "length", "I", false)
  | _ => ("OneADay$Plan", "lastFog", "I", false)
def tyX4 : Nat → FieldType := fun k => match k with
  | 0 => .array .int
  | 1 => .int
  | 2 => .int
  | _ => .int
abbrev wsX40 : List Cond := u_ws RX4 TX4 4
theorem nmX4 : ∀ a, a < 4 → ∀ b, b < 4 → a ≠ b → (TX4 a).2.1 ≠ (TX4 b).2.1 := by decide +kernel
theorem tyX4_ok : ∀ k, k < 4 → parseFieldDescriptor (TX4 k).2.2.1 = some (tyX4 k) := by decide +kernel
abbrev cX4_init : ByteArray := prog_6_method_1_code
def yX4_init : MethodName := ⟨RX4, "<init>", "()V"⟩
abbrev cX4_make : ByteArray := prog_6_method_2_code
def yX4_make : MethodName := ⟨RX4, "make", "(LOneADay$Rock;II)I"⟩
abbrev cX4_choose : ByteArray := prog_6_method_3_code
def yX4_choose : MethodName := ⟨RX4, "choose", "(LOneADay$Rock;I)I"⟩
abbrev cX4_freeOn : ByteArray := prog_6_method_4_code
def yX4_freeOn : MethodName := ⟨RX4, "freeOn", "(LOneADay$Rock;I)I"⟩
abbrev cX4_leastFrom : ByteArray := prog_6_method_5_code
def yX4_leastFrom : MethodName := ⟨RX4, "leastFrom", "(LOneADay$Rock;I)I"⟩
abbrev cX4_leastWith : ByteArray := prog_6_method_6_code
def yX4_leastWith : MethodName := ⟨RX4, "leastWith", "(LOneADay$Rock;II)I"⟩
abbrev cX4_nearestOf : ByteArray := prog_6_method_7_code
def yX4_nearestOf : MethodName := ⟨RX4, "nearestOf", "(LOneADay$Rock;II)I"⟩
def RX5 : String := "OneADay$Reader"
def TX5 : u_T := fun k => match k with
  | 0 => ("OneADay$Reader", "letters", "[C", false)
  | 1 => ("OneADay$Reader", "length", "I", false)
  | 2 => ("OneADay$Reader", "fault", "I", false)
  | 3 => ("OneADay$Reader", "numberPlace", "I", false)
  | _ => ("OneADay$Reader", "place", "I", false)
def tyX5 : Nat → FieldType := fun k => match k with
  | 0 => .array .char
  | 1 => .int
  | 2 => .int
  | 3 => .int
  | _ => .int
abbrev wsX50 : List Cond := u_ws RX5 TX5 5
theorem nmX5 : ∀ a, a < 5 → ∀ b, b < 5 → a ≠ b → (TX5 a).2.1 ≠ (TX5 b).2.1 := by decide +kernel
theorem tyX5_ok : ∀ k, k < 5 → parseFieldDescriptor (TX5 k).2.2.1 = some (tyX5 k) := by decide +kernel
abbrev cX5_init : ByteArray := prog_7_method_1_code
def yX5_init : MethodName := ⟨RX5, "<init>", "()V"⟩
abbrev cX5_read : ByteArray := prog_7_method_2_code
def yX5_read : MethodName := ⟨RX5, "read", "([CILOneADay$Rock;)I"⟩
abbrev cX5_readClause : ByteArray := prog_7_method_3_code
def yX5_readClause : MethodName := ⟨RX5, "readClause", "(LOneADay$Rock;)V"⟩
abbrev cX5_isWord : ByteArray := prog_7_method_4_code
def yX5_isWord : MethodName := ⟨RX5, "isWord", "(C)Z"⟩
abbrev cX5_isTooMany : ByteArray := prog_7_method_5_code
def yX5_isTooMany : MethodName := ⟨RX5, "isTooMany", "(LOneADay$Rock;C)Z"⟩
abbrev cX5_readHermit : ByteArray := prog_7_method_6_code
def yX5_readHermit : MethodName := ⟨RX5, "readHermit", "(LOneADay$Rock;)V"⟩
abbrev cX5_readVillage : ByteArray := prog_7_method_7_code
def yX5_readVillage : MethodName := ⟨RX5, "readVillage", "(LOneADay$Rock;)V"⟩
abbrev cX5_readMarkedDay : ByteArray := prog_7_method_8_code
def yX5_readMarkedDay : MethodName := ⟨RX5, "readMarkedDay", "([J)I"⟩
abbrev cX5_readEnd : ByteArray := prog_7_method_9_code
def yX5_readEnd : MethodName := ⟨RX5, "readEnd", "()V"⟩
abbrev cX5_readNumber : ByteArray := prog_7_method_10_code
def yX5_readNumber : MethodName := ⟨RX5, "readNumber", "(II)I"⟩
abbrev cX5_isFigure : ByteArray := prog_7_method_11_code
def yX5_isFigure : MethodName := ⟨RX5, "isFigure", "(C)Z"⟩
abbrev cX5_skipBlanks : ByteArray := prog_7_method_12_code
def yX5_skipBlanks : MethodName := ⟨RX5, "skipBlanks", "()V"⟩
abbrev cX5_letterHere : ByteArray := prog_7_method_13_code
def yX5_letterHere : MethodName := ⟨RX5, "letterHere", "()C"⟩
abbrev cX5_blame : ByteArray := prog_7_method_14_code
def yX5_blame : MethodName := ⟨RX5, "blame", "(II)V"⟩
def RX6 : String := "OneADay$Rock"
def TX6 : u_T := fun k => match k with
  | 0 => ("OneADay$Rock", "hermit", "Z", false)
  | 1 => ("OneADay$Rock", "patience", "I", false)
  | 2 => ("OneADay$Rock", "year", "I", false)
  | 3 => ("OneADay$Rock", "inn", "I", false)
  | 4 => ("OneADay$Rock", "villages", "I", false)
  | 5 => ("OneADay$Rock", "feasts", "I", false)
  | 6 => ("OneADay$Rock", "fogs", "I", false)
  | 7 => ("OneADay$Rock", "road", "[I", true)
  | 8 => ("OneADay$Rock", "period", "[I", true)
  | 9 => ("OneADay$Rock", "firstOffset", "[I", true)
  | 10 => ("OneADay$Rock", "fever", "[I", true)
  | 11 => ("OneADay$Rock", "feastDays", "[J", true)
  | _ => ("OneADay$Rock", "fogDays", "[J", true)
def tyX6 : Nat → FieldType := fun k => match k with
  | 0 => .boolean
  | 1 => .int
  | 2 => .int
  | 3 => .int
  | 4 => .int
  | 5 => .int
  | 6 => .int
  | 7 => .array .int
  | 8 => .array .int
  | 9 => .array .int
  | 10 => .array .int
  | 11 => .array .long
  | _ => .array .long
abbrev wsX60 : List Cond := u_ws RX6 TX6 13
theorem nmX6 : ∀ a, a < 13 → ∀ b, b < 13 → a ≠ b → (TX6 a).2.1 ≠ (TX6 b).2.1 := by decide +kernel
theorem tyX6_ok : ∀ k, k < 13 → parseFieldDescriptor (TX6 k).2.2.1 = some (tyX6 k) := by decide +kernel
abbrev cX6_init : ByteArray := prog_8_method_1_code
def yX6_init : MethodName := ⟨RX6, "<init>", "()V"⟩
abbrev cX6_clear : ByteArray := prog_8_method_2_code
def yX6_clear : MethodName := ⟨RX6, "clear", "()V"⟩
abbrev cX6_has : ByteArray := prog_8_method_3_code
def yX6_has : MethodName := ⟨RX6, "has", "(I)Z"⟩
abbrev cX6_all : ByteArray := prog_8_method_4_code
def yX6_all : MethodName := ⟨RX6, "all", "()I"⟩
abbrev cX6_periodOf : ByteArray := prog_8_method_5_code
def yX6_periodOf : MethodName := ⟨RX6, "periodOf", "(I)I"⟩
abbrev cX6_isFog : ByteArray := prog_8_method_6_code
def yX6_isFog : MethodName := ⟨RX6, "isFog", "(I)Z"⟩
abbrev cX6_isMarked : ByteArray := prog_8_method_7_code
def yX6_isMarked : MethodName := ⟨RX6, "isMarked", "([JI)Z"⟩
abbrev cX6_mark : ByteArray := prog_8_method_8_code
def yX6_mark : MethodName := ⟨RX6, "mark", "([JI)V"⟩
abbrev cX6_brings : ByteArray := prog_8_method_9_code
def yX6_brings : MethodName := ⟨RX6, "brings", "(III)Z"⟩
abbrev cX6_feetOf : ByteArray := prog_8_method_10_code
def yX6_feetOf : MethodName := ⟨RX6, "feetOf", "(I)I"⟩
def RX7 : String := "OneADay"
def TX7 : u_T := fun k => match k with
  | 0 => ("OneADay", "text", "[C", true)
  | 1 => ("OneADay", "letters", "I", false)
  | 2 => ("OneADay", "faultPlace", "I", false)
  | 3 => ("OneADay", "reader", "LOneADay$Reader;", true)
  | 4 => ("OneADay", "ground", "LOneADay$Rock;", false)
  | 5 => ("OneADay", "draft", "LOneADay$Rock;", false)
  | 6 => ("OneADay", "now", "LOneADay$Days;", true)
  | 7 => ("OneADay", "trial", "LOneADay$Days;", true)
  | 8 => ("OneADay", "past", "LOneADay$Past;", true)
  | 9 => ("OneADay", "images", "[LOneADay$Days;", true)
  | 10 => ("OneADay", "imageSeeds", "[I", true)
  | 11 => ("OneADay", "imagesKept", "I", false)
  | 12 => ("OneADay", "drawn", "I", false)
  | 13 => ("OneADay", "notes", "LOneADay$Notes;", true)
  | 14 => ("OneADay", "cover", "LOneADay$Cover;", true)
  | _ => ("OneADay", "plan", "LOneADay$Plan;", true)
def tyX7 : Nat → FieldType := fun k => match k with
  | 0 => .array .char
  | 1 => .int
  | 2 => .int
  | 3 => .object "OneADay$Reader"
  | 4 => .object "OneADay$Rock"
  | 5 => .object "OneADay$Rock"
  | 6 => .object "OneADay$Days"
  | 7 => .object "OneADay$Days"
  | 8 => .object "OneADay$Past"
  | 9 => .array (.object "OneADay$Days")
  | 10 => .array .int
  | 11 => .int
  | 12 => .int
  | 13 => .object "OneADay$Notes"
  | 14 => .object "OneADay$Cover"
  | _ => .object "OneADay$Plan"
abbrev wsX70 : List Cond := u_ws RX7 TX7 16
theorem nmX7 : ∀ a, a < 16 → ∀ b, b < 16 → a ≠ b → (TX7 a).2.1 ≠ (TX7 b).2.1 := by decide +kernel
theorem tyX7_ok : ∀ k, k < 16 → parseFieldDescriptor (TX7 k).2.2.1 = some (tyX7 k) := by decide +kernel
abbrev cX7_init : ByteArray := prog_1_method_1_code
def yX7_init : MethodName := ⟨RX7, "<init>", "()V"⟩
abbrev cX7_feed : ByteArray := prog_1_method_2_code
def yX7_feed : MethodName := ⟨RX7, "feed", "(I)I"⟩
abbrev cX7_rock : ByteArray := prog_1_method_3_code
def yX7_rock : MethodName := ⟨RX7, "rock", "()I"⟩
abbrev cX7_fault : ByteArray := prog_1_method_4_code
def yX7_fault : MethodName := ⟨RX7, "fault", "()I"⟩
abbrev cX7_told : ByteArray := prog_1_method_5_code
def yX7_told : MethodName := ⟨RX7, "told", "(I)I"⟩
abbrev cX7_village : ByteArray := prog_1_method_6_code
def yX7_village : MethodName := ⟨RX7, "village", "(II)I"⟩
abbrev cX7_comes : ByteArray := prog_1_method_7_code
def yX7_comes : MethodName := ⟨RX7, "comes", "(I)I"⟩
abbrev cX7_blessed : ByteArray := prog_1_method_8_code
def yX7_blessed : MethodName := ⟨RX7, "blessed", "(I)I"⟩
abbrev cX7_day : ByteArray := prog_1_method_9_code
def yX7_day : MethodName := ⟨RX7, "day", "(I)I"⟩
abbrev cX7_calendar : ByteArray := prog_1_method_10_code
def yX7_calendar : MethodName := ⟨RX7, "calendar", "(II)I"⟩
abbrev cX7_drift : ByteArray := prog_1_method_11_code
def yX7_drift : MethodName := ⟨RX7, "drift", "(I)I"⟩
abbrev cX7_undo : ByteArray := prog_1_method_12_code
def yX7_undo : MethodName := ⟨RX7, "undo", "()I"⟩
abbrev cX7_whenDown : ByteArray := prog_1_method_13_code
def yX7_whenDown : MethodName := ⟨RX7, "whenDown", "()I"⟩
abbrev cX7_ahead : ByteArray := prog_1_method_14_code
def yX7_ahead : MethodName := ⟨RX7, "ahead", "(II)I"⟩
abbrev cX7_certain : ByteArray := prog_1_method_15_code
def yX7_certain : MethodName := ⟨RX7, "certain", "(II)I"⟩
abbrev cX7_away : ByteArray := prog_1_method_16_code
def yX7_away : MethodName := ⟨RX7, "away", "(I)I"⟩
abbrev cX7_smoke : ByteArray := prog_1_method_17_code
def yX7_smoke : MethodName := ⟨RX7, "smoke", "(II)I"⟩
abbrev cX7_inn : ByteArray := prog_1_method_18_code
def yX7_inn : MethodName := ⟨RX7, "inn", "(I)I"⟩
abbrev cX7_feet : ByteArray := prog_1_method_19_code
def yX7_feet : MethodName := ⟨RX7, "feet", "(II)I"⟩
abbrev cX7_odds : ByteArray := prog_1_method_20_code
def yX7_odds : MethodName := ⟨RX7, "odds", "(I)I"⟩
abbrev cX7_see : ByteArray := prog_1_method_21_code
def yX7_see : MethodName := ⟨RX7, "see", "(II)I"⟩
abbrev cX7_went : ByteArray := prog_1_method_22_code
def yX7_went : MethodName := ⟨RX7, "went", "(II)I"⟩
abbrev cX7_write : ByteArray := prog_1_method_23_code
def yX7_write : MethodName := ⟨RX7, "write", "(II)I"⟩
abbrev cX7_tear : ByteArray := prog_1_method_24_code
def yX7_tear : MethodName := ⟨RX7, "tear", "()I"⟩
abbrev cX7_judge : ByteArray := prog_1_method_25_code
def yX7_judge : MethodName := ⟨RX7, "judge", "()I"⟩
abbrev cX7_seed : ByteArray := prog_1_method_26_code
def yX7_seed : MethodName := ⟨RX7, "seed", "(I)I"⟩
abbrev cX7_keep : ByteArray := prog_1_method_27_code
def yX7_keep : MethodName := ⟨RX7, "keep", "(I)I"⟩
abbrev cX7_goBack : ByteArray := prog_1_method_28_code
def yX7_goBack : MethodName := ⟨RX7, "goBack", "(I)I"⟩
abbrev cX7_refusalOfDays : ByteArray := prog_1_method_29_code
def yX7_refusalOfDays : MethodName := ⟨RX7, "refusalOfDays", "(I)I"⟩
abbrev cX7_draw : ByteArray := prog_1_method_30_code
def yX7_draw : MethodName := ⟨RX7, "draw", "(I)I"⟩
abbrev cX7_shiftByDraws : ByteArray := prog_1_method_31_code
def yX7_shiftByDraws : MethodName := ⟨RX7, "shiftByDraws", "()V"⟩
abbrev cX7_isPeaceful : ByteArray := prog_1_method_32_code
def yX7_isPeaceful : MethodName := ⟨RX7, "isPeaceful", "(II)Z"⟩
abbrev cX7_isLargeEnough : ByteArray := prog_1_method_33_code
def yX7_isLargeEnough : MethodName := ⟨RX7, "isLargeEnough", "(II)Z"⟩
abbrev cX7_dayToLookAt : ByteArray := prog_1_method_34_code
def yX7_dayToLookAt : MethodName := ⟨RX7, "dayToLookAt", "(II)I"⟩
abbrev cX7_outcomeOf : ByteArray := prog_1_method_35_code
def yX7_outcomeOf : MethodName := ⟨RX7, "outcomeOf", "(I)I"⟩
abbrev cX7_firstOf : ByteArray := prog_1_method_36_code
def yX7_firstOf : MethodName := ⟨RX7, "firstOf", "(I)I"⟩
def RX8 : String := "OneADayModel"
def TX8 : u_T := fun k => match k with
  | 0 => ("OneADayModel", "allows", "I", false)
  | 1 => ("OneADayModel", "year", "I", false)
  | 2 => ("OneADayModel", "inn", "I", false)
  | 3 => ("OneADayModel", "villages", "I", false)
  | 4 => ("OneADayModel", "road", "[I", true)
  | 5 => ("OneADayModel", "period", "[I", true)
  | 6 => ("OneADayModel", "fever", "[I", true)
  | 7 => ("OneADayModel", "feasts", "I", false)
  | 8 => ("OneADayModel", "feast", "[I", true)
  | 9 => ("OneADayModel", "fogs", "I", false)
  | 10 => ("OneADayModel", "fog", "[I", true)
  | 11 => ("OneADayModel", "now", "[I", true)
  | 12 => ("OneADayModel", "seed", "I", false)
  | 13 => ("OneADayModel", "text", "[I", true)
  | 14 => ("OneADayModel", "texted", "I", false)
  | 15 => ("OneADayModel", "faultPlace", "I", false)
  | 16 => ("OneADayModel", "at0", "I", false)
  | 17 => ("OneADayModel", "number", "I", false)
  | 18 => ("OneADayModel", "numberAt", "I", false)
  | 19 => ("OneADayModel", "readHermit", "[I", true)
  | 20 => ("OneADayModel", "readVillages", "I", false)
  | 21 => ("OneADayModel", "readRoad", "[I", true)
  | 22 => ("OneADayModel", "readPeriod", "[I", true)
  | 23 => ("OneADayModel", "readOffset", "[I", true)
  | 24 => ("OneADayModel", "readFever", "[I", true)
  | 25 => ("OneADayModel", "readFeasts", "I", false)
  | 26 => ("OneADayModel", "readFeast", "[I", true)
  | 27 => ("OneADayModel", "readFogs", "I", false)
  | 28 => ("OneADayModel", "readFog", "[I", true)
  | 29 => ("OneADayModel", "undos", "I", false)
  | 30 => ("OneADayModel", "past", "[I", true)
  | 31 => ("OneADayModel", "was", "[I", true)
  | 32 => ("OneADayModel", "tried", "[I", true)
  | 33 => ("OneADayModel", "low", "[I", true)
  | 34 => ("OneADayModel", "chosen", "[I", true)
  | 35 => ("OneADayModel", "bestChosen", "[I", true)
  | 36 => ("OneADayModel", "leastFeet", "I", false)
  | 37 => ("OneADayModel", "seen", "I", false)
  | 38 => ("OneADayModel", "seenDay", "[I", true)
  | 39 => ("OneADayModel", "seenHow", "[I", true)
  | 40 => ("OneADayModel", "booked", "I", false)
  | 41 => ("OneADayModel", "bookDay", "[I", true)
  | 42 => ("OneADayModel", "bookWho", "[I", true)
  | 43 => ("OneADayModel", "images", "[I", true)
  | _ => ("OneADayModel", "isKept", "[Z", true)
def tyX8 : Nat → FieldType := fun k => match k with
  | 0 => .int
  | 1 => .int
  | 2 => .int
  | 3 => .int
  | 4 => .array .int
  | 5 => .array .int
  | 6 => .array .int
  | 7 => .int
  | 8 => .array .int
  | 9 => .int
  | 10 => .array .int
  | 11 => .array .int
  | 12 => .int
  | 13 => .array .int
  | 14 => .int
  | 15 => .int
  | 16 => .int
  | 17 => .int
  | 18 => .int
  | 19 => .array .int
  | 20 => .int
  | 21 => .array .int
  | 22 => .array .int
  | 23 => .array .int
  | 24 => .array .int
  | 25 => .int
  | 26 => .array .int
  | 27 => .int
  | 28 => .array .int
  | 29 => .int
  | 30 => .array .int
  | 31 => .array .int
  | 32 => .array .int
  | 33 => .array .int
  | 34 => .array .int
  | 35 => .array .int
  | 36 => .int
  | 37 => .int
  | 38 => .array .int
  | 39 => .array .int
  | 40 => .int
  | 41 => .array .int
  | 42 => .array .int
  | 43 => .array .int
  | _ => .array .boolean
abbrev wsX80 : List Cond := u_ws RX8 TX8 45
theorem nmX8 : ∀ a, a < 45 → ∀ b, b < 45 → a ≠ b → (TX8 a).2.1 ≠ (TX8 b).2.1 := by decide +kernel
theorem tyX8_ok : ∀ k, k < 45 → parseFieldDescriptor (TX8 k).2.2.1 = some (tyX8 k) := by decide +kernel
abbrev cX8_init : ByteArray := prog_10_method_1_code
def yX8_init : MethodName := ⟨RX8, "<init>", "()V"⟩
abbrev cX8_in : ByteArray := prog_10_method_3_code
def yX8_in : MethodName := ⟨RX8, "in", "(JJJ)Z"⟩
abbrev cX8_has : ByteArray := prog_10_method_4_code
def yX8_has : MethodName := ⟨RX8, "has", "(II)Z"⟩
abbrev cX8_bits : ByteArray := prog_10_method_5_code
def yX8_bits : MethodName := ⟨RX8, "bits", "(I)I"⟩
abbrev cX8_isVillage : ByteArray := prog_10_method_6_code
def yX8_isVillage : MethodName := ⟨RX8, "isVillage", "(I)Z"⟩
abbrev cX8_feed : ByteArray := prog_10_method_7_code
def yX8_feed : MethodName := ⟨RX8, "feed", "(I)I"⟩
abbrev cX8_here : ByteArray := prog_10_method_8_code
def yX8_here : MethodName := ⟨RX8, "here", "()I"⟩
abbrev cX8_fails : ByteArray := prog_10_method_9_code
def yX8_fails : MethodName := ⟨RX8, "fails", "(II)I"⟩
abbrev cX8_takeNumber : ByteArray := prog_10_method_10_code
def yX8_takeNumber : MethodName := ⟨RX8, "takeNumber", "(II)I"⟩
abbrev cX8_into : ByteArray := prog_10_method_11_code
def yX8_into : MethodName := ⟨RX8, "into", "([IIII)I"⟩
abbrev cX8_takeHermit : ByteArray := prog_10_method_12_code
def yX8_takeHermit : MethodName := ⟨RX8, "takeHermit", "()I"⟩
abbrev cX8_takeVillage : ByteArray := prog_10_method_13_code
def yX8_takeVillage : MethodName := ⟨RX8, "takeVillage", "()I"⟩
abbrev cX8_takeDay : ByteArray := prog_10_method_14_code
def yX8_takeDay : MethodName := ⟨RX8, "takeDay", "([II)I"⟩
abbrev cX8_takeClause : ByteArray := prog_10_method_15_code
def yX8_takeClause : MethodName := ⟨RX8, "takeClause", "()I"⟩
abbrev cX8_takeRead : ByteArray := prog_10_method_16_code
def yX8_takeRead : MethodName := ⟨RX8, "takeRead", "()V"⟩
abbrev cX8_rock : ByteArray := prog_10_method_17_code
def yX8_rock : MethodName := ⟨RX8, "rock", "()I"⟩
abbrev cX8_fault : ByteArray := prog_10_method_18_code
def yX8_fault : MethodName := ⟨RX8, "fault", "()I"⟩
abbrev cX8_told : ByteArray := prog_10_method_19_code
def yX8_told : MethodName := ⟨RX8, "told", "(I)I"⟩
abbrev cX8_village : ByteArray := prog_10_method_20_code
def yX8_village : MethodName := ⟨RX8, "village", "(II)I"⟩
abbrev cX8_isFeast : ByteArray := prog_10_method_21_code
def yX8_isFeast : MethodName := ⟨RX8, "isFeast", "(I)Z"⟩
abbrev cX8_isFog : ByteArray := prog_10_method_22_code
def yX8_isFog : MethodName := ⟨RX8, "isFog", "(I)Z"⟩
abbrev cX8_goesBy : ByteArray := prog_10_method_23_code
def yX8_goesBy : MethodName := ⟨RX8, "goesBy", "(III)Z"⟩
abbrev cX8_goers : ByteArray := prog_10_method_24_code
def yX8_goers : MethodName := ⟨RX8, "goers", "(I)I"⟩
abbrev cX8_comers : ByteArray := prog_10_method_25_code
def yX8_comers : MethodName := ⟨RX8, "comers", "(I)I"⟩
abbrev cX8_comes : ByteArray := prog_10_method_26_code
def yX8_comes : MethodName := ⟨RX8, "comes", "(I)I"⟩
abbrev cX8_blessed : ByteArray := prog_10_method_27_code
def yX8_blessed : MethodName := ⟨RX8, "blessed", "(I)I"⟩
abbrev cX8_least : ByteArray := prog_10_method_28_code
def yX8_least : MethodName := ⟨RX8, "least", "(I)I"⟩
abbrev cX8_fromRow : ByteArray := prog_10_method_29_code
def yX8_fromRow : MethodName := ⟨RX8, "fromRow", "(II)I"⟩
abbrev cX8_pass : ByteArray := prog_10_method_30_code
def yX8_pass : MethodName := ⟨RX8, "pass", "(I)V"⟩
abbrev cX8_remember : ByteArray := prog_10_method_31_code
def yX8_remember : MethodName := ⟨RX8, "remember", "()V"⟩
abbrev cX8_daysRefused : ByteArray := prog_10_method_32_code
def yX8_daysRefused : MethodName := ⟨RX8, "daysRefused", "(I)I"⟩
abbrev cX8_day : ByteArray := prog_10_method_33_code
def yX8_day : MethodName := ⟨RX8, "day", "(I)I"⟩
abbrev cX8_calendar : ByteArray := prog_10_method_34_code
def yX8_calendar : MethodName := ⟨RX8, "calendar", "(II)I"⟩
abbrev cX8_draw : ByteArray := prog_10_method_35_code
def yX8_draw : MethodName := ⟨RX8, "draw", "(I)I"⟩
abbrev cX8_drift : ByteArray := prog_10_method_36_code
def yX8_drift : MethodName := ⟨RX8, "drift", "(I)I"⟩
abbrev cX8_undo : ByteArray := prog_10_method_37_code
def yX8_undo : MethodName := ⟨RX8, "undo", "()I"⟩
abbrev cX8_save : ByteArray := prog_10_method_38_code
def yX8_save : MethodName := ⟨RX8, "save", "()V"⟩
abbrev cX8_putBack : ByteArray := prog_10_method_39_code
def yX8_putBack : MethodName := ⟨RX8, "putBack", "()V"⟩
abbrev cX8_whenDown : ByteArray := prog_10_method_40_code
def yX8_whenDown : MethodName := ⟨RX8, "whenDown", "()I"⟩
abbrev cX8_ahead : ByteArray := prog_10_method_41_code
def yX8_ahead : MethodName := ⟨RX8, "ahead", "(II)I"⟩
abbrev cX8_common : ByteArray := prog_10_method_42_code
def yX8_common : MethodName := ⟨RX8, "common", "(II)I"⟩
abbrev cX8_isFree : ByteArray := prog_10_method_43_code
def yX8_isFree : MethodName := ⟨RX8, "isFree", "(II)Z"⟩
abbrev cX8_next : ByteArray := prog_10_method_44_code
def yX8_next : MethodName := ⟨RX8, "next", "(II)I"⟩
abbrev cX8_before : ByteArray := prog_10_method_45_code
def yX8_before : MethodName := ⟨RX8, "before", "(II)I"⟩
abbrev cX8_findCertain : ByteArray := prog_10_method_46_code
def yX8_findCertain : MethodName := ⟨RX8, "findCertain", "(I)Z"⟩
abbrev cX8_certain : ByteArray := prog_10_method_47_code
def yX8_certain : MethodName := ⟨RX8, "certain", "(II)I"⟩
abbrev cX8_away : ByteArray := prog_10_method_48_code
def yX8_away : MethodName := ⟨RX8, "away", "(I)I"⟩
abbrev cX8_smoke : ByteArray := prog_10_method_49_code
def yX8_smoke : MethodName := ⟨RX8, "smoke", "(II)I"⟩
abbrev cX8_inn : ByteArray := prog_10_method_50_code
def yX8_inn : MethodName := ⟨RX8, "inn", "(I)I"⟩
abbrev cX8_mayGo : ByteArray := prog_10_method_51_code
def yX8_mayGo : MethodName := ⟨RX8, "mayGo", "(II)Z"⟩
abbrev cX8_findLow : ByteArray := prog_10_method_52_code
def yX8_findLow : MethodName := ⟨RX8, "findLow", "(I)V"⟩
abbrev cX8_wasChosen : ByteArray := prog_10_method_53_code
def yX8_wasChosen : MethodName := ⟨RX8, "wasChosen", "(II)Z"⟩
abbrev cX8_latest : ByteArray := prog_10_method_54_code
def yX8_latest : MethodName := ⟨RX8, "latest", "(I)I"⟩
abbrev cX8_spent : ByteArray := prog_10_method_55_code
def yX8_spent : MethodName := ⟨RX8, "spent", "(I)I"⟩
abbrev cX8_findFeet : ByteArray := prog_10_method_56_code
def yX8_findFeet : MethodName := ⟨RX8, "findFeet", "(I)V"⟩
abbrev cX8_feet : ByteArray := prog_10_method_57_code
def yX8_feet : MethodName := ⟨RX8, "feet", "(II)I"⟩
abbrev cX8_odds : ByteArray := prog_10_method_58_code
def yX8_odds : MethodName := ⟨RX8, "odds", "(I)I"⟩
abbrev cX8_see : ByteArray := prog_10_method_59_code
def yX8_see : MethodName := ⟨RX8, "see", "(II)I"⟩
abbrev cX8_howBy : ByteArray := prog_10_method_60_code
def yX8_howBy : MethodName := ⟨RX8, "howBy", "(III)I"⟩
abbrev cX8_offsetsOf : ByteArray := prog_10_method_61_code
def yX8_offsetsOf : MethodName := ⟨RX8, "offsetsOf", "(I)I"⟩
abbrev cX8_went : ByteArray := prog_10_method_62_code
def yX8_went : MethodName := ⟨RX8, "went", "(II)I"⟩
abbrev cX8_write : ByteArray := prog_10_method_63_code
def yX8_write : MethodName := ⟨RX8, "write", "(II)I"⟩
abbrev cX8_tear : ByteArray := prog_10_method_64_code
def yX8_tear : MethodName := ⟨RX8, "tear", "()I"⟩
abbrev cX8_judge : ByteArray := prog_10_method_65_code
def yX8_judge : MethodName := ⟨RX8, "judge", "()I"⟩
abbrev cX8_seed : ByteArray := prog_10_method_66_code
def yX8_seed : MethodName := ⟨RX8, "seed", "(I)I"⟩
abbrev cX8_keep : ByteArray := prog_10_method_67_code
def yX8_keep : MethodName := ⟨RX8, "keep", "(I)I"⟩
abbrev cX8_goBack : ByteArray := prog_10_method_68_code
def yX8_goBack : MethodName := ⟨RX8, "goBack", "(I)I"⟩
def RJ6 : String := "java/lang/Integer"
def TJ6 : u_T := fun k => match k with
  | _ => ("", "", "", false)
def tyJ6 : Nat → FieldType := fun k => match k with
  | _ => .int
abbrev wsJ60 : List Cond := u_ws RJ6 TJ6 0
theorem nmJ6 : ∀ a, a < 0 → ∀ b, b < 0 → a ≠ b → (TJ6 a).2.1 ≠ (TJ6 b).2.1 := by decide +kernel
theorem tyJ6_ok : ∀ k, k < 0 → parseFieldDescriptor (TJ6 k).2.2.1 = some (tyJ6 k) := by decide +kernel
abbrev cJ6_bitCount_0f7a4 : ByteArray := prog_11_method_49_code
def yJ6_bitCount_0f7a4 : MethodName := ⟨RJ6, "bitCount", "(I)I"⟩
def RJ9 : String := "java/lang/Math"
def TJ9 : u_T := fun k => match k with
  | _ => ("", "", "", false)
def tyJ9 : Nat → FieldType := fun k => match k with
  | _ => .int
abbrev wsJ90 : List Cond := u_ws RJ9 TJ9 0
theorem nmJ9 : ∀ a, a < 0 → ∀ b, b < 0 → a ≠ b → (TJ9 a).2.1 ≠ (TJ9 b).2.1 := by decide +kernel
theorem tyJ9_ok : ∀ k, k < 0 → parseFieldDescriptor (TJ9 k).2.2.1 = some (tyJ9 k) := by decide +kernel
abbrev cJ9_max_7cf53 : ByteArray := prog_12_method_65_code
def yJ9_max_7cf53 : MethodName := ⟨RJ9, "max", "(II)I"⟩
abbrev cJ9_min_7cf53 : ByteArray := prog_12_method_69_code
def yJ9_min_7cf53 : MethodName := ⟨RJ9, "min", "(II)I"⟩
def RJ10 : String := "java/lang/System"
def TJ10 : u_T := fun k => match k with
  | _ => ("", "", "", false)
def tyJ10 : Nat → FieldType := fun k => match k with
  | _ => .int
abbrev wsJ100 : List Cond := u_ws RJ10 TJ10 0
theorem nmJ10 : ∀ a, a < 0 → ∀ b, b < 0 → a ≠ b → (TJ10 a).2.1 ≠ (TJ10 b).2.1 := by decide +kernel
theorem tyJ10_ok : ∀ k, k < 0 → parseFieldDescriptor (TJ10 k).2.2.1 = some (tyJ10 k) := by decide +kernel
def RJ7 : String := "java/util/Arrays"
def TJ7 : u_T := fun k => match k with
  | _ => ("", "", "", false)
def tyJ7 : Nat → FieldType := fun k => match k with
  | _ => .int
abbrev wsJ70 : List Cond := u_ws RJ7 TJ7 0
theorem nmJ7 : ∀ a, a < 0 → ∀ b, b < 0 → a ≠ b → (TJ7 a).2.1 ≠ (TJ7 b).2.1 := by decide +kernel
theorem tyJ7_ok : ∀ k, k < 0 → parseFieldDescriptor (TJ7 k).2.2.1 = some (tyJ7 k) := by decide +kernel
abbrev cJ7_fill_d0a16 : ByteArray := prog_14_method_101_code
def yJ7_fill_d0a16 : MethodName := ⟨RJ7, "fill", "([JJ)V"⟩
abbrev cJ7_fill_53178 : ByteArray := prog_14_method_103_code
def yJ7_fill_53178 : MethodName := ⟨RJ7, "fill", "([II)V"⟩
def RL : String := "OneADayLaw"
abbrev cL_law : ByteArray := code
def yL_law : MethodName := ⟨RL, "law", "([I)Z"⟩
abbrev vwCl : List vw_C := [(RX0, TX0, 1), (RX1, TX1, 14), (RX2, TX2, 6), (RX3, TX3, 3), (RX4, TX4, 4), (RX5, TX5, 5), (RX6, TX6, 13), (RX7, TX7, 16), (RX8, TX8, 45)]
