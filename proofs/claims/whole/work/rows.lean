section
-- ===== PART A: goes FIRST, ahead of the names: the tables' words, and 'selects' of the private methods out of them =====
/-- a private method of a class that the tables say can be made, by its rows of tables_1 -/
def lw_okq (q : MethodName × Nat) : Prop := (q.1.cls ≠ "java/lang/invoke/MethodHandle" ∧ q.1.cls ≠ "java/lang/invoke/VarHandle") ∧ Cond.instantiable q.1.cls q.2 ∈ tables_1 ∧ Cond.privateMethod q.1 ∈ tables_1 ∧ Cond.instanceMethod q.1 ∈ tables_1
theorem lw_p0 : lw_okq (⟨"OneADay$Reader", "skipBlanks", "()V"⟩, 5) := ⟨⟨by decide +kernel, by decide +kernel⟩, List.mem_of_getElem? (i := 23) (by decide +kernel), List.mem_of_getElem? (i := 341) (by decide +kernel), List.mem_of_getElem? (i := 342) (by decide +kernel)⟩
theorem lw_p1 : lw_okq (⟨"OneADay$Reader", "letterHere", "()C"⟩, 5) := ⟨⟨by decide +kernel, by decide +kernel⟩, List.mem_of_getElem? (i := 23) (by decide +kernel), List.mem_of_getElem? (i := 345) (by decide +kernel), List.mem_of_getElem? (i := 346) (by decide +kernel)⟩
theorem lw_p2 : lw_okq (⟨"OneADay$Reader", "readClause", "(LOneADay$Rock;)V"⟩, 5) := ⟨⟨by decide +kernel, by decide +kernel⟩, List.mem_of_getElem? (i := 23) (by decide +kernel), List.mem_of_getElem? (i := 349) (by decide +kernel), List.mem_of_getElem? (i := 350) (by decide +kernel)⟩
theorem lw_p3 : lw_okq (⟨"OneADay$Reader", "blame", "(II)V"⟩, 5) := ⟨⟨by decide +kernel, by decide +kernel⟩, List.mem_of_getElem? (i := 23) (by decide +kernel), List.mem_of_getElem? (i := 356) (by decide +kernel), List.mem_of_getElem? (i := 357) (by decide +kernel)⟩
theorem lw_p4 : lw_okq (⟨"OneADay$Reader", "readHermit", "(LOneADay$Rock;)V"⟩, 5) := ⟨⟨by decide +kernel, by decide +kernel⟩, List.mem_of_getElem? (i := 23) (by decide +kernel), List.mem_of_getElem? (i := 363) (by decide +kernel), List.mem_of_getElem? (i := 364) (by decide +kernel)⟩
theorem lw_p5 : lw_okq (⟨"OneADay$Reader", "readNumber", "(II)I"⟩, 5) := ⟨⟨by decide +kernel, by decide +kernel⟩, List.mem_of_getElem? (i := 23) (by decide +kernel), List.mem_of_getElem? (i := 367) (by decide +kernel), List.mem_of_getElem? (i := 368) (by decide +kernel)⟩
theorem lw_p6 : lw_okq (⟨"OneADay$Reader", "readVillage", "(LOneADay$Rock;)V"⟩, 5) := ⟨⟨by decide +kernel, by decide +kernel⟩, List.mem_of_getElem? (i := 23) (by decide +kernel), List.mem_of_getElem? (i := 374) (by decide +kernel), List.mem_of_getElem? (i := 375) (by decide +kernel)⟩
theorem lw_p7 : lw_okq (⟨"OneADay$Reader", "readMarkedDay", "([J)I"⟩, 5) := ⟨⟨by decide +kernel, by decide +kernel⟩, List.mem_of_getElem? (i := 23) (by decide +kernel), List.mem_of_getElem? (i := 378) (by decide +kernel), List.mem_of_getElem? (i := 379) (by decide +kernel)⟩
theorem lw_p8 : lw_okq (⟨"OneADay$Reader", "readEnd", "()V"⟩, 5) := ⟨⟨by decide +kernel, by decide +kernel⟩, List.mem_of_getElem? (i := 23) (by decide +kernel), List.mem_of_getElem? (i := 388) (by decide +kernel), List.mem_of_getElem? (i := 389) (by decide +kernel)⟩
theorem lw_p9 : lw_okq (⟨"OneADay", "refusalOfDays", "(I)I"⟩, 16) := ⟨⟨by decide +kernel, by decide +kernel⟩, List.mem_of_getElem? (i := 15) (by decide +kernel), List.mem_of_getElem? (i := 470) (by decide +kernel), List.mem_of_getElem? (i := 471) (by decide +kernel)⟩
theorem lw_p10 : lw_okq (⟨"OneADay$Days", "firstThroughInn", "(II)I"⟩, 14) := ⟨⟨by decide +kernel, by decide +kernel⟩, List.mem_of_getElem? (i := 126) (by decide +kernel), List.mem_of_getElem? (i := 496) (by decide +kernel), List.mem_of_getElem? (i := 497) (by decide +kernel)⟩
theorem lw_p11 : lw_okq (⟨"OneADay$Days", "close", "(II)V"⟩, 14) := ⟨⟨by decide +kernel, by decide +kernel⟩, List.mem_of_getElem? (i := 126) (by decide +kernel), List.mem_of_getElem? (i := 500) (by decide +kernel), List.mem_of_getElem? (i := 501) (by decide +kernel)⟩
theorem lw_p12 : lw_okq (⟨"OneADay", "shiftByDraws", "()V"⟩, 16) := ⟨⟨by decide +kernel, by decide +kernel⟩, List.mem_of_getElem? (i := 15) (by decide +kernel), List.mem_of_getElem? (i := 524) (by decide +kernel), List.mem_of_getElem? (i := 525) (by decide +kernel)⟩
theorem lw_p13 : lw_okq (⟨"OneADay", "draw", "(I)I"⟩, 16) := ⟨⟨by decide +kernel, by decide +kernel⟩, List.mem_of_getElem? (i := 15) (by decide +kernel), List.mem_of_getElem? (i := 528) (by decide +kernel), List.mem_of_getElem? (i := 529) (by decide +kernel)⟩
theorem lw_p14 : lw_okq (⟨"OneADay$Cover", "place", "(LOneADay$Rock;II)Z"⟩, 1) := ⟨⟨by decide +kernel, by decide +kernel⟩, List.mem_of_getElem? (i := 237) (by decide +kernel), List.mem_of_getElem? (i := 576) (by decide +kernel), List.mem_of_getElem? (i := 577) (by decide +kernel)⟩
theorem lw_p15 : lw_okq (⟨"OneADay$Cover", "meetsOneBefore", "(LOneADay$Rock;III)Z"⟩, 1) := ⟨⟨by decide +kernel, by decide +kernel⟩, List.mem_of_getElem? (i := 237) (by decide +kernel), List.mem_of_getElem? (i := 580) (by decide +kernel), List.mem_of_getElem? (i := 581) (by decide +kernel)⟩
def lw_privs_1 : List (MethodName × Nat) := [(⟨"OneADay$Reader", "skipBlanks", "()V"⟩, 5), (⟨"OneADay$Reader", "letterHere", "()C"⟩, 5), (⟨"OneADay$Reader", "readClause", "(LOneADay$Rock;)V"⟩, 5), (⟨"OneADay$Reader", "blame", "(II)V"⟩, 5), (⟨"OneADay$Reader", "readHermit", "(LOneADay$Rock;)V"⟩, 5), (⟨"OneADay$Reader", "readNumber", "(II)I"⟩, 5), (⟨"OneADay$Reader", "readVillage", "(LOneADay$Rock;)V"⟩, 5), (⟨"OneADay$Reader", "readMarkedDay", "([J)I"⟩, 5), (⟨"OneADay$Reader", "readEnd", "()V"⟩, 5), (⟨"OneADay", "refusalOfDays", "(I)I"⟩, 16), (⟨"OneADay$Days", "firstThroughInn", "(II)I"⟩, 14), (⟨"OneADay$Days", "close", "(II)V"⟩, 14), (⟨"OneADay", "shiftByDraws", "()V"⟩, 16), (⟨"OneADay", "draw", "(I)I"⟩, 16), (⟨"OneADay$Cover", "place", "(LOneADay$Rock;II)Z"⟩, 1), (⟨"OneADay$Cover", "meetsOneBefore", "(LOneADay$Rock;III)Z"⟩, 1)]
theorem lw_r1 : ∀ q ∈ lw_privs_1, lw_okq q := List.forall_mem_cons.mpr ⟨lw_p0, List.forall_mem_cons.mpr ⟨lw_p1, List.forall_mem_cons.mpr ⟨lw_p2, List.forall_mem_cons.mpr ⟨lw_p3, List.forall_mem_cons.mpr ⟨lw_p4, List.forall_mem_cons.mpr ⟨lw_p5, List.forall_mem_cons.mpr ⟨lw_p6, List.forall_mem_cons.mpr ⟨lw_p7, List.forall_mem_cons.mpr ⟨lw_p8, List.forall_mem_cons.mpr ⟨lw_p9, List.forall_mem_cons.mpr ⟨lw_p10, List.forall_mem_cons.mpr ⟨lw_p11, List.forall_mem_cons.mpr ⟨lw_p12, List.forall_mem_cons.mpr ⟨lw_p13, List.forall_mem_cons.mpr ⟨lw_p14, List.forall_mem_cons.mpr ⟨lw_p15, fun _ h => absurd h List.not_mem_nil⟩⟩⟩⟩⟩⟩⟩⟩⟩⟩⟩⟩⟩⟩⟩⟩
theorem lw_p16 : lw_okq (⟨"OneADay", "isPeaceful", "(II)Z"⟩, 16) := ⟨⟨by decide +kernel, by decide +kernel⟩, List.mem_of_getElem? (i := 15) (by decide +kernel), List.mem_of_getElem? (i := 588) (by decide +kernel), List.mem_of_getElem? (i := 589) (by decide +kernel)⟩
theorem lw_p17 : lw_okq (⟨"OneADay", "isLargeEnough", "(II)Z"⟩, 16) := ⟨⟨by decide +kernel, by decide +kernel⟩, List.mem_of_getElem? (i := 15) (by decide +kernel), List.mem_of_getElem? (i := 601) (by decide +kernel), List.mem_of_getElem? (i := 602) (by decide +kernel)⟩
theorem lw_p18 : lw_okq (⟨"OneADay$Plan", "choose", "(LOneADay$Rock;I)I"⟩, 4) := ⟨⟨by decide +kernel, by decide +kernel⟩, List.mem_of_getElem? (i := 248) (by decide +kernel), List.mem_of_getElem? (i := 618) (by decide +kernel), List.mem_of_getElem? (i := 619) (by decide +kernel)⟩
theorem lw_p19 : lw_okq (⟨"OneADay$Plan", "freeOn", "(LOneADay$Rock;I)I"⟩, 4) := ⟨⟨by decide +kernel, by decide +kernel⟩, List.mem_of_getElem? (i := 248) (by decide +kernel), List.mem_of_getElem? (i := 622) (by decide +kernel), List.mem_of_getElem? (i := 623) (by decide +kernel)⟩
theorem lw_p20 : lw_okq (⟨"OneADay$Plan", "leastFrom", "(LOneADay$Rock;I)I"⟩, 4) := ⟨⟨by decide +kernel, by decide +kernel⟩, List.mem_of_getElem? (i := 248) (by decide +kernel), List.mem_of_getElem? (i := 629) (by decide +kernel), List.mem_of_getElem? (i := 630) (by decide +kernel)⟩
theorem lw_p21 : lw_okq (⟨"OneADay$Plan", "leastWith", "(LOneADay$Rock;II)I"⟩, 4) := ⟨⟨by decide +kernel, by decide +kernel⟩, List.mem_of_getElem? (i := 248) (by decide +kernel), List.mem_of_getElem? (i := 636) (by decide +kernel), List.mem_of_getElem? (i := 637) (by decide +kernel)⟩
theorem lw_p22 : lw_okq (⟨"OneADay$Notes", "fits", "(LOneADay$Rock;LOneADay$Days;II)Z"⟩, 6) := ⟨⟨by decide +kernel, by decide +kernel⟩, List.mem_of_getElem? (i := 210) (by decide +kernel), List.mem_of_getElem? (i := 662) (by decide +kernel), List.mem_of_getElem? (i := 663) (by decide +kernel)⟩
theorem lw_p23 : lw_okq (⟨"OneADay", "dayToLookAt", "(II)I"⟩, 16) := ⟨⟨by decide +kernel, by decide +kernel⟩, List.mem_of_getElem? (i := 15) (by decide +kernel), List.mem_of_getElem? (i := 670) (by decide +kernel), List.mem_of_getElem? (i := 671) (by decide +kernel)⟩
theorem lw_p24 : lw_okq (⟨"OneADayModel", "here", "()I"⟩, 45) := ⟨⟨by decide +kernel, by decide +kernel⟩, List.mem_of_getElem? (i := 711) (by decide +kernel), List.mem_of_getElem? (i := 869) (by decide +kernel), List.mem_of_getElem? (i := 870) (by decide +kernel)⟩
theorem lw_p25 : lw_okq (⟨"OneADayModel", "takeClause", "()I"⟩, 45) := ⟨⟨by decide +kernel, by decide +kernel⟩, List.mem_of_getElem? (i := 711) (by decide +kernel), List.mem_of_getElem? (i := 873) (by decide +kernel), List.mem_of_getElem? (i := 874) (by decide +kernel)⟩
theorem lw_p26 : lw_okq (⟨"OneADayModel", "fails", "(II)I"⟩, 45) := ⟨⟨by decide +kernel, by decide +kernel⟩, List.mem_of_getElem? (i := 711) (by decide +kernel), List.mem_of_getElem? (i := 877) (by decide +kernel), List.mem_of_getElem? (i := 878) (by decide +kernel)⟩
theorem lw_p27 : lw_okq (⟨"OneADayModel", "takeHermit", "()I"⟩, 45) := ⟨⟨by decide +kernel, by decide +kernel⟩, List.mem_of_getElem? (i := 711) (by decide +kernel), List.mem_of_getElem? (i := 881) (by decide +kernel), List.mem_of_getElem? (i := 882) (by decide +kernel)⟩
theorem lw_p28 : lw_okq (⟨"OneADayModel", "into", "([IIII)I"⟩, 45) := ⟨⟨by decide +kernel, by decide +kernel⟩, List.mem_of_getElem? (i := 711) (by decide +kernel), List.mem_of_getElem? (i := 885) (by decide +kernel), List.mem_of_getElem? (i := 886) (by decide +kernel)⟩
theorem lw_p29 : lw_okq (⟨"OneADayModel", "takeNumber", "(II)I"⟩, 45) := ⟨⟨by decide +kernel, by decide +kernel⟩, List.mem_of_getElem? (i := 711) (by decide +kernel), List.mem_of_getElem? (i := 889) (by decide +kernel), List.mem_of_getElem? (i := 890) (by decide +kernel)⟩
theorem lw_p30 : lw_okq (⟨"OneADayModel", "takeVillage", "()I"⟩, 45) := ⟨⟨by decide +kernel, by decide +kernel⟩, List.mem_of_getElem? (i := 711) (by decide +kernel), List.mem_of_getElem? (i := 895) (by decide +kernel), List.mem_of_getElem? (i := 896) (by decide +kernel)⟩
theorem lw_p31 : lw_okq (⟨"OneADayModel", "takeDay", "([II)I"⟩, 45) := ⟨⟨by decide +kernel, by decide +kernel⟩, List.mem_of_getElem? (i := 711) (by decide +kernel), List.mem_of_getElem? (i := 899) (by decide +kernel), List.mem_of_getElem? (i := 900) (by decide +kernel)⟩
def lw_privs_2 : List (MethodName × Nat) := [(⟨"OneADay", "isPeaceful", "(II)Z"⟩, 16), (⟨"OneADay", "isLargeEnough", "(II)Z"⟩, 16), (⟨"OneADay$Plan", "choose", "(LOneADay$Rock;I)I"⟩, 4), (⟨"OneADay$Plan", "freeOn", "(LOneADay$Rock;I)I"⟩, 4), (⟨"OneADay$Plan", "leastFrom", "(LOneADay$Rock;I)I"⟩, 4), (⟨"OneADay$Plan", "leastWith", "(LOneADay$Rock;II)I"⟩, 4), (⟨"OneADay$Notes", "fits", "(LOneADay$Rock;LOneADay$Days;II)Z"⟩, 6), (⟨"OneADay", "dayToLookAt", "(II)I"⟩, 16), (⟨"OneADayModel", "here", "()I"⟩, 45), (⟨"OneADayModel", "takeClause", "()I"⟩, 45), (⟨"OneADayModel", "fails", "(II)I"⟩, 45), (⟨"OneADayModel", "takeHermit", "()I"⟩, 45), (⟨"OneADayModel", "into", "([IIII)I"⟩, 45), (⟨"OneADayModel", "takeNumber", "(II)I"⟩, 45), (⟨"OneADayModel", "takeVillage", "()I"⟩, 45), (⟨"OneADayModel", "takeDay", "([II)I"⟩, 45)]
theorem lw_r2 : ∀ q ∈ lw_privs_2, lw_okq q := List.forall_mem_cons.mpr ⟨lw_p16, List.forall_mem_cons.mpr ⟨lw_p17, List.forall_mem_cons.mpr ⟨lw_p18, List.forall_mem_cons.mpr ⟨lw_p19, List.forall_mem_cons.mpr ⟨lw_p20, List.forall_mem_cons.mpr ⟨lw_p21, List.forall_mem_cons.mpr ⟨lw_p22, List.forall_mem_cons.mpr ⟨lw_p23, List.forall_mem_cons.mpr ⟨lw_p24, List.forall_mem_cons.mpr ⟨lw_p25, List.forall_mem_cons.mpr ⟨lw_p26, List.forall_mem_cons.mpr ⟨lw_p27, List.forall_mem_cons.mpr ⟨lw_p28, List.forall_mem_cons.mpr ⟨lw_p29, List.forall_mem_cons.mpr ⟨lw_p30, List.forall_mem_cons.mpr ⟨lw_p31, fun _ h => absurd h List.not_mem_nil⟩⟩⟩⟩⟩⟩⟩⟩⟩⟩⟩⟩⟩⟩⟩⟩
theorem lw_p32 : lw_okq (⟨"OneADayModel", "takeRead", "()V"⟩, 45) := ⟨⟨by decide +kernel, by decide +kernel⟩, List.mem_of_getElem? (i := 711) (by decide +kernel), List.mem_of_getElem? (i := 903) (by decide +kernel), List.mem_of_getElem? (i := 904) (by decide +kernel)⟩
theorem lw_p33 : lw_okq (⟨"OneADayModel", "isVillage", "(I)Z"⟩, 45) := ⟨⟨by decide +kernel, by decide +kernel⟩, List.mem_of_getElem? (i := 711) (by decide +kernel), List.mem_of_getElem? (i := 919) (by decide +kernel), List.mem_of_getElem? (i := 920) (by decide +kernel)⟩
theorem lw_p34 : lw_okq (⟨"OneADayModel", "comers", "(I)I"⟩, 45) := ⟨⟨by decide +kernel, by decide +kernel⟩, List.mem_of_getElem? (i := 711) (by decide +kernel), List.mem_of_getElem? (i := 929) (by decide +kernel), List.mem_of_getElem? (i := 930) (by decide +kernel)⟩
theorem lw_p35 : lw_okq (⟨"OneADayModel", "goers", "(I)I"⟩, 45) := ⟨⟨by decide +kernel, by decide +kernel⟩, List.mem_of_getElem? (i := 711) (by decide +kernel), List.mem_of_getElem? (i := 933) (by decide +kernel), List.mem_of_getElem? (i := 934) (by decide +kernel)⟩
theorem lw_p36 : lw_okq (⟨"OneADayModel", "goesBy", "(III)Z"⟩, 45) := ⟨⟨by decide +kernel, by decide +kernel⟩, List.mem_of_getElem? (i := 711) (by decide +kernel), List.mem_of_getElem? (i := 940) (by decide +kernel), List.mem_of_getElem? (i := 941) (by decide +kernel)⟩
theorem lw_p37 : lw_okq (⟨"OneADayModel", "isFeast", "(I)Z"⟩, 45) := ⟨⟨by decide +kernel, by decide +kernel⟩, List.mem_of_getElem? (i := 711) (by decide +kernel), List.mem_of_getElem? (i := 944) (by decide +kernel), List.mem_of_getElem? (i := 945) (by decide +kernel)⟩
theorem lw_p38 : lw_okq (⟨"OneADayModel", "isFog", "(I)Z"⟩, 45) := ⟨⟨by decide +kernel, by decide +kernel⟩, List.mem_of_getElem? (i := 711) (by decide +kernel), List.mem_of_getElem? (i := 948) (by decide +kernel), List.mem_of_getElem? (i := 949) (by decide +kernel)⟩
theorem lw_p39 : lw_okq (⟨"OneADayModel", "daysRefused", "(I)I"⟩, 45) := ⟨⟨by decide +kernel, by decide +kernel⟩, List.mem_of_getElem? (i := 711) (by decide +kernel), List.mem_of_getElem? (i := 960) (by decide +kernel), List.mem_of_getElem? (i := 961) (by decide +kernel)⟩
theorem lw_p40 : lw_okq (⟨"OneADayModel", "remember", "()V"⟩, 45) := ⟨⟨by decide +kernel, by decide +kernel⟩, List.mem_of_getElem? (i := 711) (by decide +kernel), List.mem_of_getElem? (i := 966) (by decide +kernel), List.mem_of_getElem? (i := 967) (by decide +kernel)⟩
theorem lw_p41 : lw_okq (⟨"OneADayModel", "pass", "(I)V"⟩, 45) := ⟨⟨by decide +kernel, by decide +kernel⟩, List.mem_of_getElem? (i := 711) (by decide +kernel), List.mem_of_getElem? (i := 970) (by decide +kernel), List.mem_of_getElem? (i := 971) (by decide +kernel)⟩
theorem lw_p42 : lw_okq (⟨"OneADayModel", "fromRow", "(II)I"⟩, 45) := ⟨⟨by decide +kernel, by decide +kernel⟩, List.mem_of_getElem? (i := 711) (by decide +kernel), List.mem_of_getElem? (i := 974) (by decide +kernel), List.mem_of_getElem? (i := 975) (by decide +kernel)⟩
theorem lw_p43 : lw_okq (⟨"OneADayModel", "least", "(I)I"⟩, 45) := ⟨⟨by decide +kernel, by decide +kernel⟩, List.mem_of_getElem? (i := 711) (by decide +kernel), List.mem_of_getElem? (i := 981) (by decide +kernel), List.mem_of_getElem? (i := 982) (by decide +kernel)⟩
theorem lw_p44 : lw_okq (⟨"OneADayModel", "draw", "(I)I"⟩, 45) := ⟨⟨by decide +kernel, by decide +kernel⟩, List.mem_of_getElem? (i := 711) (by decide +kernel), List.mem_of_getElem? (i := 994) (by decide +kernel), List.mem_of_getElem? (i := 995) (by decide +kernel)⟩
theorem lw_p45 : lw_okq (⟨"OneADayModel", "save", "()V"⟩, 45) := ⟨⟨by decide +kernel, by decide +kernel⟩, List.mem_of_getElem? (i := 711) (by decide +kernel), List.mem_of_getElem? (i := 1010) (by decide +kernel), List.mem_of_getElem? (i := 1011) (by decide +kernel)⟩
theorem lw_p46 : lw_okq (⟨"OneADayModel", "putBack", "()V"⟩, 45) := ⟨⟨by decide +kernel, by decide +kernel⟩, List.mem_of_getElem? (i := 711) (by decide +kernel), List.mem_of_getElem? (i := 1014) (by decide +kernel), List.mem_of_getElem? (i := 1015) (by decide +kernel)⟩
theorem lw_p47 : lw_okq (⟨"OneADayModel", "findCertain", "(I)Z"⟩, 45) := ⟨⟨by decide +kernel, by decide +kernel⟩, List.mem_of_getElem? (i := 711) (by decide +kernel), List.mem_of_getElem? (i := 1027) (by decide +kernel), List.mem_of_getElem? (i := 1028) (by decide +kernel)⟩
def lw_privs_3 : List (MethodName × Nat) := [(⟨"OneADayModel", "takeRead", "()V"⟩, 45), (⟨"OneADayModel", "isVillage", "(I)Z"⟩, 45), (⟨"OneADayModel", "comers", "(I)I"⟩, 45), (⟨"OneADayModel", "goers", "(I)I"⟩, 45), (⟨"OneADayModel", "goesBy", "(III)Z"⟩, 45), (⟨"OneADayModel", "isFeast", "(I)Z"⟩, 45), (⟨"OneADayModel", "isFog", "(I)Z"⟩, 45), (⟨"OneADayModel", "daysRefused", "(I)I"⟩, 45), (⟨"OneADayModel", "remember", "()V"⟩, 45), (⟨"OneADayModel", "pass", "(I)V"⟩, 45), (⟨"OneADayModel", "fromRow", "(II)I"⟩, 45), (⟨"OneADayModel", "least", "(I)I"⟩, 45), (⟨"OneADayModel", "draw", "(I)I"⟩, 45), (⟨"OneADayModel", "save", "()V"⟩, 45), (⟨"OneADayModel", "putBack", "()V"⟩, 45), (⟨"OneADayModel", "findCertain", "(I)Z"⟩, 45)]
theorem lw_r3 : ∀ q ∈ lw_privs_3, lw_okq q := List.forall_mem_cons.mpr ⟨lw_p32, List.forall_mem_cons.mpr ⟨lw_p33, List.forall_mem_cons.mpr ⟨lw_p34, List.forall_mem_cons.mpr ⟨lw_p35, List.forall_mem_cons.mpr ⟨lw_p36, List.forall_mem_cons.mpr ⟨lw_p37, List.forall_mem_cons.mpr ⟨lw_p38, List.forall_mem_cons.mpr ⟨lw_p39, List.forall_mem_cons.mpr ⟨lw_p40, List.forall_mem_cons.mpr ⟨lw_p41, List.forall_mem_cons.mpr ⟨lw_p42, List.forall_mem_cons.mpr ⟨lw_p43, List.forall_mem_cons.mpr ⟨lw_p44, List.forall_mem_cons.mpr ⟨lw_p45, List.forall_mem_cons.mpr ⟨lw_p46, List.forall_mem_cons.mpr ⟨lw_p47, fun _ h => absurd h List.not_mem_nil⟩⟩⟩⟩⟩⟩⟩⟩⟩⟩⟩⟩⟩⟩⟩⟩
theorem lw_p48 : lw_okq (⟨"OneADayModel", "next", "(II)I"⟩, 45) := ⟨⟨by decide +kernel, by decide +kernel⟩, List.mem_of_getElem? (i := 711) (by decide +kernel), List.mem_of_getElem? (i := 1031) (by decide +kernel), List.mem_of_getElem? (i := 1032) (by decide +kernel)⟩
theorem lw_p49 : lw_okq (⟨"OneADayModel", "before", "(II)I"⟩, 45) := ⟨⟨by decide +kernel, by decide +kernel⟩, List.mem_of_getElem? (i := 711) (by decide +kernel), List.mem_of_getElem? (i := 1035) (by decide +kernel), List.mem_of_getElem? (i := 1036) (by decide +kernel)⟩
theorem lw_p50 : lw_okq (⟨"OneADayModel", "isFree", "(II)Z"⟩, 45) := ⟨⟨by decide +kernel, by decide +kernel⟩, List.mem_of_getElem? (i := 711) (by decide +kernel), List.mem_of_getElem? (i := 1039) (by decide +kernel), List.mem_of_getElem? (i := 1040) (by decide +kernel)⟩
theorem lw_p51 : lw_okq (⟨"OneADayModel", "findFeet", "(I)V"⟩, 45) := ⟨⟨by decide +kernel, by decide +kernel⟩, List.mem_of_getElem? (i := 711) (by decide +kernel), List.mem_of_getElem? (i := 1065) (by decide +kernel), List.mem_of_getElem? (i := 1066) (by decide +kernel)⟩
theorem lw_p52 : lw_okq (⟨"OneADayModel", "findLow", "(I)V"⟩, 45) := ⟨⟨by decide +kernel, by decide +kernel⟩, List.mem_of_getElem? (i := 711) (by decide +kernel), List.mem_of_getElem? (i := 1069) (by decide +kernel), List.mem_of_getElem? (i := 1070) (by decide +kernel)⟩
theorem lw_p53 : lw_okq (⟨"OneADayModel", "mayGo", "(II)Z"⟩, 45) := ⟨⟨by decide +kernel, by decide +kernel⟩, List.mem_of_getElem? (i := 711) (by decide +kernel), List.mem_of_getElem? (i := 1074) (by decide +kernel), List.mem_of_getElem? (i := 1075) (by decide +kernel)⟩
theorem lw_p54 : lw_okq (⟨"OneADayModel", "wasChosen", "(II)Z"⟩, 45) := ⟨⟨by decide +kernel, by decide +kernel⟩, List.mem_of_getElem? (i := 711) (by decide +kernel), List.mem_of_getElem? (i := 1078) (by decide +kernel), List.mem_of_getElem? (i := 1079) (by decide +kernel)⟩
theorem lw_p55 : lw_okq (⟨"OneADayModel", "spent", "(I)I"⟩, 45) := ⟨⟨by decide +kernel, by decide +kernel⟩, List.mem_of_getElem? (i := 711) (by decide +kernel), List.mem_of_getElem? (i := 1082) (by decide +kernel), List.mem_of_getElem? (i := 1083) (by decide +kernel)⟩
theorem lw_p56 : lw_okq (⟨"OneADayModel", "latest", "(I)I"⟩, 45) := ⟨⟨by decide +kernel, by decide +kernel⟩, List.mem_of_getElem? (i := 711) (by decide +kernel), List.mem_of_getElem? (i := 1086) (by decide +kernel), List.mem_of_getElem? (i := 1087) (by decide +kernel)⟩
theorem lw_p57 : lw_okq (⟨"OneADayModel", "offsetsOf", "(I)I"⟩, 45) := ⟨⟨by decide +kernel, by decide +kernel⟩, List.mem_of_getElem? (i := 711) (by decide +kernel), List.mem_of_getElem? (i := 1103) (by decide +kernel), List.mem_of_getElem? (i := 1104) (by decide +kernel)⟩
theorem lw_p58 : lw_okq (⟨"OneADayModel", "howBy", "(III)I"⟩, 45) := ⟨⟨by decide +kernel, by decide +kernel⟩, List.mem_of_getElem? (i := 711) (by decide +kernel), List.mem_of_getElem? (i := 1107) (by decide +kernel), List.mem_of_getElem? (i := 1108) (by decide +kernel)⟩
def lw_privs_4 : List (MethodName × Nat) := [(⟨"OneADayModel", "next", "(II)I"⟩, 45), (⟨"OneADayModel", "before", "(II)I"⟩, 45), (⟨"OneADayModel", "isFree", "(II)Z"⟩, 45), (⟨"OneADayModel", "findFeet", "(I)V"⟩, 45), (⟨"OneADayModel", "findLow", "(I)V"⟩, 45), (⟨"OneADayModel", "mayGo", "(II)Z"⟩, 45), (⟨"OneADayModel", "wasChosen", "(II)Z"⟩, 45), (⟨"OneADayModel", "spent", "(I)I"⟩, 45), (⟨"OneADayModel", "latest", "(I)I"⟩, 45), (⟨"OneADayModel", "offsetsOf", "(I)I"⟩, 45), (⟨"OneADayModel", "howBy", "(III)I"⟩, 45)]
theorem lw_r4 : ∀ q ∈ lw_privs_4, lw_okq q := List.forall_mem_cons.mpr ⟨lw_p48, List.forall_mem_cons.mpr ⟨lw_p49, List.forall_mem_cons.mpr ⟨lw_p50, List.forall_mem_cons.mpr ⟨lw_p51, List.forall_mem_cons.mpr ⟨lw_p52, List.forall_mem_cons.mpr ⟨lw_p53, List.forall_mem_cons.mpr ⟨lw_p54, List.forall_mem_cons.mpr ⟨lw_p55, List.forall_mem_cons.mpr ⟨lw_p56, List.forall_mem_cons.mpr ⟨lw_p57, List.forall_mem_cons.mpr ⟨lw_p58, fun _ h => absurd h List.not_mem_nil⟩⟩⟩⟩⟩⟩⟩⟩⟩⟩⟩
def lw_privs : List (MethodName × Nat) := lw_privs_1 ++ (lw_privs_2 ++ (lw_privs_3 ++ (lw_privs_4)))
def lw_tbl : List Cond := k2_sels lw_privs ++ tables_1
theorem lw_privs_ok : ∀ q ∈ lw_privs, lw_okq q := by
  show ∀ q ∈ lw_privs_1 ++ (lw_privs_2 ++ (lw_privs_3 ++ (lw_privs_4))), lw_okq q
  exact List.forall_mem_append.mpr ⟨lw_r1, List.forall_mem_append.mpr ⟨lw_r2, List.forall_mem_append.mpr ⟨lw_r3, lw_r4⟩⟩⟩
def RX0 : String := "OneADay$Cover"
def TX0 : u_T := fun k => match k with
  | _ => ("OneADay$Cover", "offset", "[I", true)
def tyX0 : Nat → FieldType := fun k => match k with
  | _ => .array .int
abbrev wsX00 : List Cond := u_ws RX0 TX0 1
theorem nmX0 : ∀ a, a < 1 → ∀ b, b < 1 → a ≠ b → (TX0 a).2.1 ≠ (TX0 b).2.1 := by decide +kernel
theorem tyX0_ok : ∀ k, k < 1 → parseFieldDescriptor (TX0 k).2.2.1 = some (tyX0 k) := by decide +kernel
abbrev cX0_init : ByteArray := prog_2_method_1_code
def yX0_init : MethodName := ⟨RX0, "<init>", "()V"⟩
abbrev cX0_find : ByteArray := prog_2_method_2_code
def yX0_find : MethodName := ⟨RX0, "find", "(LOneADay$Rock;I)Z"⟩
abbrev cX0_comesOften : ByteArray := prog_2_method_3_code
def yX0_comesOften : MethodName := ⟨RX0, "comesOften", "(LOneADay$Rock;I)Z"⟩
abbrev cX0_canPassEachOther : ByteArray := prog_2_method_4_code
def yX0_canPassEachOther : MethodName := ⟨RX0, "canPassEachOther", "(LOneADay$Rock;I)Z"⟩
abbrev cX0_place : ByteArray := prog_2_method_5_code
def yX0_place : MethodName := ⟨RX0, "place", "(LOneADay$Rock;II)Z"⟩
abbrev cX0_meetsOneBefore : ByteArray := prog_2_method_6_code
def yX0_meetsOneBefore : MethodName := ⟨RX0, "meetsOneBefore", "(LOneADay$Rock;III)Z"⟩
abbrev cX0_commonDivisor : ByteArray := prog_2_method_7_code
def yX0_commonDivisor : MethodName := ⟨RX0, "commonDivisor", "(II)I"⟩
def RX1 : String := "OneADay$Days"
def TX1 : u_T := fun k => match k with
  | 0 => ("OneADay$Days", "offset", "[I", true)
  | 1 => ("OneADay$Days", "last", "[I", true)
  | 2 => ("OneADay$Days", "row", "[I", true)
  | 3 => ("OneADay$Days", "history", "[I", true)
  | 4 => ("OneADay$Days", "stays", "I", false)
  | 5 => ("OneADay$Days", "waiting", "I", false)
  | 6 => ("OneADay$Days", "days", "I", false)
  | 7 => ("OneADay$Days", "emptyRun", "I", false)
  | 8 => ("OneADay$Days", "blessings", "I", false)
  | 9 => ("OneADay$Days", "failures", "I", false)
  | 10 => ("OneADay$Days", "empties", "I", false)
  | 11 => ("OneADay$Days", "walked", "I", false)
  | 12 => ("OneADay$Days", "sentHome", "I", false)
  | _ => ("OneADay$Days", "down", "Z", false)
def tyX1 : Nat → FieldType := fun k => match k with
  | 0 => .array .int
  | 1 => .array .int
  | 2 => .array .int
  | 3 => .array .int
  | 4 => .int
  | 5 => .int
  | 6 => .int
  | 7 => .int
  | 8 => .int
  | 9 => .int
  | 10 => .int
  | 11 => .int
  | 12 => .int
  | _ => .boolean
abbrev wsX10 : List Cond := u_ws RX1 TX1 14
theorem nmX1 : ∀ a, a < 14 → ∀ b, b < 14 → a ≠ b → (TX1 a).2.1 ≠ (TX1 b).2.1 := by decide +kernel
theorem tyX1_ok : ∀ k, k < 14 → parseFieldDescriptor (TX1 k).2.2.1 = some (tyX1 k) := by decide +kernel
abbrev cX1_init : ByteArray := prog_3_method_1_code
def yX1_init : MethodName := ⟨RX1, "<init>", "()V"⟩
abbrev cX1_begin : ByteArray := prog_3_method_2_code
def yX1_begin : MethodName := ⟨RX1, "begin", "(LOneADay$Rock;)V"⟩
abbrev cX1_copy : ByteArray := prog_3_method_3_code
def yX1_copy : MethodName := ⟨RX1, "copy", "(LOneADay$Days;)V"⟩
abbrev cX1_goOnFrom : ByteArray := prog_3_method_4_code
def yX1_goOnFrom : MethodName := ⟨RX1, "goOnFrom", "(LOneADay$Days;)V"⟩
abbrev cX1_staysAway : ByteArray := prog_3_method_5_code
def yX1_staysAway : MethodName := ⟨RX1, "staysAway", "(I)Z"⟩
abbrev cX1_comersByCalendar : ByteArray := prog_3_method_6_code
def yX1_comersByCalendar : MethodName := ⟨RX1, "comersByCalendar", "(LOneADay$Rock;I)I"⟩
abbrev cX1_comers : ByteArray := prog_3_method_7_code
def yX1_comers : MethodName := ⟨RX1, "comers", "(LOneADay$Rock;I)I"⟩
abbrev cX1_outcomeWith : ByteArray := prog_3_method_8_code
def yX1_outcomeWith : MethodName := ⟨RX1, "outcomeWith", "(LOneADay$Rock;III)I"⟩
abbrev cX1_live : ByteArray := prog_3_method_9_code
def yX1_live : MethodName := ⟨RX1, "live", "(LOneADay$Rock;I)V"⟩
abbrev cX1_firstThroughInn : ByteArray := prog_3_method_10_code
def yX1_firstThroughInn : MethodName := ⟨RX1, "firstThroughInn", "(II)I"⟩
abbrev cX1_close : ByteArray := prog_3_method_11_code
def yX1_close : MethodName := ⟨RX1, "close", "(II)V"⟩
abbrev cX1_isLatest : ByteArray := prog_3_method_12_code
def yX1_isLatest : MethodName := ⟨RX1, "isLatest", "(I)Z"⟩
abbrev cX1_blessedOn : ByteArray := prog_3_method_13_code
def yX1_blessedOn : MethodName := ⟨RX1, "blessedOn", "(I)I"⟩
def RX2 : String := "OneADay$Notes"
def TX2 : u_T := fun k => match k with
  | 0 => ("OneADay$Notes", "seenDay", "[I", true)
  | 1 => ("OneADay$Notes", "seenHow", "[I", true)
  | 2 => ("OneADay$Notes", "entryDay", "[I", true)
  | 3 => ("OneADay$Notes", "entryWho", "[I", true)
  | 4 => ("OneADay$Notes", "seen", "I", false)
  | _ => ("OneADay$Notes", "entries", "I", false)
def tyX2 : Nat → FieldType := fun k => match k with
  | 0 => .array .int
  | 1 => .array .int
  | 2 => .array .int
  | 3 => .array .int
  | 4 => .int
  | _ => .int
abbrev wsX20 : List Cond := u_ws RX2 TX2 6
theorem nmX2 : ∀ a, a < 6 → ∀ b, b < 6 → a ≠ b → (TX2 a).2.1 ≠ (TX2 b).2.1 := by decide +kernel
theorem tyX2_ok : ∀ k, k < 6 → parseFieldDescriptor (TX2 k).2.2.1 = some (tyX2 k) := by decide +kernel
abbrev cX2_init : ByteArray := prog_4_method_1_code
def yX2_init : MethodName := ⟨RX2, "<init>", "()V"⟩
abbrev cX2_clear : ByteArray := prog_4_method_2_code
def yX2_clear : MethodName := ⟨RX2, "clear", "()V"⟩
abbrev cX2_addSeen : ByteArray := prog_4_method_3_code
def yX2_addSeen : MethodName := ⟨RX2, "addSeen", "(II)Z"⟩
abbrev cX2_addEntry : ByteArray := prog_4_method_4_code
def yX2_addEntry : MethodName := ⟨RX2, "addEntry", "(II)Z"⟩
abbrev cX2_fitting : ByteArray := prog_4_method_5_code
def yX2_fitting : MethodName := ⟨RX2, "fitting", "(LOneADay$Rock;LOneADay$Days;I)I"⟩
abbrev cX2_fits : ByteArray := prog_4_method_6_code
def yX2_fits : MethodName := ⟨RX2, "fits", "(LOneADay$Rock;LOneADay$Days;II)Z"⟩
abbrev cX2_firstWrong : ByteArray := prog_4_method_7_code
def yX2_firstWrong : MethodName := ⟨RX2, "firstWrong", "(LOneADay$Days;)I"⟩
def RX3 : String := "OneADay$Past"
def TX3 : u_T := fun k => match k with
  | 0 => ("OneADay$Past", "kept", "[LOneADay$Days;", true)
  | 1 => ("OneADay$Past", "next", "I", false)
  | _ => ("OneADay$Past", "count", "I", false)
def tyX3 : Nat → FieldType := fun k => match k with
  | 0 => .array (.object "OneADay$Days")
  | 1 => .int
  | _ => .int
abbrev wsX30 : List Cond := u_ws RX3 TX3 3
theorem nmX3 : ∀ a, a < 3 → ∀ b, b < 3 → a ≠ b → (TX3 a).2.1 ≠ (TX3 b).2.1 := by decide +kernel
theorem tyX3_ok : ∀ k, k < 3 → parseFieldDescriptor (TX3 k).2.2.1 = some (tyX3 k) := by decide +kernel
abbrev cX3_init : ByteArray := prog_5_method_1_code
def yX3_init : MethodName := ⟨RX3, "<init>", "()V"⟩
abbrev cX3_clear : ByteArray := prog_5_method_2_code
def yX3_clear : MethodName := ⟨RX3, "clear", "()V"⟩
abbrev cX3_push : ByteArray := prog_5_method_3_code
def yX3_push : MethodName := ⟨RX3, "push", "(LOneADay$Days;)V"⟩
abbrev cX3_pop : ByteArray := prog_5_method_4_code
def yX3_pop : MethodName := ⟨RX3, "pop", "(LOneADay$Days;)V"⟩
def RX4 : String := "OneADay$Plan"
def TX4 : u_T := fun k => match k with
  | 0 => ("OneADay$Plan", "chosen", "[I", true)
  | 1 => ("OneADay$Plan", "firstDay", "I", false)
  | 2 => ("OneADay$Plan", "length", "I", false)
  | _ => ("OneADay$Plan", "lastFog", "I", false)
def tyX4 : Nat → FieldType := fun k => match k with
  | 0 => .array .int
  | 1 => .int
  | 2 => .int
  | _ => .int
abbrev wsX40 : List Cond := u_ws RX4 TX4 4
theorem nmX4 : ∀ a, a < 4 → ∀ b, b < 4 → a ≠ b → (TX4 a).2.1 ≠ (TX4 b).2.1 := by decide +kernel
theorem tyX4_ok : ∀ k, k < 4 → parseFieldDescriptor (TX4 k).2.2.1 = some (tyX4 k) := by decide +kernel
abbrev cX4_init : ByteArray := prog_6_method_1_code
def yX4_init : MethodName := ⟨RX4, "<init>", "()V"⟩
abbrev cX4_make : ByteArray := prog_6_method_2_code
def yX4_make : MethodName := ⟨RX4, "make", "(LOneADay$Rock;II)I"⟩
abbrev cX4_choose : ByteArray := prog_6_method_3_code
def yX4_choose : MethodName := ⟨RX4, "choose", "(LOneADay$Rock;I)I"⟩
abbrev cX4_freeOn : ByteArray := prog_6_method_4_code
def yX4_freeOn : MethodName := ⟨RX4, "freeOn", "(LOneADay$Rock;I)I"⟩
abbrev cX4_leastFrom : ByteArray := prog_6_method_5_code
def yX4_leastFrom : MethodName := ⟨RX4, "leastFrom", "(LOneADay$Rock;I)I"⟩
abbrev cX4_leastWith : ByteArray := prog_6_method_6_code
def yX4_leastWith : MethodName := ⟨RX4, "leastWith", "(LOneADay$Rock;II)I"⟩
abbrev cX4_nearestOf : ByteArray := prog_6_method_7_code
def yX4_nearestOf : MethodName := ⟨RX4, "nearestOf", "(LOneADay$Rock;II)I"⟩
def RX5 : String := "OneADay$Reader"
def TX5 : u_T := fun k => match k with
  | 0 => ("OneADay$Reader", "letters", "[C", false)
  | 1 => ("OneADay$Reader", "length", "I", false)
  | 2 => ("OneADay$Reader", "fault", "I", false)
  | 3 => ("OneADay$Reader", "numberPlace", "I", false)
  | _ => ("OneADay$Reader", "place", "I", false)
def tyX5 : Nat → FieldType := fun k => match k with
  | 0 => .array .char
  | 1 => .int
  | 2 => .int
  | 3 => .int
  | _ => .int
abbrev wsX50 : List Cond := u_ws RX5 TX5 5
theorem nmX5 : ∀ a, a < 5 → ∀ b, b < 5 → a ≠ b → (TX5 a).2.1 ≠ (TX5 b).2.1 := by decide +kernel
theorem tyX5_ok : ∀ k, k < 5 → parseFieldDescriptor (TX5 k).2.2.1 = some (tyX5 k) := by decide +kernel
abbrev cX5_init : ByteArray := prog_7_method_1_code
def yX5_init : MethodName := ⟨RX5, "<init>", "()V"⟩
abbrev cX5_read : ByteArray := prog_7_method_2_code
def yX5_read : MethodName := ⟨RX5, "read", "([CILOneADay$Rock;)I"⟩
abbrev cX5_readClause : ByteArray := prog_7_method_3_code
def yX5_readClause : MethodName := ⟨RX5, "readClause", "(LOneADay$Rock;)V"⟩
abbrev cX5_isWord : ByteArray := prog_7_method_4_code
def yX5_isWord : MethodName := ⟨RX5, "isWord", "(C)Z"⟩
abbrev cX5_isTooMany : ByteArray := prog_7_method_5_code
def yX5_isTooMany : MethodName := ⟨RX5, "isTooMany", "(LOneADay$Rock;C)Z"⟩
abbrev cX5_readHermit : ByteArray := prog_7_method_6_code
def yX5_readHermit : MethodName := ⟨RX5, "readHermit", "(LOneADay$Rock;)V"⟩
abbrev cX5_readVillage : ByteArray := prog_7_method_7_code
def yX5_readVillage : MethodName := ⟨RX5, "readVillage", "(LOneADay$Rock;)V"⟩
abbrev cX5_readMarkedDay : ByteArray := prog_7_method_8_code
def yX5_readMarkedDay : MethodName := ⟨RX5, "readMarkedDay", "([J)I"⟩
abbrev cX5_readEnd : ByteArray := prog_7_method_9_code
def yX5_readEnd : MethodName := ⟨RX5, "readEnd", "()V"⟩
abbrev cX5_readNumber : ByteArray := prog_7_method_10_code
def yX5_readNumber : MethodName := ⟨RX5, "readNumber", "(II)I"⟩
abbrev cX5_isFigure : ByteArray := prog_7_method_11_code
def yX5_isFigure : MethodName := ⟨RX5, "isFigure", "(C)Z"⟩
abbrev cX5_skipBlanks : ByteArray := prog_7_method_12_code
def yX5_skipBlanks : MethodName := ⟨RX5, "skipBlanks", "()V"⟩
abbrev cX5_letterHere : ByteArray := prog_7_method_13_code
def yX5_letterHere : MethodName := ⟨RX5, "letterHere", "()C"⟩
abbrev cX5_blame : ByteArray := prog_7_method_14_code
def yX5_blame : MethodName := ⟨RX5, "blame", "(II)V"⟩
def RX6 : String := "OneADay$Rock"
def TX6 : u_T := fun k => match k with
  | 0 => ("OneADay$Rock", "hermit", "Z", false)
  | 1 => ("OneADay$Rock", "patience", "I", false)
  | 2 => ("OneADay$Rock", "year", "I", false)
  | 3 => ("OneADay$Rock", "inn", "I", false)
  | 4 => ("OneADay$Rock", "villages", "I", false)
  | 5 => ("OneADay$Rock", "feasts", "I", false)
  | 6 => ("OneADay$Rock", "fogs", "I", false)
  | 7 => ("OneADay$Rock", "road", "[I", true)
  | 8 => ("OneADay$Rock", "period", "[I", true)
  | 9 => ("OneADay$Rock", "firstOffset", "[I", true)
  | 10 => ("OneADay$Rock", "fever", "[I", true)
  | 11 => ("OneADay$Rock", "feastDays", "[J", true)
  | _ => ("OneADay$Rock", "fogDays", "[J", true)
def tyX6 : Nat → FieldType := fun k => match k with
  | 0 => .boolean
  | 1 => .int
  | 2 => .int
  | 3 => .int
  | 4 => .int
  | 5 => .int
  | 6 => .int
  | 7 => .array .int
  | 8 => .array .int
  | 9 => .array .int
  | 10 => .array .int
  | 11 => .array .long
  | _ => .array .long
abbrev wsX60 : List Cond := u_ws RX6 TX6 13
theorem nmX6 : ∀ a, a < 13 → ∀ b, b < 13 → a ≠ b → (TX6 a).2.1 ≠ (TX6 b).2.1 := by decide +kernel
theorem tyX6_ok : ∀ k, k < 13 → parseFieldDescriptor (TX6 k).2.2.1 = some (tyX6 k) := by decide +kernel
abbrev cX6_init : ByteArray := prog_8_method_1_code
def yX6_init : MethodName := ⟨RX6, "<init>", "()V"⟩
abbrev cX6_clear : ByteArray := prog_8_method_2_code
def yX6_clear : MethodName := ⟨RX6, "clear", "()V"⟩
abbrev cX6_has : ByteArray := prog_8_method_3_code
def yX6_has : MethodName := ⟨RX6, "has", "(I)Z"⟩
abbrev cX6_all : ByteArray := prog_8_method_4_code
def yX6_all : MethodName := ⟨RX6, "all", "()I"⟩
abbrev cX6_periodOf : ByteArray := prog_8_method_5_code
def yX6_periodOf : MethodName := ⟨RX6, "periodOf", "(I)I"⟩
abbrev cX6_isFog : ByteArray := prog_8_method_6_code
def yX6_isFog : MethodName := ⟨RX6, "isFog", "(I)Z"⟩
abbrev cX6_isMarked : ByteArray := prog_8_method_7_code
def yX6_isMarked : MethodName := ⟨RX6, "isMarked", "([JI)Z"⟩
abbrev cX6_mark : ByteArray := prog_8_method_8_code
def yX6_mark : MethodName := ⟨RX6, "mark", "([JI)V"⟩
abbrev cX6_brings : ByteArray := prog_8_method_9_code
def yX6_brings : MethodName := ⟨RX6, "brings", "(III)Z"⟩
abbrev cX6_feetOf : ByteArray := prog_8_method_10_code
def yX6_feetOf : MethodName := ⟨RX6, "feetOf", "(I)I"⟩
def RX7 : String := "OneADay"
def TX7 : u_T := fun k => match k with
  | 0 => ("OneADay", "text", "[C", true)
  | 1 => ("OneADay", "letters", "I", false)
  | 2 => ("OneADay", "faultPlace", "I", false)
  | 3 => ("OneADay", "reader", "LOneADay$Reader;", true)
  | 4 => ("OneADay", "ground", "LOneADay$Rock;", false)
  | 5 => ("OneADay", "draft", "LOneADay$Rock;", false)
  | 6 => ("OneADay", "now", "LOneADay$Days;", true)
  | 7 => ("OneADay", "trial", "LOneADay$Days;", true)
  | 8 => ("OneADay", "past", "LOneADay$Past;", true)
  | 9 => ("OneADay", "images", "[LOneADay$Days;", true)
  | 10 => ("OneADay", "imageSeeds", "[I", true)
  | 11 => ("OneADay", "imagesKept", "I", false)
  | 12 => ("OneADay", "drawn", "I", false)
  | 13 => ("OneADay", "notes", "LOneADay$Notes;", true)
  | 14 => ("OneADay", "cover", "LOneADay$Cover;", true)
  | _ => ("OneADay", "plan", "LOneADay$Plan;", true)
def tyX7 : Nat → FieldType := fun k => match k with
  | 0 => .array .char
  | 1 => .int
  | 2 => .int
  | 3 => .object "OneADay$Reader"
  | 4 => .object "OneADay$Rock"
  | 5 => .object "OneADay$Rock"
  | 6 => .object "OneADay$Days"
  | 7 => .object "OneADay$Days"
  | 8 => .object "OneADay$Past"
  | 9 => .array (.object "OneADay$Days")
  | 10 => .array .int
  | 11 => .int
  | 12 => .int
  | 13 => .object "OneADay$Notes"
  | 14 => .object "OneADay$Cover"
  | _ => .object "OneADay$Plan"
abbrev wsX70 : List Cond := u_ws RX7 TX7 16
theorem nmX7 : ∀ a, a < 16 → ∀ b, b < 16 → a ≠ b → (TX7 a).2.1 ≠ (TX7 b).2.1 := by decide +kernel
theorem tyX7_ok : ∀ k, k < 16 → parseFieldDescriptor (TX7 k).2.2.1 = some (tyX7 k) := by decide +kernel
abbrev cX7_init : ByteArray := prog_1_method_1_code
def yX7_init : MethodName := ⟨RX7, "<init>", "()V"⟩
abbrev cX7_feed : ByteArray := prog_1_method_2_code
def yX7_feed : MethodName := ⟨RX7, "feed", "(I)I"⟩
abbrev cX7_rock : ByteArray := prog_1_method_3_code
def yX7_rock : MethodName := ⟨RX7, "rock", "()I"⟩
abbrev cX7_fault : ByteArray := prog_1_method_4_code
def yX7_fault : MethodName := ⟨RX7, "fault", "()I"⟩
abbrev cX7_told : ByteArray := prog_1_method_5_code
def yX7_told : MethodName := ⟨RX7, "told", "(I)I"⟩
abbrev cX7_village : ByteArray := prog_1_method_6_code
def yX7_village : MethodName := ⟨RX7, "village", "(II)I"⟩
abbrev cX7_comes : ByteArray := prog_1_method_7_code
def yX7_comes : MethodName := ⟨RX7, "comes", "(I)I"⟩
abbrev cX7_blessed : ByteArray := prog_1_method_8_code
def yX7_blessed : MethodName := ⟨RX7, "blessed", "(I)I"⟩
abbrev cX7_day : ByteArray := prog_1_method_9_code
def yX7_day : MethodName := ⟨RX7, "day", "(I)I"⟩
abbrev cX7_calendar : ByteArray := prog_1_method_10_code
def yX7_calendar : MethodName := ⟨RX7, "calendar", "(II)I"⟩
abbrev cX7_drift : ByteArray := prog_1_method_11_code
def yX7_drift : MethodName := ⟨RX7, "drift", "(I)I"⟩
abbrev cX7_undo : ByteArray := prog_1_method_12_code
def yX7_undo : MethodName := ⟨RX7, "undo", "()I"⟩
abbrev cX7_whenDown : ByteArray := prog_1_method_13_code
def yX7_whenDown : MethodName := ⟨RX7, "whenDown", "()I"⟩
abbrev cX7_ahead : ByteArray := prog_1_method_14_code
def yX7_ahead : MethodName := ⟨RX7, "ahead", "(II)I"⟩
abbrev cX7_certain : ByteArray := prog_1_method_15_code
def yX7_certain : MethodName := ⟨RX7, "certain", "(II)I"⟩
abbrev cX7_away : ByteArray := prog_1_method_16_code
def yX7_away : MethodName := ⟨RX7, "away", "(I)I"⟩
abbrev cX7_smoke : ByteArray := prog_1_method_17_code
def yX7_smoke : MethodName := ⟨RX7, "smoke", "(II)I"⟩
abbrev cX7_inn : ByteArray := prog_1_method_18_code
def yX7_inn : MethodName := ⟨RX7, "inn", "(I)I"⟩
abbrev cX7_feet : ByteArray := prog_1_method_19_code
def yX7_feet : MethodName := ⟨RX7, "feet", "(II)I"⟩
abbrev cX7_odds : ByteArray := prog_1_method_20_code
def yX7_odds : MethodName := ⟨RX7, "odds", "(I)I"⟩
abbrev cX7_see : ByteArray := prog_1_method_21_code
def yX7_see : MethodName := ⟨RX7, "see", "(II)I"⟩
abbrev cX7_went : ByteArray := prog_1_method_22_code
def yX7_went : MethodName := ⟨RX7, "went", "(II)I"⟩
abbrev cX7_write : ByteArray := prog_1_method_23_code
def yX7_write : MethodName := ⟨RX7, "write", "(II)I"⟩
abbrev cX7_tear : ByteArray := prog_1_method_24_code
def yX7_tear : MethodName := ⟨RX7, "tear", "()I"⟩
abbrev cX7_judge : ByteArray := prog_1_method_25_code
def yX7_judge : MethodName := ⟨RX7, "judge", "()I"⟩
abbrev cX7_seed : ByteArray := prog_1_method_26_code
def yX7_seed : MethodName := ⟨RX7, "seed", "(I)I"⟩
abbrev cX7_keep : ByteArray := prog_1_method_27_code
def yX7_keep : MethodName := ⟨RX7, "keep", "(I)I"⟩
abbrev cX7_goBack : ByteArray := prog_1_method_28_code
def yX7_goBack : MethodName := ⟨RX7, "goBack", "(I)I"⟩
abbrev cX7_refusalOfDays : ByteArray := prog_1_method_29_code
def yX7_refusalOfDays : MethodName := ⟨RX7, "refusalOfDays", "(I)I"⟩
abbrev cX7_draw : ByteArray := prog_1_method_30_code
def yX7_draw : MethodName := ⟨RX7, "draw", "(I)I"⟩
abbrev cX7_shiftByDraws : ByteArray := prog_1_method_31_code
def yX7_shiftByDraws : MethodName := ⟨RX7, "shiftByDraws", "()V"⟩
abbrev cX7_isPeaceful : ByteArray := prog_1_method_32_code
def yX7_isPeaceful : MethodName := ⟨RX7, "isPeaceful", "(II)Z"⟩
abbrev cX7_isLargeEnough : ByteArray := prog_1_method_33_code
def yX7_isLargeEnough : MethodName := ⟨RX7, "isLargeEnough", "(II)Z"⟩
abbrev cX7_dayToLookAt : ByteArray := prog_1_method_34_code
def yX7_dayToLookAt : MethodName := ⟨RX7, "dayToLookAt", "(II)I"⟩
abbrev cX7_outcomeOf : ByteArray := prog_1_method_35_code
def yX7_outcomeOf : MethodName := ⟨RX7, "outcomeOf", "(I)I"⟩
abbrev cX7_firstOf : ByteArray := prog_1_method_36_code
def yX7_firstOf : MethodName := ⟨RX7, "firstOf", "(I)I"⟩
def RX8 : String := "OneADayModel"
def TX8 : u_T := fun k => match k with
  | 0 => ("OneADayModel", "allows", "I", false)
  | 1 => ("OneADayModel", "year", "I", false)
  | 2 => ("OneADayModel", "inn", "I", false)
  | 3 => ("OneADayModel", "villages", "I", false)
  | 4 => ("OneADayModel", "road", "[I", true)
  | 5 => ("OneADayModel", "period", "[I", true)
  | 6 => ("OneADayModel", "fever", "[I", true)
  | 7 => ("OneADayModel", "feasts", "I", false)
  | 8 => ("OneADayModel", "feast", "[I", true)
  | 9 => ("OneADayModel", "fogs", "I", false)
  | 10 => ("OneADayModel", "fog", "[I", true)
  | 11 => ("OneADayModel", "now", "[I", true)
  | 12 => ("OneADayModel", "seed", "I", false)
  | 13 => ("OneADayModel", "text", "[I", true)
  | 14 => ("OneADayModel", "texted", "I", false)
  | 15 => ("OneADayModel", "faultPlace", "I", false)
  | 16 => ("OneADayModel", "at0", "I", false)
  | 17 => ("OneADayModel", "number", "I", false)
  | 18 => ("OneADayModel", "numberAt", "I", false)
  | 19 => ("OneADayModel", "readHermit", "[I", true)
  | 20 => ("OneADayModel", "readVillages", "I", false)
  | 21 => ("OneADayModel", "readRoad", "[I", true)
  | 22 => ("OneADayModel", "readPeriod", "[I", true)
  | 23 => ("OneADayModel", "readOffset", "[I", true)
  | 24 => ("OneADayModel", "readFever", "[I", true)
  | 25 => ("OneADayModel", "readFeasts", "I", false)
  | 26 => ("OneADayModel", "readFeast", "[I", true)
  | 27 => ("OneADayModel", "readFogs", "I", false)
  | 28 => ("OneADayModel", "readFog", "[I", true)
  | 29 => ("OneADayModel", "undos", "I", false)
  | 30 => ("OneADayModel", "past", "[I", true)
  | 31 => ("OneADayModel", "was", "[I", true)
  | 32 => ("OneADayModel", "tried", "[I", true)
  | 33 => ("OneADayModel", "low", "[I", true)
  | 34 => ("OneADayModel", "chosen", "[I", true)
  | 35 => ("OneADayModel", "bestChosen", "[I", true)
  | 36 => ("OneADayModel", "leastFeet", "I", false)
  | 37 => ("OneADayModel", "seen", "I", false)
  | 38 => ("OneADayModel", "seenDay", "[I", true)
  | 39 => ("OneADayModel", "seenHow", "[I", true)
  | 40 => ("OneADayModel", "booked", "I", false)
  | 41 => ("OneADayModel", "bookDay", "[I", true)
  | 42 => ("OneADayModel", "bookWho", "[I", true)
  | 43 => ("OneADayModel", "images", "[I", true)
  | _ => ("OneADayModel", "isKept", "[Z", true)
def tyX8 : Nat → FieldType := fun k => match k with
  | 0 => .int
  | 1 => .int
  | 2 => .int
  | 3 => .int
  | 4 => .array .int
  | 5 => .array .int
  | 6 => .array .int
  | 7 => .int
  | 8 => .array .int
  | 9 => .int
  | 10 => .array .int
  | 11 => .array .int
  | 12 => .int
  | 13 => .array .int
  | 14 => .int
  | 15 => .int
  | 16 => .int
  | 17 => .int
  | 18 => .int
  | 19 => .array .int
  | 20 => .int
  | 21 => .array .int
  | 22 => .array .int
  | 23 => .array .int
  | 24 => .array .int
  | 25 => .int
  | 26 => .array .int
  | 27 => .int
  | 28 => .array .int
  | 29 => .int
  | 30 => .array .int
  | 31 => .array .int
  | 32 => .array .int
  | 33 => .array .int
  | 34 => .array .int
  | 35 => .array .int
  | 36 => .int
  | 37 => .int
  | 38 => .array .int
  | 39 => .array .int
  | 40 => .int
  | 41 => .array .int
  | 42 => .array .int
  | 43 => .array .int
  | _ => .array .boolean
abbrev wsX80 : List Cond := u_ws RX8 TX8 45
theorem nmX8 : ∀ a, a < 45 → ∀ b, b < 45 → a ≠ b → (TX8 a).2.1 ≠ (TX8 b).2.1 := by decide +kernel
theorem tyX8_ok : ∀ k, k < 45 → parseFieldDescriptor (TX8 k).2.2.1 = some (tyX8 k) := by decide +kernel
abbrev cX8_init : ByteArray := prog_10_method_1_code
def yX8_init : MethodName := ⟨RX8, "<init>", "()V"⟩
abbrev cX8_in : ByteArray := prog_10_method_3_code
def yX8_in : MethodName := ⟨RX8, "in", "(JJJ)Z"⟩
abbrev cX8_has : ByteArray := prog_10_method_4_code
def yX8_has : MethodName := ⟨RX8, "has", "(II)Z"⟩
abbrev cX8_bits : ByteArray := prog_10_method_5_code
def yX8_bits : MethodName := ⟨RX8, "bits", "(I)I"⟩
abbrev cX8_isVillage : ByteArray := prog_10_method_6_code
def yX8_isVillage : MethodName := ⟨RX8, "isVillage", "(I)Z"⟩
abbrev cX8_feed : ByteArray := prog_10_method_7_code
def yX8_feed : MethodName := ⟨RX8, "feed", "(I)I"⟩
abbrev cX8_here : ByteArray := prog_10_method_8_code
def yX8_here : MethodName := ⟨RX8, "here", "()I"⟩
abbrev cX8_fails : ByteArray := prog_10_method_9_code
def yX8_fails : MethodName := ⟨RX8, "fails", "(II)I"⟩
abbrev cX8_takeNumber : ByteArray := prog_10_method_10_code
def yX8_takeNumber : MethodName := ⟨RX8, "takeNumber", "(II)I"⟩
abbrev cX8_into : ByteArray := prog_10_method_11_code
def yX8_into : MethodName := ⟨RX8, "into", "([IIII)I"⟩
abbrev cX8_takeHermit : ByteArray := prog_10_method_12_code
def yX8_takeHermit : MethodName := ⟨RX8, "takeHermit", "()I"⟩
abbrev cX8_takeVillage : ByteArray := prog_10_method_13_code
def yX8_takeVillage : MethodName := ⟨RX8, "takeVillage", "()I"⟩
abbrev cX8_takeDay : ByteArray := prog_10_method_14_code
def yX8_takeDay : MethodName := ⟨RX8, "takeDay", "([II)I"⟩
abbrev cX8_takeClause : ByteArray := prog_10_method_15_code
def yX8_takeClause : MethodName := ⟨RX8, "takeClause", "()I"⟩
abbrev cX8_takeRead : ByteArray := prog_10_method_16_code
def yX8_takeRead : MethodName := ⟨RX8, "takeRead", "()V"⟩
abbrev cX8_rock : ByteArray := prog_10_method_17_code
def yX8_rock : MethodName := ⟨RX8, "rock", "()I"⟩
abbrev cX8_fault : ByteArray := prog_10_method_18_code
def yX8_fault : MethodName := ⟨RX8, "fault", "()I"⟩
abbrev cX8_told : ByteArray := prog_10_method_19_code
def yX8_told : MethodName := ⟨RX8, "told", "(I)I"⟩
abbrev cX8_village : ByteArray := prog_10_method_20_code
def yX8_village : MethodName := ⟨RX8, "village", "(II)I"⟩
abbrev cX8_isFeast : ByteArray := prog_10_method_21_code
def yX8_isFeast : MethodName := ⟨RX8, "isFeast", "(I)Z"⟩
abbrev cX8_isFog : ByteArray := prog_10_method_22_code
def yX8_isFog : MethodName := ⟨RX8, "isFog", "(I)Z"⟩
abbrev cX8_goesBy : ByteArray := prog_10_method_23_code
def yX8_goesBy : MethodName := ⟨RX8, "goesBy", "(III)Z"⟩
abbrev cX8_goers : ByteArray := prog_10_method_24_code
def yX8_goers : MethodName := ⟨RX8, "goers", "(I)I"⟩
abbrev cX8_comers : ByteArray := prog_10_method_25_code
def yX8_comers : MethodName := ⟨RX8, "comers", "(I)I"⟩
abbrev cX8_comes : ByteArray := prog_10_method_26_code
def yX8_comes : MethodName := ⟨RX8, "comes", "(I)I"⟩
abbrev cX8_blessed : ByteArray := prog_10_method_27_code
def yX8_blessed : MethodName := ⟨RX8, "blessed", "(I)I"⟩
abbrev cX8_least : ByteArray := prog_10_method_28_code
def yX8_least : MethodName := ⟨RX8, "least", "(I)I"⟩
abbrev cX8_fromRow : ByteArray := prog_10_method_29_code
def yX8_fromRow : MethodName := ⟨RX8, "fromRow", "(II)I"⟩
abbrev cX8_pass : ByteArray := prog_10_method_30_code
def yX8_pass : MethodName := ⟨RX8, "pass", "(I)V"⟩
abbrev cX8_remember : ByteArray := prog_10_method_31_code
def yX8_remember : MethodName := ⟨RX8, "remember", "()V"⟩
abbrev cX8_daysRefused : ByteArray := prog_10_method_32_code
def yX8_daysRefused : MethodName := ⟨RX8, "daysRefused", "(I)I"⟩
abbrev cX8_day : ByteArray := prog_10_method_33_code
def yX8_day : MethodName := ⟨RX8, "day", "(I)I"⟩
abbrev cX8_calendar : ByteArray := prog_10_method_34_code
def yX8_calendar : MethodName := ⟨RX8, "calendar", "(II)I"⟩
abbrev cX8_draw : ByteArray := prog_10_method_35_code
def yX8_draw : MethodName := ⟨RX8, "draw", "(I)I"⟩
abbrev cX8_drift : ByteArray := prog_10_method_36_code
def yX8_drift : MethodName := ⟨RX8, "drift", "(I)I"⟩
abbrev cX8_undo : ByteArray := prog_10_method_37_code
def yX8_undo : MethodName := ⟨RX8, "undo", "()I"⟩
abbrev cX8_save : ByteArray := prog_10_method_38_code
def yX8_save : MethodName := ⟨RX8, "save", "()V"⟩
abbrev cX8_putBack : ByteArray := prog_10_method_39_code
def yX8_putBack : MethodName := ⟨RX8, "putBack", "()V"⟩
abbrev cX8_whenDown : ByteArray := prog_10_method_40_code
def yX8_whenDown : MethodName := ⟨RX8, "whenDown", "()I"⟩
abbrev cX8_ahead : ByteArray := prog_10_method_41_code
def yX8_ahead : MethodName := ⟨RX8, "ahead", "(II)I"⟩
abbrev cX8_common : ByteArray := prog_10_method_42_code
def yX8_common : MethodName := ⟨RX8, "common", "(II)I"⟩
abbrev cX8_isFree : ByteArray := prog_10_method_43_code
def yX8_isFree : MethodName := ⟨RX8, "isFree", "(II)Z"⟩
abbrev cX8_next : ByteArray := prog_10_method_44_code
def yX8_next : MethodName := ⟨RX8, "next", "(II)I"⟩
abbrev cX8_before : ByteArray := prog_10_method_45_code
def yX8_before : MethodName := ⟨RX8, "before", "(II)I"⟩
abbrev cX8_findCertain : ByteArray := prog_10_method_46_code
def yX8_findCertain : MethodName := ⟨RX8, "findCertain", "(I)Z"⟩
abbrev cX8_certain : ByteArray := prog_10_method_47_code
def yX8_certain : MethodName := ⟨RX8, "certain", "(II)I"⟩
abbrev cX8_away : ByteArray := prog_10_method_48_code
def yX8_away : MethodName := ⟨RX8, "away", "(I)I"⟩
abbrev cX8_smoke : ByteArray := prog_10_method_49_code
def yX8_smoke : MethodName := ⟨RX8, "smoke", "(II)I"⟩
abbrev cX8_inn : ByteArray := prog_10_method_50_code
def yX8_inn : MethodName := ⟨RX8, "inn", "(I)I"⟩
abbrev cX8_mayGo : ByteArray := prog_10_method_51_code
def yX8_mayGo : MethodName := ⟨RX8, "mayGo", "(II)Z"⟩
abbrev cX8_findLow : ByteArray := prog_10_method_52_code
def yX8_findLow : MethodName := ⟨RX8, "findLow", "(I)V"⟩
abbrev cX8_wasChosen : ByteArray := prog_10_method_53_code
def yX8_wasChosen : MethodName := ⟨RX8, "wasChosen", "(II)Z"⟩
abbrev cX8_latest : ByteArray := prog_10_method_54_code
def yX8_latest : MethodName := ⟨RX8, "latest", "(I)I"⟩
abbrev cX8_spent : ByteArray := prog_10_method_55_code
def yX8_spent : MethodName := ⟨RX8, "spent", "(I)I"⟩
abbrev cX8_findFeet : ByteArray := prog_10_method_56_code
def yX8_findFeet : MethodName := ⟨RX8, "findFeet", "(I)V"⟩
abbrev cX8_feet : ByteArray := prog_10_method_57_code
def yX8_feet : MethodName := ⟨RX8, "feet", "(II)I"⟩
abbrev cX8_odds : ByteArray := prog_10_method_58_code
def yX8_odds : MethodName := ⟨RX8, "odds", "(I)I"⟩
abbrev cX8_see : ByteArray := prog_10_method_59_code
def yX8_see : MethodName := ⟨RX8, "see", "(II)I"⟩
abbrev cX8_howBy : ByteArray := prog_10_method_60_code
def yX8_howBy : MethodName := ⟨RX8, "howBy", "(III)I"⟩
abbrev cX8_offsetsOf : ByteArray := prog_10_method_61_code
def yX8_offsetsOf : MethodName := ⟨RX8, "offsetsOf", "(I)I"⟩
abbrev cX8_went : ByteArray := prog_10_method_62_code
def yX8_went : MethodName := ⟨RX8, "went", "(II)I"⟩
abbrev cX8_write : ByteArray := prog_10_method_63_code
def yX8_write : MethodName := ⟨RX8, "write", "(II)I"⟩
abbrev cX8_tear : ByteArray := prog_10_method_64_code
def yX8_tear : MethodName := ⟨RX8, "tear", "()I"⟩
abbrev cX8_judge : ByteArray := prog_10_method_65_code
def yX8_judge : MethodName := ⟨RX8, "judge", "()I"⟩
abbrev cX8_seed : ByteArray := prog_10_method_66_code
def yX8_seed : MethodName := ⟨RX8, "seed", "(I)I"⟩
abbrev cX8_keep : ByteArray := prog_10_method_67_code
def yX8_keep : MethodName := ⟨RX8, "keep", "(I)I"⟩
abbrev cX8_goBack : ByteArray := prog_10_method_68_code
def yX8_goBack : MethodName := ⟨RX8, "goBack", "(I)I"⟩
def RJ6 : String := "java/lang/Integer"
def TJ6 : u_T := fun k => match k with
  | _ => ("", "", "", false)
def tyJ6 : Nat → FieldType := fun k => match k with
  | _ => .int
abbrev wsJ60 : List Cond := u_ws RJ6 TJ6 0
theorem nmJ6 : ∀ a, a < 0 → ∀ b, b < 0 → a ≠ b → (TJ6 a).2.1 ≠ (TJ6 b).2.1 := by decide +kernel
theorem tyJ6_ok : ∀ k, k < 0 → parseFieldDescriptor (TJ6 k).2.2.1 = some (tyJ6 k) := by decide +kernel
abbrev cJ6_bitCount_0f7a4 : ByteArray := prog_11_method_49_code
def yJ6_bitCount_0f7a4 : MethodName := ⟨RJ6, "bitCount", "(I)I"⟩
def RJ9 : String := "java/lang/Math"
def TJ9 : u_T := fun k => match k with
  | _ => ("", "", "", false)
def tyJ9 : Nat → FieldType := fun k => match k with
  | _ => .int
abbrev wsJ90 : List Cond := u_ws RJ9 TJ9 0
theorem nmJ9 : ∀ a, a < 0 → ∀ b, b < 0 → a ≠ b → (TJ9 a).2.1 ≠ (TJ9 b).2.1 := by decide +kernel
theorem tyJ9_ok : ∀ k, k < 0 → parseFieldDescriptor (TJ9 k).2.2.1 = some (tyJ9 k) := by decide +kernel
abbrev cJ9_max_7cf53 : ByteArray := prog_12_method_65_code
def yJ9_max_7cf53 : MethodName := ⟨RJ9, "max", "(II)I"⟩
abbrev cJ9_min_7cf53 : ByteArray := prog_12_method_69_code
def yJ9_min_7cf53 : MethodName := ⟨RJ9, "min", "(II)I"⟩
def RJ10 : String := "java/lang/System"
def TJ10 : u_T := fun k => match k with
  | _ => ("", "", "", false)
def tyJ10 : Nat → FieldType := fun k => match k with
  | _ => .int
abbrev wsJ100 : List Cond := u_ws RJ10 TJ10 0
theorem nmJ10 : ∀ a, a < 0 → ∀ b, b < 0 → a ≠ b → (TJ10 a).2.1 ≠ (TJ10 b).2.1 := by decide +kernel
theorem tyJ10_ok : ∀ k, k < 0 → parseFieldDescriptor (TJ10 k).2.2.1 = some (tyJ10 k) := by decide +kernel
def RJ7 : String := "java/util/Arrays"
def TJ7 : u_T := fun k => match k with
  | _ => ("", "", "", false)
def tyJ7 : Nat → FieldType := fun k => match k with
  | _ => .int
abbrev wsJ70 : List Cond := u_ws RJ7 TJ7 0
theorem nmJ7 : ∀ a, a < 0 → ∀ b, b < 0 → a ≠ b → (TJ7 a).2.1 ≠ (TJ7 b).2.1 := by decide +kernel
theorem tyJ7_ok : ∀ k, k < 0 → parseFieldDescriptor (TJ7 k).2.2.1 = some (tyJ7 k) := by decide +kernel
abbrev cJ7_fill_d0a16 : ByteArray := prog_14_method_101_code
def yJ7_fill_d0a16 : MethodName := ⟨RJ7, "fill", "([JJ)V"⟩
abbrev cJ7_fill_53178 : ByteArray := prog_14_method_103_code
def yJ7_fill_53178 : MethodName := ⟨RJ7, "fill", "([II)V"⟩
def RL : String := "OneADayLaw"
abbrev cL_law : ByteArray := code
def yL_law : MethodName := ⟨RL, "law", "([I)Z"⟩
abbrev vwCl : List vw_C := [(RX0, TX0, 1), (RX1, TX1, 14), (RX2, TX2, 6), (RX3, TX3, 3), (RX4, TX4, 4), (RX5, TX5, 5), (RX6, TX6, 13), (RX7, TX7, 16), (RX8, TX8, 45)]
end
section
theorem dX0_init_0 : decode cX0_init 0 = .ok (.aload_n 0, 1) := by decide +kernel
theorem dX0_init_1 : decode cX0_init 1 = .ok (.invokespecial 3, 3) := by decide +kernel
theorem dX0_init_4 : decode cX0_init 4 = .ok (.aload_n 0, 1) := by decide +kernel
theorem dX0_init_5 : decode cX0_init 5 = .ok (.bipush 8, 2) := by decide +kernel
theorem dX0_init_7 : decode cX0_init 7 = .ok (.newarray .int, 2) := by decide +kernel
theorem dX0_init_9 : decode cX0_init 9 = .ok (.putfield 9, 3) := by decide +kernel
theorem dX0_init_12 : decode cX0_init 12 = .ok (.return_, 1) := by decide +kernel
theorem dX0_find_0 : decode cX0_find 0 = .ok (.aload_n 1, 1) := by decide +kernel
theorem dX0_find_1 : decode cX0_find 1 = .ok (.iload_n 2, 1) := by decide +kernel
theorem dX0_find_2 : decode cX0_find 2 = .ok (.invokestatic 15, 3) := by decide +kernel
theorem dX0_find_5 : decode cX0_find 5 = .ok (.ifCond .eq 25, 3) := by decide +kernel
theorem dX0_find_8 : decode cX0_find 8 = .ok (.aload_n 1, 1) := by decide +kernel
theorem dX0_find_9 : decode cX0_find 9 = .ok (.iload_n 2, 1) := by decide +kernel
theorem dX0_find_10 : decode cX0_find 10 = .ok (.invokestatic 19, 3) := by decide +kernel
theorem dX0_find_13 : decode cX0_find 13 = .ok (.ifCond .eq 17, 3) := by decide +kernel
theorem dX0_find_16 : decode cX0_find 16 = .ok (.aload_n 0, 1) := by decide +kernel
theorem dX0_find_17 : decode cX0_find 17 = .ok (.aload_n 1, 1) := by decide +kernel
theorem dX0_find_18 : decode cX0_find 18 = .ok (.iload_n 2, 1) := by decide +kernel
theorem dX0_find_19 : decode cX0_find 19 = .ok (.iconst 0, 1) := by decide +kernel
theorem dX0_find_20 : decode cX0_find 20 = .ok (.invokevirtual 22, 3) := by decide +kernel
theorem dX0_find_23 : decode cX0_find 23 = .ok (.ifCond .eq 7, 3) := by decide +kernel
theorem dX0_find_26 : decode cX0_find 26 = .ok (.iconst 1, 1) := by decide +kernel
theorem dX0_find_27 : decode cX0_find 27 = .ok (.goto 4, 3) := by decide +kernel
theorem dX0_find_30 : decode cX0_find 30 = .ok (.iconst 0, 1) := by decide +kernel
theorem dX0_find_31 : decode cX0_find 31 = .ok (.ireturn, 1) := by decide +kernel
theorem dX0_comesOften_0 : decode cX0_comesOften 0 = .ok (.iconst 0, 1) := by decide +kernel
theorem dX0_comesOften_1 : decode cX0_comesOften 1 = .ok (.istore_n 2, 1) := by decide +kernel
theorem dX0_comesOften_2 : decode cX0_comesOften 2 = .ok (.iconst 0, 1) := by decide +kernel
theorem dX0_comesOften_3 : decode cX0_comesOften 3 = .ok (.istore_n 3, 1) := by decide +kernel
theorem dX0_comesOften_4 : decode cX0_comesOften 4 = .ok (.iload_n 3, 1) := by decide +kernel
theorem dX0_comesOften_5 : decode cX0_comesOften 5 = .ok (.aload_n 0, 1) := by decide +kernel
theorem dX0_comesOften_6 : decode cX0_comesOften 6 = .ok (.getfield 26, 3) := by decide +kernel
theorem dX0_comesOften_9 : decode cX0_comesOften 9 = .ok (.if_icmp .ge 35, 3) := by decide +kernel
theorem dX0_comesOften_12 : decode cX0_comesOften 12 = .ok (.iload_n 3, 1) := by decide +kernel
theorem dX0_comesOften_13 : decode cX0_comesOften 13 = .ok (.bipush 8, 2) := by decide +kernel
theorem dX0_comesOften_15 : decode cX0_comesOften 15 = .ok (.if_icmp .ge 29, 3) := by decide +kernel
theorem dX0_comesOften_18 : decode cX0_comesOften 18 = .ok (.iload_n 1, 1) := by decide +kernel
theorem dX0_comesOften_19 : decode cX0_comesOften 19 = .ok (.iload_n 3, 1) := by decide +kernel
theorem dX0_comesOften_20 : decode cX0_comesOften 20 = .ok (.ishr, 1) := by decide +kernel
theorem dX0_comesOften_21 : decode cX0_comesOften 21 = .ok (.iconst 1, 1) := by decide +kernel
theorem dX0_comesOften_22 : decode cX0_comesOften 22 = .ok (.iand, 1) := by decide +kernel
theorem dX0_comesOften_23 : decode cX0_comesOften 23 = .ok (.ifCond .eq 15, 3) := by decide +kernel
theorem dX0_comesOften_26 : decode cX0_comesOften 26 = .ok (.iload_n 2, 1) := by decide +kernel
theorem dX0_comesOften_27 : decode cX0_comesOften 27 = .ok (.sipush 2520, 3) := by decide +kernel
theorem dX0_comesOften_30 : decode cX0_comesOften 30 = .ok (.aload_n 0, 1) := by decide +kernel
theorem dX0_comesOften_31 : decode cX0_comesOften 31 = .ok (.iload_n 3, 1) := by decide +kernel
theorem dX0_comesOften_32 : decode cX0_comesOften 32 = .ok (.invokevirtual 32, 3) := by decide +kernel
theorem dX0_comesOften_35 : decode cX0_comesOften 35 = .ok (.idiv, 1) := by decide +kernel
theorem dX0_comesOften_36 : decode cX0_comesOften 36 = .ok (.iadd, 1) := by decide +kernel
theorem dX0_comesOften_37 : decode cX0_comesOften 37 = .ok (.istore_n 2, 1) := by decide +kernel
theorem dX0_comesOften_38 : decode cX0_comesOften 38 = .ok (.iinc 3 1, 3) := by decide +kernel
theorem dX0_comesOften_41 : decode cX0_comesOften 41 = .ok (.goto (-37), 3) := by decide +kernel
theorem dX0_comesOften_44 : decode cX0_comesOften 44 = .ok (.iload_n 2, 1) := by decide +kernel
theorem dX0_comesOften_45 : decode cX0_comesOften 45 = .ok (.sipush 2520, 3) := by decide +kernel
theorem dX0_comesOften_48 : decode cX0_comesOften 48 = .ok (.if_icmp .ne 7, 3) := by decide +kernel
theorem dX0_comesOften_51 : decode cX0_comesOften 51 = .ok (.iconst 1, 1) := by decide +kernel
theorem dX0_comesOften_52 : decode cX0_comesOften 52 = .ok (.goto 4, 3) := by decide +kernel
theorem dX0_comesOften_55 : decode cX0_comesOften 55 = .ok (.iconst 0, 1) := by decide +kernel
theorem dX0_comesOften_56 : decode cX0_comesOften 56 = .ok (.ireturn, 1) := by decide +kernel
theorem dX0_canPassEachOther_0 : decode cX0_canPassEachOther 0 = .ok (.iconst 0, 1) := by decide +kernel
theorem dX0_canPassEachOther_1 : decode cX0_canPassEachOther 1 = .ok (.istore_n 2, 1) := by decide +kernel
theorem dX0_canPassEachOther_2 : decode cX0_canPassEachOther 2 = .ok (.iload_n 2, 1) := by decide +kernel
theorem dX0_canPassEachOther_3 : decode cX0_canPassEachOther 3 = .ok (.aload_n 0, 1) := by decide +kernel
theorem dX0_canPassEachOther_4 : decode cX0_canPassEachOther 4 = .ok (.getfield 26, 3) := by decide +kernel
theorem dX0_canPassEachOther_7 : decode cX0_canPassEachOther 7 = .ok (.if_icmp .ge 75, 3) := by decide +kernel
theorem dX0_canPassEachOther_10 : decode cX0_canPassEachOther 10 = .ok (.iload_n 2, 1) := by decide +kernel
theorem dX0_canPassEachOther_11 : decode cX0_canPassEachOther 11 = .ok (.bipush 8, 2) := by decide +kernel
theorem dX0_canPassEachOther_13 : decode cX0_canPassEachOther 13 = .ok (.if_icmp .ge 69, 3) := by decide +kernel
theorem dX0_canPassEachOther_16 : decode cX0_canPassEachOther 16 = .ok (.iconst 0, 1) := by decide +kernel
theorem dX0_canPassEachOther_17 : decode cX0_canPassEachOther 17 = .ok (.istore_n 3, 1) := by decide +kernel
theorem dX0_canPassEachOther_18 : decode cX0_canPassEachOther 18 = .ok (.iload_n 3, 1) := by decide +kernel
theorem dX0_canPassEachOther_19 : decode cX0_canPassEachOther 19 = .ok (.iload_n 2, 1) := by decide +kernel
theorem dX0_canPassEachOther_20 : decode cX0_canPassEachOther 20 = .ok (.if_icmp .ge 56, 3) := by decide +kernel
theorem dX0_canPassEachOther_23 : decode cX0_canPassEachOther 23 = .ok (.iload_n 1, 1) := by decide +kernel
theorem dX0_canPassEachOther_24 : decode cX0_canPassEachOther 24 = .ok (.iload_n 3, 1) := by decide +kernel
theorem dX0_canPassEachOther_25 : decode cX0_canPassEachOther 25 = .ok (.ishr, 1) := by decide +kernel
theorem dX0_canPassEachOther_26 : decode cX0_canPassEachOther 26 = .ok (.iconst 1, 1) := by decide +kernel
theorem dX0_canPassEachOther_27 : decode cX0_canPassEachOther 27 = .ok (.iand, 1) := by decide +kernel
theorem dX0_canPassEachOther_28 : decode cX0_canPassEachOther 28 = .ok (.ifCond .eq 15, 3) := by decide +kernel
theorem dX0_canPassEachOther_31 : decode cX0_canPassEachOther 31 = .ok (.iload_n 1, 1) := by decide +kernel
theorem dX0_canPassEachOther_32 : decode cX0_canPassEachOther 32 = .ok (.iload_n 2, 1) := by decide +kernel
theorem dX0_canPassEachOther_33 : decode cX0_canPassEachOther 33 = .ok (.ishr, 1) := by decide +kernel
theorem dX0_canPassEachOther_34 : decode cX0_canPassEachOther 34 = .ok (.iconst 1, 1) := by decide +kernel
theorem dX0_canPassEachOther_35 : decode cX0_canPassEachOther 35 = .ok (.iand, 1) := by decide +kernel
theorem dX0_canPassEachOther_36 : decode cX0_canPassEachOther 36 = .ok (.ifCond .eq 7, 3) := by decide +kernel
theorem dX0_canPassEachOther_39 : decode cX0_canPassEachOther 39 = .ok (.iconst 1, 1) := by decide +kernel
theorem dX0_canPassEachOther_40 : decode cX0_canPassEachOther 40 = .ok (.goto 4, 3) := by decide +kernel
theorem dX0_canPassEachOther_43 : decode cX0_canPassEachOther 43 = .ok (.iconst 0, 1) := by decide +kernel
theorem dX0_canPassEachOther_44 : decode cX0_canPassEachOther 44 = .ok (.istore 4, 2) := by decide +kernel
theorem dX0_canPassEachOther_46 : decode cX0_canPassEachOther 46 = .ok (.iload 4, 2) := by decide +kernel
theorem dX0_canPassEachOther_48 : decode cX0_canPassEachOther 48 = .ok (.ifCond .eq 22, 3) := by decide +kernel
theorem dX0_canPassEachOther_51 : decode cX0_canPassEachOther 51 = .ok (.aload_n 0, 1) := by decide +kernel
theorem dX0_canPassEachOther_52 : decode cX0_canPassEachOther 52 = .ok (.iload_n 3, 1) := by decide +kernel
theorem dX0_canPassEachOther_53 : decode cX0_canPassEachOther 53 = .ok (.invokevirtual 32, 3) := by decide +kernel
theorem dX0_canPassEachOther_56 : decode cX0_canPassEachOther 56 = .ok (.aload_n 0, 1) := by decide +kernel
theorem dX0_canPassEachOther_57 : decode cX0_canPassEachOther 57 = .ok (.iload_n 2, 1) := by decide +kernel
theorem dX0_canPassEachOther_58 : decode cX0_canPassEachOther 58 = .ok (.invokevirtual 32, 3) := by decide +kernel
theorem dX0_canPassEachOther_61 : decode cX0_canPassEachOther 61 = .ok (.invokestatic 36, 3) := by decide +kernel
theorem dX0_canPassEachOther_64 : decode cX0_canPassEachOther 64 = .ok (.iconst 1, 1) := by decide +kernel
theorem dX0_canPassEachOther_65 : decode cX0_canPassEachOther 65 = .ok (.if_icmp .ne 5, 3) := by decide +kernel
theorem dX0_canPassEachOther_68 : decode cX0_canPassEachOther 68 = .ok (.iconst 0, 1) := by decide +kernel
theorem dX0_canPassEachOther_69 : decode cX0_canPassEachOther 69 = .ok (.ireturn, 1) := by decide +kernel
theorem dX0_canPassEachOther_70 : decode cX0_canPassEachOther 70 = .ok (.iinc 3 1, 3) := by decide +kernel
theorem dX0_canPassEachOther_73 : decode cX0_canPassEachOther 73 = .ok (.goto (-55), 3) := by decide +kernel
theorem dX0_canPassEachOther_76 : decode cX0_canPassEachOther 76 = .ok (.iinc 2 1, 3) := by decide +kernel
theorem dX0_canPassEachOther_79 : decode cX0_canPassEachOther 79 = .ok (.goto (-77), 3) := by decide +kernel
theorem dX0_canPassEachOther_82 : decode cX0_canPassEachOther 82 = .ok (.iconst 1, 1) := by decide +kernel
theorem dX0_canPassEachOther_83 : decode cX0_canPassEachOther 83 = .ok (.ireturn, 1) := by decide +kernel
theorem dX0_place_0 : decode cX0_place 0 = .ok (.iload_n 3, 1) := by decide +kernel
theorem dX0_place_1 : decode cX0_place 1 = .ok (.ifCond .lt 20, 3) := by decide +kernel
theorem dX0_place_4 : decode cX0_place 4 = .ok (.iload_n 3, 1) := by decide +kernel
theorem dX0_place_5 : decode cX0_place 5 = .ok (.aload_n 1, 1) := by decide +kernel
theorem dX0_place_6 : decode cX0_place 6 = .ok (.getfield 26, 3) := by decide +kernel
theorem dX0_place_9 : decode cX0_place 9 = .ok (.if_icmp .ge 12, 3) := by decide +kernel
theorem dX0_place_12 : decode cX0_place 12 = .ok (.iload_n 3, 1) := by decide +kernel
theorem dX0_place_13 : decode cX0_place 13 = .ok (.aload_n 0, 1) := by decide +kernel
theorem dX0_place_14 : decode cX0_place 14 = .ok (.getfield 9, 3) := by decide +kernel
theorem dX0_place_17 : decode cX0_place 17 = .ok (.arraylength, 1) := by decide +kernel
theorem dX0_place_18 : decode cX0_place 18 = .ok (.if_icmp .lt 5, 3) := by decide +kernel
theorem dX0_place_21 : decode cX0_place 21 = .ok (.iconst 1, 1) := by decide +kernel
theorem dX0_place_22 : decode cX0_place 22 = .ok (.ireturn, 1) := by decide +kernel
theorem dX0_place_23 : decode cX0_place 23 = .ok (.iload_n 2, 1) := by decide +kernel
theorem dX0_place_24 : decode cX0_place 24 = .ok (.iload_n 3, 1) := by decide +kernel
theorem dX0_place_25 : decode cX0_place 25 = .ok (.ishr, 1) := by decide +kernel
theorem dX0_place_26 : decode cX0_place 26 = .ok (.iconst 1, 1) := by decide +kernel
theorem dX0_place_27 : decode cX0_place 27 = .ok (.iand, 1) := by decide +kernel
theorem dX0_place_28 : decode cX0_place 28 = .ok (.ifCond .ne 13, 3) := by decide +kernel
theorem dX0_place_31 : decode cX0_place 31 = .ok (.aload_n 0, 1) := by decide +kernel
theorem dX0_place_32 : decode cX0_place 32 = .ok (.aload_n 1, 1) := by decide +kernel
theorem dX0_place_33 : decode cX0_place 33 = .ok (.iload_n 2, 1) := by decide +kernel
theorem dX0_place_34 : decode cX0_place 34 = .ok (.iload_n 3, 1) := by decide +kernel
theorem dX0_place_35 : decode cX0_place 35 = .ok (.iconst 1, 1) := by decide +kernel
theorem dX0_place_36 : decode cX0_place 36 = .ok (.iadd, 1) := by decide +kernel
theorem dX0_place_37 : decode cX0_place 37 = .ok (.invokevirtual 22, 3) := by decide +kernel
theorem dX0_place_40 : decode cX0_place 40 = .ok (.ireturn, 1) := by decide +kernel
theorem dX0_place_41 : decode cX0_place 41 = .ok (.iconst 0, 1) := by decide +kernel
theorem dX0_place_42 : decode cX0_place 42 = .ok (.istore 4, 2) := by decide +kernel
theorem dX0_place_44 : decode cX0_place 44 = .ok (.iload 4, 2) := by decide +kernel
theorem dX0_place_46 : decode cX0_place 46 = .ok (.aload_n 1, 1) := by decide +kernel
theorem dX0_place_47 : decode cX0_place 47 = .ok (.iload_n 3, 1) := by decide +kernel
theorem dX0_place_48 : decode cX0_place 48 = .ok (.invokevirtual 32, 3) := by decide +kernel
theorem dX0_place_51 : decode cX0_place 51 = .ok (.if_icmp .ge 46, 3) := by decide +kernel
theorem dX0_place_54 : decode cX0_place 54 = .ok (.aload_n 0, 1) := by decide +kernel
theorem dX0_place_55 : decode cX0_place 55 = .ok (.aload_n 1, 1) := by decide +kernel
theorem dX0_place_56 : decode cX0_place 56 = .ok (.iload_n 2, 1) := by decide +kernel
theorem dX0_place_57 : decode cX0_place 57 = .ok (.iload_n 3, 1) := by decide +kernel
theorem dX0_place_58 : decode cX0_place 58 = .ok (.iload 4, 2) := by decide +kernel
theorem dX0_place_60 : decode cX0_place 60 = .ok (.invokevirtual 40, 3) := by decide +kernel
theorem dX0_place_63 : decode cX0_place 63 = .ok (.ifCond .eq 6, 3) := by decide +kernel
theorem dX0_place_66 : decode cX0_place 66 = .ok (.goto 25, 3) := by decide +kernel
theorem dX0_place_69 : decode cX0_place 69 = .ok (.aload_n 0, 1) := by decide +kernel
theorem dX0_place_70 : decode cX0_place 70 = .ok (.getfield 9, 3) := by decide +kernel
theorem dX0_place_73 : decode cX0_place 73 = .ok (.iload_n 3, 1) := by decide +kernel
theorem dX0_place_74 : decode cX0_place 74 = .ok (.iload 4, 2) := by decide +kernel
theorem dX0_place_76 : decode cX0_place 76 = .ok (.iastore, 1) := by decide +kernel
theorem dX0_place_77 : decode cX0_place 77 = .ok (.aload_n 0, 1) := by decide +kernel
theorem dX0_place_78 : decode cX0_place 78 = .ok (.aload_n 1, 1) := by decide +kernel
theorem dX0_place_79 : decode cX0_place 79 = .ok (.iload_n 2, 1) := by decide +kernel
theorem dX0_place_80 : decode cX0_place 80 = .ok (.iload_n 3, 1) := by decide +kernel
theorem dX0_place_81 : decode cX0_place 81 = .ok (.iconst 1, 1) := by decide +kernel
theorem dX0_place_82 : decode cX0_place 82 = .ok (.iadd, 1) := by decide +kernel
theorem dX0_place_83 : decode cX0_place 83 = .ok (.invokevirtual 22, 3) := by decide +kernel
theorem dX0_place_86 : decode cX0_place 86 = .ok (.ifCond .eq 5, 3) := by decide +kernel
theorem dX0_place_89 : decode cX0_place 89 = .ok (.iconst 1, 1) := by decide +kernel
theorem dX0_place_90 : decode cX0_place 90 = .ok (.ireturn, 1) := by decide +kernel
theorem dX0_place_91 : decode cX0_place 91 = .ok (.iinc 4 1, 3) := by decide +kernel
theorem dX0_place_94 : decode cX0_place 94 = .ok (.goto (-50), 3) := by decide +kernel
theorem dX0_place_97 : decode cX0_place 97 = .ok (.iconst 0, 1) := by decide +kernel
theorem dX0_place_98 : decode cX0_place 98 = .ok (.ireturn, 1) := by decide +kernel
theorem dX0_meetsOneBefore_0 : decode cX0_meetsOneBefore 0 = .ok (.iconst 0, 1) := by decide +kernel
theorem dX0_meetsOneBefore_1 : decode cX0_meetsOneBefore 1 = .ok (.istore 5, 2) := by decide +kernel
theorem dX0_meetsOneBefore_3 : decode cX0_meetsOneBefore 3 = .ok (.iload 5, 2) := by decide +kernel
theorem dX0_meetsOneBefore_5 : decode cX0_meetsOneBefore 5 = .ok (.iload_n 3, 1) := by decide +kernel
theorem dX0_meetsOneBefore_6 : decode cX0_meetsOneBefore 6 = .ok (.if_icmp .ge 65, 3) := by decide +kernel
theorem dX0_meetsOneBefore_9 : decode cX0_meetsOneBefore 9 = .ok (.iload 5, 2) := by decide +kernel
theorem dX0_meetsOneBefore_11 : decode cX0_meetsOneBefore 11 = .ok (.aload_n 0, 1) := by decide +kernel
theorem dX0_meetsOneBefore_12 : decode cX0_meetsOneBefore 12 = .ok (.getfield 9, 3) := by decide +kernel
theorem dX0_meetsOneBefore_15 : decode cX0_meetsOneBefore 15 = .ok (.arraylength, 1) := by decide +kernel
theorem dX0_meetsOneBefore_16 : decode cX0_meetsOneBefore 16 = .ok (.if_icmp .ge 55, 3) := by decide +kernel
theorem dX0_meetsOneBefore_19 : decode cX0_meetsOneBefore 19 = .ok (.iload_n 2, 1) := by decide +kernel
theorem dX0_meetsOneBefore_20 : decode cX0_meetsOneBefore 20 = .ok (.iload 5, 2) := by decide +kernel
theorem dX0_meetsOneBefore_22 : decode cX0_meetsOneBefore 22 = .ok (.ishr, 1) := by decide +kernel
theorem dX0_meetsOneBefore_23 : decode cX0_meetsOneBefore 23 = .ok (.iconst 1, 1) := by decide +kernel
theorem dX0_meetsOneBefore_24 : decode cX0_meetsOneBefore 24 = .ok (.iand, 1) := by decide +kernel
theorem dX0_meetsOneBefore_25 : decode cX0_meetsOneBefore 25 = .ok (.ifCond .ne 6, 3) := by decide +kernel
theorem dX0_meetsOneBefore_28 : decode cX0_meetsOneBefore 28 = .ok (.goto 37, 3) := by decide +kernel
theorem dX0_meetsOneBefore_31 : decode cX0_meetsOneBefore 31 = .ok (.aload_n 1, 1) := by decide +kernel
theorem dX0_meetsOneBefore_32 : decode cX0_meetsOneBefore 32 = .ok (.iload 5, 2) := by decide +kernel
theorem dX0_meetsOneBefore_34 : decode cX0_meetsOneBefore 34 = .ok (.invokevirtual 32, 3) := by decide +kernel
theorem dX0_meetsOneBefore_37 : decode cX0_meetsOneBefore 37 = .ok (.aload_n 1, 1) := by decide +kernel
theorem dX0_meetsOneBefore_38 : decode cX0_meetsOneBefore 38 = .ok (.iload_n 3, 1) := by decide +kernel
theorem dX0_meetsOneBefore_39 : decode cX0_meetsOneBefore 39 = .ok (.invokevirtual 32, 3) := by decide +kernel
theorem dX0_meetsOneBefore_42 : decode cX0_meetsOneBefore 42 = .ok (.invokestatic 36, 3) := by decide +kernel
theorem dX0_meetsOneBefore_45 : decode cX0_meetsOneBefore 45 = .ok (.istore 6, 2) := by decide +kernel
theorem dX0_meetsOneBefore_47 : decode cX0_meetsOneBefore 47 = .ok (.iload 4, 2) := by decide +kernel
theorem dX0_meetsOneBefore_49 : decode cX0_meetsOneBefore 49 = .ok (.aload_n 0, 1) := by decide +kernel
theorem dX0_meetsOneBefore_50 : decode cX0_meetsOneBefore 50 = .ok (.getfield 9, 3) := by decide +kernel
theorem dX0_meetsOneBefore_53 : decode cX0_meetsOneBefore 53 = .ok (.iload 5, 2) := by decide +kernel
theorem dX0_meetsOneBefore_55 : decode cX0_meetsOneBefore 55 = .ok (.iaload, 1) := by decide +kernel
theorem dX0_meetsOneBefore_56 : decode cX0_meetsOneBefore 56 = .ok (.isub, 1) := by decide +kernel
theorem dX0_meetsOneBefore_57 : decode cX0_meetsOneBefore 57 = .ok (.iload 6, 2) := by decide +kernel
theorem dX0_meetsOneBefore_59 : decode cX0_meetsOneBefore 59 = .ok (.irem, 1) := by decide +kernel
theorem dX0_meetsOneBefore_60 : decode cX0_meetsOneBefore 60 = .ok (.ifCond .ne 5, 3) := by decide +kernel
theorem dX0_meetsOneBefore_63 : decode cX0_meetsOneBefore 63 = .ok (.iconst 1, 1) := by decide +kernel
theorem dX0_meetsOneBefore_64 : decode cX0_meetsOneBefore 64 = .ok (.ireturn, 1) := by decide +kernel
theorem dX0_meetsOneBefore_65 : decode cX0_meetsOneBefore 65 = .ok (.iinc 5 1, 3) := by decide +kernel
theorem dX0_meetsOneBefore_68 : decode cX0_meetsOneBefore 68 = .ok (.goto (-65), 3) := by decide +kernel
theorem dX0_meetsOneBefore_71 : decode cX0_meetsOneBefore 71 = .ok (.iconst 0, 1) := by decide +kernel
theorem dX0_meetsOneBefore_72 : decode cX0_meetsOneBefore 72 = .ok (.ireturn, 1) := by decide +kernel
theorem dX0_commonDivisor_0 : decode cX0_commonDivisor 0 = .ok (.iload_n 0, 1) := by decide +kernel
theorem dX0_commonDivisor_1 : decode cX0_commonDivisor 1 = .ok (.iload_n 1, 1) := by decide +kernel
theorem dX0_commonDivisor_2 : decode cX0_commonDivisor 2 = .ok (.invokestatic 44, 3) := by decide +kernel
theorem dX0_commonDivisor_5 : decode cX0_commonDivisor 5 = .ok (.istore_n 2, 1) := by decide +kernel
theorem dX0_commonDivisor_6 : decode cX0_commonDivisor 6 = .ok (.iload_n 2, 1) := by decide +kernel
theorem dX0_commonDivisor_7 : decode cX0_commonDivisor 7 = .ok (.iconst 1, 1) := by decide +kernel
theorem dX0_commonDivisor_8 : decode cX0_commonDivisor 8 = .ok (.if_icmp .le 23, 3) := by decide +kernel
theorem dX0_commonDivisor_11 : decode cX0_commonDivisor 11 = .ok (.iload_n 0, 1) := by decide +kernel
theorem dX0_commonDivisor_12 : decode cX0_commonDivisor 12 = .ok (.iload_n 2, 1) := by decide +kernel
theorem dX0_commonDivisor_13 : decode cX0_commonDivisor 13 = .ok (.irem, 1) := by decide +kernel
theorem dX0_commonDivisor_14 : decode cX0_commonDivisor 14 = .ok (.ifCond .ne 11, 3) := by decide +kernel
theorem dX0_commonDivisor_17 : decode cX0_commonDivisor 17 = .ok (.iload_n 1, 1) := by decide +kernel
theorem dX0_commonDivisor_18 : decode cX0_commonDivisor 18 = .ok (.iload_n 2, 1) := by decide +kernel
theorem dX0_commonDivisor_19 : decode cX0_commonDivisor 19 = .ok (.irem, 1) := by decide +kernel
theorem dX0_commonDivisor_20 : decode cX0_commonDivisor 20 = .ok (.ifCond .ne 5, 3) := by decide +kernel
theorem dX0_commonDivisor_23 : decode cX0_commonDivisor 23 = .ok (.iload_n 2, 1) := by decide +kernel
theorem dX0_commonDivisor_24 : decode cX0_commonDivisor 24 = .ok (.ireturn, 1) := by decide +kernel
theorem dX0_commonDivisor_25 : decode cX0_commonDivisor 25 = .ok (.iinc 2 (-1), 3) := by decide +kernel
theorem dX0_commonDivisor_28 : decode cX0_commonDivisor 28 = .ok (.goto (-22), 3) := by decide +kernel
theorem dX0_commonDivisor_31 : decode cX0_commonDivisor 31 = .ok (.iconst 1, 1) := by decide +kernel
theorem dX0_commonDivisor_32 : decode cX0_commonDivisor 32 = .ok (.ireturn, 1) := by decide +kernel
theorem dX1_init_0 : decode cX1_init 0 = .ok (.aload_n 0, 1) := by decide +kernel
theorem dX1_init_1 : decode cX1_init 1 = .ok (.invokespecial 3, 3) := by decide +kernel
theorem dX1_init_4 : decode cX1_init 4 = .ok (.aload_n 0, 1) := by decide +kernel
theorem dX1_init_5 : decode cX1_init 5 = .ok (.bipush 8, 2) := by decide +kernel
theorem dX1_init_7 : decode cX1_init 7 = .ok (.newarray .int, 2) := by decide +kernel
theorem dX1_init_9 : decode cX1_init 9 = .ok (.putfield 9, 3) := by decide +kernel
theorem dX1_init_12 : decode cX1_init 12 = .ok (.aload_n 0, 1) := by decide +kernel
theorem dX1_init_13 : decode cX1_init 13 = .ok (.bipush 8, 2) := by decide +kernel
theorem dX1_init_15 : decode cX1_init 15 = .ok (.newarray .int, 2) := by decide +kernel
theorem dX1_init_17 : decode cX1_init 17 = .ok (.putfield 15, 3) := by decide +kernel
theorem dX1_init_20 : decode cX1_init 20 = .ok (.aload_n 0, 1) := by decide +kernel
theorem dX1_init_21 : decode cX1_init 21 = .ok (.bipush 17, 2) := by decide +kernel
theorem dX1_init_23 : decode cX1_init 23 = .ok (.newarray .int, 2) := by decide +kernel
theorem dX1_init_25 : decode cX1_init 25 = .ok (.putfield 18, 3) := by decide +kernel
theorem dX1_init_28 : decode cX1_init 28 = .ok (.aload_n 0, 1) := by decide +kernel
theorem dX1_init_29 : decode cX1_init 29 = .ok (.bipush 60, 2) := by decide +kernel
theorem dX1_init_31 : decode cX1_init 31 = .ok (.newarray .int, 2) := by decide +kernel
theorem dX1_init_33 : decode cX1_init 33 = .ok (.putfield 21, 3) := by decide +kernel
theorem dX1_init_36 : decode cX1_init 36 = .ok (.aload_n 0, 1) := by decide +kernel
theorem dX1_init_37 : decode cX1_init 37 = .ok (.getfield 15, 3) := by decide +kernel
theorem dX1_init_40 : decode cX1_init 40 = .ok (.iconst (-1), 1) := by decide +kernel
theorem dX1_init_41 : decode cX1_init 41 = .ok (.invokestatic 24, 3) := by decide +kernel
theorem dX1_init_44 : decode cX1_init 44 = .ok (.return_, 1) := by decide +kernel
theorem dX1_begin_0 : decode cX1_begin 0 = .ok (.aload_n 1, 1) := by decide +kernel
theorem dX1_begin_1 : decode cX1_begin 1 = .ok (.getfield 30, 3) := by decide +kernel
theorem dX1_begin_4 : decode cX1_begin 4 = .ok (.iconst 0, 1) := by decide +kernel
theorem dX1_begin_5 : decode cX1_begin 5 = .ok (.aload_n 0, 1) := by decide +kernel
theorem dX1_begin_6 : decode cX1_begin 6 = .ok (.getfield 9, 3) := by decide +kernel
theorem dX1_begin_9 : decode cX1_begin 9 = .ok (.iconst 0, 1) := by decide +kernel
theorem dX1_begin_10 : decode cX1_begin 10 = .ok (.bipush 8, 2) := by decide +kernel
theorem dX1_begin_12 : decode cX1_begin 12 = .ok (.invokestatic 35, 3) := by decide +kernel
theorem dX1_begin_15 : decode cX1_begin 15 = .ok (.aload_n 0, 1) := by decide +kernel
theorem dX1_begin_16 : decode cX1_begin 16 = .ok (.getfield 15, 3) := by decide +kernel
theorem dX1_begin_19 : decode cX1_begin 19 = .ok (.iconst (-1), 1) := by decide +kernel
theorem dX1_begin_20 : decode cX1_begin 20 = .ok (.invokestatic 24, 3) := by decide +kernel
theorem dX1_begin_23 : decode cX1_begin 23 = .ok (.aload_n 0, 1) := by decide +kernel
theorem dX1_begin_24 : decode cX1_begin 24 = .ok (.iconst 0, 1) := by decide +kernel
theorem dX1_begin_25 : decode cX1_begin 25 = .ok (.putfield 41, 3) := by decide +kernel
theorem dX1_begin_28 : decode cX1_begin 28 = .ok (.aload_n 0, 1) := by decide +kernel
theorem dX1_begin_29 : decode cX1_begin 29 = .ok (.iconst 0, 1) := by decide +kernel
theorem dX1_begin_30 : decode cX1_begin 30 = .ok (.putfield 45, 3) := by decide +kernel
theorem dX1_begin_33 : decode cX1_begin 33 = .ok (.aload_n 0, 1) := by decide +kernel
theorem dX1_begin_34 : decode cX1_begin 34 = .ok (.iconst 0, 1) := by decide +kernel
theorem dX1_begin_35 : decode cX1_begin 35 = .ok (.putfield 48, 3) := by decide +kernel
theorem dX1_begin_38 : decode cX1_begin 38 = .ok (.aload_n 0, 1) := by decide +kernel
theorem dX1_begin_39 : decode cX1_begin 39 = .ok (.iconst 0, 1) := by decide +kernel
theorem dX1_begin_40 : decode cX1_begin 40 = .ok (.putfield 51, 3) := by decide +kernel
theorem dX1_begin_43 : decode cX1_begin 43 = .ok (.aload_n 0, 1) := by decide +kernel
theorem dX1_begin_44 : decode cX1_begin 44 = .ok (.iconst 0, 1) := by decide +kernel
theorem dX1_begin_45 : decode cX1_begin 45 = .ok (.putfield 54, 3) := by decide +kernel
theorem dX1_begin_48 : decode cX1_begin 48 = .ok (.aload_n 0, 1) := by decide +kernel
theorem dX1_begin_49 : decode cX1_begin 49 = .ok (.iconst 0, 1) := by decide +kernel
theorem dX1_begin_50 : decode cX1_begin 50 = .ok (.putfield 57, 3) := by decide +kernel
theorem dX1_begin_53 : decode cX1_begin 53 = .ok (.aload_n 0, 1) := by decide +kernel
theorem dX1_begin_54 : decode cX1_begin 54 = .ok (.iconst 0, 1) := by decide +kernel
theorem dX1_begin_55 : decode cX1_begin 55 = .ok (.putfield 60, 3) := by decide +kernel
theorem dX1_begin_58 : decode cX1_begin 58 = .ok (.aload_n 0, 1) := by decide +kernel
theorem dX1_begin_59 : decode cX1_begin 59 = .ok (.iconst 0, 1) := by decide +kernel
theorem dX1_begin_60 : decode cX1_begin 60 = .ok (.putfield 63, 3) := by decide +kernel
theorem dX1_begin_63 : decode cX1_begin 63 = .ok (.aload_n 0, 1) := by decide +kernel
theorem dX1_begin_64 : decode cX1_begin 64 = .ok (.iconst 0, 1) := by decide +kernel
theorem dX1_begin_65 : decode cX1_begin 65 = .ok (.putfield 66, 3) := by decide +kernel
theorem dX1_begin_68 : decode cX1_begin 68 = .ok (.aload_n 0, 1) := by decide +kernel
theorem dX1_begin_69 : decode cX1_begin 69 = .ok (.iconst 0, 1) := by decide +kernel
theorem dX1_begin_70 : decode cX1_begin 70 = .ok (.putfield 69, 3) := by decide +kernel
theorem dX1_begin_73 : decode cX1_begin 73 = .ok (.return_, 1) := by decide +kernel
theorem dX1_copy_0 : decode cX1_copy 0 = .ok (.aload_n 0, 1) := by decide +kernel
theorem dX1_copy_1 : decode cX1_copy 1 = .ok (.aload_n 1, 1) := by decide +kernel
theorem dX1_copy_2 : decode cX1_copy 2 = .ok (.invokevirtual 73, 3) := by decide +kernel
theorem dX1_copy_5 : decode cX1_copy 5 = .ok (.aload_n 1, 1) := by decide +kernel
theorem dX1_copy_6 : decode cX1_copy 6 = .ok (.getfield 21, 3) := by decide +kernel
theorem dX1_copy_9 : decode cX1_copy 9 = .ok (.iconst 0, 1) := by decide +kernel
theorem dX1_copy_10 : decode cX1_copy 10 = .ok (.aload_n 0, 1) := by decide +kernel
theorem dX1_copy_11 : decode cX1_copy 11 = .ok (.getfield 21, 3) := by decide +kernel
theorem dX1_copy_14 : decode cX1_copy 14 = .ok (.iconst 0, 1) := by decide +kernel
theorem dX1_copy_15 : decode cX1_copy 15 = .ok (.bipush 60, 2) := by decide +kernel
theorem dX1_copy_17 : decode cX1_copy 17 = .ok (.invokestatic 35, 3) := by decide +kernel
theorem dX1_copy_20 : decode cX1_copy 20 = .ok (.return_, 1) := by decide +kernel
theorem dX1_goOnFrom_0 : decode cX1_goOnFrom 0 = .ok (.aload_n 1, 1) := by decide +kernel
theorem dX1_goOnFrom_1 : decode cX1_goOnFrom 1 = .ok (.getfield 9, 3) := by decide +kernel
theorem dX1_goOnFrom_4 : decode cX1_goOnFrom 4 = .ok (.iconst 0, 1) := by decide +kernel
theorem dX1_goOnFrom_5 : decode cX1_goOnFrom 5 = .ok (.aload_n 0, 1) := by decide +kernel
theorem dX1_goOnFrom_6 : decode cX1_goOnFrom 6 = .ok (.getfield 9, 3) := by decide +kernel
theorem dX1_goOnFrom_9 : decode cX1_goOnFrom 9 = .ok (.iconst 0, 1) := by decide +kernel
theorem dX1_goOnFrom_10 : decode cX1_goOnFrom 10 = .ok (.bipush 8, 2) := by decide +kernel
theorem dX1_goOnFrom_12 : decode cX1_goOnFrom 12 = .ok (.invokestatic 35, 3) := by decide +kernel
theorem dX1_goOnFrom_15 : decode cX1_goOnFrom 15 = .ok (.aload_n 1, 1) := by decide +kernel
theorem dX1_goOnFrom_16 : decode cX1_goOnFrom 16 = .ok (.getfield 15, 3) := by decide +kernel
theorem dX1_goOnFrom_19 : decode cX1_goOnFrom 19 = .ok (.iconst 0, 1) := by decide +kernel
theorem dX1_goOnFrom_20 : decode cX1_goOnFrom 20 = .ok (.aload_n 0, 1) := by decide +kernel
theorem dX1_goOnFrom_21 : decode cX1_goOnFrom 21 = .ok (.getfield 15, 3) := by decide +kernel
theorem dX1_goOnFrom_24 : decode cX1_goOnFrom 24 = .ok (.iconst 0, 1) := by decide +kernel
theorem dX1_goOnFrom_25 : decode cX1_goOnFrom 25 = .ok (.bipush 8, 2) := by decide +kernel
theorem dX1_goOnFrom_27 : decode cX1_goOnFrom 27 = .ok (.invokestatic 35, 3) := by decide +kernel
theorem dX1_goOnFrom_30 : decode cX1_goOnFrom 30 = .ok (.aload_n 1, 1) := by decide +kernel
theorem dX1_goOnFrom_31 : decode cX1_goOnFrom 31 = .ok (.getfield 18, 3) := by decide +kernel
theorem dX1_goOnFrom_34 : decode cX1_goOnFrom 34 = .ok (.iconst 0, 1) := by decide +kernel
theorem dX1_goOnFrom_35 : decode cX1_goOnFrom 35 = .ok (.aload_n 0, 1) := by decide +kernel
theorem dX1_goOnFrom_36 : decode cX1_goOnFrom 36 = .ok (.getfield 18, 3) := by decide +kernel
theorem dX1_goOnFrom_39 : decode cX1_goOnFrom 39 = .ok (.iconst 0, 1) := by decide +kernel
theorem dX1_goOnFrom_40 : decode cX1_goOnFrom 40 = .ok (.bipush 17, 2) := by decide +kernel
theorem dX1_goOnFrom_42 : decode cX1_goOnFrom 42 = .ok (.invokestatic 35, 3) := by decide +kernel
theorem dX1_goOnFrom_45 : decode cX1_goOnFrom 45 = .ok (.aload_n 0, 1) := by decide +kernel
theorem dX1_goOnFrom_46 : decode cX1_goOnFrom 46 = .ok (.aload_n 1, 1) := by decide +kernel
theorem dX1_goOnFrom_47 : decode cX1_goOnFrom 47 = .ok (.getfield 41, 3) := by decide +kernel
theorem dX1_goOnFrom_50 : decode cX1_goOnFrom 50 = .ok (.putfield 41, 3) := by decide +kernel
theorem dX1_goOnFrom_53 : decode cX1_goOnFrom 53 = .ok (.aload_n 0, 1) := by decide +kernel
theorem dX1_goOnFrom_54 : decode cX1_goOnFrom 54 = .ok (.aload_n 1, 1) := by decide +kernel
theorem dX1_goOnFrom_55 : decode cX1_goOnFrom 55 = .ok (.getfield 45, 3) := by decide +kernel
theorem dX1_goOnFrom_58 : decode cX1_goOnFrom 58 = .ok (.putfield 45, 3) := by decide +kernel
theorem dX1_goOnFrom_61 : decode cX1_goOnFrom 61 = .ok (.aload_n 0, 1) := by decide +kernel
theorem dX1_goOnFrom_62 : decode cX1_goOnFrom 62 = .ok (.aload_n 1, 1) := by decide +kernel
theorem dX1_goOnFrom_63 : decode cX1_goOnFrom 63 = .ok (.getfield 48, 3) := by decide +kernel
theorem dX1_goOnFrom_66 : decode cX1_goOnFrom 66 = .ok (.putfield 48, 3) := by decide +kernel
theorem dX1_goOnFrom_69 : decode cX1_goOnFrom 69 = .ok (.aload_n 0, 1) := by decide +kernel
theorem dX1_goOnFrom_70 : decode cX1_goOnFrom 70 = .ok (.aload_n 1, 1) := by decide +kernel
theorem dX1_goOnFrom_71 : decode cX1_goOnFrom 71 = .ok (.getfield 51, 3) := by decide +kernel
theorem dX1_goOnFrom_74 : decode cX1_goOnFrom 74 = .ok (.putfield 51, 3) := by decide +kernel
theorem dX1_goOnFrom_77 : decode cX1_goOnFrom 77 = .ok (.aload_n 0, 1) := by decide +kernel
theorem dX1_goOnFrom_78 : decode cX1_goOnFrom 78 = .ok (.aload_n 1, 1) := by decide +kernel
theorem dX1_goOnFrom_79 : decode cX1_goOnFrom 79 = .ok (.getfield 54, 3) := by decide +kernel
theorem dX1_goOnFrom_82 : decode cX1_goOnFrom 82 = .ok (.putfield 54, 3) := by decide +kernel
theorem dX1_goOnFrom_85 : decode cX1_goOnFrom 85 = .ok (.aload_n 0, 1) := by decide +kernel
theorem dX1_goOnFrom_86 : decode cX1_goOnFrom 86 = .ok (.aload_n 1, 1) := by decide +kernel
theorem dX1_goOnFrom_87 : decode cX1_goOnFrom 87 = .ok (.getfield 57, 3) := by decide +kernel
theorem dX1_goOnFrom_90 : decode cX1_goOnFrom 90 = .ok (.putfield 57, 3) := by decide +kernel
theorem dX1_goOnFrom_93 : decode cX1_goOnFrom 93 = .ok (.aload_n 0, 1) := by decide +kernel
theorem dX1_goOnFrom_94 : decode cX1_goOnFrom 94 = .ok (.aload_n 1, 1) := by decide +kernel
theorem dX1_goOnFrom_95 : decode cX1_goOnFrom 95 = .ok (.getfield 60, 3) := by decide +kernel
theorem dX1_goOnFrom_98 : decode cX1_goOnFrom 98 = .ok (.putfield 60, 3) := by decide +kernel
theorem dX1_goOnFrom_101 : decode cX1_goOnFrom 101 = .ok (.aload_n 0, 1) := by decide +kernel
theorem dX1_goOnFrom_102 : decode cX1_goOnFrom 102 = .ok (.aload_n 1, 1) := by decide +kernel
theorem dX1_goOnFrom_103 : decode cX1_goOnFrom 103 = .ok (.getfield 63, 3) := by decide +kernel
theorem dX1_goOnFrom_106 : decode cX1_goOnFrom 106 = .ok (.putfield 63, 3) := by decide +kernel
theorem dX1_goOnFrom_109 : decode cX1_goOnFrom 109 = .ok (.aload_n 0, 1) := by decide +kernel
theorem dX1_goOnFrom_110 : decode cX1_goOnFrom 110 = .ok (.aload_n 1, 1) := by decide +kernel
theorem dX1_goOnFrom_111 : decode cX1_goOnFrom 111 = .ok (.getfield 66, 3) := by decide +kernel
theorem dX1_goOnFrom_114 : decode cX1_goOnFrom 114 = .ok (.putfield 66, 3) := by decide +kernel
theorem dX1_goOnFrom_117 : decode cX1_goOnFrom 117 = .ok (.aload_n 0, 1) := by decide +kernel
theorem dX1_goOnFrom_118 : decode cX1_goOnFrom 118 = .ok (.aload_n 1, 1) := by decide +kernel
theorem dX1_goOnFrom_119 : decode cX1_goOnFrom 119 = .ok (.getfield 69, 3) := by decide +kernel
theorem dX1_goOnFrom_122 : decode cX1_goOnFrom 122 = .ok (.putfield 69, 3) := by decide +kernel
theorem dX1_goOnFrom_125 : decode cX1_goOnFrom 125 = .ok (.return_, 1) := by decide +kernel
theorem dX1_staysAway_0 : decode cX1_staysAway 0 = .ok (.aload_n 0, 1) := by decide +kernel
theorem dX1_staysAway_1 : decode cX1_staysAway 1 = .ok (.getfield 41, 3) := by decide +kernel
theorem dX1_staysAway_4 : decode cX1_staysAway 4 = .ok (.iload_n 1, 1) := by decide +kernel
theorem dX1_staysAway_5 : decode cX1_staysAway 5 = .ok (.ishr, 1) := by decide +kernel
theorem dX1_staysAway_6 : decode cX1_staysAway 6 = .ok (.iconst 1, 1) := by decide +kernel
theorem dX1_staysAway_7 : decode cX1_staysAway 7 = .ok (.iand, 1) := by decide +kernel
theorem dX1_staysAway_8 : decode cX1_staysAway 8 = .ok (.ifCond .eq 7, 3) := by decide +kernel
theorem dX1_staysAway_11 : decode cX1_staysAway 11 = .ok (.iconst 1, 1) := by decide +kernel
theorem dX1_staysAway_12 : decode cX1_staysAway 12 = .ok (.goto 4, 3) := by decide +kernel
theorem dX1_staysAway_15 : decode cX1_staysAway 15 = .ok (.iconst 0, 1) := by decide +kernel
theorem dX1_staysAway_16 : decode cX1_staysAway 16 = .ok (.ireturn, 1) := by decide +kernel
theorem dX1_comersByCalendar_0 : decode cX1_comersByCalendar 0 = .ok (.iconst 0, 1) := by decide +kernel
theorem dX1_comersByCalendar_1 : decode cX1_comersByCalendar 1 = .ok (.istore_n 3, 1) := by decide +kernel
theorem dX1_comersByCalendar_2 : decode cX1_comersByCalendar 2 = .ok (.iconst 0, 1) := by decide +kernel
theorem dX1_comersByCalendar_3 : decode cX1_comersByCalendar 3 = .ok (.istore 4, 2) := by decide +kernel
theorem dX1_comersByCalendar_5 : decode cX1_comersByCalendar 5 = .ok (.iload 4, 2) := by decide +kernel
theorem dX1_comersByCalendar_7 : decode cX1_comersByCalendar 7 = .ok (.aload_n 1, 1) := by decide +kernel
theorem dX1_comersByCalendar_8 : decode cX1_comersByCalendar 8 = .ok (.getfield 77, 3) := by decide +kernel
theorem dX1_comersByCalendar_11 : decode cX1_comersByCalendar 11 = .ok (.if_icmp .ge 52, 3) := by decide +kernel
theorem dX1_comersByCalendar_14 : decode cX1_comersByCalendar 14 = .ok (.iload 4, 2) := by decide +kernel
theorem dX1_comersByCalendar_16 : decode cX1_comersByCalendar 16 = .ok (.aload_n 0, 1) := by decide +kernel
theorem dX1_comersByCalendar_17 : decode cX1_comersByCalendar 17 = .ok (.getfield 9, 3) := by decide +kernel
theorem dX1_comersByCalendar_20 : decode cX1_comersByCalendar 20 = .ok (.arraylength, 1) := by decide +kernel
theorem dX1_comersByCalendar_21 : decode cX1_comersByCalendar 21 = .ok (.if_icmp .ge 42, 3) := by decide +kernel
theorem dX1_comersByCalendar_24 : decode cX1_comersByCalendar 24 = .ok (.aload_n 0, 1) := by decide +kernel
theorem dX1_comersByCalendar_25 : decode cX1_comersByCalendar 25 = .ok (.iload 4, 2) := by decide +kernel
theorem dX1_comersByCalendar_27 : decode cX1_comersByCalendar 27 = .ok (.invokevirtual 80, 3) := by decide +kernel
theorem dX1_comersByCalendar_30 : decode cX1_comersByCalendar 30 = .ok (.ifCond .ne 27, 3) := by decide +kernel
theorem dX1_comersByCalendar_33 : decode cX1_comersByCalendar 33 = .ok (.aload_n 1, 1) := by decide +kernel
theorem dX1_comersByCalendar_34 : decode cX1_comersByCalendar 34 = .ok (.iload 4, 2) := by decide +kernel
theorem dX1_comersByCalendar_36 : decode cX1_comersByCalendar 36 = .ok (.aload_n 0, 1) := by decide +kernel
theorem dX1_comersByCalendar_37 : decode cX1_comersByCalendar 37 = .ok (.getfield 9, 3) := by decide +kernel
theorem dX1_comersByCalendar_40 : decode cX1_comersByCalendar 40 = .ok (.iload 4, 2) := by decide +kernel
theorem dX1_comersByCalendar_42 : decode cX1_comersByCalendar 42 = .ok (.iaload, 1) := by decide +kernel
theorem dX1_comersByCalendar_43 : decode cX1_comersByCalendar 43 = .ok (.iload_n 2, 1) := by decide +kernel
theorem dX1_comersByCalendar_44 : decode cX1_comersByCalendar 44 = .ok (.invokevirtual 84, 3) := by decide +kernel
theorem dX1_comersByCalendar_47 : decode cX1_comersByCalendar 47 = .ok (.ifCond .eq 10, 3) := by decide +kernel
theorem dX1_comersByCalendar_50 : decode cX1_comersByCalendar 50 = .ok (.iload_n 3, 1) := by decide +kernel
theorem dX1_comersByCalendar_51 : decode cX1_comersByCalendar 51 = .ok (.iconst 1, 1) := by decide +kernel
theorem dX1_comersByCalendar_52 : decode cX1_comersByCalendar 52 = .ok (.iload 4, 2) := by decide +kernel
theorem dX1_comersByCalendar_54 : decode cX1_comersByCalendar 54 = .ok (.ishl, 1) := by decide +kernel
theorem dX1_comersByCalendar_55 : decode cX1_comersByCalendar 55 = .ok (.ior, 1) := by decide +kernel
theorem dX1_comersByCalendar_56 : decode cX1_comersByCalendar 56 = .ok (.istore_n 3, 1) := by decide +kernel
theorem dX1_comersByCalendar_57 : decode cX1_comersByCalendar 57 = .ok (.iinc 4 1, 3) := by decide +kernel
theorem dX1_comersByCalendar_60 : decode cX1_comersByCalendar 60 = .ok (.goto (-55), 3) := by decide +kernel
theorem dX1_comersByCalendar_63 : decode cX1_comersByCalendar 63 = .ok (.iload_n 3, 1) := by decide +kernel
theorem dX1_comersByCalendar_64 : decode cX1_comersByCalendar 64 = .ok (.ireturn, 1) := by decide +kernel
theorem dX1_comers_0 : decode cX1_comers 0 = .ok (.aload_n 0, 1) := by decide +kernel
theorem dX1_comers_1 : decode cX1_comers 1 = .ok (.aload_n 1, 1) := by decide +kernel
theorem dX1_comers_2 : decode cX1_comers 2 = .ok (.iload_n 2, 1) := by decide +kernel
theorem dX1_comers_3 : decode cX1_comers 3 = .ok (.invokevirtual 88, 3) := by decide +kernel
theorem dX1_comers_6 : decode cX1_comers 6 = .ok (.istore_n 3, 1) := by decide +kernel
theorem dX1_comers_7 : decode cX1_comers 7 = .ok (.iconst 0, 1) := by decide +kernel
theorem dX1_comers_8 : decode cX1_comers 8 = .ok (.istore 4, 2) := by decide +kernel
theorem dX1_comers_10 : decode cX1_comers 10 = .ok (.iload 4, 2) := by decide +kernel
theorem dX1_comers_12 : decode cX1_comers 12 = .ok (.aload_n 0, 1) := by decide +kernel
theorem dX1_comers_13 : decode cX1_comers 13 = .ok (.getfield 15, 3) := by decide +kernel
theorem dX1_comers_16 : decode cX1_comers 16 = .ok (.arraylength, 1) := by decide +kernel
theorem dX1_comers_17 : decode cX1_comers 17 = .ok (.if_icmp .ge 68, 3) := by decide +kernel
theorem dX1_comers_20 : decode cX1_comers 20 = .ok (.aload_n 0, 1) := by decide +kernel
theorem dX1_comers_21 : decode cX1_comers 21 = .ok (.getfield 15, 3) := by decide +kernel
theorem dX1_comers_24 : decode cX1_comers 24 = .ok (.iload 4, 2) := by decide +kernel
theorem dX1_comers_26 : decode cX1_comers 26 = .ok (.iaload, 1) := by decide +kernel
theorem dX1_comers_27 : decode cX1_comers 27 = .ok (.iconst (-1), 1) := by decide +kernel
theorem dX1_comers_28 : decode cX1_comers 28 = .ok (.if_icmp .eq 34, 3) := by decide +kernel
theorem dX1_comers_31 : decode cX1_comers 31 = .ok (.iload_n 2, 1) := by decide +kernel
theorem dX1_comers_32 : decode cX1_comers 32 = .ok (.aload_n 0, 1) := by decide +kernel
theorem dX1_comers_33 : decode cX1_comers 33 = .ok (.getfield 15, 3) := by decide +kernel
theorem dX1_comers_36 : decode cX1_comers 36 = .ok (.iload 4, 2) := by decide +kernel
theorem dX1_comers_38 : decode cX1_comers 38 = .ok (.iaload, 1) := by decide +kernel
theorem dX1_comers_39 : decode cX1_comers 39 = .ok (.if_icmp .le 23, 3) := by decide +kernel
theorem dX1_comers_42 : decode cX1_comers 42 = .ok (.iload_n 2, 1) := by decide +kernel
theorem dX1_comers_43 : decode cX1_comers 43 = .ok (.aload_n 0, 1) := by decide +kernel
theorem dX1_comers_44 : decode cX1_comers 44 = .ok (.getfield 15, 3) := by decide +kernel
theorem dX1_comers_47 : decode cX1_comers 47 = .ok (.iload 4, 2) := by decide +kernel
theorem dX1_comers_49 : decode cX1_comers 49 = .ok (.iaload, 1) := by decide +kernel
theorem dX1_comers_50 : decode cX1_comers 50 = .ok (.isub, 1) := by decide +kernel
theorem dX1_comers_51 : decode cX1_comers 51 = .ok (.aload_n 1, 1) := by decide +kernel
theorem dX1_comers_52 : decode cX1_comers 52 = .ok (.getfield 92, 3) := by decide +kernel
theorem dX1_comers_55 : decode cX1_comers 55 = .ok (.if_icmp .gt 7, 3) := by decide +kernel
theorem dX1_comers_58 : decode cX1_comers 58 = .ok (.iconst 1, 1) := by decide +kernel
theorem dX1_comers_59 : decode cX1_comers 59 = .ok (.goto 4, 3) := by decide +kernel
theorem dX1_comers_62 : decode cX1_comers 62 = .ok (.iconst 0, 1) := by decide +kernel
theorem dX1_comers_63 : decode cX1_comers 63 = .ok (.istore 5, 2) := by decide +kernel
theorem dX1_comers_65 : decode cX1_comers 65 = .ok (.iload 5, 2) := by decide +kernel
theorem dX1_comers_67 : decode cX1_comers 67 = .ok (.ifCond .eq 12, 3) := by decide +kernel
theorem dX1_comers_70 : decode cX1_comers 70 = .ok (.iload_n 3, 1) := by decide +kernel
theorem dX1_comers_71 : decode cX1_comers 71 = .ok (.iconst 1, 1) := by decide +kernel
theorem dX1_comers_72 : decode cX1_comers 72 = .ok (.iload 4, 2) := by decide +kernel
theorem dX1_comers_74 : decode cX1_comers 74 = .ok (.ishl, 1) := by decide +kernel
theorem dX1_comers_75 : decode cX1_comers 75 = .ok (.iconst (-1), 1) := by decide +kernel
theorem dX1_comers_76 : decode cX1_comers 76 = .ok (.ixor, 1) := by decide +kernel
theorem dX1_comers_77 : decode cX1_comers 77 = .ok (.iand, 1) := by decide +kernel
theorem dX1_comers_78 : decode cX1_comers 78 = .ok (.istore_n 3, 1) := by decide +kernel
theorem dX1_comers_79 : decode cX1_comers 79 = .ok (.iinc 4 1, 3) := by decide +kernel
theorem dX1_comers_82 : decode cX1_comers 82 = .ok (.goto (-72), 3) := by decide +kernel
theorem dX1_comers_85 : decode cX1_comers 85 = .ok (.iload_n 3, 1) := by decide +kernel
theorem dX1_comers_86 : decode cX1_comers 86 = .ok (.ireturn, 1) := by decide +kernel
theorem dX1_outcomeWith_0 : decode cX1_outcomeWith 0 = .ok (.aload_n 0, 1) := by decide +kernel
theorem dX1_outcomeWith_1 : decode cX1_outcomeWith 1 = .ok (.aload_n 1, 1) := by decide +kernel
theorem dX1_outcomeWith_2 : decode cX1_outcomeWith 2 = .ok (.iload 4, 2) := by decide +kernel
theorem dX1_outcomeWith_4 : decode cX1_outcomeWith 4 = .ok (.invokevirtual 88, 3) := by decide +kernel
theorem dX1_outcomeWith_7 : decode cX1_outcomeWith 7 = .ok (.iconst 1, 1) := by decide +kernel
theorem dX1_outcomeWith_8 : decode cX1_outcomeWith 8 = .ok (.iload_n 2, 1) := by decide +kernel
theorem dX1_outcomeWith_9 : decode cX1_outcomeWith 9 = .ok (.ishl, 1) := by decide +kernel
theorem dX1_outcomeWith_10 : decode cX1_outcomeWith 10 = .ok (.iconst (-1), 1) := by decide +kernel
theorem dX1_outcomeWith_11 : decode cX1_outcomeWith 11 = .ok (.ixor, 1) := by decide +kernel
theorem dX1_outcomeWith_12 : decode cX1_outcomeWith 12 = .ok (.iand, 1) := by decide +kernel
theorem dX1_outcomeWith_13 : decode cX1_outcomeWith 13 = .ok (.istore 5, 2) := by decide +kernel
theorem dX1_outcomeWith_15 : decode cX1_outcomeWith 15 = .ok (.aload_n 1, 1) := by decide +kernel
theorem dX1_outcomeWith_16 : decode cX1_outcomeWith 16 = .ok (.iload_n 2, 1) := by decide +kernel
theorem dX1_outcomeWith_17 : decode cX1_outcomeWith 17 = .ok (.iload_n 3, 1) := by decide +kernel
theorem dX1_outcomeWith_18 : decode cX1_outcomeWith 18 = .ok (.iload 4, 2) := by decide +kernel
theorem dX1_outcomeWith_20 : decode cX1_outcomeWith 20 = .ok (.invokevirtual 84, 3) := by decide +kernel
theorem dX1_outcomeWith_23 : decode cX1_outcomeWith 23 = .ok (.ifCond .eq 12, 3) := by decide +kernel
theorem dX1_outcomeWith_26 : decode cX1_outcomeWith 26 = .ok (.iload 5, 2) := by decide +kernel
theorem dX1_outcomeWith_28 : decode cX1_outcomeWith 28 = .ok (.iconst 1, 1) := by decide +kernel
theorem dX1_outcomeWith_29 : decode cX1_outcomeWith 29 = .ok (.iload_n 2, 1) := by decide +kernel
theorem dX1_outcomeWith_30 : decode cX1_outcomeWith 30 = .ok (.ishl, 1) := by decide +kernel
theorem dX1_outcomeWith_31 : decode cX1_outcomeWith 31 = .ok (.ior, 1) := by decide +kernel
theorem dX1_outcomeWith_32 : decode cX1_outcomeWith 32 = .ok (.goto 5, 3) := by decide +kernel
theorem dX1_outcomeWith_35 : decode cX1_outcomeWith 35 = .ok (.iload 5, 2) := by decide +kernel
theorem dX1_outcomeWith_37 : decode cX1_outcomeWith 37 = .ok (.invokestatic 95, 3) := by decide +kernel
theorem dX1_outcomeWith_40 : decode cX1_outcomeWith 40 = .ok (.ireturn, 1) := by decide +kernel
theorem dX1_live_0 : decode cX1_live 0 = .ok (.aload_n 0, 1) := by decide +kernel
theorem dX1_live_1 : decode cX1_live 1 = .ok (.aload_n 1, 1) := by decide +kernel
theorem dX1_live_2 : decode cX1_live 2 = .ok (.aload_n 0, 1) := by decide +kernel
theorem dX1_live_3 : decode cX1_live 3 = .ok (.getfield 48, 3) := by decide +kernel
theorem dX1_live_6 : decode cX1_live 6 = .ok (.invokevirtual 99, 3) := by decide +kernel
theorem dX1_live_9 : decode cX1_live 9 = .ok (.istore_n 3, 1) := by decide +kernel
theorem dX1_live_10 : decode cX1_live 10 = .ok (.aload_n 0, 1) := by decide +kernel
theorem dX1_live_11 : decode cX1_live 11 = .ok (.dup, 1) := by decide +kernel
theorem dX1_live_12 : decode cX1_live 12 = .ok (.getfield 63, 3) := by decide +kernel
theorem dX1_live_15 : decode cX1_live 15 = .ok (.aload_n 1, 1) := by decide +kernel
theorem dX1_live_16 : decode cX1_live 16 = .ok (.iload_n 3, 1) := by decide +kernel
theorem dX1_live_17 : decode cX1_live 17 = .ok (.invokevirtual 102, 3) := by decide +kernel
theorem dX1_live_20 : decode cX1_live 20 = .ok (.iadd, 1) := by decide +kernel
theorem dX1_live_21 : decode cX1_live 21 = .ok (.putfield 63, 3) := by decide +kernel
theorem dX1_live_24 : decode cX1_live 24 = .ok (.iload_n 2, 1) := by decide +kernel
theorem dX1_live_25 : decode cX1_live 25 = .ok (.ifCond .le 31, 3) := by decide +kernel
theorem dX1_live_28 : decode cX1_live 28 = .ok (.aload_n 0, 1) := by decide +kernel
theorem dX1_live_29 : decode cX1_live 29 = .ok (.iload_n 3, 1) := by decide +kernel
theorem dX1_live_30 : decode cX1_live 30 = .ok (.iload_n 2, 1) := by decide +kernel
theorem dX1_live_31 : decode cX1_live 31 = .ok (.invokevirtual 105, 3) := by decide +kernel
theorem dX1_live_34 : decode cX1_live 34 = .ok (.istore 4, 2) := by decide +kernel
theorem dX1_live_36 : decode cX1_live 36 = .ok (.aload_n 0, 1) := by decide +kernel
theorem dX1_live_37 : decode cX1_live 37 = .ok (.iload 4, 2) := by decide +kernel
theorem dX1_live_39 : decode cX1_live 39 = .ok (.iload 4, 2) := by decide +kernel
theorem dX1_live_41 : decode cX1_live 41 = .ok (.iconst (-1), 1) := by decide +kernel
theorem dX1_live_42 : decode cX1_live 42 = .ok (.if_icmp .ne 7, 3) := by decide +kernel
theorem dX1_live_45 : decode cX1_live 45 = .ok (.iconst 0, 1) := by decide +kernel
theorem dX1_live_46 : decode cX1_live 46 = .ok (.goto 4, 3) := by decide +kernel
theorem dX1_live_49 : decode cX1_live 49 = .ok (.iconst 1, 1) := by decide +kernel
theorem dX1_live_50 : decode cX1_live 50 = .ok (.invokevirtual 109, 3) := by decide +kernel
theorem dX1_live_53 : decode cX1_live 53 = .ok (.goto 29, 3) := by decide +kernel
theorem dX1_live_56 : decode cX1_live 56 = .ok (.iload_n 3, 1) := by decide +kernel
theorem dX1_live_57 : decode cX1_live 57 = .ok (.invokestatic 95, 3) := by decide +kernel
theorem dX1_live_60 : decode cX1_live 60 = .ok (.istore 4, 2) := by decide +kernel
theorem dX1_live_62 : decode cX1_live 62 = .ok (.aload_n 0, 1) := by decide +kernel
theorem dX1_live_63 : decode cX1_live 63 = .ok (.iload 4, 2) := by decide +kernel
theorem dX1_live_65 : decode cX1_live 65 = .ok (.iconst 1, 1) := by decide +kernel
theorem dX1_live_66 : decode cX1_live 66 = .ok (.if_icmp .ne 10, 3) := by decide +kernel
theorem dX1_live_69 : decode cX1_live 69 = .ok (.iload_n 3, 1) := by decide +kernel
theorem dX1_live_70 : decode cX1_live 70 = .ok (.invokestatic 113, 3) := by decide +kernel
theorem dX1_live_73 : decode cX1_live 73 = .ok (.goto 4, 3) := by decide +kernel
theorem dX1_live_76 : decode cX1_live 76 = .ok (.iconst (-1), 1) := by decide +kernel
theorem dX1_live_77 : decode cX1_live 77 = .ok (.iload 4, 2) := by decide +kernel
theorem dX1_live_79 : decode cX1_live 79 = .ok (.invokevirtual 109, 3) := by decide +kernel
theorem dX1_live_82 : decode cX1_live 82 = .ok (.aload_n 0, 1) := by decide +kernel
theorem dX1_live_83 : decode cX1_live 83 = .ok (.aload_n 0, 1) := by decide +kernel
theorem dX1_live_84 : decode cX1_live 84 = .ok (.getfield 51, 3) := by decide +kernel
theorem dX1_live_87 : decode cX1_live 87 = .ok (.aload_n 1, 1) := by decide +kernel
theorem dX1_live_88 : decode cX1_live 88 = .ok (.getfield 116, 3) := by decide +kernel
theorem dX1_live_91 : decode cX1_live 91 = .ok (.if_icmp .lt 7, 3) := by decide +kernel
theorem dX1_live_94 : decode cX1_live 94 = .ok (.iconst 1, 1) := by decide +kernel
theorem dX1_live_95 : decode cX1_live 95 = .ok (.goto 4, 3) := by decide +kernel
theorem dX1_live_98 : decode cX1_live 98 = .ok (.iconst 0, 1) := by decide +kernel
theorem dX1_live_99 : decode cX1_live 99 = .ok (.putfield 69, 3) := by decide +kernel
theorem dX1_live_102 : decode cX1_live 102 = .ok (.return_, 1) := by decide +kernel
theorem dX1_firstThroughInn_0 : decode cX1_firstThroughInn 0 = .ok (.iconst 0, 1) := by decide +kernel
theorem dX1_firstThroughInn_1 : decode cX1_firstThroughInn 1 = .ok (.istore_n 3, 1) := by decide +kernel
theorem dX1_firstThroughInn_2 : decode cX1_firstThroughInn 2 = .ok (.iload_n 3, 1) := by decide +kernel
theorem dX1_firstThroughInn_3 : decode cX1_firstThroughInn 3 = .ok (.bipush 8, 2) := by decide +kernel
theorem dX1_firstThroughInn_5 : decode cX1_firstThroughInn 5 = .ok (.if_icmp .ge 59, 3) := by decide +kernel
theorem dX1_firstThroughInn_8 : decode cX1_firstThroughInn 8 = .ok (.iload_n 1, 1) := by decide +kernel
theorem dX1_firstThroughInn_9 : decode cX1_firstThroughInn 9 = .ok (.iload_n 3, 1) := by decide +kernel
theorem dX1_firstThroughInn_10 : decode cX1_firstThroughInn 10 = .ok (.ishr, 1) := by decide +kernel
theorem dX1_firstThroughInn_11 : decode cX1_firstThroughInn 11 = .ok (.iconst 1, 1) := by decide +kernel
theorem dX1_firstThroughInn_12 : decode cX1_firstThroughInn 12 = .ok (.iand, 1) := by decide +kernel
theorem dX1_firstThroughInn_13 : decode cX1_firstThroughInn 13 = .ok (.ifCond .eq 45, 3) := by decide +kernel
theorem dX1_firstThroughInn_16 : decode cX1_firstThroughInn 16 = .ok (.aload_n 0, 1) := by decide +kernel
theorem dX1_firstThroughInn_17 : decode cX1_firstThroughInn 17 = .ok (.getfield 45, 3) := by decide +kernel
theorem dX1_firstThroughInn_20 : decode cX1_firstThroughInn 20 = .ok (.ifCond .lt 38, 3) := by decide +kernel
theorem dX1_firstThroughInn_23 : decode cX1_firstThroughInn 23 = .ok (.aload_n 0, 1) := by decide +kernel
theorem dX1_firstThroughInn_24 : decode cX1_firstThroughInn 24 = .ok (.getfield 45, 3) := by decide +kernel
theorem dX1_firstThroughInn_27 : decode cX1_firstThroughInn 27 = .ok (.aload_n 0, 1) := by decide +kernel
theorem dX1_firstThroughInn_28 : decode cX1_firstThroughInn 28 = .ok (.getfield 18, 3) := by decide +kernel
theorem dX1_firstThroughInn_31 : decode cX1_firstThroughInn 31 = .ok (.arraylength, 1) := by decide +kernel
theorem dX1_firstThroughInn_32 : decode cX1_firstThroughInn 32 = .ok (.if_icmp .lt 6, 3) := by decide +kernel
theorem dX1_firstThroughInn_35 : decode cX1_firstThroughInn 35 = .ok (.goto 23, 3) := by decide +kernel
theorem dX1_firstThroughInn_38 : decode cX1_firstThroughInn 38 = .ok (.aload_n 0, 1) := by decide +kernel
theorem dX1_firstThroughInn_39 : decode cX1_firstThroughInn 39 = .ok (.getfield 18, 3) := by decide +kernel
theorem dX1_firstThroughInn_42 : decode cX1_firstThroughInn 42 = .ok (.aload_n 0, 1) := by decide +kernel
theorem dX1_firstThroughInn_43 : decode cX1_firstThroughInn 43 = .ok (.getfield 45, 3) := by decide +kernel
theorem dX1_firstThroughInn_46 : decode cX1_firstThroughInn 46 = .ok (.iload_n 3, 1) := by decide +kernel
theorem dX1_firstThroughInn_47 : decode cX1_firstThroughInn 47 = .ok (.iastore, 1) := by decide +kernel
theorem dX1_firstThroughInn_48 : decode cX1_firstThroughInn 48 = .ok (.aload_n 0, 1) := by decide +kernel
theorem dX1_firstThroughInn_49 : decode cX1_firstThroughInn 49 = .ok (.dup, 1) := by decide +kernel
theorem dX1_firstThroughInn_50 : decode cX1_firstThroughInn 50 = .ok (.getfield 45, 3) := by decide +kernel
theorem dX1_firstThroughInn_53 : decode cX1_firstThroughInn 53 = .ok (.iconst 1, 1) := by decide +kernel
theorem dX1_firstThroughInn_54 : decode cX1_firstThroughInn 54 = .ok (.iadd, 1) := by decide +kernel
theorem dX1_firstThroughInn_55 : decode cX1_firstThroughInn 55 = .ok (.putfield 45, 3) := by decide +kernel
theorem dX1_firstThroughInn_58 : decode cX1_firstThroughInn 58 = .ok (.iinc 3 1, 3) := by decide +kernel
theorem dX1_firstThroughInn_61 : decode cX1_firstThroughInn 61 = .ok (.goto (-59), 3) := by decide +kernel
theorem dX1_firstThroughInn_64 : decode cX1_firstThroughInn 64 = .ok (.aload_n 0, 1) := by decide +kernel
theorem dX1_firstThroughInn_65 : decode cX1_firstThroughInn 65 = .ok (.getfield 45, 3) := by decide +kernel
theorem dX1_firstThroughInn_68 : decode cX1_firstThroughInn 68 = .ok (.iconst 1, 1) := by decide +kernel
theorem dX1_firstThroughInn_69 : decode cX1_firstThroughInn 69 = .ok (.if_icmp .ge 5, 3) := by decide +kernel
theorem dX1_firstThroughInn_72 : decode cX1_firstThroughInn 72 = .ok (.iconst (-1), 1) := by decide +kernel
theorem dX1_firstThroughInn_73 : decode cX1_firstThroughInn 73 = .ok (.ireturn, 1) := by decide +kernel
theorem dX1_firstThroughInn_74 : decode cX1_firstThroughInn 74 = .ok (.aload_n 0, 1) := by decide +kernel
theorem dX1_firstThroughInn_75 : decode cX1_firstThroughInn 75 = .ok (.getfield 18, 3) := by decide +kernel
theorem dX1_firstThroughInn_78 : decode cX1_firstThroughInn 78 = .ok (.iconst 0, 1) := by decide +kernel
theorem dX1_firstThroughInn_79 : decode cX1_firstThroughInn 79 = .ok (.iaload, 1) := by decide +kernel
theorem dX1_firstThroughInn_80 : decode cX1_firstThroughInn 80 = .ok (.istore_n 3, 1) := by decide +kernel
theorem dX1_firstThroughInn_81 : decode cX1_firstThroughInn 81 = .ok (.aload_n 0, 1) := by decide +kernel
theorem dX1_firstThroughInn_82 : decode cX1_firstThroughInn 82 = .ok (.dup, 1) := by decide +kernel
theorem dX1_firstThroughInn_83 : decode cX1_firstThroughInn 83 = .ok (.getfield 45, 3) := by decide +kernel
theorem dX1_firstThroughInn_86 : decode cX1_firstThroughInn 86 = .ok (.iconst 1, 1) := by decide +kernel
theorem dX1_firstThroughInn_87 : decode cX1_firstThroughInn 87 = .ok (.isub, 1) := by decide +kernel
theorem dX1_firstThroughInn_88 : decode cX1_firstThroughInn 88 = .ok (.putfield 45, 3) := by decide +kernel
theorem dX1_firstThroughInn_91 : decode cX1_firstThroughInn 91 = .ok (.iconst 0, 1) := by decide +kernel
theorem dX1_firstThroughInn_92 : decode cX1_firstThroughInn 92 = .ok (.istore 4, 2) := by decide +kernel
theorem dX1_firstThroughInn_94 : decode cX1_firstThroughInn 94 = .ok (.iload 4, 2) := by decide +kernel
theorem dX1_firstThroughInn_96 : decode cX1_firstThroughInn 96 = .ok (.aload_n 0, 1) := by decide +kernel
theorem dX1_firstThroughInn_97 : decode cX1_firstThroughInn 97 = .ok (.getfield 45, 3) := by decide +kernel
theorem dX1_firstThroughInn_100 : decode cX1_firstThroughInn 100 = .ok (.if_icmp .ge 37, 3) := by decide +kernel
theorem dX1_firstThroughInn_103 : decode cX1_firstThroughInn 103 = .ok (.iload 4, 2) := by decide +kernel
theorem dX1_firstThroughInn_105 : decode cX1_firstThroughInn 105 = .ok (.iconst 1, 1) := by decide +kernel
theorem dX1_firstThroughInn_106 : decode cX1_firstThroughInn 106 = .ok (.iadd, 1) := by decide +kernel
theorem dX1_firstThroughInn_107 : decode cX1_firstThroughInn 107 = .ok (.aload_n 0, 1) := by decide +kernel
theorem dX1_firstThroughInn_108 : decode cX1_firstThroughInn 108 = .ok (.getfield 18, 3) := by decide +kernel
theorem dX1_firstThroughInn_111 : decode cX1_firstThroughInn 111 = .ok (.arraylength, 1) := by decide +kernel
theorem dX1_firstThroughInn_112 : decode cX1_firstThroughInn 112 = .ok (.if_icmp .ge 25, 3) := by decide +kernel
theorem dX1_firstThroughInn_115 : decode cX1_firstThroughInn 115 = .ok (.aload_n 0, 1) := by decide +kernel
theorem dX1_firstThroughInn_116 : decode cX1_firstThroughInn 116 = .ok (.getfield 18, 3) := by decide +kernel
theorem dX1_firstThroughInn_119 : decode cX1_firstThroughInn 119 = .ok (.iload 4, 2) := by decide +kernel
theorem dX1_firstThroughInn_121 : decode cX1_firstThroughInn 121 = .ok (.aload_n 0, 1) := by decide +kernel
theorem dX1_firstThroughInn_122 : decode cX1_firstThroughInn 122 = .ok (.getfield 18, 3) := by decide +kernel
theorem dX1_firstThroughInn_125 : decode cX1_firstThroughInn 125 = .ok (.iload 4, 2) := by decide +kernel
theorem dX1_firstThroughInn_127 : decode cX1_firstThroughInn 127 = .ok (.iconst 1, 1) := by decide +kernel
theorem dX1_firstThroughInn_128 : decode cX1_firstThroughInn 128 = .ok (.iadd, 1) := by decide +kernel
theorem dX1_firstThroughInn_129 : decode cX1_firstThroughInn 129 = .ok (.iaload, 1) := by decide +kernel
theorem dX1_firstThroughInn_130 : decode cX1_firstThroughInn 130 = .ok (.iastore, 1) := by decide +kernel
theorem dX1_firstThroughInn_131 : decode cX1_firstThroughInn 131 = .ok (.iinc 4 1, 3) := by decide +kernel
theorem dX1_firstThroughInn_134 : decode cX1_firstThroughInn 134 = .ok (.goto (-40), 3) := by decide +kernel
theorem dX1_firstThroughInn_137 : decode cX1_firstThroughInn 137 = .ok (.aload_n 0, 1) := by decide +kernel
theorem dX1_firstThroughInn_138 : decode cX1_firstThroughInn 138 = .ok (.getfield 45, 3) := by decide +kernel
theorem dX1_firstThroughInn_141 : decode cX1_firstThroughInn 141 = .ok (.iload_n 2, 1) := by decide +kernel
theorem dX1_firstThroughInn_142 : decode cX1_firstThroughInn 142 = .ok (.if_icmp .le 23, 3) := by decide +kernel
theorem dX1_firstThroughInn_145 : decode cX1_firstThroughInn 145 = .ok (.aload_n 0, 1) := by decide +kernel
theorem dX1_firstThroughInn_146 : decode cX1_firstThroughInn 146 = .ok (.dup, 1) := by decide +kernel
theorem dX1_firstThroughInn_147 : decode cX1_firstThroughInn 147 = .ok (.getfield 66, 3) := by decide +kernel
theorem dX1_firstThroughInn_150 : decode cX1_firstThroughInn 150 = .ok (.aload_n 0, 1) := by decide +kernel
theorem dX1_firstThroughInn_151 : decode cX1_firstThroughInn 151 = .ok (.getfield 45, 3) := by decide +kernel
theorem dX1_firstThroughInn_154 : decode cX1_firstThroughInn 154 = .ok (.iload_n 2, 1) := by decide +kernel
theorem dX1_firstThroughInn_155 : decode cX1_firstThroughInn 155 = .ok (.isub, 1) := by decide +kernel
theorem dX1_firstThroughInn_156 : decode cX1_firstThroughInn 156 = .ok (.iadd, 1) := by decide +kernel
theorem dX1_firstThroughInn_157 : decode cX1_firstThroughInn 157 = .ok (.putfield 66, 3) := by decide +kernel
theorem dX1_firstThroughInn_160 : decode cX1_firstThroughInn 160 = .ok (.aload_n 0, 1) := by decide +kernel
theorem dX1_firstThroughInn_161 : decode cX1_firstThroughInn 161 = .ok (.iload_n 2, 1) := by decide +kernel
theorem dX1_firstThroughInn_162 : decode cX1_firstThroughInn 162 = .ok (.putfield 45, 3) := by decide +kernel
theorem dX1_firstThroughInn_165 : decode cX1_firstThroughInn 165 = .ok (.iload_n 3, 1) := by decide +kernel
theorem dX1_firstThroughInn_166 : decode cX1_firstThroughInn 166 = .ok (.ireturn, 1) := by decide +kernel
theorem dX1_close_0 : decode cX1_close 0 = .ok (.iload_n 2, 1) := by decide +kernel
theorem dX1_close_1 : decode cX1_close 1 = .ok (.ifCond .ne 26, 3) := by decide +kernel
theorem dX1_close_4 : decode cX1_close 4 = .ok (.aload_n 0, 1) := by decide +kernel
theorem dX1_close_5 : decode cX1_close 5 = .ok (.dup, 1) := by decide +kernel
theorem dX1_close_6 : decode cX1_close 6 = .ok (.getfield 60, 3) := by decide +kernel
theorem dX1_close_9 : decode cX1_close 9 = .ok (.iconst 1, 1) := by decide +kernel
theorem dX1_close_10 : decode cX1_close 10 = .ok (.iadd, 1) := by decide +kernel
theorem dX1_close_11 : decode cX1_close 11 = .ok (.putfield 60, 3) := by decide +kernel
theorem dX1_close_14 : decode cX1_close 14 = .ok (.aload_n 0, 1) := by decide +kernel
theorem dX1_close_15 : decode cX1_close 15 = .ok (.dup, 1) := by decide +kernel
theorem dX1_close_16 : decode cX1_close 16 = .ok (.getfield 51, 3) := by decide +kernel
theorem dX1_close_19 : decode cX1_close 19 = .ok (.iconst 1, 1) := by decide +kernel
theorem dX1_close_20 : decode cX1_close 20 = .ok (.iadd, 1) := by decide +kernel
theorem dX1_close_21 : decode cX1_close 21 = .ok (.putfield 51, 3) := by decide +kernel
theorem dX1_close_24 : decode cX1_close 24 = .ok (.goto 23, 3) := by decide +kernel
theorem dX1_close_27 : decode cX1_close 27 = .ok (.aload_n 0, 1) := by decide +kernel
theorem dX1_close_28 : decode cX1_close 28 = .ok (.iconst 0, 1) := by decide +kernel
theorem dX1_close_29 : decode cX1_close 29 = .ok (.putfield 51, 3) := by decide +kernel
theorem dX1_close_32 : decode cX1_close 32 = .ok (.iload_n 2, 1) := by decide +kernel
theorem dX1_close_33 : decode cX1_close 33 = .ok (.iconst 2, 1) := by decide +kernel
theorem dX1_close_34 : decode cX1_close 34 = .ok (.if_icmp .ne 13, 3) := by decide +kernel
theorem dX1_close_37 : decode cX1_close 37 = .ok (.aload_n 0, 1) := by decide +kernel
theorem dX1_close_38 : decode cX1_close 38 = .ok (.dup, 1) := by decide +kernel
theorem dX1_close_39 : decode cX1_close 39 = .ok (.getfield 57, 3) := by decide +kernel
theorem dX1_close_42 : decode cX1_close 42 = .ok (.iconst 1, 1) := by decide +kernel
theorem dX1_close_43 : decode cX1_close 43 = .ok (.iadd, 1) := by decide +kernel
theorem dX1_close_44 : decode cX1_close 44 = .ok (.putfield 57, 3) := by decide +kernel
theorem dX1_close_47 : decode cX1_close 47 = .ok (.iload_n 1, 1) := by decide +kernel
theorem dX1_close_48 : decode cX1_close 48 = .ok (.ifCond .lt 32, 3) := by decide +kernel
theorem dX1_close_51 : decode cX1_close 51 = .ok (.iload_n 1, 1) := by decide +kernel
theorem dX1_close_52 : decode cX1_close 52 = .ok (.aload_n 0, 1) := by decide +kernel
theorem dX1_close_53 : decode cX1_close 53 = .ok (.getfield 15, 3) := by decide +kernel
theorem dX1_close_56 : decode cX1_close 56 = .ok (.arraylength, 1) := by decide +kernel
theorem dX1_close_57 : decode cX1_close 57 = .ok (.if_icmp .ge 23, 3) := by decide +kernel
theorem dX1_close_60 : decode cX1_close 60 = .ok (.aload_n 0, 1) := by decide +kernel
theorem dX1_close_61 : decode cX1_close 61 = .ok (.dup, 1) := by decide +kernel
theorem dX1_close_62 : decode cX1_close 62 = .ok (.getfield 54, 3) := by decide +kernel
theorem dX1_close_65 : decode cX1_close 65 = .ok (.iconst 1, 1) := by decide +kernel
theorem dX1_close_66 : decode cX1_close 66 = .ok (.iadd, 1) := by decide +kernel
theorem dX1_close_67 : decode cX1_close 67 = .ok (.putfield 54, 3) := by decide +kernel
theorem dX1_close_70 : decode cX1_close 70 = .ok (.aload_n 0, 1) := by decide +kernel
theorem dX1_close_71 : decode cX1_close 71 = .ok (.getfield 15, 3) := by decide +kernel
theorem dX1_close_74 : decode cX1_close 74 = .ok (.iload_n 1, 1) := by decide +kernel
theorem dX1_close_75 : decode cX1_close 75 = .ok (.aload_n 0, 1) := by decide +kernel
theorem dX1_close_76 : decode cX1_close 76 = .ok (.getfield 48, 3) := by decide +kernel
theorem dX1_close_79 : decode cX1_close 79 = .ok (.iastore, 1) := by decide +kernel
theorem dX1_close_80 : decode cX1_close 80 = .ok (.aload_n 0, 1) := by decide +kernel
theorem dX1_close_81 : decode cX1_close 81 = .ok (.getfield 48, 3) := by decide +kernel
theorem dX1_close_84 : decode cX1_close 84 = .ok (.bipush 60, 2) := by decide +kernel
theorem dX1_close_86 : decode cX1_close 86 = .ok (.irem, 1) := by decide +kernel
theorem dX1_close_87 : decode cX1_close 87 = .ok (.istore_n 3, 1) := by decide +kernel
theorem dX1_close_88 : decode cX1_close 88 = .ok (.iload_n 3, 1) := by decide +kernel
theorem dX1_close_89 : decode cX1_close 89 = .ok (.ifCond .lt 19, 3) := by decide +kernel
theorem dX1_close_92 : decode cX1_close 92 = .ok (.iload_n 3, 1) := by decide +kernel
theorem dX1_close_93 : decode cX1_close 93 = .ok (.aload_n 0, 1) := by decide +kernel
theorem dX1_close_94 : decode cX1_close 94 = .ok (.getfield 21, 3) := by decide +kernel
theorem dX1_close_97 : decode cX1_close 97 = .ok (.arraylength, 1) := by decide +kernel
theorem dX1_close_98 : decode cX1_close 98 = .ok (.if_icmp .ge 10, 3) := by decide +kernel
theorem dX1_close_101 : decode cX1_close 101 = .ok (.aload_n 0, 1) := by decide +kernel
theorem dX1_close_102 : decode cX1_close 102 = .ok (.getfield 21, 3) := by decide +kernel
theorem dX1_close_105 : decode cX1_close 105 = .ok (.iload_n 3, 1) := by decide +kernel
theorem dX1_close_106 : decode cX1_close 106 = .ok (.iload_n 1, 1) := by decide +kernel
theorem dX1_close_107 : decode cX1_close 107 = .ok (.iastore, 1) := by decide +kernel
theorem dX1_close_108 : decode cX1_close 108 = .ok (.aload_n 0, 1) := by decide +kernel
theorem dX1_close_109 : decode cX1_close 109 = .ok (.dup, 1) := by decide +kernel
theorem dX1_close_110 : decode cX1_close 110 = .ok (.getfield 48, 3) := by decide +kernel
theorem dX1_close_113 : decode cX1_close 113 = .ok (.iconst 1, 1) := by decide +kernel
theorem dX1_close_114 : decode cX1_close 114 = .ok (.iadd, 1) := by decide +kernel
theorem dX1_close_115 : decode cX1_close 115 = .ok (.putfield 48, 3) := by decide +kernel
theorem dX1_close_118 : decode cX1_close 118 = .ok (.return_, 1) := by decide +kernel
theorem dX1_isLatest_0 : decode cX1_isLatest 0 = .ok (.iload_n 1, 1) := by decide +kernel
theorem dX1_isLatest_1 : decode cX1_isLatest 1 = .ok (.ifCond .lt 26, 3) := by decide +kernel
theorem dX1_isLatest_4 : decode cX1_isLatest 4 = .ok (.iload_n 1, 1) := by decide +kernel
theorem dX1_isLatest_5 : decode cX1_isLatest 5 = .ok (.aload_n 0, 1) := by decide +kernel
theorem dX1_isLatest_6 : decode cX1_isLatest 6 = .ok (.getfield 48, 3) := by decide +kernel
theorem dX1_isLatest_9 : decode cX1_isLatest 9 = .ok (.if_icmp .ge 18, 3) := by decide +kernel
theorem dX1_isLatest_12 : decode cX1_isLatest 12 = .ok (.iload_n 1, 1) := by decide +kernel
theorem dX1_isLatest_13 : decode cX1_isLatest 13 = .ok (.aload_n 0, 1) := by decide +kernel
theorem dX1_isLatest_14 : decode cX1_isLatest 14 = .ok (.getfield 48, 3) := by decide +kernel
theorem dX1_isLatest_17 : decode cX1_isLatest 17 = .ok (.bipush 60, 2) := by decide +kernel
theorem dX1_isLatest_19 : decode cX1_isLatest 19 = .ok (.isub, 1) := by decide +kernel
theorem dX1_isLatest_20 : decode cX1_isLatest 20 = .ok (.if_icmp .lt 7, 3) := by decide +kernel
theorem dX1_isLatest_23 : decode cX1_isLatest 23 = .ok (.iconst 1, 1) := by decide +kernel
theorem dX1_isLatest_24 : decode cX1_isLatest 24 = .ok (.goto 4, 3) := by decide +kernel
theorem dX1_isLatest_27 : decode cX1_isLatest 27 = .ok (.iconst 0, 1) := by decide +kernel
theorem dX1_isLatest_28 : decode cX1_isLatest 28 = .ok (.ireturn, 1) := by decide +kernel
theorem dX1_blessedOn_0 : decode cX1_blessedOn 0 = .ok (.iload_n 1, 1) := by decide +kernel
theorem dX1_blessedOn_1 : decode cX1_blessedOn 1 = .ok (.bipush 60, 2) := by decide +kernel
theorem dX1_blessedOn_3 : decode cX1_blessedOn 3 = .ok (.irem, 1) := by decide +kernel
theorem dX1_blessedOn_4 : decode cX1_blessedOn 4 = .ok (.istore_n 2, 1) := by decide +kernel
theorem dX1_blessedOn_5 : decode cX1_blessedOn 5 = .ok (.aload_n 0, 1) := by decide +kernel
theorem dX1_blessedOn_6 : decode cX1_blessedOn 6 = .ok (.iload_n 1, 1) := by decide +kernel
theorem dX1_blessedOn_7 : decode cX1_blessedOn 7 = .ok (.invokevirtual 119, 3) := by decide +kernel
theorem dX1_blessedOn_10 : decode cX1_blessedOn 10 = .ok (.ifCond .eq 25, 3) := by decide +kernel
theorem dX1_blessedOn_13 : decode cX1_blessedOn 13 = .ok (.iload_n 2, 1) := by decide +kernel
theorem dX1_blessedOn_14 : decode cX1_blessedOn 14 = .ok (.ifCond .lt 21, 3) := by decide +kernel
theorem dX1_blessedOn_17 : decode cX1_blessedOn 17 = .ok (.iload_n 2, 1) := by decide +kernel
theorem dX1_blessedOn_18 : decode cX1_blessedOn 18 = .ok (.aload_n 0, 1) := by decide +kernel
theorem dX1_blessedOn_19 : decode cX1_blessedOn 19 = .ok (.getfield 21, 3) := by decide +kernel
theorem dX1_blessedOn_22 : decode cX1_blessedOn 22 = .ok (.arraylength, 1) := by decide +kernel
theorem dX1_blessedOn_23 : decode cX1_blessedOn 23 = .ok (.if_icmp .ge 12, 3) := by decide +kernel
theorem dX1_blessedOn_26 : decode cX1_blessedOn 26 = .ok (.aload_n 0, 1) := by decide +kernel
theorem dX1_blessedOn_27 : decode cX1_blessedOn 27 = .ok (.getfield 21, 3) := by decide +kernel
theorem dX1_blessedOn_30 : decode cX1_blessedOn 30 = .ok (.iload_n 2, 1) := by decide +kernel
theorem dX1_blessedOn_31 : decode cX1_blessedOn 31 = .ok (.iaload, 1) := by decide +kernel
theorem dX1_blessedOn_32 : decode cX1_blessedOn 32 = .ok (.goto 4, 3) := by decide +kernel
theorem dX1_blessedOn_35 : decode cX1_blessedOn 35 = .ok (.iconst (-1), 1) := by decide +kernel
theorem dX1_blessedOn_36 : decode cX1_blessedOn 36 = .ok (.ireturn, 1) := by decide +kernel
theorem dX2_init_0 : decode cX2_init 0 = .ok (.aload_n 0, 1) := by decide +kernel
theorem dX2_init_1 : decode cX2_init 1 = .ok (.invokespecial 3, 3) := by decide +kernel
theorem dX2_init_4 : decode cX2_init 4 = .ok (.aload_n 0, 1) := by decide +kernel
theorem dX2_init_5 : decode cX2_init 5 = .ok (.bipush 10, 2) := by decide +kernel
theorem dX2_init_7 : decode cX2_init 7 = .ok (.newarray .int, 2) := by decide +kernel
theorem dX2_init_9 : decode cX2_init 9 = .ok (.putfield 9, 3) := by decide +kernel
theorem dX2_init_12 : decode cX2_init 12 = .ok (.aload_n 0, 1) := by decide +kernel
theorem dX2_init_13 : decode cX2_init 13 = .ok (.bipush 10, 2) := by decide +kernel
theorem dX2_init_15 : decode cX2_init 15 = .ok (.newarray .int, 2) := by decide +kernel
theorem dX2_init_17 : decode cX2_init 17 = .ok (.putfield 15, 3) := by decide +kernel
theorem dX2_init_20 : decode cX2_init 20 = .ok (.aload_n 0, 1) := by decide +kernel
theorem dX2_init_21 : decode cX2_init 21 = .ok (.bipush 15, 2) := by decide +kernel
theorem dX2_init_23 : decode cX2_init 23 = .ok (.newarray .int, 2) := by decide +kernel
theorem dX2_init_25 : decode cX2_init 25 = .ok (.putfield 18, 3) := by decide +kernel
theorem dX2_init_28 : decode cX2_init 28 = .ok (.aload_n 0, 1) := by decide +kernel
theorem dX2_init_29 : decode cX2_init 29 = .ok (.bipush 15, 2) := by decide +kernel
theorem dX2_init_31 : decode cX2_init 31 = .ok (.newarray .int, 2) := by decide +kernel
theorem dX2_init_33 : decode cX2_init 33 = .ok (.putfield 21, 3) := by decide +kernel
theorem dX2_init_36 : decode cX2_init 36 = .ok (.return_, 1) := by decide +kernel
theorem dX2_clear_0 : decode cX2_clear 0 = .ok (.aload_n 0, 1) := by decide +kernel
theorem dX2_clear_1 : decode cX2_clear 1 = .ok (.iconst 0, 1) := by decide +kernel
theorem dX2_clear_2 : decode cX2_clear 2 = .ok (.putfield 24, 3) := by decide +kernel
theorem dX2_clear_5 : decode cX2_clear 5 = .ok (.aload_n 0, 1) := by decide +kernel
theorem dX2_clear_6 : decode cX2_clear 6 = .ok (.iconst 0, 1) := by decide +kernel
theorem dX2_clear_7 : decode cX2_clear 7 = .ok (.putfield 28, 3) := by decide +kernel
theorem dX2_clear_10 : decode cX2_clear 10 = .ok (.return_, 1) := by decide +kernel
theorem dX2_addSeen_0 : decode cX2_addSeen 0 = .ok (.aload_n 0, 1) := by decide +kernel
theorem dX2_addSeen_1 : decode cX2_addSeen 1 = .ok (.getfield 24, 3) := by decide +kernel
theorem dX2_addSeen_4 : decode cX2_addSeen 4 = .ok (.ifCond .lt 12, 3) := by decide +kernel
theorem dX2_addSeen_7 : decode cX2_addSeen 7 = .ok (.aload_n 0, 1) := by decide +kernel
theorem dX2_addSeen_8 : decode cX2_addSeen 8 = .ok (.getfield 24, 3) := by decide +kernel
theorem dX2_addSeen_11 : decode cX2_addSeen 11 = .ok (.bipush 10, 2) := by decide +kernel
theorem dX2_addSeen_13 : decode cX2_addSeen 13 = .ok (.if_icmp .lt 5, 3) := by decide +kernel
theorem dX2_addSeen_16 : decode cX2_addSeen 16 = .ok (.iconst 0, 1) := by decide +kernel
theorem dX2_addSeen_17 : decode cX2_addSeen 17 = .ok (.ireturn, 1) := by decide +kernel
theorem dX2_addSeen_18 : decode cX2_addSeen 18 = .ok (.aload_n 0, 1) := by decide +kernel
theorem dX2_addSeen_19 : decode cX2_addSeen 19 = .ok (.getfield 9, 3) := by decide +kernel
theorem dX2_addSeen_22 : decode cX2_addSeen 22 = .ok (.aload_n 0, 1) := by decide +kernel
theorem dX2_addSeen_23 : decode cX2_addSeen 23 = .ok (.getfield 24, 3) := by decide +kernel
theorem dX2_addSeen_26 : decode cX2_addSeen 26 = .ok (.iload_n 1, 1) := by decide +kernel
theorem dX2_addSeen_27 : decode cX2_addSeen 27 = .ok (.iastore, 1) := by decide +kernel
theorem dX2_addSeen_28 : decode cX2_addSeen 28 = .ok (.aload_n 0, 1) := by decide +kernel
theorem dX2_addSeen_29 : decode cX2_addSeen 29 = .ok (.getfield 15, 3) := by decide +kernel
theorem dX2_addSeen_32 : decode cX2_addSeen 32 = .ok (.aload_n 0, 1) := by decide +kernel
theorem dX2_addSeen_33 : decode cX2_addSeen 33 = .ok (.getfield 24, 3) := by decide +kernel
theorem dX2_addSeen_36 : decode cX2_addSeen 36 = .ok (.iload_n 2, 1) := by decide +kernel
theorem dX2_addSeen_37 : decode cX2_addSeen 37 = .ok (.iastore, 1) := by decide +kernel
theorem dX2_addSeen_38 : decode cX2_addSeen 38 = .ok (.aload_n 0, 1) := by decide +kernel
theorem dX2_addSeen_39 : decode cX2_addSeen 39 = .ok (.dup, 1) := by decide +kernel
theorem dX2_addSeen_40 : decode cX2_addSeen 40 = .ok (.getfield 24, 3) := by decide +kernel
theorem dX2_addSeen_43 : decode cX2_addSeen 43 = .ok (.iconst 1, 1) := by decide +kernel
theorem dX2_addSeen_44 : decode cX2_addSeen 44 = .ok (.iadd, 1) := by decide +kernel
theorem dX2_addSeen_45 : decode cX2_addSeen 45 = .ok (.putfield 24, 3) := by decide +kernel
theorem dX2_addSeen_48 : decode cX2_addSeen 48 = .ok (.iconst 1, 1) := by decide +kernel
theorem dX2_addSeen_49 : decode cX2_addSeen 49 = .ok (.ireturn, 1) := by decide +kernel
theorem dX2_addEntry_0 : decode cX2_addEntry 0 = .ok (.aload_n 0, 1) := by decide +kernel
theorem dX2_addEntry_1 : decode cX2_addEntry 1 = .ok (.getfield 28, 3) := by decide +kernel
theorem dX2_addEntry_4 : decode cX2_addEntry 4 = .ok (.ifCond .lt 12, 3) := by decide +kernel
theorem dX2_addEntry_7 : decode cX2_addEntry 7 = .ok (.aload_n 0, 1) := by decide +kernel
theorem dX2_addEntry_8 : decode cX2_addEntry 8 = .ok (.getfield 28, 3) := by decide +kernel
theorem dX2_addEntry_11 : decode cX2_addEntry 11 = .ok (.bipush 15, 2) := by decide +kernel
theorem dX2_addEntry_13 : decode cX2_addEntry 13 = .ok (.if_icmp .lt 5, 3) := by decide +kernel
theorem dX2_addEntry_16 : decode cX2_addEntry 16 = .ok (.iconst 0, 1) := by decide +kernel
theorem dX2_addEntry_17 : decode cX2_addEntry 17 = .ok (.ireturn, 1) := by decide +kernel
theorem dX2_addEntry_18 : decode cX2_addEntry 18 = .ok (.aload_n 0, 1) := by decide +kernel
theorem dX2_addEntry_19 : decode cX2_addEntry 19 = .ok (.getfield 18, 3) := by decide +kernel
theorem dX2_addEntry_22 : decode cX2_addEntry 22 = .ok (.aload_n 0, 1) := by decide +kernel
theorem dX2_addEntry_23 : decode cX2_addEntry 23 = .ok (.getfield 28, 3) := by decide +kernel
theorem dX2_addEntry_26 : decode cX2_addEntry 26 = .ok (.iload_n 1, 1) := by decide +kernel
theorem dX2_addEntry_27 : decode cX2_addEntry 27 = .ok (.iastore, 1) := by decide +kernel
theorem dX2_addEntry_28 : decode cX2_addEntry 28 = .ok (.aload_n 0, 1) := by decide +kernel
theorem dX2_addEntry_29 : decode cX2_addEntry 29 = .ok (.getfield 21, 3) := by decide +kernel
theorem dX2_addEntry_32 : decode cX2_addEntry 32 = .ok (.aload_n 0, 1) := by decide +kernel
theorem dX2_addEntry_33 : decode cX2_addEntry 33 = .ok (.getfield 28, 3) := by decide +kernel
theorem dX2_addEntry_36 : decode cX2_addEntry 36 = .ok (.iload_n 2, 1) := by decide +kernel
theorem dX2_addEntry_37 : decode cX2_addEntry 37 = .ok (.iastore, 1) := by decide +kernel
theorem dX2_addEntry_38 : decode cX2_addEntry 38 = .ok (.aload_n 0, 1) := by decide +kernel
theorem dX2_addEntry_39 : decode cX2_addEntry 39 = .ok (.dup, 1) := by decide +kernel
theorem dX2_addEntry_40 : decode cX2_addEntry 40 = .ok (.getfield 28, 3) := by decide +kernel
theorem dX2_addEntry_43 : decode cX2_addEntry 43 = .ok (.iconst 1, 1) := by decide +kernel
theorem dX2_addEntry_44 : decode cX2_addEntry 44 = .ok (.iadd, 1) := by decide +kernel
theorem dX2_addEntry_45 : decode cX2_addEntry 45 = .ok (.putfield 28, 3) := by decide +kernel
theorem dX2_addEntry_48 : decode cX2_addEntry 48 = .ok (.iconst 1, 1) := by decide +kernel
theorem dX2_addEntry_49 : decode cX2_addEntry 49 = .ok (.ireturn, 1) := by decide +kernel
theorem dX2_fitting_0 : decode cX2_fitting 0 = .ok (.iconst 0, 1) := by decide +kernel
theorem dX2_fitting_1 : decode cX2_fitting 1 = .ok (.istore 4, 2) := by decide +kernel
theorem dX2_fitting_3 : decode cX2_fitting 3 = .ok (.iconst 0, 1) := by decide +kernel
theorem dX2_fitting_4 : decode cX2_fitting 4 = .ok (.istore 5, 2) := by decide +kernel
theorem dX2_fitting_6 : decode cX2_fitting 6 = .ok (.iload 5, 2) := by decide +kernel
theorem dX2_fitting_8 : decode cX2_fitting 8 = .ok (.aload_n 1, 1) := by decide +kernel
theorem dX2_fitting_9 : decode cX2_fitting 9 = .ok (.iload_n 3, 1) := by decide +kernel
theorem dX2_fitting_10 : decode cX2_fitting 10 = .ok (.invokevirtual 31, 3) := by decide +kernel
theorem dX2_fitting_13 : decode cX2_fitting 13 = .ok (.if_icmp .ge 30, 3) := by decide +kernel
theorem dX2_fitting_16 : decode cX2_fitting 16 = .ok (.aload_n 0, 1) := by decide +kernel
theorem dX2_fitting_17 : decode cX2_fitting 17 = .ok (.aload_n 1, 1) := by decide +kernel
theorem dX2_fitting_18 : decode cX2_fitting 18 = .ok (.aload_n 2, 1) := by decide +kernel
theorem dX2_fitting_19 : decode cX2_fitting 19 = .ok (.iload_n 3, 1) := by decide +kernel
theorem dX2_fitting_20 : decode cX2_fitting 20 = .ok (.iload 5, 2) := by decide +kernel
theorem dX2_fitting_22 : decode cX2_fitting 22 = .ok (.invokevirtual 37, 3) := by decide +kernel
theorem dX2_fitting_25 : decode cX2_fitting 25 = .ok (.ifCond .eq 12, 3) := by decide +kernel
theorem dX2_fitting_28 : decode cX2_fitting 28 = .ok (.iload 4, 2) := by decide +kernel
theorem dX2_fitting_30 : decode cX2_fitting 30 = .ok (.iconst 1, 1) := by decide +kernel
theorem dX2_fitting_31 : decode cX2_fitting 31 = .ok (.iload 5, 2) := by decide +kernel
theorem dX2_fitting_33 : decode cX2_fitting 33 = .ok (.ishl, 1) := by decide +kernel
theorem dX2_fitting_34 : decode cX2_fitting 34 = .ok (.ior, 1) := by decide +kernel
theorem dX2_fitting_35 : decode cX2_fitting 35 = .ok (.istore 4, 2) := by decide +kernel
theorem dX2_fitting_37 : decode cX2_fitting 37 = .ok (.iinc 5 1, 3) := by decide +kernel
theorem dX2_fitting_40 : decode cX2_fitting 40 = .ok (.goto (-34), 3) := by decide +kernel
theorem dX2_fitting_43 : decode cX2_fitting 43 = .ok (.iload 4, 2) := by decide +kernel
theorem dX2_fitting_45 : decode cX2_fitting 45 = .ok (.ireturn, 1) := by decide +kernel
theorem dX2_fits_0 : decode cX2_fits 0 = .ok (.iconst 0, 1) := by decide +kernel
theorem dX2_fits_1 : decode cX2_fits 1 = .ok (.istore 5, 2) := by decide +kernel
theorem dX2_fits_3 : decode cX2_fits 3 = .ok (.iload 5, 2) := by decide +kernel
theorem dX2_fits_5 : decode cX2_fits 5 = .ok (.aload_n 0, 1) := by decide +kernel
theorem dX2_fits_6 : decode cX2_fits 6 = .ok (.getfield 24, 3) := by decide +kernel
theorem dX2_fits_9 : decode cX2_fits 9 = .ok (.if_icmp .ge 43, 3) := by decide +kernel
theorem dX2_fits_12 : decode cX2_fits 12 = .ok (.iload 5, 2) := by decide +kernel
theorem dX2_fits_14 : decode cX2_fits 14 = .ok (.bipush 10, 2) := by decide +kernel
theorem dX2_fits_16 : decode cX2_fits 16 = .ok (.if_icmp .ge 36, 3) := by decide +kernel
theorem dX2_fits_19 : decode cX2_fits 19 = .ok (.aload_n 2, 1) := by decide +kernel
theorem dX2_fits_20 : decode cX2_fits 20 = .ok (.aload_n 1, 1) := by decide +kernel
theorem dX2_fits_21 : decode cX2_fits 21 = .ok (.iload_n 3, 1) := by decide +kernel
theorem dX2_fits_22 : decode cX2_fits 22 = .ok (.iload 4, 2) := by decide +kernel
theorem dX2_fits_24 : decode cX2_fits 24 = .ok (.aload_n 0, 1) := by decide +kernel
theorem dX2_fits_25 : decode cX2_fits 25 = .ok (.getfield 9, 3) := by decide +kernel
theorem dX2_fits_28 : decode cX2_fits 28 = .ok (.iload 5, 2) := by decide +kernel
theorem dX2_fits_30 : decode cX2_fits 30 = .ok (.iaload, 1) := by decide +kernel
theorem dX2_fits_31 : decode cX2_fits 31 = .ok (.invokevirtual 41, 3) := by decide +kernel
theorem dX2_fits_34 : decode cX2_fits 34 = .ok (.aload_n 0, 1) := by decide +kernel
theorem dX2_fits_35 : decode cX2_fits 35 = .ok (.getfield 15, 3) := by decide +kernel
theorem dX2_fits_38 : decode cX2_fits 38 = .ok (.iload 5, 2) := by decide +kernel
theorem dX2_fits_40 : decode cX2_fits 40 = .ok (.iaload, 1) := by decide +kernel
theorem dX2_fits_41 : decode cX2_fits 41 = .ok (.if_icmp .eq 5, 3) := by decide +kernel
theorem dX2_fits_44 : decode cX2_fits 44 = .ok (.iconst 0, 1) := by decide +kernel
theorem dX2_fits_45 : decode cX2_fits 45 = .ok (.ireturn, 1) := by decide +kernel
theorem dX2_fits_46 : decode cX2_fits 46 = .ok (.iinc 5 1, 3) := by decide +kernel
theorem dX2_fits_49 : decode cX2_fits 49 = .ok (.goto (-46), 3) := by decide +kernel
theorem dX2_fits_52 : decode cX2_fits 52 = .ok (.iconst 1, 1) := by decide +kernel
theorem dX2_fits_53 : decode cX2_fits 53 = .ok (.ireturn, 1) := by decide +kernel
theorem dX2_firstWrong_0 : decode cX2_firstWrong 0 = .ok (.iconst 0, 1) := by decide +kernel
theorem dX2_firstWrong_1 : decode cX2_firstWrong 1 = .ok (.istore_n 2, 1) := by decide +kernel
theorem dX2_firstWrong_2 : decode cX2_firstWrong 2 = .ok (.iload_n 2, 1) := by decide +kernel
theorem dX2_firstWrong_3 : decode cX2_firstWrong 3 = .ok (.aload_n 0, 1) := by decide +kernel
theorem dX2_firstWrong_4 : decode cX2_firstWrong 4 = .ok (.getfield 28, 3) := by decide +kernel
theorem dX2_firstWrong_7 : decode cX2_firstWrong 7 = .ok (.if_icmp .ge 46, 3) := by decide +kernel
end
section
theorem dX2_firstWrong_10 : decode cX2_firstWrong 10 = .ok (.iload_n 2, 1) := by decide +kernel
theorem dX2_firstWrong_11 : decode cX2_firstWrong 11 = .ok (.bipush 15, 2) := by decide +kernel
theorem dX2_firstWrong_13 : decode cX2_firstWrong 13 = .ok (.if_icmp .ge 40, 3) := by decide +kernel
theorem dX2_firstWrong_16 : decode cX2_firstWrong 16 = .ok (.aload_n 0, 1) := by decide +kernel
theorem dX2_firstWrong_17 : decode cX2_firstWrong 17 = .ok (.getfield 18, 3) := by decide +kernel
theorem dX2_firstWrong_20 : decode cX2_firstWrong 20 = .ok (.iload_n 2, 1) := by decide +kernel
theorem dX2_firstWrong_21 : decode cX2_firstWrong 21 = .ok (.iaload, 1) := by decide +kernel
theorem dX2_firstWrong_22 : decode cX2_firstWrong 22 = .ok (.istore_n 3, 1) := by decide +kernel
theorem dX2_firstWrong_23 : decode cX2_firstWrong 23 = .ok (.aload_n 1, 1) := by decide +kernel
theorem dX2_firstWrong_24 : decode cX2_firstWrong 24 = .ok (.iload_n 3, 1) := by decide +kernel
theorem dX2_firstWrong_25 : decode cX2_firstWrong 25 = .ok (.invokevirtual 47, 3) := by decide +kernel
theorem dX2_firstWrong_28 : decode cX2_firstWrong 28 = .ok (.ifCond .eq 17, 3) := by decide +kernel
theorem dX2_firstWrong_31 : decode cX2_firstWrong 31 = .ok (.aload_n 1, 1) := by decide +kernel
theorem dX2_firstWrong_32 : decode cX2_firstWrong 32 = .ok (.iload_n 3, 1) := by decide +kernel
theorem dX2_firstWrong_33 : decode cX2_firstWrong 33 = .ok (.invokevirtual 51, 3) := by decide +kernel
theorem dX2_firstWrong_36 : decode cX2_firstWrong 36 = .ok (.aload_n 0, 1) := by decide +kernel
theorem dX2_firstWrong_37 : decode cX2_firstWrong 37 = .ok (.getfield 21, 3) := by decide +kernel
theorem dX2_firstWrong_40 : decode cX2_firstWrong 40 = .ok (.iload_n 2, 1) := by decide +kernel
theorem dX2_firstWrong_41 : decode cX2_firstWrong 41 = .ok (.iaload, 1) := by decide +kernel
theorem dX2_firstWrong_42 : decode cX2_firstWrong 42 = .ok (.if_icmp .eq 5, 3) := by decide +kernel
theorem dX2_firstWrong_45 : decode cX2_firstWrong 45 = .ok (.iload_n 2, 1) := by decide +kernel
theorem dX2_firstWrong_46 : decode cX2_firstWrong 46 = .ok (.ireturn, 1) := by decide +kernel
theorem dX2_firstWrong_47 : decode cX2_firstWrong 47 = .ok (.iinc 2 1, 3) := by decide +kernel
theorem dX2_firstWrong_50 : decode cX2_firstWrong 50 = .ok (.goto (-48), 3) := by decide +kernel
theorem dX2_firstWrong_53 : decode cX2_firstWrong 53 = .ok (.iconst (-1), 1) := by decide +kernel
theorem dX2_firstWrong_54 : decode cX2_firstWrong 54 = .ok (.ireturn, 1) := by decide +kernel
theorem dX3_init_0 : decode cX3_init 0 = .ok (.aload_n 0, 1) := by decide +kernel
theorem dX3_init_1 : decode cX3_init 1 = .ok (.invokespecial 3, 3) := by decide +kernel
theorem dX3_init_4 : decode cX3_init 4 = .ok (.aload_n 0, 1) := by decide +kernel
theorem dX3_init_5 : decode cX3_init 5 = .ok (.bipush 20, 2) := by decide +kernel
theorem dX3_init_7 : decode cX3_init 7 = .ok (.anewarray 9, 3) := by decide +kernel
theorem dX3_init_10 : decode cX3_init 10 = .ok (.putfield 11, 3) := by decide +kernel
theorem dX3_init_13 : decode cX3_init 13 = .ok (.iconst 0, 1) := by decide +kernel
theorem dX3_init_14 : decode cX3_init 14 = .ok (.istore_n 1, 1) := by decide +kernel
theorem dX3_init_15 : decode cX3_init 15 = .ok (.iload_n 1, 1) := by decide +kernel
theorem dX3_init_16 : decode cX3_init 16 = .ok (.aload_n 0, 1) := by decide +kernel
theorem dX3_init_17 : decode cX3_init 17 = .ok (.getfield 11, 3) := by decide +kernel
theorem dX3_init_20 : decode cX3_init 20 = .ok (.arraylength, 1) := by decide +kernel
theorem dX3_init_21 : decode cX3_init 21 = .ok (.if_icmp .ge 22, 3) := by decide +kernel
theorem dX3_init_24 : decode cX3_init 24 = .ok (.aload_n 0, 1) := by decide +kernel
theorem dX3_init_25 : decode cX3_init 25 = .ok (.getfield 11, 3) := by decide +kernel
theorem dX3_init_28 : decode cX3_init 28 = .ok (.iload_n 1, 1) := by decide +kernel
theorem dX3_init_29 : decode cX3_init 29 = .ok (.new 9, 3) := by decide +kernel
theorem dX3_init_32 : decode cX3_init 32 = .ok (.dup, 1) := by decide +kernel
theorem dX3_init_33 : decode cX3_init 33 = .ok (.invokespecial 17, 3) := by decide +kernel
theorem dX3_init_36 : decode cX3_init 36 = .ok (.aastore, 1) := by decide +kernel
theorem dX3_init_37 : decode cX3_init 37 = .ok (.iinc 1 1, 3) := by decide +kernel
theorem dX3_init_40 : decode cX3_init 40 = .ok (.goto (-25), 3) := by decide +kernel
theorem dX3_init_43 : decode cX3_init 43 = .ok (.return_, 1) := by decide +kernel
theorem dX3_clear_0 : decode cX3_clear 0 = .ok (.aload_n 0, 1) := by decide +kernel
theorem dX3_clear_1 : decode cX3_clear 1 = .ok (.iconst 0, 1) := by decide +kernel
theorem dX3_clear_2 : decode cX3_clear 2 = .ok (.putfield 18, 3) := by decide +kernel
theorem dX3_clear_5 : decode cX3_clear 5 = .ok (.return_, 1) := by decide +kernel
theorem dX3_push_0 : decode cX3_push 0 = .ok (.aload_n 0, 1) := by decide +kernel
theorem dX3_push_1 : decode cX3_push 1 = .ok (.getfield 22, 3) := by decide +kernel
theorem dX3_push_4 : decode cX3_push 4 = .ok (.ifCond .lt 15, 3) := by decide +kernel
theorem dX3_push_7 : decode cX3_push 7 = .ok (.aload_n 0, 1) := by decide +kernel
theorem dX3_push_8 : decode cX3_push 8 = .ok (.getfield 22, 3) := by decide +kernel
theorem dX3_push_11 : decode cX3_push 11 = .ok (.aload_n 0, 1) := by decide +kernel
theorem dX3_push_12 : decode cX3_push 12 = .ok (.getfield 11, 3) := by decide +kernel
theorem dX3_push_15 : decode cX3_push 15 = .ok (.arraylength, 1) := by decide +kernel
theorem dX3_push_16 : decode cX3_push 16 = .ok (.if_icmp .lt 7, 3) := by decide +kernel
theorem dX3_push_19 : decode cX3_push 19 = .ok (.aconst_null, 1) := by decide +kernel
theorem dX3_push_20 : decode cX3_push 20 = .ok (.goto 12, 3) := by decide +kernel
theorem dX3_push_23 : decode cX3_push 23 = .ok (.aload_n 0, 1) := by decide +kernel
theorem dX3_push_24 : decode cX3_push 24 = .ok (.getfield 11, 3) := by decide +kernel
theorem dX3_push_27 : decode cX3_push 27 = .ok (.aload_n 0, 1) := by decide +kernel
theorem dX3_push_28 : decode cX3_push 28 = .ok (.getfield 22, 3) := by decide +kernel
theorem dX3_push_31 : decode cX3_push 31 = .ok (.aaload, 1) := by decide +kernel
theorem dX3_push_32 : decode cX3_push 32 = .ok (.astore_n 2, 1) := by decide +kernel
theorem dX3_push_33 : decode cX3_push 33 = .ok (.aload_n 2, 1) := by decide +kernel
theorem dX3_push_34 : decode cX3_push 34 = .ok (.ifnonnull 4, 3) := by decide +kernel
theorem dX3_push_37 : decode cX3_push 37 = .ok (.return_, 1) := by decide +kernel
theorem dX3_push_38 : decode cX3_push 38 = .ok (.aload_n 2, 1) := by decide +kernel
theorem dX3_push_39 : decode cX3_push 39 = .ok (.aload_n 1, 1) := by decide +kernel
theorem dX3_push_40 : decode cX3_push 40 = .ok (.invokevirtual 25, 3) := by decide +kernel
theorem dX3_push_43 : decode cX3_push 43 = .ok (.aload_n 0, 1) := by decide +kernel
theorem dX3_push_44 : decode cX3_push 44 = .ok (.aload_n 0, 1) := by decide +kernel
theorem dX3_push_45 : decode cX3_push 45 = .ok (.getfield 22, 3) := by decide +kernel
theorem dX3_push_48 : decode cX3_push 48 = .ok (.iconst 1, 1) := by decide +kernel
theorem dX3_push_49 : decode cX3_push 49 = .ok (.iadd, 1) := by decide +kernel
theorem dX3_push_50 : decode cX3_push 50 = .ok (.bipush 20, 2) := by decide +kernel
theorem dX3_push_52 : decode cX3_push 52 = .ok (.irem, 1) := by decide +kernel
theorem dX3_push_53 : decode cX3_push 53 = .ok (.putfield 22, 3) := by decide +kernel
theorem dX3_push_56 : decode cX3_push 56 = .ok (.aload_n 0, 1) := by decide +kernel
theorem dX3_push_57 : decode cX3_push 57 = .ok (.getfield 18, 3) := by decide +kernel
theorem dX3_push_60 : decode cX3_push 60 = .ok (.bipush 20, 2) := by decide +kernel
theorem dX3_push_62 : decode cX3_push 62 = .ok (.if_icmp .ge 13, 3) := by decide +kernel
theorem dX3_push_65 : decode cX3_push 65 = .ok (.aload_n 0, 1) := by decide +kernel
theorem dX3_push_66 : decode cX3_push 66 = .ok (.dup, 1) := by decide +kernel
theorem dX3_push_67 : decode cX3_push 67 = .ok (.getfield 18, 3) := by decide +kernel
theorem dX3_push_70 : decode cX3_push 70 = .ok (.iconst 1, 1) := by decide +kernel
theorem dX3_push_71 : decode cX3_push 71 = .ok (.iadd, 1) := by decide +kernel
theorem dX3_push_72 : decode cX3_push 72 = .ok (.putfield 18, 3) := by decide +kernel
theorem dX3_push_75 : decode cX3_push 75 = .ok (.return_, 1) := by decide +kernel
theorem dX3_pop_0 : decode cX3_pop 0 = .ok (.aload_n 0, 1) := by decide +kernel
theorem dX3_pop_1 : decode cX3_pop 1 = .ok (.getfield 22, 3) := by decide +kernel
theorem dX3_pop_4 : decode cX3_pop 4 = .ok (.bipush 20, 2) := by decide +kernel
theorem dX3_pop_6 : decode cX3_pop 6 = .ok (.iadd, 1) := by decide +kernel
theorem dX3_pop_7 : decode cX3_pop 7 = .ok (.iconst 1, 1) := by decide +kernel
theorem dX3_pop_8 : decode cX3_pop 8 = .ok (.isub, 1) := by decide +kernel
theorem dX3_pop_9 : decode cX3_pop 9 = .ok (.bipush 20, 2) := by decide +kernel
theorem dX3_pop_11 : decode cX3_pop 11 = .ok (.irem, 1) := by decide +kernel
theorem dX3_pop_12 : decode cX3_pop 12 = .ok (.istore_n 2, 1) := by decide +kernel
theorem dX3_pop_13 : decode cX3_pop 13 = .ok (.aload_n 0, 1) := by decide +kernel
theorem dX3_pop_14 : decode cX3_pop 14 = .ok (.getfield 18, 3) := by decide +kernel
theorem dX3_pop_17 : decode cX3_pop 17 = .ok (.iconst 1, 1) := by decide +kernel
theorem dX3_pop_18 : decode cX3_pop 18 = .ok (.if_icmp .lt 16, 3) := by decide +kernel
theorem dX3_pop_21 : decode cX3_pop 21 = .ok (.iload_n 2, 1) := by decide +kernel
theorem dX3_pop_22 : decode cX3_pop 22 = .ok (.ifCond .lt 12, 3) := by decide +kernel
theorem dX3_pop_25 : decode cX3_pop 25 = .ok (.iload_n 2, 1) := by decide +kernel
theorem dX3_pop_26 : decode cX3_pop 26 = .ok (.aload_n 0, 1) := by decide +kernel
theorem dX3_pop_27 : decode cX3_pop 27 = .ok (.getfield 11, 3) := by decide +kernel
theorem dX3_pop_30 : decode cX3_pop 30 = .ok (.arraylength, 1) := by decide +kernel
theorem dX3_pop_31 : decode cX3_pop 31 = .ok (.if_icmp .lt 7, 3) := by decide +kernel
theorem dX3_pop_34 : decode cX3_pop 34 = .ok (.aconst_null, 1) := by decide +kernel
theorem dX3_pop_35 : decode cX3_pop 35 = .ok (.goto 9, 3) := by decide +kernel
theorem dX3_pop_38 : decode cX3_pop 38 = .ok (.aload_n 0, 1) := by decide +kernel
theorem dX3_pop_39 : decode cX3_pop 39 = .ok (.getfield 11, 3) := by decide +kernel
theorem dX3_pop_42 : decode cX3_pop 42 = .ok (.iload_n 2, 1) := by decide +kernel
theorem dX3_pop_43 : decode cX3_pop 43 = .ok (.aaload, 1) := by decide +kernel
theorem dX3_pop_44 : decode cX3_pop 44 = .ok (.astore_n 3, 1) := by decide +kernel
theorem dX3_pop_45 : decode cX3_pop 45 = .ok (.aload_n 3, 1) := by decide +kernel
theorem dX3_pop_46 : decode cX3_pop 46 = .ok (.ifnonnull 4, 3) := by decide +kernel
theorem dX3_pop_49 : decode cX3_pop 49 = .ok (.return_, 1) := by decide +kernel
theorem dX3_pop_50 : decode cX3_pop 50 = .ok (.aload_n 1, 1) := by decide +kernel
theorem dX3_pop_51 : decode cX3_pop 51 = .ok (.aload_n 3, 1) := by decide +kernel
theorem dX3_pop_52 : decode cX3_pop 52 = .ok (.invokevirtual 25, 3) := by decide +kernel
theorem dX3_pop_55 : decode cX3_pop 55 = .ok (.aload_n 0, 1) := by decide +kernel
theorem dX3_pop_56 : decode cX3_pop 56 = .ok (.iload_n 2, 1) := by decide +kernel
theorem dX3_pop_57 : decode cX3_pop 57 = .ok (.putfield 22, 3) := by decide +kernel
theorem dX3_pop_60 : decode cX3_pop 60 = .ok (.aload_n 0, 1) := by decide +kernel
theorem dX3_pop_61 : decode cX3_pop 61 = .ok (.dup, 1) := by decide +kernel
theorem dX3_pop_62 : decode cX3_pop 62 = .ok (.getfield 18, 3) := by decide +kernel
theorem dX3_pop_65 : decode cX3_pop 65 = .ok (.iconst 1, 1) := by decide +kernel
theorem dX3_pop_66 : decode cX3_pop 66 = .ok (.isub, 1) := by decide +kernel
theorem dX3_pop_67 : decode cX3_pop 67 = .ok (.putfield 18, 3) := by decide +kernel
theorem dX3_pop_70 : decode cX3_pop 70 = .ok (.return_, 1) := by decide +kernel
theorem dX4_init_0 : decode cX4_init 0 = .ok (.aload_n 0, 1) := by decide +kernel
theorem dX4_init_1 : decode cX4_init 1 = .ok (.invokespecial 3, 3) := by decide +kernel
theorem dX4_init_4 : decode cX4_init 4 = .ok (.aload_n 0, 1) := by decide +kernel
theorem dX4_init_5 : decode cX4_init 5 = .ok (.bipush 10, 2) := by decide +kernel
theorem dX4_init_7 : decode cX4_init 7 = .ok (.newarray .int, 2) := by decide +kernel
theorem dX4_init_9 : decode cX4_init 9 = .ok (.putfield 9, 3) := by decide +kernel
theorem dX4_init_12 : decode cX4_init 12 = .ok (.return_, 1) := by decide +kernel
theorem dX4_make_0 : decode cX4_make 0 = .ok (.aload_n 0, 1) := by decide +kernel
theorem dX4_make_1 : decode cX4_make 1 = .ok (.iload_n 2, 1) := by decide +kernel
theorem dX4_make_2 : decode cX4_make 2 = .ok (.putfield 15, 3) := by decide +kernel
theorem dX4_make_5 : decode cX4_make 5 = .ok (.aload_n 0, 1) := by decide +kernel
theorem dX4_make_6 : decode cX4_make 6 = .ok (.iload_n 3, 1) := by decide +kernel
theorem dX4_make_7 : decode cX4_make 7 = .ok (.aload_n 0, 1) := by decide +kernel
theorem dX4_make_8 : decode cX4_make 8 = .ok (.getfield 9, 3) := by decide +kernel
theorem dX4_make_11 : decode cX4_make 11 = .ok (.arraylength, 1) := by decide +kernel
theorem dX4_make_12 : decode cX4_make 12 = .ok (.invokestatic 19, 3) := by decide +kernel
theorem dX4_make_15 : decode cX4_make 15 = .ok (.putfield 25, 3) := by decide +kernel
theorem dX4_make_18 : decode cX4_make 18 = .ok (.aload_n 0, 1) := by decide +kernel
theorem dX4_make_19 : decode cX4_make 19 = .ok (.iconst (-1), 1) := by decide +kernel
theorem dX4_make_20 : decode cX4_make 20 = .ok (.putfield 28, 3) := by decide +kernel
theorem dX4_make_23 : decode cX4_make 23 = .ok (.iconst 0, 1) := by decide +kernel
theorem dX4_make_24 : decode cX4_make 24 = .ok (.istore 4, 2) := by decide +kernel
theorem dX4_make_26 : decode cX4_make 26 = .ok (.iload 4, 2) := by decide +kernel
theorem dX4_make_28 : decode cX4_make 28 = .ok (.aload_n 0, 1) := by decide +kernel
theorem dX4_make_29 : decode cX4_make 29 = .ok (.getfield 25, 3) := by decide +kernel
theorem dX4_make_32 : decode cX4_make 32 = .ok (.if_icmp .ge 26, 3) := by decide +kernel
theorem dX4_make_35 : decode cX4_make 35 = .ok (.aload_n 1, 1) := by decide +kernel
theorem dX4_make_36 : decode cX4_make 36 = .ok (.iload_n 2, 1) := by decide +kernel
theorem dX4_make_37 : decode cX4_make 37 = .ok (.iload 4, 2) := by decide +kernel
theorem dX4_make_39 : decode cX4_make 39 = .ok (.iadd, 1) := by decide +kernel
theorem dX4_make_40 : decode cX4_make 40 = .ok (.invokevirtual 31, 3) := by decide +kernel
theorem dX4_make_43 : decode cX4_make 43 = .ok (.ifCond .eq 9, 3) := by decide +kernel
theorem dX4_make_46 : decode cX4_make 46 = .ok (.aload_n 0, 1) := by decide +kernel
theorem dX4_make_47 : decode cX4_make 47 = .ok (.iload 4, 2) := by decide +kernel
theorem dX4_make_49 : decode cX4_make 49 = .ok (.putfield 28, 3) := by decide +kernel
theorem dX4_make_52 : decode cX4_make 52 = .ok (.iinc 4 1, 3) := by decide +kernel
theorem dX4_make_55 : decode cX4_make 55 = .ok (.goto (-29), 3) := by decide +kernel
theorem dX4_make_58 : decode cX4_make 58 = .ok (.iconst 0, 1) := by decide +kernel
theorem dX4_make_59 : decode cX4_make 59 = .ok (.istore 4, 2) := by decide +kernel
theorem dX4_make_61 : decode cX4_make 61 = .ok (.iconst 0, 1) := by decide +kernel
theorem dX4_make_62 : decode cX4_make 62 = .ok (.istore 5, 2) := by decide +kernel
theorem dX4_make_64 : decode cX4_make 64 = .ok (.iload 5, 2) := by decide +kernel
theorem dX4_make_66 : decode cX4_make 66 = .ok (.aload_n 0, 1) := by decide +kernel
theorem dX4_make_67 : decode cX4_make 67 = .ok (.getfield 25, 3) := by decide +kernel
theorem dX4_make_70 : decode cX4_make 70 = .ok (.if_icmp .ge 58, 3) := by decide +kernel
theorem dX4_make_73 : decode cX4_make 73 = .ok (.aload_n 0, 1) := by decide +kernel
theorem dX4_make_74 : decode cX4_make 74 = .ok (.aload_n 1, 1) := by decide +kernel
theorem dX4_make_75 : decode cX4_make 75 = .ok (.iload 5, 2) := by decide +kernel
theorem dX4_make_77 : decode cX4_make 77 = .ok (.invokevirtual 37, 3) := by decide +kernel
theorem dX4_make_80 : decode cX4_make 80 = .ok (.istore 6, 2) := by decide +kernel
theorem dX4_make_82 : decode cX4_make 82 = .ok (.iload 6, 2) := by decide +kernel
theorem dX4_make_84 : decode cX4_make 84 = .ok (.ifCond .lt 13, 3) := by decide +kernel
theorem dX4_make_87 : decode cX4_make 87 = .ok (.iload 6, 2) := by decide +kernel
theorem dX4_make_89 : decode cX4_make 89 = .ok (.aload_n 1, 1) := by decide +kernel
theorem dX4_make_90 : decode cX4_make 90 = .ok (.getfield 41, 3) := by decide +kernel
theorem dX4_make_93 : decode cX4_make 93 = .ok (.arraylength, 1) := by decide +kernel
theorem dX4_make_94 : decode cX4_make 94 = .ok (.if_icmp .lt 5, 3) := by decide +kernel
theorem dX4_make_97 : decode cX4_make 97 = .ok (.iconst (-1), 1) := by decide +kernel
theorem dX4_make_98 : decode cX4_make 98 = .ok (.ireturn, 1) := by decide +kernel
theorem dX4_make_99 : decode cX4_make 99 = .ok (.aload_n 0, 1) := by decide +kernel
theorem dX4_make_100 : decode cX4_make 100 = .ok (.getfield 9, 3) := by decide +kernel
theorem dX4_make_103 : decode cX4_make 103 = .ok (.iload 5, 2) := by decide +kernel
theorem dX4_make_105 : decode cX4_make 105 = .ok (.iload 6, 2) := by decide +kernel
theorem dX4_make_107 : decode cX4_make 107 = .ok (.iastore, 1) := by decide +kernel
theorem dX4_make_108 : decode cX4_make 108 = .ok (.iload 4, 2) := by decide +kernel
theorem dX4_make_110 : decode cX4_make 110 = .ok (.iconst 2, 1) := by decide +kernel
theorem dX4_make_111 : decode cX4_make 111 = .ok (.aload_n 1, 1) := by decide +kernel
theorem dX4_make_112 : decode cX4_make 112 = .ok (.getfield 41, 3) := by decide +kernel
theorem dX4_make_115 : decode cX4_make 115 = .ok (.iload 6, 2) := by decide +kernel
theorem dX4_make_117 : decode cX4_make 117 = .ok (.iaload, 1) := by decide +kernel
theorem dX4_make_118 : decode cX4_make 118 = .ok (.imul, 1) := by decide +kernel
theorem dX4_make_119 : decode cX4_make 119 = .ok (.iadd, 1) := by decide +kernel
theorem dX4_make_120 : decode cX4_make 120 = .ok (.istore 4, 2) := by decide +kernel
theorem dX4_make_122 : decode cX4_make 122 = .ok (.iinc 5 1, 3) := by decide +kernel
theorem dX4_make_125 : decode cX4_make 125 = .ok (.goto (-61), 3) := by decide +kernel
theorem dX4_make_128 : decode cX4_make 128 = .ok (.iload 4, 2) := by decide +kernel
theorem dX4_make_130 : decode cX4_make 130 = .ok (.ireturn, 1) := by decide +kernel
theorem dX4_choose_0 : decode cX4_choose 0 = .ok (.iload_n 2, 1) := by decide +kernel
theorem dX4_choose_1 : decode cX4_choose 1 = .ok (.ifCond .lt 12, 3) := by decide +kernel
theorem dX4_choose_4 : decode cX4_choose 4 = .ok (.iload_n 2, 1) := by decide +kernel
theorem dX4_choose_5 : decode cX4_choose 5 = .ok (.aload_n 0, 1) := by decide +kernel
theorem dX4_choose_6 : decode cX4_choose 6 = .ok (.getfield 9, 3) := by decide +kernel
theorem dX4_choose_9 : decode cX4_choose 9 = .ok (.arraylength, 1) := by decide +kernel
theorem dX4_choose_10 : decode cX4_choose 10 = .ok (.if_icmp .lt 5, 3) := by decide +kernel
theorem dX4_choose_13 : decode cX4_choose 13 = .ok (.iconst (-1), 1) := by decide +kernel
theorem dX4_choose_14 : decode cX4_choose 14 = .ok (.ireturn, 1) := by decide +kernel
theorem dX4_choose_15 : decode cX4_choose 15 = .ok (.aload_n 0, 1) := by decide +kernel
theorem dX4_choose_16 : decode cX4_choose 16 = .ok (.aload_n 1, 1) := by decide +kernel
theorem dX4_choose_17 : decode cX4_choose 17 = .ok (.iload_n 2, 1) := by decide +kernel
theorem dX4_choose_18 : decode cX4_choose 18 = .ok (.invokevirtual 44, 3) := by decide +kernel
theorem dX4_choose_21 : decode cX4_choose 21 = .ok (.istore_n 3, 1) := by decide +kernel
theorem dX4_choose_22 : decode cX4_choose 22 = .ok (.iconst (-1), 1) := by decide +kernel
theorem dX4_choose_23 : decode cX4_choose 23 = .ok (.istore 4, 2) := by decide +kernel
theorem dX4_choose_25 : decode cX4_choose 25 = .ok (.ldc 47, 2) := by decide +kernel
theorem dX4_choose_27 : decode cX4_choose 27 = .ok (.istore 5, 2) := by decide +kernel
theorem dX4_choose_29 : decode cX4_choose 29 = .ok (.iconst 0, 1) := by decide +kernel
theorem dX4_choose_30 : decode cX4_choose 30 = .ok (.istore 6, 2) := by decide +kernel
theorem dX4_choose_32 : decode cX4_choose 32 = .ok (.iload 6, 2) := by decide +kernel
theorem dX4_choose_34 : decode cX4_choose 34 = .ok (.aload_n 1, 1) := by decide +kernel
theorem dX4_choose_35 : decode cX4_choose 35 = .ok (.getfield 48, 3) := by decide +kernel
theorem dX4_choose_38 : decode cX4_choose 38 = .ok (.if_icmp .ge 71, 3) := by decide +kernel
theorem dX4_choose_41 : decode cX4_choose 41 = .ok (.iload 6, 2) := by decide +kernel
theorem dX4_choose_43 : decode cX4_choose 43 = .ok (.bipush 8, 2) := by decide +kernel
theorem dX4_choose_45 : decode cX4_choose 45 = .ok (.if_icmp .ge 64, 3) := by decide +kernel
theorem dX4_choose_48 : decode cX4_choose 48 = .ok (.iload_n 3, 1) := by decide +kernel
theorem dX4_choose_49 : decode cX4_choose 49 = .ok (.iload 6, 2) := by decide +kernel
theorem dX4_choose_51 : decode cX4_choose 51 = .ok (.ishr, 1) := by decide +kernel
theorem dX4_choose_52 : decode cX4_choose 52 = .ok (.iconst 1, 1) := by decide +kernel
theorem dX4_choose_53 : decode cX4_choose 53 = .ok (.iand, 1) := by decide +kernel
theorem dX4_choose_54 : decode cX4_choose 54 = .ok (.ifCond .ne 6, 3) := by decide +kernel
theorem dX4_choose_57 : decode cX4_choose 57 = .ok (.goto 46, 3) := by decide +kernel
theorem dX4_choose_60 : decode cX4_choose 60 = .ok (.aload_n 0, 1) := by decide +kernel
theorem dX4_choose_61 : decode cX4_choose 61 = .ok (.getfield 9, 3) := by decide +kernel
theorem dX4_choose_64 : decode cX4_choose 64 = .ok (.iload_n 2, 1) := by decide +kernel
theorem dX4_choose_65 : decode cX4_choose 65 = .ok (.iload 6, 2) := by decide +kernel
theorem dX4_choose_67 : decode cX4_choose 67 = .ok (.iastore, 1) := by decide +kernel
theorem dX4_choose_68 : decode cX4_choose 68 = .ok (.iconst 2, 1) := by decide +kernel
theorem dX4_choose_69 : decode cX4_choose 69 = .ok (.aload_n 1, 1) := by decide +kernel
theorem dX4_choose_70 : decode cX4_choose 70 = .ok (.getfield 41, 3) := by decide +kernel
theorem dX4_choose_73 : decode cX4_choose 73 = .ok (.iload 6, 2) := by decide +kernel
theorem dX4_choose_75 : decode cX4_choose 75 = .ok (.iaload, 1) := by decide +kernel
theorem dX4_choose_76 : decode cX4_choose 76 = .ok (.imul, 1) := by decide +kernel
theorem dX4_choose_77 : decode cX4_choose 77 = .ok (.aload_n 0, 1) := by decide +kernel
theorem dX4_choose_78 : decode cX4_choose 78 = .ok (.aload_n 1, 1) := by decide +kernel
theorem dX4_choose_79 : decode cX4_choose 79 = .ok (.iload_n 2, 1) := by decide +kernel
theorem dX4_choose_80 : decode cX4_choose 80 = .ok (.iconst 1, 1) := by decide +kernel
theorem dX4_choose_81 : decode cX4_choose 81 = .ok (.iadd, 1) := by decide +kernel
theorem dX4_choose_82 : decode cX4_choose 82 = .ok (.invokevirtual 51, 3) := by decide +kernel
theorem dX4_choose_85 : decode cX4_choose 85 = .ok (.iadd, 1) := by decide +kernel
theorem dX4_choose_86 : decode cX4_choose 86 = .ok (.istore 7, 2) := by decide +kernel
theorem dX4_choose_88 : decode cX4_choose 88 = .ok (.iload 7, 2) := by decide +kernel
theorem dX4_choose_90 : decode cX4_choose 90 = .ok (.iload 5, 2) := by decide +kernel
theorem dX4_choose_92 : decode cX4_choose 92 = .ok (.if_icmp .ge 11, 3) := by decide +kernel
theorem dX4_choose_95 : decode cX4_choose 95 = .ok (.iload 7, 2) := by decide +kernel
theorem dX4_choose_97 : decode cX4_choose 97 = .ok (.istore 5, 2) := by decide +kernel
theorem dX4_choose_99 : decode cX4_choose 99 = .ok (.iload 6, 2) := by decide +kernel
theorem dX4_choose_101 : decode cX4_choose 101 = .ok (.istore 4, 2) := by decide +kernel
theorem dX4_choose_103 : decode cX4_choose 103 = .ok (.iinc 6 1, 3) := by decide +kernel
theorem dX4_choose_106 : decode cX4_choose 106 = .ok (.goto (-74), 3) := by decide +kernel
theorem dX4_choose_109 : decode cX4_choose 109 = .ok (.iload 4, 2) := by decide +kernel
theorem dX4_choose_111 : decode cX4_choose 111 = .ok (.ireturn, 1) := by decide +kernel
theorem dX4_freeOn_0 : decode cX4_freeOn 0 = .ok (.aload_n 1, 1) := by decide +kernel
theorem dX4_freeOn_1 : decode cX4_freeOn 1 = .ok (.invokevirtual 54, 3) := by decide +kernel
theorem dX4_freeOn_4 : decode cX4_freeOn 4 = .ok (.istore_n 3, 1) := by decide +kernel
theorem dX4_freeOn_5 : decode cX4_freeOn 5 = .ok (.iconst 0, 1) := by decide +kernel
theorem dX4_freeOn_6 : decode cX4_freeOn 6 = .ok (.iload_n 2, 1) := by decide +kernel
theorem dX4_freeOn_7 : decode cX4_freeOn 7 = .ok (.aload_n 1, 1) := by decide +kernel
theorem dX4_freeOn_8 : decode cX4_freeOn 8 = .ok (.getfield 58, 3) := by decide +kernel
theorem dX4_freeOn_11 : decode cX4_freeOn 11 = .ok (.isub, 1) := by decide +kernel
theorem dX4_freeOn_12 : decode cX4_freeOn 12 = .ok (.invokestatic 61, 3) := by decide +kernel
theorem dX4_freeOn_15 : decode cX4_freeOn 15 = .ok (.istore 4, 2) := by decide +kernel
theorem dX4_freeOn_17 : decode cX4_freeOn 17 = .ok (.iload 4, 2) := by decide +kernel
theorem dX4_freeOn_19 : decode cX4_freeOn 19 = .ok (.iload_n 2, 1) := by decide +kernel
theorem dX4_freeOn_20 : decode cX4_freeOn 20 = .ok (.if_icmp .ge 33, 3) := by decide +kernel
theorem dX4_freeOn_23 : decode cX4_freeOn 23 = .ok (.iload 4, 2) := by decide +kernel
theorem dX4_freeOn_25 : decode cX4_freeOn 25 = .ok (.aload_n 0, 1) := by decide +kernel
theorem dX4_freeOn_26 : decode cX4_freeOn 26 = .ok (.getfield 9, 3) := by decide +kernel
theorem dX4_freeOn_29 : decode cX4_freeOn 29 = .ok (.arraylength, 1) := by decide +kernel
theorem dX4_freeOn_30 : decode cX4_freeOn 30 = .ok (.if_icmp .ge 23, 3) := by decide +kernel
theorem dX4_freeOn_33 : decode cX4_freeOn 33 = .ok (.iload_n 3, 1) := by decide +kernel
theorem dX4_freeOn_34 : decode cX4_freeOn 34 = .ok (.iconst 1, 1) := by decide +kernel
theorem dX4_freeOn_35 : decode cX4_freeOn 35 = .ok (.aload_n 0, 1) := by decide +kernel
theorem dX4_freeOn_36 : decode cX4_freeOn 36 = .ok (.getfield 9, 3) := by decide +kernel
theorem dX4_freeOn_39 : decode cX4_freeOn 39 = .ok (.iload 4, 2) := by decide +kernel
theorem dX4_freeOn_41 : decode cX4_freeOn 41 = .ok (.iaload, 1) := by decide +kernel
theorem dX4_freeOn_42 : decode cX4_freeOn 42 = .ok (.ishl, 1) := by decide +kernel
theorem dX4_freeOn_43 : decode cX4_freeOn 43 = .ok (.iconst (-1), 1) := by decide +kernel
theorem dX4_freeOn_44 : decode cX4_freeOn 44 = .ok (.ixor, 1) := by decide +kernel
theorem dX4_freeOn_45 : decode cX4_freeOn 45 = .ok (.iand, 1) := by decide +kernel
theorem dX4_freeOn_46 : decode cX4_freeOn 46 = .ok (.istore_n 3, 1) := by decide +kernel
theorem dX4_freeOn_47 : decode cX4_freeOn 47 = .ok (.iinc 4 1, 3) := by decide +kernel
theorem dX4_freeOn_50 : decode cX4_freeOn 50 = .ok (.goto (-33), 3) := by decide +kernel
theorem dX4_freeOn_53 : decode cX4_freeOn 53 = .ok (.aload_n 1, 1) := by decide +kernel
theorem dX4_freeOn_54 : decode cX4_freeOn 54 = .ok (.aload_n 0, 1) := by decide +kernel
theorem dX4_freeOn_55 : decode cX4_freeOn 55 = .ok (.getfield 15, 3) := by decide +kernel
theorem dX4_freeOn_58 : decode cX4_freeOn 58 = .ok (.iload_n 2, 1) := by decide +kernel
theorem dX4_freeOn_59 : decode cX4_freeOn 59 = .ok (.iadd, 1) := by decide +kernel
theorem dX4_freeOn_60 : decode cX4_freeOn 60 = .ok (.invokevirtual 31, 3) := by decide +kernel
theorem dX4_freeOn_63 : decode cX4_freeOn 63 = .ok (.istore 4, 2) := by decide +kernel
theorem dX4_freeOn_65 : decode cX4_freeOn 65 = .ok (.iconst 0, 1) := by decide +kernel
theorem dX4_freeOn_66 : decode cX4_freeOn 66 = .ok (.istore 5, 2) := by decide +kernel
theorem dX4_freeOn_68 : decode cX4_freeOn 68 = .ok (.iload 5, 2) := by decide +kernel
theorem dX4_freeOn_70 : decode cX4_freeOn 70 = .ok (.aload_n 1, 1) := by decide +kernel
theorem dX4_freeOn_71 : decode cX4_freeOn 71 = .ok (.getfield 48, 3) := by decide +kernel
theorem dX4_freeOn_74 : decode cX4_freeOn 74 = .ok (.if_icmp .ge 40, 3) := by decide +kernel
theorem dX4_freeOn_77 : decode cX4_freeOn 77 = .ok (.iload 5, 2) := by decide +kernel
theorem dX4_freeOn_79 : decode cX4_freeOn 79 = .ok (.bipush 8, 2) := by decide +kernel
theorem dX4_freeOn_81 : decode cX4_freeOn 81 = .ok (.if_icmp .ge 33, 3) := by decide +kernel
theorem dX4_freeOn_84 : decode cX4_freeOn 84 = .ok (.iload 4, 2) := by decide +kernel
theorem dX4_freeOn_86 : decode cX4_freeOn 86 = .ok (.ifCond .eq 22, 3) := by decide +kernel
theorem dX4_freeOn_89 : decode cX4_freeOn 89 = .ok (.aload_n 1, 1) := by decide +kernel
theorem dX4_freeOn_90 : decode cX4_freeOn 90 = .ok (.getfield 41, 3) := by decide +kernel
theorem dX4_freeOn_93 : decode cX4_freeOn 93 = .ok (.iload 5, 2) := by decide +kernel
theorem dX4_freeOn_95 : decode cX4_freeOn 95 = .ok (.iaload, 1) := by decide +kernel
theorem dX4_freeOn_96 : decode cX4_freeOn 96 = .ok (.ifCond .le 12, 3) := by decide +kernel
theorem dX4_freeOn_99 : decode cX4_freeOn 99 = .ok (.iload_n 3, 1) := by decide +kernel
theorem dX4_freeOn_100 : decode cX4_freeOn 100 = .ok (.iconst 1, 1) := by decide +kernel
theorem dX4_freeOn_101 : decode cX4_freeOn 101 = .ok (.iload 5, 2) := by decide +kernel
theorem dX4_freeOn_103 : decode cX4_freeOn 103 = .ok (.ishl, 1) := by decide +kernel
theorem dX4_freeOn_104 : decode cX4_freeOn 104 = .ok (.iconst (-1), 1) := by decide +kernel
theorem dX4_freeOn_105 : decode cX4_freeOn 105 = .ok (.ixor, 1) := by decide +kernel
theorem dX4_freeOn_106 : decode cX4_freeOn 106 = .ok (.iand, 1) := by decide +kernel
theorem dX4_freeOn_107 : decode cX4_freeOn 107 = .ok (.istore_n 3, 1) := by decide +kernel
theorem dX4_freeOn_108 : decode cX4_freeOn 108 = .ok (.iinc 5 1, 3) := by decide +kernel
theorem dX4_freeOn_111 : decode cX4_freeOn 111 = .ok (.goto (-43), 3) := by decide +kernel
theorem dX4_freeOn_114 : decode cX4_freeOn 114 = .ok (.iload_n 3, 1) := by decide +kernel
theorem dX4_freeOn_115 : decode cX4_freeOn 115 = .ok (.ireturn, 1) := by decide +kernel
theorem dX4_leastFrom_0 : decode cX4_leastFrom 0 = .ok (.iload_n 2, 1) := by decide +kernel
theorem dX4_leastFrom_1 : decode cX4_leastFrom 1 = .ok (.ifCond .lt 20, 3) := by decide +kernel
theorem dX4_leastFrom_4 : decode cX4_leastFrom 4 = .ok (.iload_n 2, 1) := by decide +kernel
theorem dX4_leastFrom_5 : decode cX4_leastFrom 5 = .ok (.aload_n 0, 1) := by decide +kernel
theorem dX4_leastFrom_6 : decode cX4_leastFrom 6 = .ok (.getfield 25, 3) := by decide +kernel
theorem dX4_leastFrom_9 : decode cX4_leastFrom 9 = .ok (.if_icmp .ge 12, 3) := by decide +kernel
theorem dX4_leastFrom_12 : decode cX4_leastFrom 12 = .ok (.iload_n 2, 1) := by decide +kernel
theorem dX4_leastFrom_13 : decode cX4_leastFrom 13 = .ok (.aload_n 0, 1) := by decide +kernel
theorem dX4_leastFrom_14 : decode cX4_leastFrom 14 = .ok (.getfield 9, 3) := by decide +kernel
theorem dX4_leastFrom_17 : decode cX4_leastFrom 17 = .ok (.arraylength, 1) := by decide +kernel
theorem dX4_leastFrom_18 : decode cX4_leastFrom 18 = .ok (.if_icmp .lt 5, 3) := by decide +kernel
theorem dX4_leastFrom_21 : decode cX4_leastFrom 21 = .ok (.iconst 0, 1) := by decide +kernel
theorem dX4_leastFrom_22 : decode cX4_leastFrom 22 = .ok (.ireturn, 1) := by decide +kernel
theorem dX4_leastFrom_23 : decode cX4_leastFrom 23 = .ok (.aload_n 0, 1) := by decide +kernel
theorem dX4_leastFrom_24 : decode cX4_leastFrom 24 = .ok (.aload_n 1, 1) := by decide +kernel
theorem dX4_leastFrom_25 : decode cX4_leastFrom 25 = .ok (.iload_n 2, 1) := by decide +kernel
theorem dX4_leastFrom_26 : decode cX4_leastFrom 26 = .ok (.invokevirtual 44, 3) := by decide +kernel
theorem dX4_leastFrom_29 : decode cX4_leastFrom 29 = .ok (.istore_n 3, 1) := by decide +kernel
theorem dX4_leastFrom_30 : decode cX4_leastFrom 30 = .ok (.aload_n 1, 1) := by decide +kernel
theorem dX4_leastFrom_31 : decode cX4_leastFrom 31 = .ok (.iload_n 3, 1) := by decide +kernel
theorem dX4_leastFrom_32 : decode cX4_leastFrom 32 = .ok (.iconst 0, 1) := by decide +kernel
theorem dX4_leastFrom_33 : decode cX4_leastFrom 33 = .ok (.invokestatic 64, 3) := by decide +kernel
theorem dX4_leastFrom_36 : decode cX4_leastFrom 36 = .ok (.istore 4, 2) := by decide +kernel
theorem dX4_leastFrom_38 : decode cX4_leastFrom 38 = .ok (.aload_n 0, 1) := by decide +kernel
theorem dX4_leastFrom_39 : decode cX4_leastFrom 39 = .ok (.aload_n 1, 1) := by decide +kernel
theorem dX4_leastFrom_40 : decode cX4_leastFrom 40 = .ok (.iload_n 2, 1) := by decide +kernel
theorem dX4_leastFrom_41 : decode cX4_leastFrom 41 = .ok (.iload 4, 2) := by decide +kernel
theorem dX4_leastFrom_43 : decode cX4_leastFrom 43 = .ok (.invokevirtual 68, 3) := by decide +kernel
theorem dX4_leastFrom_46 : decode cX4_leastFrom 46 = .ok (.istore 5, 2) := by decide +kernel
theorem dX4_leastFrom_48 : decode cX4_leastFrom 48 = .ok (.iload 4, 2) := by decide +kernel
theorem dX4_leastFrom_50 : decode cX4_leastFrom 50 = .ok (.iconst (-1), 1) := by decide +kernel
theorem dX4_leastFrom_51 : decode cX4_leastFrom 51 = .ok (.if_icmp .eq 21, 3) := by decide +kernel
theorem dX4_leastFrom_54 : decode cX4_leastFrom 54 = .ok (.aload_n 1, 1) := by decide +kernel
theorem dX4_leastFrom_55 : decode cX4_leastFrom 55 = .ok (.getfield 41, 3) := by decide +kernel
theorem dX4_leastFrom_58 : decode cX4_leastFrom 58 = .ok (.iload 4, 2) := by decide +kernel
theorem dX4_leastFrom_60 : decode cX4_leastFrom 60 = .ok (.iaload, 1) := by decide +kernel
theorem dX4_leastFrom_61 : decode cX4_leastFrom 61 = .ok (.ifCond .gt 11, 3) := by decide +kernel
theorem dX4_leastFrom_64 : decode cX4_leastFrom 64 = .ok (.iload_n 2, 1) := by decide +kernel
theorem dX4_leastFrom_65 : decode cX4_leastFrom 65 = .ok (.aload_n 0, 1) := by decide +kernel
theorem dX4_leastFrom_66 : decode cX4_leastFrom 66 = .ok (.getfield 28, 3) := by decide +kernel
theorem dX4_leastFrom_69 : decode cX4_leastFrom 69 = .ok (.if_icmp .lt 6, 3) := by decide +kernel
theorem dX4_leastFrom_72 : decode cX4_leastFrom 72 = .ok (.iload 5, 2) := by decide +kernel
theorem dX4_leastFrom_74 : decode cX4_leastFrom 74 = .ok (.ireturn, 1) := by decide +kernel
theorem dX4_leastFrom_75 : decode cX4_leastFrom 75 = .ok (.aload_n 1, 1) := by decide +kernel
theorem dX4_leastFrom_76 : decode cX4_leastFrom 76 = .ok (.iload_n 3, 1) := by decide +kernel
theorem dX4_leastFrom_77 : decode cX4_leastFrom 77 = .ok (.iconst 1, 1) := by decide +kernel
theorem dX4_leastFrom_78 : decode cX4_leastFrom 78 = .ok (.invokestatic 64, 3) := by decide +kernel
theorem dX4_leastFrom_81 : decode cX4_leastFrom 81 = .ok (.istore 6, 2) := by decide +kernel
theorem dX4_leastFrom_83 : decode cX4_leastFrom 83 = .ok (.iload 6, 2) := by decide +kernel
theorem dX4_leastFrom_85 : decode cX4_leastFrom 85 = .ok (.iconst (-1), 1) := by decide +kernel
theorem dX4_leastFrom_86 : decode cX4_leastFrom 86 = .ok (.if_icmp .eq 17, 3) := by decide +kernel
theorem dX4_leastFrom_89 : decode cX4_leastFrom 89 = .ok (.iconst 2, 1) := by decide +kernel
theorem dX4_leastFrom_90 : decode cX4_leastFrom 90 = .ok (.aload_n 1, 1) := by decide +kernel
theorem dX4_leastFrom_91 : decode cX4_leastFrom 91 = .ok (.getfield 41, 3) := by decide +kernel
theorem dX4_leastFrom_94 : decode cX4_leastFrom 94 = .ok (.iload 6, 2) := by decide +kernel
theorem dX4_leastFrom_96 : decode cX4_leastFrom 96 = .ok (.iaload, 1) := by decide +kernel
theorem dX4_leastFrom_97 : decode cX4_leastFrom 97 = .ok (.imul, 1) := by decide +kernel
theorem dX4_leastFrom_98 : decode cX4_leastFrom 98 = .ok (.iload 5, 2) := by decide +kernel
theorem dX4_leastFrom_100 : decode cX4_leastFrom 100 = .ok (.if_icmp .lt 6, 3) := by decide +kernel
theorem dX4_leastFrom_103 : decode cX4_leastFrom 103 = .ok (.iload 5, 2) := by decide +kernel
theorem dX4_leastFrom_105 : decode cX4_leastFrom 105 = .ok (.ireturn, 1) := by decide +kernel
theorem dX4_leastFrom_106 : decode cX4_leastFrom 106 = .ok (.iload 5, 2) := by decide +kernel
theorem dX4_leastFrom_108 : decode cX4_leastFrom 108 = .ok (.aload_n 0, 1) := by decide +kernel
theorem dX4_leastFrom_109 : decode cX4_leastFrom 109 = .ok (.aload_n 1, 1) := by decide +kernel
theorem dX4_leastFrom_110 : decode cX4_leastFrom 110 = .ok (.iload_n 2, 1) := by decide +kernel
theorem dX4_leastFrom_111 : decode cX4_leastFrom 111 = .ok (.iload 6, 2) := by decide +kernel
theorem dX4_leastFrom_113 : decode cX4_leastFrom 113 = .ok (.invokevirtual 68, 3) := by decide +kernel
theorem dX4_leastFrom_116 : decode cX4_leastFrom 116 = .ok (.invokestatic 19, 3) := by decide +kernel
theorem dX4_leastFrom_119 : decode cX4_leastFrom 119 = .ok (.ireturn, 1) := by decide +kernel
theorem dX4_leastWith_0 : decode cX4_leastWith 0 = .ok (.iload_n 3, 1) := by decide +kernel
theorem dX4_leastWith_1 : decode cX4_leastWith 1 = .ok (.ifCond .lt 25, 3) := by decide +kernel
theorem dX4_leastWith_4 : decode cX4_leastWith 4 = .ok (.iload_n 3, 1) := by decide +kernel
theorem dX4_leastWith_5 : decode cX4_leastWith 5 = .ok (.aload_n 1, 1) := by decide +kernel
theorem dX4_leastWith_6 : decode cX4_leastWith 6 = .ok (.getfield 41, 3) := by decide +kernel
theorem dX4_leastWith_9 : decode cX4_leastWith 9 = .ok (.arraylength, 1) := by decide +kernel
theorem dX4_leastWith_10 : decode cX4_leastWith 10 = .ok (.if_icmp .ge 16, 3) := by decide +kernel
theorem dX4_leastWith_13 : decode cX4_leastWith 13 = .ok (.iload_n 2, 1) := by decide +kernel
theorem dX4_leastWith_14 : decode cX4_leastWith 14 = .ok (.ifCond .lt 12, 3) := by decide +kernel
theorem dX4_leastWith_17 : decode cX4_leastWith 17 = .ok (.iload_n 2, 1) := by decide +kernel
theorem dX4_leastWith_18 : decode cX4_leastWith 18 = .ok (.aload_n 0, 1) := by decide +kernel
theorem dX4_leastWith_19 : decode cX4_leastWith 19 = .ok (.getfield 9, 3) := by decide +kernel
theorem dX4_leastWith_22 : decode cX4_leastWith 22 = .ok (.arraylength, 1) := by decide +kernel
theorem dX4_leastWith_23 : decode cX4_leastWith 23 = .ok (.if_icmp .lt 6, 3) := by decide +kernel
theorem dX4_leastWith_26 : decode cX4_leastWith 26 = .ok (.ldc 47, 2) := by decide +kernel
theorem dX4_leastWith_28 : decode cX4_leastWith 28 = .ok (.ireturn, 1) := by decide +kernel
theorem dX4_leastWith_29 : decode cX4_leastWith 29 = .ok (.aload_n 0, 1) := by decide +kernel
theorem dX4_leastWith_30 : decode cX4_leastWith 30 = .ok (.getfield 9, 3) := by decide +kernel
theorem dX4_leastWith_33 : decode cX4_leastWith 33 = .ok (.iload_n 2, 1) := by decide +kernel
theorem dX4_leastWith_34 : decode cX4_leastWith 34 = .ok (.iload_n 3, 1) := by decide +kernel
theorem dX4_leastWith_35 : decode cX4_leastWith 35 = .ok (.iastore, 1) := by decide +kernel
theorem dX4_leastWith_36 : decode cX4_leastWith 36 = .ok (.ldc 47, 2) := by decide +kernel
theorem dX4_leastWith_38 : decode cX4_leastWith 38 = .ok (.iconst 2, 1) := by decide +kernel
theorem dX4_leastWith_39 : decode cX4_leastWith 39 = .ok (.aload_n 1, 1) := by decide +kernel
theorem dX4_leastWith_40 : decode cX4_leastWith 40 = .ok (.getfield 41, 3) := by decide +kernel
theorem dX4_leastWith_43 : decode cX4_leastWith 43 = .ok (.iload_n 3, 1) := by decide +kernel
theorem dX4_leastWith_44 : decode cX4_leastWith 44 = .ok (.iaload, 1) := by decide +kernel
theorem dX4_leastWith_45 : decode cX4_leastWith 45 = .ok (.imul, 1) := by decide +kernel
theorem dX4_leastWith_46 : decode cX4_leastWith 46 = .ok (.aload_n 0, 1) := by decide +kernel
theorem dX4_leastWith_47 : decode cX4_leastWith 47 = .ok (.aload_n 1, 1) := by decide +kernel
theorem dX4_leastWith_48 : decode cX4_leastWith 48 = .ok (.iload_n 2, 1) := by decide +kernel
theorem dX4_leastWith_49 : decode cX4_leastWith 49 = .ok (.iconst 1, 1) := by decide +kernel
theorem dX4_leastWith_50 : decode cX4_leastWith 50 = .ok (.iadd, 1) := by decide +kernel
theorem dX4_leastWith_51 : decode cX4_leastWith 51 = .ok (.invokevirtual 51, 3) := by decide +kernel
theorem dX4_leastWith_54 : decode cX4_leastWith 54 = .ok (.iadd, 1) := by decide +kernel
theorem dX4_leastWith_55 : decode cX4_leastWith 55 = .ok (.invokestatic 19, 3) := by decide +kernel
theorem dX4_leastWith_58 : decode cX4_leastWith 58 = .ok (.ireturn, 1) := by decide +kernel
theorem dX4_nearestOf_0 : decode cX4_nearestOf 0 = .ok (.iconst (-1), 1) := by decide +kernel
theorem dX4_nearestOf_1 : decode cX4_nearestOf 1 = .ok (.istore_n 3, 1) := by decide +kernel
theorem dX4_nearestOf_2 : decode cX4_nearestOf 2 = .ok (.iconst 0, 1) := by decide +kernel
theorem dX4_nearestOf_3 : decode cX4_nearestOf 3 = .ok (.istore 4, 2) := by decide +kernel
theorem dX4_nearestOf_5 : decode cX4_nearestOf 5 = .ok (.iload 4, 2) := by decide +kernel
theorem dX4_nearestOf_7 : decode cX4_nearestOf 7 = .ok (.aload_n 0, 1) := by decide +kernel
theorem dX4_nearestOf_8 : decode cX4_nearestOf 8 = .ok (.getfield 48, 3) := by decide +kernel
theorem dX4_nearestOf_11 : decode cX4_nearestOf 11 = .ok (.if_icmp .ge 63, 3) := by decide +kernel
theorem dX4_nearestOf_14 : decode cX4_nearestOf 14 = .ok (.iload 4, 2) := by decide +kernel
theorem dX4_nearestOf_16 : decode cX4_nearestOf 16 = .ok (.bipush 8, 2) := by decide +kernel
theorem dX4_nearestOf_18 : decode cX4_nearestOf 18 = .ok (.if_icmp .ge 56, 3) := by decide +kernel
theorem dX4_nearestOf_21 : decode cX4_nearestOf 21 = .ok (.iload_n 1, 1) := by decide +kernel
theorem dX4_nearestOf_22 : decode cX4_nearestOf 22 = .ok (.iload 4, 2) := by decide +kernel
theorem dX4_nearestOf_24 : decode cX4_nearestOf 24 = .ok (.ishr, 1) := by decide +kernel
theorem dX4_nearestOf_25 : decode cX4_nearestOf 25 = .ok (.iconst 1, 1) := by decide +kernel
theorem dX4_nearestOf_26 : decode cX4_nearestOf 26 = .ok (.iand, 1) := by decide +kernel
theorem dX4_nearestOf_27 : decode cX4_nearestOf 27 = .ok (.ifCond .eq 41, 3) := by decide +kernel
theorem dX4_nearestOf_30 : decode cX4_nearestOf 30 = .ok (.aload_n 0, 1) := by decide +kernel
theorem dX4_nearestOf_31 : decode cX4_nearestOf 31 = .ok (.getfield 41, 3) := by decide +kernel
theorem dX4_nearestOf_34 : decode cX4_nearestOf 34 = .ok (.iload 4, 2) := by decide +kernel
theorem dX4_nearestOf_36 : decode cX4_nearestOf 36 = .ok (.iaload, 1) := by decide +kernel
theorem dX4_nearestOf_37 : decode cX4_nearestOf 37 = .ok (.iload_n 2, 1) := by decide +kernel
theorem dX4_nearestOf_38 : decode cX4_nearestOf 38 = .ok (.if_icmp .ge 6, 3) := by decide +kernel
theorem dX4_nearestOf_41 : decode cX4_nearestOf 41 = .ok (.goto 27, 3) := by decide +kernel
theorem dX4_nearestOf_44 : decode cX4_nearestOf 44 = .ok (.iload_n 3, 1) := by decide +kernel
theorem dX4_nearestOf_45 : decode cX4_nearestOf 45 = .ok (.iconst (-1), 1) := by decide +kernel
theorem dX4_nearestOf_46 : decode cX4_nearestOf 46 = .ok (.if_icmp .eq 19, 3) := by decide +kernel
theorem dX4_nearestOf_49 : decode cX4_nearestOf 49 = .ok (.aload_n 0, 1) := by decide +kernel
theorem dX4_nearestOf_50 : decode cX4_nearestOf 50 = .ok (.getfield 41, 3) := by decide +kernel
theorem dX4_nearestOf_53 : decode cX4_nearestOf 53 = .ok (.iload 4, 2) := by decide +kernel
theorem dX4_nearestOf_55 : decode cX4_nearestOf 55 = .ok (.iaload, 1) := by decide +kernel
theorem dX4_nearestOf_56 : decode cX4_nearestOf 56 = .ok (.aload_n 0, 1) := by decide +kernel
theorem dX4_nearestOf_57 : decode cX4_nearestOf 57 = .ok (.getfield 41, 3) := by decide +kernel
theorem dX4_nearestOf_60 : decode cX4_nearestOf 60 = .ok (.iload_n 3, 1) := by decide +kernel
theorem dX4_nearestOf_61 : decode cX4_nearestOf 61 = .ok (.iaload, 1) := by decide +kernel
theorem dX4_nearestOf_62 : decode cX4_nearestOf 62 = .ok (.if_icmp .ge 6, 3) := by decide +kernel
theorem dX4_nearestOf_65 : decode cX4_nearestOf 65 = .ok (.iload 4, 2) := by decide +kernel
theorem dX4_nearestOf_67 : decode cX4_nearestOf 67 = .ok (.istore_n 3, 1) := by decide +kernel
theorem dX4_nearestOf_68 : decode cX4_nearestOf 68 = .ok (.iinc 4 1, 3) := by decide +kernel
theorem dX4_nearestOf_71 : decode cX4_nearestOf 71 = .ok (.goto (-66), 3) := by decide +kernel
theorem dX4_nearestOf_74 : decode cX4_nearestOf 74 = .ok (.iload_n 3, 1) := by decide +kernel
theorem dX4_nearestOf_75 : decode cX4_nearestOf 75 = .ok (.ireturn, 1) := by decide +kernel
theorem dX5_init_0 : decode cX5_init 0 = .ok (.aload_n 0, 1) := by decide +kernel
theorem dX5_init_1 : decode cX5_init 1 = .ok (.invokespecial 3, 3) := by decide +kernel
theorem dX5_init_4 : decode cX5_init 4 = .ok (.aload_n 0, 1) := by decide +kernel
theorem dX5_init_5 : decode cX5_init 5 = .ok (.iconst 0, 1) := by decide +kernel
theorem dX5_init_6 : decode cX5_init 6 = .ok (.newarray .char, 2) := by decide +kernel
theorem dX5_init_8 : decode cX5_init 8 = .ok (.putfield 9, 3) := by decide +kernel
theorem dX5_init_11 : decode cX5_init 11 = .ok (.return_, 1) := by decide +kernel
theorem dX5_read_0 : decode cX5_read 0 = .ok (.aload_n 0, 1) := by decide +kernel
theorem dX5_read_1 : decode cX5_read 1 = .ok (.aload_n 1, 1) := by decide +kernel
theorem dX5_read_2 : decode cX5_read 2 = .ok (.putfield 9, 3) := by decide +kernel
theorem dX5_read_5 : decode cX5_read 5 = .ok (.aload_n 0, 1) := by decide +kernel
theorem dX5_read_6 : decode cX5_read 6 = .ok (.iload_n 2, 1) := by decide +kernel
theorem dX5_read_7 : decode cX5_read 7 = .ok (.aload_n 1, 1) := by decide +kernel
theorem dX5_read_8 : decode cX5_read 8 = .ok (.arraylength, 1) := by decide +kernel
theorem dX5_read_9 : decode cX5_read 9 = .ok (.invokestatic 15, 3) := by decide +kernel
theorem dX5_read_12 : decode cX5_read 12 = .ok (.putfield 21, 3) := by decide +kernel
theorem dX5_read_15 : decode cX5_read 15 = .ok (.aload_n 0, 1) := by decide +kernel
theorem dX5_read_16 : decode cX5_read 16 = .ok (.iconst 0, 1) := by decide +kernel
theorem dX5_read_17 : decode cX5_read 17 = .ok (.putfield 25, 3) := by decide +kernel
theorem dX5_read_20 : decode cX5_read 20 = .ok (.aload_n 0, 1) := by decide +kernel
theorem dX5_read_21 : decode cX5_read 21 = .ok (.iconst 0, 1) := by decide +kernel
theorem dX5_read_22 : decode cX5_read 22 = .ok (.putfield 28, 3) := by decide +kernel
theorem dX5_read_25 : decode cX5_read 25 = .ok (.aload_n 3, 1) := by decide +kernel
theorem dX5_read_26 : decode cX5_read 26 = .ok (.invokevirtual 31, 3) := by decide +kernel
theorem dX5_read_29 : decode cX5_read 29 = .ok (.aload_n 0, 1) := by decide +kernel
theorem dX5_read_30 : decode cX5_read 30 = .ok (.invokevirtual 36, 3) := by decide +kernel
theorem dX5_read_33 : decode cX5_read 33 = .ok (.iconst 0, 1) := by decide +kernel
theorem dX5_read_34 : decode cX5_read 34 = .ok (.istore 4, 2) := by decide +kernel
theorem dX5_read_36 : decode cX5_read 36 = .ok (.iload 4, 2) := by decide +kernel
theorem dX5_read_38 : decode cX5_read 38 = .ok (.sipush 240, 3) := by decide +kernel
theorem dX5_read_41 : decode cX5_read 41 = .ok (.if_icmp .gt 36, 3) := by decide +kernel
theorem dX5_read_44 : decode cX5_read 44 = .ok (.aload_n 0, 1) := by decide +kernel
theorem dX5_read_45 : decode cX5_read 45 = .ok (.getfield 28, 3) := by decide +kernel
theorem dX5_read_48 : decode cX5_read 48 = .ok (.ifCond .ne 29, 3) := by decide +kernel
theorem dX5_read_51 : decode cX5_read 51 = .ok (.aload_n 0, 1) := by decide +kernel
theorem dX5_read_52 : decode cX5_read 52 = .ok (.getfield 25, 3) := by decide +kernel
theorem dX5_read_55 : decode cX5_read 55 = .ok (.aload_n 0, 1) := by decide +kernel
theorem dX5_read_56 : decode cX5_read 56 = .ok (.getfield 21, 3) := by decide +kernel
theorem dX5_read_59 : decode cX5_read 59 = .ok (.if_icmp .ge 18, 3) := by decide +kernel
theorem dX5_read_62 : decode cX5_read 62 = .ok (.aload_n 0, 1) := by decide +kernel
theorem dX5_read_63 : decode cX5_read 63 = .ok (.aload_n 3, 1) := by decide +kernel
theorem dX5_read_64 : decode cX5_read 64 = .ok (.invokevirtual 39, 3) := by decide +kernel
theorem dX5_read_67 : decode cX5_read 67 = .ok (.aload_n 0, 1) := by decide +kernel
theorem dX5_read_68 : decode cX5_read 68 = .ok (.invokevirtual 36, 3) := by decide +kernel
theorem dX5_read_71 : decode cX5_read 71 = .ok (.iinc 4 1, 3) := by decide +kernel
theorem dX5_read_74 : decode cX5_read 74 = .ok (.goto (-38), 3) := by decide +kernel
theorem dX5_read_77 : decode cX5_read 77 = .ok (.aload_n 0, 1) := by decide +kernel
theorem dX5_read_78 : decode cX5_read 78 = .ok (.getfield 28, 3) := by decide +kernel
theorem dX5_read_81 : decode cX5_read 81 = .ok (.ireturn, 1) := by decide +kernel
theorem dX5_readClause_0 : decode cX5_readClause 0 = .ok (.aload_n 0, 1) := by decide +kernel
theorem dX5_readClause_1 : decode cX5_readClause 1 = .ok (.invokevirtual 43, 3) := by decide +kernel
theorem dX5_readClause_4 : decode cX5_readClause 4 = .ok (.istore_n 2, 1) := by decide +kernel
theorem dX5_readClause_5 : decode cX5_readClause 5 = .ok (.iload_n 2, 1) := by decide +kernel
theorem dX5_readClause_6 : decode cX5_readClause 6 = .ok (.invokestatic 47, 3) := by decide +kernel
theorem dX5_readClause_9 : decode cX5_readClause 9 = .ok (.ifCond .eq 16, 3) := by decide +kernel
theorem dX5_readClause_12 : decode cX5_readClause 12 = .ok (.aload_n 1, 1) := by decide +kernel
theorem dX5_readClause_13 : decode cX5_readClause 13 = .ok (.getfield 51, 3) := by decide +kernel
theorem dX5_readClause_16 : decode cX5_readClause 16 = .ok (.ifCond .ne 21, 3) := by decide +kernel
theorem dX5_readClause_19 : decode cX5_readClause 19 = .ok (.iload_n 2, 1) := by decide +kernel
theorem dX5_readClause_20 : decode cX5_readClause 20 = .ok (.bipush 104, 2) := by decide +kernel
theorem dX5_readClause_22 : decode cX5_readClause 22 = .ok (.if_icmp .eq 15, 3) := by decide +kernel
theorem dX5_readClause_25 : decode cX5_readClause 25 = .ok (.aload_n 0, 1) := by decide +kernel
theorem dX5_readClause_26 : decode cX5_readClause 26 = .ok (.iconst 1, 1) := by decide +kernel
theorem dX5_readClause_27 : decode cX5_readClause 27 = .ok (.aload_n 0, 1) := by decide +kernel
theorem dX5_readClause_28 : decode cX5_readClause 28 = .ok (.getfield 25, 3) := by decide +kernel
theorem dX5_readClause_31 : decode cX5_readClause 31 = .ok (.invokevirtual 55, 3) := by decide +kernel
theorem dX5_readClause_34 : decode cX5_readClause 34 = .ok (.goto 108, 3) := by decide +kernel
theorem dX5_readClause_37 : decode cX5_readClause 37 = .ok (.aload_n 1, 1) := by decide +kernel
theorem dX5_readClause_38 : decode cX5_readClause 38 = .ok (.iload_n 2, 1) := by decide +kernel
theorem dX5_readClause_39 : decode cX5_readClause 39 = .ok (.invokestatic 59, 3) := by decide +kernel
theorem dX5_readClause_42 : decode cX5_readClause 42 = .ok (.ifCond .eq 15, 3) := by decide +kernel
theorem dX5_readClause_45 : decode cX5_readClause 45 = .ok (.aload_n 0, 1) := by decide +kernel
theorem dX5_readClause_46 : decode cX5_readClause 46 = .ok (.iconst 3, 1) := by decide +kernel
theorem dX5_readClause_47 : decode cX5_readClause 47 = .ok (.aload_n 0, 1) := by decide +kernel
theorem dX5_readClause_48 : decode cX5_readClause 48 = .ok (.getfield 25, 3) := by decide +kernel
theorem dX5_readClause_51 : decode cX5_readClause 51 = .ok (.invokevirtual 55, 3) := by decide +kernel
theorem dX5_readClause_54 : decode cX5_readClause 54 = .ok (.goto 88, 3) := by decide +kernel
theorem dX5_readClause_57 : decode cX5_readClause 57 = .ok (.aload_n 0, 1) := by decide +kernel
theorem dX5_readClause_58 : decode cX5_readClause 58 = .ok (.dup, 1) := by decide +kernel
theorem dX5_readClause_59 : decode cX5_readClause 59 = .ok (.getfield 25, 3) := by decide +kernel
theorem dX5_readClause_62 : decode cX5_readClause 62 = .ok (.iconst 1, 1) := by decide +kernel
theorem dX5_readClause_63 : decode cX5_readClause 63 = .ok (.iadd, 1) := by decide +kernel
theorem dX5_readClause_64 : decode cX5_readClause 64 = .ok (.putfield 25, 3) := by decide +kernel
theorem dX5_readClause_67 : decode cX5_readClause 67 = .ok (.iload_n 2, 1) := by decide +kernel
theorem dX5_readClause_68 : decode cX5_readClause 68 = .ok (.bipush 104, 2) := by decide +kernel
theorem dX5_readClause_70 : decode cX5_readClause 70 = .ok (.if_icmp .ne 11, 3) := by decide +kernel
theorem dX5_readClause_73 : decode cX5_readClause 73 = .ok (.aload_n 0, 1) := by decide +kernel
theorem dX5_readClause_74 : decode cX5_readClause 74 = .ok (.aload_n 1, 1) := by decide +kernel
theorem dX5_readClause_75 : decode cX5_readClause 75 = .ok (.invokevirtual 63, 3) := by decide +kernel
theorem dX5_readClause_78 : decode cX5_readClause 78 = .ok (.goto 60, 3) := by decide +kernel
theorem dX5_readClause_81 : decode cX5_readClause 81 = .ok (.iload_n 2, 1) := by decide +kernel
theorem dX5_readClause_82 : decode cX5_readClause 82 = .ok (.bipush 118, 2) := by decide +kernel
theorem dX5_readClause_84 : decode cX5_readClause 84 = .ok (.if_icmp .ne 11, 3) := by decide +kernel
theorem dX5_readClause_87 : decode cX5_readClause 87 = .ok (.aload_n 0, 1) := by decide +kernel
theorem dX5_readClause_88 : decode cX5_readClause 88 = .ok (.aload_n 1, 1) := by decide +kernel
theorem dX5_readClause_89 : decode cX5_readClause 89 = .ok (.invokevirtual 66, 3) := by decide +kernel
theorem dX5_readClause_92 : decode cX5_readClause 92 = .ok (.goto 46, 3) := by decide +kernel
theorem dX5_readClause_95 : decode cX5_readClause 95 = .ok (.iload_n 2, 1) := by decide +kernel
theorem dX5_readClause_96 : decode cX5_readClause 96 = .ok (.bipush 102, 2) := by decide +kernel
theorem dX5_readClause_98 : decode cX5_readClause 98 = .ok (.if_icmp .ne 23, 3) := by decide +kernel
theorem dX5_readClause_101 : decode cX5_readClause 101 = .ok (.aload_n 1, 1) := by decide +kernel
theorem dX5_readClause_102 : decode cX5_readClause 102 = .ok (.dup, 1) := by decide +kernel
theorem dX5_readClause_103 : decode cX5_readClause 103 = .ok (.getfield 69, 3) := by decide +kernel
theorem dX5_readClause_106 : decode cX5_readClause 106 = .ok (.aload_n 0, 1) := by decide +kernel
theorem dX5_readClause_107 : decode cX5_readClause 107 = .ok (.aload_n 1, 1) := by decide +kernel
theorem dX5_readClause_108 : decode cX5_readClause 108 = .ok (.getfield 72, 3) := by decide +kernel
theorem dX5_readClause_111 : decode cX5_readClause 111 = .ok (.invokevirtual 76, 3) := by decide +kernel
theorem dX5_readClause_114 : decode cX5_readClause 114 = .ok (.iadd, 1) := by decide +kernel
theorem dX5_readClause_115 : decode cX5_readClause 115 = .ok (.putfield 69, 3) := by decide +kernel
theorem dX5_readClause_118 : decode cX5_readClause 118 = .ok (.goto 20, 3) := by decide +kernel
theorem dX5_readClause_121 : decode cX5_readClause 121 = .ok (.aload_n 1, 1) := by decide +kernel
theorem dX5_readClause_122 : decode cX5_readClause 122 = .ok (.dup, 1) := by decide +kernel
theorem dX5_readClause_123 : decode cX5_readClause 123 = .ok (.getfield 80, 3) := by decide +kernel
theorem dX5_readClause_126 : decode cX5_readClause 126 = .ok (.aload_n 0, 1) := by decide +kernel
theorem dX5_readClause_127 : decode cX5_readClause 127 = .ok (.aload_n 1, 1) := by decide +kernel
theorem dX5_readClause_128 : decode cX5_readClause 128 = .ok (.getfield 83, 3) := by decide +kernel
theorem dX5_readClause_131 : decode cX5_readClause 131 = .ok (.invokevirtual 76, 3) := by decide +kernel
theorem dX5_readClause_134 : decode cX5_readClause 134 = .ok (.iadd, 1) := by decide +kernel
theorem dX5_readClause_135 : decode cX5_readClause 135 = .ok (.putfield 80, 3) := by decide +kernel
theorem dX5_readClause_138 : decode cX5_readClause 138 = .ok (.aload_n 0, 1) := by decide +kernel
theorem dX5_readClause_139 : decode cX5_readClause 139 = .ok (.invokevirtual 86, 3) := by decide +kernel
theorem dX5_readClause_142 : decode cX5_readClause 142 = .ok (.return_, 1) := by decide +kernel
theorem dX5_isWord_0 : decode cX5_isWord 0 = .ok (.iload_n 0, 1) := by decide +kernel
theorem dX5_isWord_1 : decode cX5_isWord 1 = .ok (.bipush 104, 2) := by decide +kernel
theorem dX5_isWord_3 : decode cX5_isWord 3 = .ok (.if_icmp .eq 21, 3) := by decide +kernel
theorem dX5_isWord_6 : decode cX5_isWord 6 = .ok (.iload_n 0, 1) := by decide +kernel
theorem dX5_isWord_7 : decode cX5_isWord 7 = .ok (.bipush 118, 2) := by decide +kernel
theorem dX5_isWord_9 : decode cX5_isWord 9 = .ok (.if_icmp .eq 15, 3) := by decide +kernel
theorem dX5_isWord_12 : decode cX5_isWord 12 = .ok (.iload_n 0, 1) := by decide +kernel
theorem dX5_isWord_13 : decode cX5_isWord 13 = .ok (.bipush 102, 2) := by decide +kernel
theorem dX5_isWord_15 : decode cX5_isWord 15 = .ok (.if_icmp .eq 9, 3) := by decide +kernel
theorem dX5_isWord_18 : decode cX5_isWord 18 = .ok (.iload_n 0, 1) := by decide +kernel
theorem dX5_isWord_19 : decode cX5_isWord 19 = .ok (.bipush 103, 2) := by decide +kernel
theorem dX5_isWord_21 : decode cX5_isWord 21 = .ok (.if_icmp .ne 7, 3) := by decide +kernel
theorem dX5_isWord_24 : decode cX5_isWord 24 = .ok (.iconst 1, 1) := by decide +kernel
theorem dX5_isWord_25 : decode cX5_isWord 25 = .ok (.goto 4, 3) := by decide +kernel
theorem dX5_isWord_28 : decode cX5_isWord 28 = .ok (.iconst 0, 1) := by decide +kernel
theorem dX5_isWord_29 : decode cX5_isWord 29 = .ok (.ireturn, 1) := by decide +kernel
theorem dX5_isTooMany_0 : decode cX5_isTooMany 0 = .ok (.iload_n 1, 1) := by decide +kernel
theorem dX5_isTooMany_1 : decode cX5_isTooMany 1 = .ok (.bipush 104, 2) := by decide +kernel
theorem dX5_isTooMany_3 : decode cX5_isTooMany 3 = .ok (.if_icmp .ne 8, 3) := by decide +kernel
theorem dX5_isTooMany_6 : decode cX5_isTooMany 6 = .ok (.aload_n 0, 1) := by decide +kernel
theorem dX5_isTooMany_7 : decode cX5_isTooMany 7 = .ok (.getfield 51, 3) := by decide +kernel
theorem dX5_isTooMany_10 : decode cX5_isTooMany 10 = .ok (.ireturn, 1) := by decide +kernel
theorem dX5_isTooMany_11 : decode cX5_isTooMany 11 = .ok (.iload_n 1, 1) := by decide +kernel
theorem dX5_isTooMany_12 : decode cX5_isTooMany 12 = .ok (.bipush 118, 2) := by decide +kernel
theorem dX5_isTooMany_14 : decode cX5_isTooMany 14 = .ok (.if_icmp .ne 18, 3) := by decide +kernel
theorem dX5_isTooMany_17 : decode cX5_isTooMany 17 = .ok (.aload_n 0, 1) := by decide +kernel
theorem dX5_isTooMany_18 : decode cX5_isTooMany 18 = .ok (.getfield 89, 3) := by decide +kernel
theorem dX5_isTooMany_21 : decode cX5_isTooMany 21 = .ok (.bipush 8, 2) := by decide +kernel
theorem dX5_isTooMany_23 : decode cX5_isTooMany 23 = .ok (.if_icmp .lt 7, 3) := by decide +kernel
theorem dX5_isTooMany_26 : decode cX5_isTooMany 26 = .ok (.iconst 1, 1) := by decide +kernel
theorem dX5_isTooMany_27 : decode cX5_isTooMany 27 = .ok (.goto 4, 3) := by decide +kernel
theorem dX5_isTooMany_30 : decode cX5_isTooMany 30 = .ok (.iconst 0, 1) := by decide +kernel
theorem dX5_isTooMany_31 : decode cX5_isTooMany 31 = .ok (.ireturn, 1) := by decide +kernel
theorem dX5_isTooMany_32 : decode cX5_isTooMany 32 = .ok (.iload_n 1, 1) := by decide +kernel
theorem dX5_isTooMany_33 : decode cX5_isTooMany 33 = .ok (.bipush 102, 2) := by decide +kernel
theorem dX5_isTooMany_35 : decode cX5_isTooMany 35 = .ok (.if_icmp .ne 10, 3) := by decide +kernel
theorem dX5_isTooMany_38 : decode cX5_isTooMany 38 = .ok (.aload_n 0, 1) := by decide +kernel
theorem dX5_isTooMany_39 : decode cX5_isTooMany 39 = .ok (.getfield 69, 3) := by decide +kernel
theorem dX5_isTooMany_42 : decode cX5_isTooMany 42 = .ok (.goto 7, 3) := by decide +kernel
theorem dX5_isTooMany_45 : decode cX5_isTooMany 45 = .ok (.aload_n 0, 1) := by decide +kernel
theorem dX5_isTooMany_46 : decode cX5_isTooMany 46 = .ok (.getfield 80, 3) := by decide +kernel
theorem dX5_isTooMany_49 : decode cX5_isTooMany 49 = .ok (.bipush 8, 2) := by decide +kernel
theorem dX5_isTooMany_51 : decode cX5_isTooMany 51 = .ok (.if_icmp .lt 7, 3) := by decide +kernel
theorem dX5_isTooMany_54 : decode cX5_isTooMany 54 = .ok (.iconst 1, 1) := by decide +kernel
theorem dX5_isTooMany_55 : decode cX5_isTooMany 55 = .ok (.goto 4, 3) := by decide +kernel
theorem dX5_isTooMany_58 : decode cX5_isTooMany 58 = .ok (.iconst 0, 1) := by decide +kernel
theorem dX5_isTooMany_59 : decode cX5_isTooMany 59 = .ok (.ireturn, 1) := by decide +kernel
theorem dX5_readHermit_0 : decode cX5_readHermit 0 = .ok (.aload_n 1, 1) := by decide +kernel
theorem dX5_readHermit_1 : decode cX5_readHermit 1 = .ok (.iconst 1, 1) := by decide +kernel
theorem dX5_readHermit_2 : decode cX5_readHermit 2 = .ok (.putfield 51, 3) := by decide +kernel
theorem dX5_readHermit_5 : decode cX5_readHermit 5 = .ok (.aload_n 1, 1) := by decide +kernel
theorem dX5_readHermit_6 : decode cX5_readHermit 6 = .ok (.aload_n 0, 1) := by decide +kernel
theorem dX5_readHermit_7 : decode cX5_readHermit 7 = .ok (.iconst 1, 1) := by decide +kernel
theorem dX5_readHermit_8 : decode cX5_readHermit 8 = .ok (.bipush 9, 2) := by decide +kernel
theorem dX5_readHermit_10 : decode cX5_readHermit 10 = .ok (.invokevirtual 92, 3) := by decide +kernel
theorem dX5_readHermit_13 : decode cX5_readHermit 13 = .ok (.putfield 95, 3) := by decide +kernel
theorem dX5_readHermit_16 : decode cX5_readHermit 16 = .ok (.aload_n 1, 1) := by decide +kernel
theorem dX5_readHermit_17 : decode cX5_readHermit 17 = .ok (.aload_n 0, 1) := by decide +kernel
theorem dX5_readHermit_18 : decode cX5_readHermit 18 = .ok (.iconst 0, 1) := by decide +kernel
theorem dX5_readHermit_19 : decode cX5_readHermit 19 = .ok (.bipush 30, 2) := by decide +kernel
theorem dX5_readHermit_21 : decode cX5_readHermit 21 = .ok (.invokevirtual 92, 3) := by decide +kernel
theorem dX5_readHermit_24 : decode cX5_readHermit 24 = .ok (.putfield 98, 3) := by decide +kernel
theorem dX5_readHermit_27 : decode cX5_readHermit 27 = .ok (.aload_n 1, 1) := by decide +kernel
theorem dX5_readHermit_28 : decode cX5_readHermit 28 = .ok (.aload_n 0, 1) := by decide +kernel
theorem dX5_readHermit_29 : decode cX5_readHermit 29 = .ok (.iconst 0, 1) := by decide +kernel
theorem dX5_readHermit_30 : decode cX5_readHermit 30 = .ok (.bipush 9, 2) := by decide +kernel
theorem dX5_readHermit_32 : decode cX5_readHermit 32 = .ok (.invokevirtual 92, 3) := by decide +kernel
theorem dX5_readHermit_35 : decode cX5_readHermit 35 = .ok (.putfield 101, 3) := by decide +kernel
theorem dX5_readHermit_38 : decode cX5_readHermit 38 = .ok (.return_, 1) := by decide +kernel
theorem dX5_readVillage_0 : decode cX5_readVillage 0 = .ok (.aload_n 1, 1) := by decide +kernel
theorem dX5_readVillage_1 : decode cX5_readVillage 1 = .ok (.getfield 89, 3) := by decide +kernel
theorem dX5_readVillage_4 : decode cX5_readVillage 4 = .ok (.istore_n 2, 1) := by decide +kernel
theorem dX5_readVillage_5 : decode cX5_readVillage 5 = .ok (.iload_n 2, 1) := by decide +kernel
theorem dX5_readVillage_6 : decode cX5_readVillage 6 = .ok (.ifCond .lt 9, 3) := by decide +kernel
theorem dX5_readVillage_9 : decode cX5_readVillage 9 = .ok (.iload_n 2, 1) := by decide +kernel
theorem dX5_readVillage_10 : decode cX5_readVillage 10 = .ok (.bipush 8, 2) := by decide +kernel
theorem dX5_readVillage_12 : decode cX5_readVillage 12 = .ok (.if_icmp .lt 4, 3) := by decide +kernel
theorem dX5_readVillage_15 : decode cX5_readVillage 15 = .ok (.return_, 1) := by decide +kernel
theorem dX5_readVillage_16 : decode cX5_readVillage 16 = .ok (.aload_n 1, 1) := by decide +kernel
theorem dX5_readVillage_17 : decode cX5_readVillage 17 = .ok (.getfield 104, 3) := by decide +kernel
theorem dX5_readVillage_20 : decode cX5_readVillage 20 = .ok (.iload_n 2, 1) := by decide +kernel
theorem dX5_readVillage_21 : decode cX5_readVillage 21 = .ok (.aload_n 0, 1) := by decide +kernel
theorem dX5_readVillage_22 : decode cX5_readVillage 22 = .ok (.iconst 0, 1) := by decide +kernel
theorem dX5_readVillage_23 : decode cX5_readVillage 23 = .ok (.bipush 9, 2) := by decide +kernel
theorem dX5_readVillage_25 : decode cX5_readVillage 25 = .ok (.invokevirtual 92, 3) := by decide +kernel
theorem dX5_readVillage_28 : decode cX5_readVillage 28 = .ok (.iastore, 1) := by decide +kernel
theorem dX5_readVillage_29 : decode cX5_readVillage 29 = .ok (.aload_n 1, 1) := by decide +kernel
theorem dX5_readVillage_30 : decode cX5_readVillage 30 = .ok (.getfield 108, 3) := by decide +kernel
theorem dX5_readVillage_33 : decode cX5_readVillage 33 = .ok (.iload_n 2, 1) := by decide +kernel
theorem dX5_readVillage_34 : decode cX5_readVillage 34 = .ok (.aload_n 0, 1) := by decide +kernel
theorem dX5_readVillage_35 : decode cX5_readVillage 35 = .ok (.iconst 1, 1) := by decide +kernel
theorem dX5_readVillage_36 : decode cX5_readVillage 36 = .ok (.bipush 9, 2) := by decide +kernel
theorem dX5_readVillage_38 : decode cX5_readVillage 38 = .ok (.invokevirtual 92, 3) := by decide +kernel
theorem dX5_readVillage_41 : decode cX5_readVillage 41 = .ok (.iastore, 1) := by decide +kernel
theorem dX5_readVillage_42 : decode cX5_readVillage 42 = .ok (.aload_n 1, 1) := by decide +kernel
theorem dX5_readVillage_43 : decode cX5_readVillage 43 = .ok (.getfield 111, 3) := by decide +kernel
theorem dX5_readVillage_46 : decode cX5_readVillage 46 = .ok (.iload_n 2, 1) := by decide +kernel
theorem dX5_readVillage_47 : decode cX5_readVillage 47 = .ok (.aload_n 0, 1) := by decide +kernel
theorem dX5_readVillage_48 : decode cX5_readVillage 48 = .ok (.iconst 0, 1) := by decide +kernel
theorem dX5_readVillage_49 : decode cX5_readVillage 49 = .ok (.aload_n 1, 1) := by decide +kernel
theorem dX5_readVillage_50 : decode cX5_readVillage 50 = .ok (.getfield 108, 3) := by decide +kernel
theorem dX5_readVillage_53 : decode cX5_readVillage 53 = .ok (.iload_n 2, 1) := by decide +kernel
theorem dX5_readVillage_54 : decode cX5_readVillage 54 = .ok (.iaload, 1) := by decide +kernel
theorem dX5_readVillage_55 : decode cX5_readVillage 55 = .ok (.iconst 1, 1) := by decide +kernel
theorem dX5_readVillage_56 : decode cX5_readVillage 56 = .ok (.isub, 1) := by decide +kernel
theorem dX5_readVillage_57 : decode cX5_readVillage 57 = .ok (.invokevirtual 92, 3) := by decide +kernel
theorem dX5_readVillage_60 : decode cX5_readVillage 60 = .ok (.iastore, 1) := by decide +kernel
theorem dX5_readVillage_61 : decode cX5_readVillage 61 = .ok (.aload_n 1, 1) := by decide +kernel
theorem dX5_readVillage_62 : decode cX5_readVillage 62 = .ok (.getfield 114, 3) := by decide +kernel
theorem dX5_readVillage_65 : decode cX5_readVillage 65 = .ok (.iload_n 2, 1) := by decide +kernel
theorem dX5_readVillage_66 : decode cX5_readVillage 66 = .ok (.aload_n 0, 1) := by decide +kernel
theorem dX5_readVillage_67 : decode cX5_readVillage 67 = .ok (.iconst 0, 1) := by decide +kernel
theorem dX5_readVillage_68 : decode cX5_readVillage 68 = .ok (.bipush 100, 2) := by decide +kernel
theorem dX5_readVillage_70 : decode cX5_readVillage 70 = .ok (.invokevirtual 92, 3) := by decide +kernel
theorem dX5_readVillage_73 : decode cX5_readVillage 73 = .ok (.iastore, 1) := by decide +kernel
theorem dX5_readVillage_74 : decode cX5_readVillage 74 = .ok (.aload_n 1, 1) := by decide +kernel
theorem dX5_readVillage_75 : decode cX5_readVillage 75 = .ok (.iload_n 2, 1) := by decide +kernel
theorem dX5_readVillage_76 : decode cX5_readVillage 76 = .ok (.iconst 1, 1) := by decide +kernel
theorem dX5_readVillage_77 : decode cX5_readVillage 77 = .ok (.iadd, 1) := by decide +kernel
theorem dX5_readVillage_78 : decode cX5_readVillage 78 = .ok (.putfield 89, 3) := by decide +kernel
theorem dX5_readVillage_81 : decode cX5_readVillage 81 = .ok (.return_, 1) := by decide +kernel
theorem dX5_readMarkedDay_0 : decode cX5_readMarkedDay 0 = .ok (.aload_n 0, 1) := by decide +kernel
theorem dX5_readMarkedDay_1 : decode cX5_readMarkedDay 1 = .ok (.iconst 0, 1) := by decide +kernel
theorem dX5_readMarkedDay_2 : decode cX5_readMarkedDay 2 = .ok (.sipush 999, 3) := by decide +kernel
theorem dX5_readMarkedDay_5 : decode cX5_readMarkedDay 5 = .ok (.invokevirtual 92, 3) := by decide +kernel
theorem dX5_readMarkedDay_8 : decode cX5_readMarkedDay 8 = .ok (.istore_n 2, 1) := by decide +kernel
theorem dX5_readMarkedDay_9 : decode cX5_readMarkedDay 9 = .ok (.aload_n 0, 1) := by decide +kernel
theorem dX5_readMarkedDay_10 : decode cX5_readMarkedDay 10 = .ok (.getfield 28, 3) := by decide +kernel
theorem dX5_readMarkedDay_13 : decode cX5_readMarkedDay 13 = .ok (.ifCond .eq 5, 3) := by decide +kernel
theorem dX5_readMarkedDay_16 : decode cX5_readMarkedDay 16 = .ok (.iconst 0, 1) := by decide +kernel
theorem dX5_readMarkedDay_17 : decode cX5_readMarkedDay 17 = .ok (.ireturn, 1) := by decide +kernel
theorem dX5_readMarkedDay_18 : decode cX5_readMarkedDay 18 = .ok (.aload_n 1, 1) := by decide +kernel
theorem dX5_readMarkedDay_19 : decode cX5_readMarkedDay 19 = .ok (.iload_n 2, 1) := by decide +kernel
theorem dX5_readMarkedDay_20 : decode cX5_readMarkedDay 20 = .ok (.invokestatic 117, 3) := by decide +kernel
theorem dX5_readMarkedDay_23 : decode cX5_readMarkedDay 23 = .ok (.ifCond .eq 14, 3) := by decide +kernel
theorem dX5_readMarkedDay_26 : decode cX5_readMarkedDay 26 = .ok (.aload_n 0, 1) := by decide +kernel
theorem dX5_readMarkedDay_27 : decode cX5_readMarkedDay 27 = .ok (.iconst 4, 1) := by decide +kernel
theorem dX5_readMarkedDay_28 : decode cX5_readMarkedDay 28 = .ok (.aload_n 0, 1) := by decide +kernel
theorem dX5_readMarkedDay_29 : decode cX5_readMarkedDay 29 = .ok (.getfield 121, 3) := by decide +kernel
theorem dX5_readMarkedDay_32 : decode cX5_readMarkedDay 32 = .ok (.invokevirtual 55, 3) := by decide +kernel
theorem dX5_readMarkedDay_35 : decode cX5_readMarkedDay 35 = .ok (.iconst 0, 1) := by decide +kernel
theorem dX5_readMarkedDay_36 : decode cX5_readMarkedDay 36 = .ok (.ireturn, 1) := by decide +kernel
theorem dX5_readMarkedDay_37 : decode cX5_readMarkedDay 37 = .ok (.aload_n 1, 1) := by decide +kernel
theorem dX5_readMarkedDay_38 : decode cX5_readMarkedDay 38 = .ok (.iload_n 2, 1) := by decide +kernel
theorem dX5_readMarkedDay_39 : decode cX5_readMarkedDay 39 = .ok (.invokestatic 124, 3) := by decide +kernel
theorem dX5_readMarkedDay_42 : decode cX5_readMarkedDay 42 = .ok (.iconst 1, 1) := by decide +kernel
theorem dX5_readMarkedDay_43 : decode cX5_readMarkedDay 43 = .ok (.ireturn, 1) := by decide +kernel
theorem dX5_readEnd_0 : decode cX5_readEnd 0 = .ok (.aload_n 0, 1) := by decide +kernel
theorem dX5_readEnd_1 : decode cX5_readEnd 1 = .ok (.getfield 28, 3) := by decide +kernel
theorem dX5_readEnd_4 : decode cX5_readEnd 4 = .ok (.ifCond .eq 4, 3) := by decide +kernel
theorem dX5_readEnd_7 : decode cX5_readEnd 7 = .ok (.return_, 1) := by decide +kernel
theorem dX5_readEnd_8 : decode cX5_readEnd 8 = .ok (.aload_n 0, 1) := by decide +kernel
theorem dX5_readEnd_9 : decode cX5_readEnd 9 = .ok (.invokevirtual 36, 3) := by decide +kernel
theorem dX5_readEnd_12 : decode cX5_readEnd 12 = .ok (.aload_n 0, 1) := by decide +kernel
theorem dX5_readEnd_13 : decode cX5_readEnd 13 = .ok (.invokevirtual 43, 3) := by decide +kernel
theorem dX5_readEnd_16 : decode cX5_readEnd 16 = .ok (.bipush 59, 2) := by decide +kernel
theorem dX5_readEnd_18 : decode cX5_readEnd 18 = .ok (.if_icmp .ne 16, 3) := by decide +kernel
theorem dX5_readEnd_21 : decode cX5_readEnd 21 = .ok (.aload_n 0, 1) := by decide +kernel
theorem dX5_readEnd_22 : decode cX5_readEnd 22 = .ok (.dup, 1) := by decide +kernel
theorem dX5_readEnd_23 : decode cX5_readEnd 23 = .ok (.getfield 25, 3) := by decide +kernel
theorem dX5_readEnd_26 : decode cX5_readEnd 26 = .ok (.iconst 1, 1) := by decide +kernel
theorem dX5_readEnd_27 : decode cX5_readEnd 27 = .ok (.iadd, 1) := by decide +kernel
theorem dX5_readEnd_28 : decode cX5_readEnd 28 = .ok (.putfield 25, 3) := by decide +kernel
theorem dX5_readEnd_31 : decode cX5_readEnd 31 = .ok (.goto 12, 3) := by decide +kernel
theorem dX5_readEnd_34 : decode cX5_readEnd 34 = .ok (.aload_n 0, 1) := by decide +kernel
theorem dX5_readEnd_35 : decode cX5_readEnd 35 = .ok (.iconst 1, 1) := by decide +kernel
theorem dX5_readEnd_36 : decode cX5_readEnd 36 = .ok (.aload_n 0, 1) := by decide +kernel
theorem dX5_readEnd_37 : decode cX5_readEnd 37 = .ok (.getfield 25, 3) := by decide +kernel
theorem dX5_readEnd_40 : decode cX5_readEnd 40 = .ok (.invokevirtual 55, 3) := by decide +kernel
theorem dX5_readEnd_43 : decode cX5_readEnd 43 = .ok (.return_, 1) := by decide +kernel
theorem dX5_readNumber_0 : decode cX5_readNumber 0 = .ok (.aload_n 0, 1) := by decide +kernel
theorem dX5_readNumber_1 : decode cX5_readNumber 1 = .ok (.getfield 28, 3) := by decide +kernel
theorem dX5_readNumber_4 : decode cX5_readNumber 4 = .ok (.ifCond .eq 5, 3) := by decide +kernel
theorem dX5_readNumber_7 : decode cX5_readNumber 7 = .ok (.iconst 0, 1) := by decide +kernel
theorem dX5_readNumber_8 : decode cX5_readNumber 8 = .ok (.ireturn, 1) := by decide +kernel
theorem dX5_readNumber_9 : decode cX5_readNumber 9 = .ok (.aload_n 0, 1) := by decide +kernel
theorem dX5_readNumber_10 : decode cX5_readNumber 10 = .ok (.invokevirtual 36, 3) := by decide +kernel
theorem dX5_readNumber_13 : decode cX5_readNumber 13 = .ok (.aload_n 0, 1) := by decide +kernel
theorem dX5_readNumber_14 : decode cX5_readNumber 14 = .ok (.aload_n 0, 1) := by decide +kernel
theorem dX5_readNumber_15 : decode cX5_readNumber 15 = .ok (.getfield 25, 3) := by decide +kernel
theorem dX5_readNumber_18 : decode cX5_readNumber 18 = .ok (.putfield 121, 3) := by decide +kernel
theorem dX5_readNumber_21 : decode cX5_readNumber 21 = .ok (.iconst 0, 1) := by decide +kernel
theorem dX5_readNumber_22 : decode cX5_readNumber 22 = .ok (.istore_n 3, 1) := by decide +kernel
theorem dX5_readNumber_23 : decode cX5_readNumber 23 = .ok (.iconst 0, 1) := by decide +kernel
theorem dX5_readNumber_24 : decode cX5_readNumber 24 = .ok (.istore 4, 2) := by decide +kernel
theorem dX5_readNumber_26 : decode cX5_readNumber 26 = .ok (.iload 4, 2) := by decide +kernel
theorem dX5_readNumber_28 : decode cX5_readNumber 28 = .ok (.sipush 240, 3) := by decide +kernel
theorem dX5_readNumber_31 : decode cX5_readNumber 31 = .ok (.if_icmp .ge 48, 3) := by decide +kernel
theorem dX5_readNumber_34 : decode cX5_readNumber 34 = .ok (.aload_n 0, 1) := by decide +kernel
theorem dX5_readNumber_35 : decode cX5_readNumber 35 = .ok (.invokevirtual 43, 3) := by decide +kernel
theorem dX5_readNumber_38 : decode cX5_readNumber 38 = .ok (.invokestatic 128, 3) := by decide +kernel
theorem dX5_readNumber_41 : decode cX5_readNumber 41 = .ok (.ifCond .eq 38, 3) := by decide +kernel
theorem dX5_readNumber_44 : decode cX5_readNumber 44 = .ok (.iload 4, 2) := by decide +kernel
theorem dX5_readNumber_46 : decode cX5_readNumber 46 = .ok (.iconst 3, 1) := by decide +kernel
theorem dX5_readNumber_47 : decode cX5_readNumber 47 = .ok (.if_icmp .ge 16, 3) := by decide +kernel
theorem dX5_readNumber_50 : decode cX5_readNumber 50 = .ok (.iload_n 3, 1) := by decide +kernel
theorem dX5_readNumber_51 : decode cX5_readNumber 51 = .ok (.bipush 10, 2) := by decide +kernel
theorem dX5_readNumber_53 : decode cX5_readNumber 53 = .ok (.imul, 1) := by decide +kernel
theorem dX5_readNumber_54 : decode cX5_readNumber 54 = .ok (.aload_n 0, 1) := by decide +kernel
theorem dX5_readNumber_55 : decode cX5_readNumber 55 = .ok (.invokevirtual 43, 3) := by decide +kernel
theorem dX5_readNumber_58 : decode cX5_readNumber 58 = .ok (.bipush 48, 2) := by decide +kernel
theorem dX5_readNumber_60 : decode cX5_readNumber 60 = .ok (.isub, 1) := by decide +kernel
theorem dX5_readNumber_61 : decode cX5_readNumber 61 = .ok (.iadd, 1) := by decide +kernel
theorem dX5_readNumber_62 : decode cX5_readNumber 62 = .ok (.istore_n 3, 1) := by decide +kernel
theorem dX5_readNumber_63 : decode cX5_readNumber 63 = .ok (.aload_n 0, 1) := by decide +kernel
theorem dX5_readNumber_64 : decode cX5_readNumber 64 = .ok (.dup, 1) := by decide +kernel
theorem dX5_readNumber_65 : decode cX5_readNumber 65 = .ok (.getfield 25, 3) := by decide +kernel
theorem dX5_readNumber_68 : decode cX5_readNumber 68 = .ok (.iconst 1, 1) := by decide +kernel
theorem dX5_readNumber_69 : decode cX5_readNumber 69 = .ok (.iadd, 1) := by decide +kernel
theorem dX5_readNumber_70 : decode cX5_readNumber 70 = .ok (.putfield 25, 3) := by decide +kernel
theorem dX5_readNumber_73 : decode cX5_readNumber 73 = .ok (.iinc 4 1, 3) := by decide +kernel
theorem dX5_readNumber_76 : decode cX5_readNumber 76 = .ok (.goto (-50), 3) := by decide +kernel
theorem dX5_readNumber_79 : decode cX5_readNumber 79 = .ok (.aload_n 0, 1) := by decide +kernel
theorem dX5_readNumber_80 : decode cX5_readNumber 80 = .ok (.getfield 25, 3) := by decide +kernel
theorem dX5_readNumber_83 : decode cX5_readNumber 83 = .ok (.aload_n 0, 1) := by decide +kernel
theorem dX5_readNumber_84 : decode cX5_readNumber 84 = .ok (.getfield 121, 3) := by decide +kernel
theorem dX5_readNumber_87 : decode cX5_readNumber 87 = .ok (.isub, 1) := by decide +kernel
theorem dX5_readNumber_88 : decode cX5_readNumber 88 = .ok (.istore 4, 2) := by decide +kernel
theorem dX5_readNumber_90 : decode cX5_readNumber 90 = .ok (.iload 4, 2) := by decide +kernel
theorem dX5_readNumber_92 : decode cX5_readNumber 92 = .ok (.ifCond .ne 15, 3) := by decide +kernel
theorem dX5_readNumber_95 : decode cX5_readNumber 95 = .ok (.aload_n 0, 1) := by decide +kernel
theorem dX5_readNumber_96 : decode cX5_readNumber 96 = .ok (.iconst 1, 1) := by decide +kernel
theorem dX5_readNumber_97 : decode cX5_readNumber 97 = .ok (.aload_n 0, 1) := by decide +kernel
theorem dX5_readNumber_98 : decode cX5_readNumber 98 = .ok (.getfield 25, 3) := by decide +kernel
theorem dX5_readNumber_101 : decode cX5_readNumber 101 = .ok (.invokevirtual 55, 3) := by decide +kernel
theorem dX5_readNumber_104 : decode cX5_readNumber 104 = .ok (.goto 28, 3) := by decide +kernel
theorem dX5_readNumber_107 : decode cX5_readNumber 107 = .ok (.iload 4, 2) := by decide +kernel
theorem dX5_readNumber_109 : decode cX5_readNumber 109 = .ok (.iconst 3, 1) := by decide +kernel
theorem dX5_readNumber_110 : decode cX5_readNumber 110 = .ok (.if_icmp .gt 13, 3) := by decide +kernel
theorem dX5_readNumber_113 : decode cX5_readNumber 113 = .ok (.iload_n 3, 1) := by decide +kernel
theorem dX5_readNumber_114 : decode cX5_readNumber 114 = .ok (.iload_n 1, 1) := by decide +kernel
theorem dX5_readNumber_115 : decode cX5_readNumber 115 = .ok (.if_icmp .lt 8, 3) := by decide +kernel
theorem dX5_readNumber_118 : decode cX5_readNumber 118 = .ok (.iload_n 3, 1) := by decide +kernel
theorem dX5_readNumber_119 : decode cX5_readNumber 119 = .ok (.iload_n 2, 1) := by decide +kernel
theorem dX5_readNumber_120 : decode cX5_readNumber 120 = .ok (.if_icmp .le 12, 3) := by decide +kernel
theorem dX5_readNumber_123 : decode cX5_readNumber 123 = .ok (.aload_n 0, 1) := by decide +kernel
theorem dX5_readNumber_124 : decode cX5_readNumber 124 = .ok (.iconst 2, 1) := by decide +kernel
theorem dX5_readNumber_125 : decode cX5_readNumber 125 = .ok (.aload_n 0, 1) := by decide +kernel
theorem dX5_readNumber_126 : decode cX5_readNumber 126 = .ok (.getfield 121, 3) := by decide +kernel
theorem dX5_readNumber_129 : decode cX5_readNumber 129 = .ok (.invokevirtual 55, 3) := by decide +kernel
theorem dX5_readNumber_132 : decode cX5_readNumber 132 = .ok (.iload_n 3, 1) := by decide +kernel
theorem dX5_readNumber_133 : decode cX5_readNumber 133 = .ok (.ireturn, 1) := by decide +kernel
theorem dX5_isFigure_0 : decode cX5_isFigure 0 = .ok (.iload_n 0, 1) := by decide +kernel
theorem dX5_isFigure_1 : decode cX5_isFigure 1 = .ok (.bipush 48, 2) := by decide +kernel
theorem dX5_isFigure_3 : decode cX5_isFigure 3 = .ok (.if_icmp .lt 13, 3) := by decide +kernel
theorem dX5_isFigure_6 : decode cX5_isFigure 6 = .ok (.iload_n 0, 1) := by decide +kernel
theorem dX5_isFigure_7 : decode cX5_isFigure 7 = .ok (.bipush 57, 2) := by decide +kernel
theorem dX5_isFigure_9 : decode cX5_isFigure 9 = .ok (.if_icmp .gt 7, 3) := by decide +kernel
theorem dX5_isFigure_12 : decode cX5_isFigure 12 = .ok (.iconst 1, 1) := by decide +kernel
theorem dX5_isFigure_13 : decode cX5_isFigure 13 = .ok (.goto 4, 3) := by decide +kernel
theorem dX5_isFigure_16 : decode cX5_isFigure 16 = .ok (.iconst 0, 1) := by decide +kernel
theorem dX5_isFigure_17 : decode cX5_isFigure 17 = .ok (.ireturn, 1) := by decide +kernel
theorem dX5_skipBlanks_0 : decode cX5_skipBlanks 0 = .ok (.aload_n 0, 1) := by decide +kernel
theorem dX5_skipBlanks_1 : decode cX5_skipBlanks 1 = .ok (.getfield 28, 3) := by decide +kernel
theorem dX5_skipBlanks_4 : decode cX5_skipBlanks 4 = .ok (.ifCond .eq 4, 3) := by decide +kernel
theorem dX5_skipBlanks_7 : decode cX5_skipBlanks 7 = .ok (.return_, 1) := by decide +kernel
theorem dX5_skipBlanks_8 : decode cX5_skipBlanks 8 = .ok (.iconst 0, 1) := by decide +kernel
theorem dX5_skipBlanks_9 : decode cX5_skipBlanks 9 = .ok (.istore_n 1, 1) := by decide +kernel
theorem dX5_skipBlanks_10 : decode cX5_skipBlanks 10 = .ok (.iload_n 1, 1) := by decide +kernel
theorem dX5_skipBlanks_11 : decode cX5_skipBlanks 11 = .ok (.sipush 240, 3) := by decide +kernel
theorem dX5_skipBlanks_14 : decode cX5_skipBlanks 14 = .ok (.if_icmp .ge 28, 3) := by decide +kernel
theorem dX5_skipBlanks_17 : decode cX5_skipBlanks 17 = .ok (.aload_n 0, 1) := by decide +kernel
theorem dX5_skipBlanks_18 : decode cX5_skipBlanks 18 = .ok (.invokevirtual 43, 3) := by decide +kernel
theorem dX5_skipBlanks_21 : decode cX5_skipBlanks 21 = .ok (.bipush 32, 2) := by decide +kernel
theorem dX5_skipBlanks_23 : decode cX5_skipBlanks 23 = .ok (.if_icmp .ne 19, 3) := by decide +kernel
theorem dX5_skipBlanks_26 : decode cX5_skipBlanks 26 = .ok (.aload_n 0, 1) := by decide +kernel
theorem dX5_skipBlanks_27 : decode cX5_skipBlanks 27 = .ok (.dup, 1) := by decide +kernel
theorem dX5_skipBlanks_28 : decode cX5_skipBlanks 28 = .ok (.getfield 25, 3) := by decide +kernel
theorem dX5_skipBlanks_31 : decode cX5_skipBlanks 31 = .ok (.iconst 1, 1) := by decide +kernel
theorem dX5_skipBlanks_32 : decode cX5_skipBlanks 32 = .ok (.iadd, 1) := by decide +kernel
theorem dX5_skipBlanks_33 : decode cX5_skipBlanks 33 = .ok (.putfield 25, 3) := by decide +kernel
theorem dX5_skipBlanks_36 : decode cX5_skipBlanks 36 = .ok (.iinc 1 1, 3) := by decide +kernel
theorem dX5_skipBlanks_39 : decode cX5_skipBlanks 39 = .ok (.goto (-29), 3) := by decide +kernel
theorem dX5_skipBlanks_42 : decode cX5_skipBlanks 42 = .ok (.return_, 1) := by decide +kernel
theorem dX5_letterHere_0 : decode cX5_letterHere 0 = .ok (.aload_n 0, 1) := by decide +kernel
theorem dX5_letterHere_1 : decode cX5_letterHere 1 = .ok (.getfield 25, 3) := by decide +kernel
theorem dX5_letterHere_4 : decode cX5_letterHere 4 = .ok (.ifCond .lt 26, 3) := by decide +kernel
theorem dX5_letterHere_7 : decode cX5_letterHere 7 = .ok (.aload_n 0, 1) := by decide +kernel
theorem dX5_letterHere_8 : decode cX5_letterHere 8 = .ok (.getfield 25, 3) := by decide +kernel
theorem dX5_letterHere_11 : decode cX5_letterHere 11 = .ok (.aload_n 0, 1) := by decide +kernel
theorem dX5_letterHere_12 : decode cX5_letterHere 12 = .ok (.getfield 21, 3) := by decide +kernel
theorem dX5_letterHere_15 : decode cX5_letterHere 15 = .ok (.if_icmp .ge 15, 3) := by decide +kernel
theorem dX5_letterHere_18 : decode cX5_letterHere 18 = .ok (.aload_n 0, 1) := by decide +kernel
theorem dX5_letterHere_19 : decode cX5_letterHere 19 = .ok (.getfield 25, 3) := by decide +kernel
theorem dX5_letterHere_22 : decode cX5_letterHere 22 = .ok (.aload_n 0, 1) := by decide +kernel
end
section
theorem dX5_letterHere_23 : decode cX5_letterHere 23 = .ok (.getfield 9, 3) := by decide +kernel
theorem dX5_letterHere_26 : decode cX5_letterHere 26 = .ok (.arraylength, 1) := by decide +kernel
theorem dX5_letterHere_27 : decode cX5_letterHere 27 = .ok (.if_icmp .lt 7, 3) := by decide +kernel
theorem dX5_letterHere_30 : decode cX5_letterHere 30 = .ok (.iconst 0, 1) := by decide +kernel
theorem dX5_letterHere_31 : decode cX5_letterHere 31 = .ok (.goto 12, 3) := by decide +kernel
theorem dX5_letterHere_34 : decode cX5_letterHere 34 = .ok (.aload_n 0, 1) := by decide +kernel
theorem dX5_letterHere_35 : decode cX5_letterHere 35 = .ok (.getfield 9, 3) := by decide +kernel
theorem dX5_letterHere_38 : decode cX5_letterHere 38 = .ok (.aload_n 0, 1) := by decide +kernel
theorem dX5_letterHere_39 : decode cX5_letterHere 39 = .ok (.getfield 25, 3) := by decide +kernel
theorem dX5_letterHere_42 : decode cX5_letterHere 42 = .ok (.caload, 1) := by decide +kernel
theorem dX5_letterHere_43 : decode cX5_letterHere 43 = .ok (.ireturn, 1) := by decide +kernel
theorem dX5_blame_0 : decode cX5_blame 0 = .ok (.aload_n 0, 1) := by decide +kernel
theorem dX5_blame_1 : decode cX5_blame 1 = .ok (.getfield 28, 3) := by decide +kernel
theorem dX5_blame_4 : decode cX5_blame 4 = .ok (.ifCond .eq 4, 3) := by decide +kernel
theorem dX5_blame_7 : decode cX5_blame 7 = .ok (.return_, 1) := by decide +kernel
theorem dX5_blame_8 : decode cX5_blame 8 = .ok (.aload_n 0, 1) := by decide +kernel
theorem dX5_blame_9 : decode cX5_blame 9 = .ok (.iload_n 1, 1) := by decide +kernel
theorem dX5_blame_10 : decode cX5_blame 10 = .ok (.putfield 28, 3) := by decide +kernel
theorem dX5_blame_13 : decode cX5_blame 13 = .ok (.aload_n 0, 1) := by decide +kernel
theorem dX5_blame_14 : decode cX5_blame 14 = .ok (.iload_n 2, 1) := by decide +kernel
theorem dX5_blame_15 : decode cX5_blame 15 = .ok (.putfield 25, 3) := by decide +kernel
theorem dX5_blame_18 : decode cX5_blame 18 = .ok (.return_, 1) := by decide +kernel
theorem dX6_init_0 : decode cX6_init 0 = .ok (.aload_n 0, 1) := by decide +kernel
theorem dX6_init_1 : decode cX6_init 1 = .ok (.invokespecial 3, 3) := by decide +kernel
theorem dX6_init_4 : decode cX6_init 4 = .ok (.aload_n 0, 1) := by decide +kernel
theorem dX6_init_5 : decode cX6_init 5 = .ok (.bipush 8, 2) := by decide +kernel
theorem dX6_init_7 : decode cX6_init 7 = .ok (.newarray .int, 2) := by decide +kernel
theorem dX6_init_9 : decode cX6_init 9 = .ok (.putfield 9, 3) := by decide +kernel
theorem dX6_init_12 : decode cX6_init 12 = .ok (.aload_n 0, 1) := by decide +kernel
theorem dX6_init_13 : decode cX6_init 13 = .ok (.bipush 8, 2) := by decide +kernel
theorem dX6_init_15 : decode cX6_init 15 = .ok (.newarray .int, 2) := by decide +kernel
theorem dX6_init_17 : decode cX6_init 17 = .ok (.putfield 15, 3) := by decide +kernel
theorem dX6_init_20 : decode cX6_init 20 = .ok (.aload_n 0, 1) := by decide +kernel
theorem dX6_init_21 : decode cX6_init 21 = .ok (.bipush 8, 2) := by decide +kernel
theorem dX6_init_23 : decode cX6_init 23 = .ok (.newarray .int, 2) := by decide +kernel
theorem dX6_init_25 : decode cX6_init 25 = .ok (.putfield 18, 3) := by decide +kernel
theorem dX6_init_28 : decode cX6_init 28 = .ok (.aload_n 0, 1) := by decide +kernel
theorem dX6_init_29 : decode cX6_init 29 = .ok (.bipush 8, 2) := by decide +kernel
theorem dX6_init_31 : decode cX6_init 31 = .ok (.newarray .int, 2) := by decide +kernel
theorem dX6_init_33 : decode cX6_init 33 = .ok (.putfield 21, 3) := by decide +kernel
theorem dX6_init_36 : decode cX6_init 36 = .ok (.aload_n 0, 1) := by decide +kernel
theorem dX6_init_37 : decode cX6_init 37 = .ok (.bipush 16, 2) := by decide +kernel
theorem dX6_init_39 : decode cX6_init 39 = .ok (.newarray .long, 2) := by decide +kernel
theorem dX6_init_41 : decode cX6_init 41 = .ok (.putfield 24, 3) := by decide +kernel
theorem dX6_init_44 : decode cX6_init 44 = .ok (.aload_n 0, 1) := by decide +kernel
theorem dX6_init_45 : decode cX6_init 45 = .ok (.bipush 16, 2) := by decide +kernel
theorem dX6_init_47 : decode cX6_init 47 = .ok (.newarray .long, 2) := by decide +kernel
theorem dX6_init_49 : decode cX6_init 49 = .ok (.putfield 28, 3) := by decide +kernel
theorem dX6_init_52 : decode cX6_init 52 = .ok (.return_, 1) := by decide +kernel
theorem dX6_clear_0 : decode cX6_clear 0 = .ok (.aload_n 0, 1) := by decide +kernel
theorem dX6_clear_1 : decode cX6_clear 1 = .ok (.iconst 0, 1) := by decide +kernel
theorem dX6_clear_2 : decode cX6_clear 2 = .ok (.putfield 31, 3) := by decide +kernel
theorem dX6_clear_5 : decode cX6_clear 5 = .ok (.aload_n 0, 1) := by decide +kernel
theorem dX6_clear_6 : decode cX6_clear 6 = .ok (.iconst 0, 1) := by decide +kernel
theorem dX6_clear_7 : decode cX6_clear 7 = .ok (.putfield 35, 3) := by decide +kernel
theorem dX6_clear_10 : decode cX6_clear 10 = .ok (.aload_n 0, 1) := by decide +kernel
theorem dX6_clear_11 : decode cX6_clear 11 = .ok (.iconst 0, 1) := by decide +kernel
theorem dX6_clear_12 : decode cX6_clear 12 = .ok (.putfield 39, 3) := by decide +kernel
theorem dX6_clear_15 : decode cX6_clear 15 = .ok (.aload_n 0, 1) := by decide +kernel
theorem dX6_clear_16 : decode cX6_clear 16 = .ok (.iconst 0, 1) := by decide +kernel
theorem dX6_clear_17 : decode cX6_clear 17 = .ok (.putfield 42, 3) := by decide +kernel
theorem dX6_clear_20 : decode cX6_clear 20 = .ok (.aload_n 0, 1) := by decide +kernel
theorem dX6_clear_21 : decode cX6_clear 21 = .ok (.iconst 0, 1) := by decide +kernel
theorem dX6_clear_22 : decode cX6_clear 22 = .ok (.putfield 45, 3) := by decide +kernel
theorem dX6_clear_25 : decode cX6_clear 25 = .ok (.aload_n 0, 1) := by decide +kernel
theorem dX6_clear_26 : decode cX6_clear 26 = .ok (.iconst 0, 1) := by decide +kernel
theorem dX6_clear_27 : decode cX6_clear 27 = .ok (.putfield 48, 3) := by decide +kernel
theorem dX6_clear_30 : decode cX6_clear 30 = .ok (.aload_n 0, 1) := by decide +kernel
theorem dX6_clear_31 : decode cX6_clear 31 = .ok (.iconst 0, 1) := by decide +kernel
theorem dX6_clear_32 : decode cX6_clear 32 = .ok (.putfield 51, 3) := by decide +kernel
theorem dX6_clear_35 : decode cX6_clear 35 = .ok (.aload_n 0, 1) := by decide +kernel
theorem dX6_clear_36 : decode cX6_clear 36 = .ok (.getfield 24, 3) := by decide +kernel
theorem dX6_clear_39 : decode cX6_clear 39 = .ok (.lconst 0, 1) := by decide +kernel
theorem dX6_clear_40 : decode cX6_clear 40 = .ok (.invokestatic 54, 3) := by decide +kernel
theorem dX6_clear_43 : decode cX6_clear 43 = .ok (.aload_n 0, 1) := by decide +kernel
theorem dX6_clear_44 : decode cX6_clear 44 = .ok (.getfield 28, 3) := by decide +kernel
theorem dX6_clear_47 : decode cX6_clear 47 = .ok (.lconst 0, 1) := by decide +kernel
theorem dX6_clear_48 : decode cX6_clear 48 = .ok (.invokestatic 54, 3) := by decide +kernel
theorem dX6_clear_51 : decode cX6_clear 51 = .ok (.return_, 1) := by decide +kernel
theorem dX6_has_0 : decode cX6_has 0 = .ok (.iload_n 1, 1) := by decide +kernel
theorem dX6_has_1 : decode cX6_has 1 = .ok (.ifCond .lt 21, 3) := by decide +kernel
theorem dX6_has_4 : decode cX6_has 4 = .ok (.iload_n 1, 1) := by decide +kernel
theorem dX6_has_5 : decode cX6_has 5 = .ok (.aload_n 0, 1) := by decide +kernel
theorem dX6_has_6 : decode cX6_has 6 = .ok (.getfield 45, 3) := by decide +kernel
theorem dX6_has_9 : decode cX6_has 9 = .ok (.if_icmp .ge 13, 3) := by decide +kernel
theorem dX6_has_12 : decode cX6_has 12 = .ok (.iload_n 1, 1) := by decide +kernel
theorem dX6_has_13 : decode cX6_has 13 = .ok (.bipush 8, 2) := by decide +kernel
theorem dX6_has_15 : decode cX6_has 15 = .ok (.if_icmp .ge 7, 3) := by decide +kernel
theorem dX6_has_18 : decode cX6_has 18 = .ok (.iconst 1, 1) := by decide +kernel
theorem dX6_has_19 : decode cX6_has 19 = .ok (.goto 4, 3) := by decide +kernel
theorem dX6_has_22 : decode cX6_has 22 = .ok (.iconst 0, 1) := by decide +kernel
theorem dX6_has_23 : decode cX6_has 23 = .ok (.ireturn, 1) := by decide +kernel
theorem dX6_all_0 : decode cX6_all 0 = .ok (.iconst 1, 1) := by decide +kernel
theorem dX6_all_1 : decode cX6_all 1 = .ok (.aload_n 0, 1) := by decide +kernel
theorem dX6_all_2 : decode cX6_all 2 = .ok (.getfield 45, 3) := by decide +kernel
theorem dX6_all_5 : decode cX6_all 5 = .ok (.ishl, 1) := by decide +kernel
theorem dX6_all_6 : decode cX6_all 6 = .ok (.iconst 1, 1) := by decide +kernel
theorem dX6_all_7 : decode cX6_all 7 = .ok (.isub, 1) := by decide +kernel
theorem dX6_all_8 : decode cX6_all 8 = .ok (.ireturn, 1) := by decide +kernel
theorem dX6_periodOf_0 : decode cX6_periodOf 0 = .ok (.iload_n 1, 1) := by decide +kernel
theorem dX6_periodOf_1 : decode cX6_periodOf 1 = .ok (.ifCond .lt 12, 3) := by decide +kernel
theorem dX6_periodOf_4 : decode cX6_periodOf 4 = .ok (.iload_n 1, 1) := by decide +kernel
theorem dX6_periodOf_5 : decode cX6_periodOf 5 = .ok (.aload_n 0, 1) := by decide +kernel
theorem dX6_periodOf_6 : decode cX6_periodOf 6 = .ok (.getfield 15, 3) := by decide +kernel
theorem dX6_periodOf_9 : decode cX6_periodOf 9 = .ok (.arraylength, 1) := by decide +kernel
theorem dX6_periodOf_10 : decode cX6_periodOf 10 = .ok (.if_icmp .lt 7, 3) := by decide +kernel
theorem dX6_periodOf_13 : decode cX6_periodOf 13 = .ok (.iconst 1, 1) := by decide +kernel
theorem dX6_periodOf_14 : decode cX6_periodOf 14 = .ok (.goto 13, 3) := by decide +kernel
theorem dX6_periodOf_17 : decode cX6_periodOf 17 = .ok (.iconst 1, 1) := by decide +kernel
theorem dX6_periodOf_18 : decode cX6_periodOf 18 = .ok (.aload_n 0, 1) := by decide +kernel
theorem dX6_periodOf_19 : decode cX6_periodOf 19 = .ok (.getfield 15, 3) := by decide +kernel
theorem dX6_periodOf_22 : decode cX6_periodOf 22 = .ok (.iload_n 1, 1) := by decide +kernel
theorem dX6_periodOf_23 : decode cX6_periodOf 23 = .ok (.iaload, 1) := by decide +kernel
theorem dX6_periodOf_24 : decode cX6_periodOf 24 = .ok (.invokestatic 60, 3) := by decide +kernel
theorem dX6_periodOf_27 : decode cX6_periodOf 27 = .ok (.ireturn, 1) := by decide +kernel
theorem dX6_isFog_0 : decode cX6_isFog 0 = .ok (.aload_n 0, 1) := by decide +kernel
theorem dX6_isFog_1 : decode cX6_isFog 1 = .ok (.getfield 28, 3) := by decide +kernel
theorem dX6_isFog_4 : decode cX6_isFog 4 = .ok (.iload_n 1, 1) := by decide +kernel
theorem dX6_isFog_5 : decode cX6_isFog 5 = .ok (.invokestatic 66, 3) := by decide +kernel
theorem dX6_isFog_8 : decode cX6_isFog 8 = .ok (.ireturn, 1) := by decide +kernel
theorem dX6_isMarked_0 : decode cX6_isMarked 0 = .ok (.iload_n 1, 1) := by decide +kernel
theorem dX6_isMarked_1 : decode cX6_isMarked 1 = .ok (.bipush 6, 2) := by decide +kernel
theorem dX6_isMarked_3 : decode cX6_isMarked 3 = .ok (.ishr, 1) := by decide +kernel
theorem dX6_isMarked_4 : decode cX6_isMarked 4 = .ok (.istore_n 2, 1) := by decide +kernel
theorem dX6_isMarked_5 : decode cX6_isMarked 5 = .ok (.iload_n 2, 1) := by decide +kernel
theorem dX6_isMarked_6 : decode cX6_isMarked 6 = .ok (.ifCond .lt 28, 3) := by decide +kernel
theorem dX6_isMarked_9 : decode cX6_isMarked 9 = .ok (.iload_n 2, 1) := by decide +kernel
theorem dX6_isMarked_10 : decode cX6_isMarked 10 = .ok (.aload_n 0, 1) := by decide +kernel
theorem dX6_isMarked_11 : decode cX6_isMarked 11 = .ok (.arraylength, 1) := by decide +kernel
theorem dX6_isMarked_12 : decode cX6_isMarked 12 = .ok (.if_icmp .ge 22, 3) := by decide +kernel
theorem dX6_isMarked_15 : decode cX6_isMarked 15 = .ok (.aload_n 0, 1) := by decide +kernel
theorem dX6_isMarked_16 : decode cX6_isMarked 16 = .ok (.iload_n 2, 1) := by decide +kernel
theorem dX6_isMarked_17 : decode cX6_isMarked 17 = .ok (.laload, 1) := by decide +kernel
theorem dX6_isMarked_18 : decode cX6_isMarked 18 = .ok (.iload_n 1, 1) := by decide +kernel
theorem dX6_isMarked_19 : decode cX6_isMarked 19 = .ok (.bipush 63, 2) := by decide +kernel
theorem dX6_isMarked_21 : decode cX6_isMarked 21 = .ok (.iand, 1) := by decide +kernel
theorem dX6_isMarked_22 : decode cX6_isMarked 22 = .ok (.lushr, 1) := by decide +kernel
theorem dX6_isMarked_23 : decode cX6_isMarked 23 = .ok (.lconst 1, 1) := by decide +kernel
theorem dX6_isMarked_24 : decode cX6_isMarked 24 = .ok (.land, 1) := by decide +kernel
theorem dX6_isMarked_25 : decode cX6_isMarked 25 = .ok (.lconst 0, 1) := by decide +kernel
theorem dX6_isMarked_26 : decode cX6_isMarked 26 = .ok (.lcmp, 1) := by decide +kernel
theorem dX6_isMarked_27 : decode cX6_isMarked 27 = .ok (.ifCond .eq 7, 3) := by decide +kernel
theorem dX6_isMarked_30 : decode cX6_isMarked 30 = .ok (.iconst 1, 1) := by decide +kernel
theorem dX6_isMarked_31 : decode cX6_isMarked 31 = .ok (.goto 4, 3) := by decide +kernel
theorem dX6_isMarked_34 : decode cX6_isMarked 34 = .ok (.iconst 0, 1) := by decide +kernel
theorem dX6_isMarked_35 : decode cX6_isMarked 35 = .ok (.ireturn, 1) := by decide +kernel
theorem dX6_mark_0 : decode cX6_mark 0 = .ok (.iload_n 1, 1) := by decide +kernel
theorem dX6_mark_1 : decode cX6_mark 1 = .ok (.bipush 6, 2) := by decide +kernel
theorem dX6_mark_3 : decode cX6_mark 3 = .ok (.ishr, 1) := by decide +kernel
theorem dX6_mark_4 : decode cX6_mark 4 = .ok (.istore_n 2, 1) := by decide +kernel
theorem dX6_mark_5 : decode cX6_mark 5 = .ok (.iload_n 2, 1) := by decide +kernel
theorem dX6_mark_6 : decode cX6_mark 6 = .ok (.ifCond .lt 21, 3) := by decide +kernel
theorem dX6_mark_9 : decode cX6_mark 9 = .ok (.iload_n 2, 1) := by decide +kernel
theorem dX6_mark_10 : decode cX6_mark 10 = .ok (.aload_n 0, 1) := by decide +kernel
theorem dX6_mark_11 : decode cX6_mark 11 = .ok (.arraylength, 1) := by decide +kernel
theorem dX6_mark_12 : decode cX6_mark 12 = .ok (.if_icmp .ge 15, 3) := by decide +kernel
theorem dX6_mark_15 : decode cX6_mark 15 = .ok (.aload_n 0, 1) := by decide +kernel
theorem dX6_mark_16 : decode cX6_mark 16 = .ok (.iload_n 2, 1) := by decide +kernel
theorem dX6_mark_17 : decode cX6_mark 17 = .ok (.dup2, 1) := by decide +kernel
theorem dX6_mark_18 : decode cX6_mark 18 = .ok (.laload, 1) := by decide +kernel
theorem dX6_mark_19 : decode cX6_mark 19 = .ok (.lconst 1, 1) := by decide +kernel
theorem dX6_mark_20 : decode cX6_mark 20 = .ok (.iload_n 1, 1) := by decide +kernel
theorem dX6_mark_21 : decode cX6_mark 21 = .ok (.bipush 63, 2) := by decide +kernel
theorem dX6_mark_23 : decode cX6_mark 23 = .ok (.iand, 1) := by decide +kernel
theorem dX6_mark_24 : decode cX6_mark 24 = .ok (.lshl, 1) := by decide +kernel
theorem dX6_mark_25 : decode cX6_mark 25 = .ok (.lor, 1) := by decide +kernel
theorem dX6_mark_26 : decode cX6_mark 26 = .ok (.lastore, 1) := by decide +kernel
theorem dX6_mark_27 : decode cX6_mark 27 = .ok (.return_, 1) := by decide +kernel
theorem dX6_brings_0 : decode cX6_brings 0 = .ok (.aload_n 0, 1) := by decide +kernel
theorem dX6_brings_1 : decode cX6_brings 1 = .ok (.iload_n 1, 1) := by decide +kernel
theorem dX6_brings_2 : decode cX6_brings 2 = .ok (.invokevirtual 70, 3) := by decide +kernel
theorem dX6_brings_5 : decode cX6_brings 5 = .ok (.ifCond .eq 13, 3) := by decide +kernel
theorem dX6_brings_8 : decode cX6_brings 8 = .ok (.iload_n 3, 1) := by decide +kernel
theorem dX6_brings_9 : decode cX6_brings 9 = .ok (.aload_n 0, 1) := by decide +kernel
theorem dX6_brings_10 : decode cX6_brings 10 = .ok (.getfield 9, 3) := by decide +kernel
theorem dX6_brings_13 : decode cX6_brings 13 = .ok (.iload_n 1, 1) := by decide +kernel
theorem dX6_brings_14 : decode cX6_brings 14 = .ok (.iaload, 1) := by decide +kernel
theorem dX6_brings_15 : decode cX6_brings 15 = .ok (.if_icmp .ge 5, 3) := by decide +kernel
theorem dX6_brings_18 : decode cX6_brings 18 = .ok (.iconst 0, 1) := by decide +kernel
theorem dX6_brings_19 : decode cX6_brings 19 = .ok (.ireturn, 1) := by decide +kernel
theorem dX6_brings_20 : decode cX6_brings 20 = .ok (.iload_n 3, 1) := by decide +kernel
theorem dX6_brings_21 : decode cX6_brings 21 = .ok (.aload_n 0, 1) := by decide +kernel
theorem dX6_brings_22 : decode cX6_brings 22 = .ok (.iload_n 1, 1) := by decide +kernel
theorem dX6_brings_23 : decode cX6_brings 23 = .ok (.invokevirtual 74, 3) := by decide +kernel
theorem dX6_brings_26 : decode cX6_brings 26 = .ok (.irem, 1) := by decide +kernel
theorem dX6_brings_27 : decode cX6_brings 27 = .ok (.iload_n 2, 1) := by decide +kernel
theorem dX6_brings_28 : decode cX6_brings 28 = .ok (.if_icmp .eq 16, 3) := by decide +kernel
theorem dX6_brings_31 : decode cX6_brings 31 = .ok (.aload_n 0, 1) := by decide +kernel
theorem dX6_brings_32 : decode cX6_brings 32 = .ok (.getfield 24, 3) := by decide +kernel
theorem dX6_brings_35 : decode cX6_brings 35 = .ok (.iload_n 3, 1) := by decide +kernel
theorem dX6_brings_36 : decode cX6_brings 36 = .ok (.invokestatic 66, 3) := by decide +kernel
theorem dX6_brings_39 : decode cX6_brings 39 = .ok (.ifCond .ne 5, 3) := by decide +kernel
theorem dX6_brings_42 : decode cX6_brings 42 = .ok (.iconst 0, 1) := by decide +kernel
theorem dX6_brings_43 : decode cX6_brings 43 = .ok (.ireturn, 1) := by decide +kernel
theorem dX6_brings_44 : decode cX6_brings 44 = .ok (.aload_n 0, 1) := by decide +kernel
theorem dX6_brings_45 : decode cX6_brings 45 = .ok (.getfield 9, 3) := by decide +kernel
theorem dX6_brings_48 : decode cX6_brings 48 = .ok (.iload_n 1, 1) := by decide +kernel
theorem dX6_brings_49 : decode cX6_brings 49 = .ok (.iaload, 1) := by decide +kernel
theorem dX6_brings_50 : decode cX6_brings 50 = .ok (.ifCond .eq 14, 3) := by decide +kernel
theorem dX6_brings_53 : decode cX6_brings 53 = .ok (.aload_n 0, 1) := by decide +kernel
theorem dX6_brings_54 : decode cX6_brings 54 = .ok (.getfield 28, 3) := by decide +kernel
theorem dX6_brings_57 : decode cX6_brings 57 = .ok (.iload_n 3, 1) := by decide +kernel
theorem dX6_brings_58 : decode cX6_brings 58 = .ok (.invokestatic 66, 3) := by decide +kernel
theorem dX6_brings_61 : decode cX6_brings 61 = .ok (.ifCond .ne 7, 3) := by decide +kernel
theorem dX6_brings_64 : decode cX6_brings 64 = .ok (.iconst 1, 1) := by decide +kernel
theorem dX6_brings_65 : decode cX6_brings 65 = .ok (.goto 4, 3) := by decide +kernel
theorem dX6_brings_68 : decode cX6_brings 68 = .ok (.iconst 0, 1) := by decide +kernel
theorem dX6_brings_69 : decode cX6_brings 69 = .ok (.ireturn, 1) := by decide +kernel
theorem dX6_feetOf_0 : decode cX6_feetOf 0 = .ok (.iconst 0, 1) := by decide +kernel
theorem dX6_feetOf_1 : decode cX6_feetOf 1 = .ok (.istore_n 2, 1) := by decide +kernel
theorem dX6_feetOf_2 : decode cX6_feetOf 2 = .ok (.iconst 0, 1) := by decide +kernel
theorem dX6_feetOf_3 : decode cX6_feetOf 3 = .ok (.istore_n 3, 1) := by decide +kernel
theorem dX6_feetOf_4 : decode cX6_feetOf 4 = .ok (.iload_n 3, 1) := by decide +kernel
theorem dX6_feetOf_5 : decode cX6_feetOf 5 = .ok (.aload_n 0, 1) := by decide +kernel
theorem dX6_feetOf_6 : decode cX6_feetOf 6 = .ok (.getfield 45, 3) := by decide +kernel
theorem dX6_feetOf_9 : decode cX6_feetOf 9 = .ok (.if_icmp .ge 37, 3) := by decide +kernel
theorem dX6_feetOf_12 : decode cX6_feetOf 12 = .ok (.iload_n 3, 1) := by decide +kernel
theorem dX6_feetOf_13 : decode cX6_feetOf 13 = .ok (.aload_n 0, 1) := by decide +kernel
theorem dX6_feetOf_14 : decode cX6_feetOf 14 = .ok (.getfield 9, 3) := by decide +kernel
theorem dX6_feetOf_17 : decode cX6_feetOf 17 = .ok (.arraylength, 1) := by decide +kernel
theorem dX6_feetOf_18 : decode cX6_feetOf 18 = .ok (.if_icmp .ge 28, 3) := by decide +kernel
theorem dX6_feetOf_21 : decode cX6_feetOf 21 = .ok (.iload_n 1, 1) := by decide +kernel
theorem dX6_feetOf_22 : decode cX6_feetOf 22 = .ok (.iload_n 3, 1) := by decide +kernel
theorem dX6_feetOf_23 : decode cX6_feetOf 23 = .ok (.ishr, 1) := by decide +kernel
theorem dX6_feetOf_24 : decode cX6_feetOf 24 = .ok (.iconst 1, 1) := by decide +kernel
theorem dX6_feetOf_25 : decode cX6_feetOf 25 = .ok (.iand, 1) := by decide +kernel
theorem dX6_feetOf_26 : decode cX6_feetOf 26 = .ok (.ifCond .eq 14, 3) := by decide +kernel
theorem dX6_feetOf_29 : decode cX6_feetOf 29 = .ok (.iload_n 2, 1) := by decide +kernel
theorem dX6_feetOf_30 : decode cX6_feetOf 30 = .ok (.iconst 2, 1) := by decide +kernel
theorem dX6_feetOf_31 : decode cX6_feetOf 31 = .ok (.aload_n 0, 1) := by decide +kernel
theorem dX6_feetOf_32 : decode cX6_feetOf 32 = .ok (.getfield 9, 3) := by decide +kernel
theorem dX6_feetOf_35 : decode cX6_feetOf 35 = .ok (.iload_n 3, 1) := by decide +kernel
theorem dX6_feetOf_36 : decode cX6_feetOf 36 = .ok (.iaload, 1) := by decide +kernel
theorem dX6_feetOf_37 : decode cX6_feetOf 37 = .ok (.imul, 1) := by decide +kernel
theorem dX6_feetOf_38 : decode cX6_feetOf 38 = .ok (.iadd, 1) := by decide +kernel
theorem dX6_feetOf_39 : decode cX6_feetOf 39 = .ok (.istore_n 2, 1) := by decide +kernel
theorem dX6_feetOf_40 : decode cX6_feetOf 40 = .ok (.iinc 3 1, 3) := by decide +kernel
theorem dX6_feetOf_43 : decode cX6_feetOf 43 = .ok (.goto (-39), 3) := by decide +kernel
theorem dX6_feetOf_46 : decode cX6_feetOf 46 = .ok (.iload_n 2, 1) := by decide +kernel
theorem dX6_feetOf_47 : decode cX6_feetOf 47 = .ok (.ireturn, 1) := by decide +kernel
theorem dX7_init_0 : decode cX7_init 0 = .ok (.aload_n 0, 1) := by decide +kernel
theorem dX7_init_1 : decode cX7_init 1 = .ok (.invokespecial 1, 3) := by decide +kernel
theorem dX7_init_4 : decode cX7_init 4 = .ok (.aload_n 0, 1) := by decide +kernel
theorem dX7_init_5 : decode cX7_init 5 = .ok (.sipush 240, 3) := by decide +kernel
theorem dX7_init_8 : decode cX7_init 8 = .ok (.newarray .char, 2) := by decide +kernel
theorem dX7_init_10 : decode cX7_init 10 = .ok (.putfield 9, 3) := by decide +kernel
theorem dX7_init_13 : decode cX7_init 13 = .ok (.aload_n 0, 1) := by decide +kernel
theorem dX7_init_14 : decode cX7_init 14 = .ok (.iconst (-1), 1) := by decide +kernel
theorem dX7_init_15 : decode cX7_init 15 = .ok (.putfield 13, 3) := by decide +kernel
theorem dX7_init_18 : decode cX7_init 18 = .ok (.aload_n 0, 1) := by decide +kernel
theorem dX7_init_19 : decode cX7_init 19 = .ok (.new 17, 3) := by decide +kernel
theorem dX7_init_22 : decode cX7_init 22 = .ok (.dup, 1) := by decide +kernel
theorem dX7_init_23 : decode cX7_init 23 = .ok (.invokespecial 19, 3) := by decide +kernel
theorem dX7_init_26 : decode cX7_init 26 = .ok (.putfield 20, 3) := by decide +kernel
theorem dX7_init_29 : decode cX7_init 29 = .ok (.aload_n 0, 1) := by decide +kernel
theorem dX7_init_30 : decode cX7_init 30 = .ok (.new 24, 3) := by decide +kernel
theorem dX7_init_33 : decode cX7_init 33 = .ok (.dup, 1) := by decide +kernel
theorem dX7_init_34 : decode cX7_init 34 = .ok (.invokespecial 26, 3) := by decide +kernel
theorem dX7_init_37 : decode cX7_init 37 = .ok (.putfield 27, 3) := by decide +kernel
theorem dX7_init_40 : decode cX7_init 40 = .ok (.aload_n 0, 1) := by decide +kernel
theorem dX7_init_41 : decode cX7_init 41 = .ok (.new 24, 3) := by decide +kernel
theorem dX7_init_44 : decode cX7_init 44 = .ok (.dup, 1) := by decide +kernel
theorem dX7_init_45 : decode cX7_init 45 = .ok (.invokespecial 26, 3) := by decide +kernel
theorem dX7_init_48 : decode cX7_init 48 = .ok (.putfield 31, 3) := by decide +kernel
theorem dX7_init_51 : decode cX7_init 51 = .ok (.aload_n 0, 1) := by decide +kernel
theorem dX7_init_52 : decode cX7_init 52 = .ok (.new 34, 3) := by decide +kernel
theorem dX7_init_55 : decode cX7_init 55 = .ok (.dup, 1) := by decide +kernel
theorem dX7_init_56 : decode cX7_init 56 = .ok (.invokespecial 36, 3) := by decide +kernel
theorem dX7_init_59 : decode cX7_init 59 = .ok (.putfield 37, 3) := by decide +kernel
theorem dX7_init_62 : decode cX7_init 62 = .ok (.aload_n 0, 1) := by decide +kernel
theorem dX7_init_63 : decode cX7_init 63 = .ok (.new 34, 3) := by decide +kernel
theorem dX7_init_66 : decode cX7_init 66 = .ok (.dup, 1) := by decide +kernel
theorem dX7_init_67 : decode cX7_init 67 = .ok (.invokespecial 36, 3) := by decide +kernel
theorem dX7_init_70 : decode cX7_init 70 = .ok (.putfield 41, 3) := by decide +kernel
theorem dX7_init_73 : decode cX7_init 73 = .ok (.aload_n 0, 1) := by decide +kernel
theorem dX7_init_74 : decode cX7_init 74 = .ok (.new 44, 3) := by decide +kernel
theorem dX7_init_77 : decode cX7_init 77 = .ok (.dup, 1) := by decide +kernel
theorem dX7_init_78 : decode cX7_init 78 = .ok (.invokespecial 46, 3) := by decide +kernel
theorem dX7_init_81 : decode cX7_init 81 = .ok (.putfield 47, 3) := by decide +kernel
theorem dX7_init_84 : decode cX7_init 84 = .ok (.aload_n 0, 1) := by decide +kernel
theorem dX7_init_85 : decode cX7_init 85 = .ok (.iconst 2, 1) := by decide +kernel
theorem dX7_init_86 : decode cX7_init 86 = .ok (.anewarray 34, 3) := by decide +kernel
theorem dX7_init_89 : decode cX7_init 89 = .ok (.putfield 51, 3) := by decide +kernel
theorem dX7_init_92 : decode cX7_init 92 = .ok (.aload_n 0, 1) := by decide +kernel
theorem dX7_init_93 : decode cX7_init 93 = .ok (.iconst 2, 1) := by decide +kernel
theorem dX7_init_94 : decode cX7_init 94 = .ok (.newarray .int, 2) := by decide +kernel
theorem dX7_init_96 : decode cX7_init 96 = .ok (.putfield 55, 3) := by decide +kernel
theorem dX7_init_99 : decode cX7_init 99 = .ok (.aload_n 0, 1) := by decide +kernel
theorem dX7_init_100 : decode cX7_init 100 = .ok (.new 59, 3) := by decide +kernel
theorem dX7_init_103 : decode cX7_init 103 = .ok (.dup, 1) := by decide +kernel
theorem dX7_init_104 : decode cX7_init 104 = .ok (.invokespecial 61, 3) := by decide +kernel
theorem dX7_init_107 : decode cX7_init 107 = .ok (.putfield 62, 3) := by decide +kernel
theorem dX7_init_110 : decode cX7_init 110 = .ok (.aload_n 0, 1) := by decide +kernel
theorem dX7_init_111 : decode cX7_init 111 = .ok (.new 66, 3) := by decide +kernel
theorem dX7_init_114 : decode cX7_init 114 = .ok (.dup, 1) := by decide +kernel
theorem dX7_init_115 : decode cX7_init 115 = .ok (.invokespecial 68, 3) := by decide +kernel
theorem dX7_init_118 : decode cX7_init 118 = .ok (.putfield 69, 3) := by decide +kernel
theorem dX7_init_121 : decode cX7_init 121 = .ok (.aload_n 0, 1) := by decide +kernel
theorem dX7_init_122 : decode cX7_init 122 = .ok (.new 73, 3) := by decide +kernel
theorem dX7_init_125 : decode cX7_init 125 = .ok (.dup, 1) := by decide +kernel
theorem dX7_init_126 : decode cX7_init 126 = .ok (.invokespecial 75, 3) := by decide +kernel
theorem dX7_init_129 : decode cX7_init 129 = .ok (.putfield 76, 3) := by decide +kernel
theorem dX7_init_132 : decode cX7_init 132 = .ok (.iconst 0, 1) := by decide +kernel
theorem dX7_init_133 : decode cX7_init 133 = .ok (.istore_n 1, 1) := by decide +kernel
theorem dX7_init_134 : decode cX7_init 134 = .ok (.iload_n 1, 1) := by decide +kernel
theorem dX7_init_135 : decode cX7_init 135 = .ok (.aload_n 0, 1) := by decide +kernel
theorem dX7_init_136 : decode cX7_init 136 = .ok (.getfield 51, 3) := by decide +kernel
theorem dX7_init_139 : decode cX7_init 139 = .ok (.arraylength, 1) := by decide +kernel
theorem dX7_init_140 : decode cX7_init 140 = .ok (.if_icmp .ge 22, 3) := by decide +kernel
theorem dX7_init_143 : decode cX7_init 143 = .ok (.aload_n 0, 1) := by decide +kernel
theorem dX7_init_144 : decode cX7_init 144 = .ok (.getfield 51, 3) := by decide +kernel
theorem dX7_init_147 : decode cX7_init 147 = .ok (.iload_n 1, 1) := by decide +kernel
theorem dX7_init_148 : decode cX7_init 148 = .ok (.new 34, 3) := by decide +kernel
theorem dX7_init_151 : decode cX7_init 151 = .ok (.dup, 1) := by decide +kernel
theorem dX7_init_152 : decode cX7_init 152 = .ok (.invokespecial 36, 3) := by decide +kernel
theorem dX7_init_155 : decode cX7_init 155 = .ok (.aastore, 1) := by decide +kernel
theorem dX7_init_156 : decode cX7_init 156 = .ok (.iinc 1 1, 3) := by decide +kernel
theorem dX7_init_159 : decode cX7_init 159 = .ok (.goto (-25), 3) := by decide +kernel
theorem dX7_init_162 : decode cX7_init 162 = .ok (.return_, 1) := by decide +kernel
theorem dX7_feed_0 : decode cX7_feed 0 = .ok (.iload_n 1, 1) := by decide +kernel
theorem dX7_feed_1 : decode cX7_feed 1 = .ok (.ifCond .lt 10, 3) := by decide +kernel
theorem dX7_feed_4 : decode cX7_feed 4 = .ok (.iload_n 1, 1) := by decide +kernel
theorem dX7_feed_5 : decode cX7_feed 5 = .ok (.sipush 255, 3) := by decide +kernel
theorem dX7_feed_8 : decode cX7_feed 8 = .ok (.if_icmp .le 6, 3) := by decide +kernel
theorem dX7_feed_11 : decode cX7_feed 11 = .ok (.ldc 80, 2) := by decide +kernel
theorem dX7_feed_13 : decode cX7_feed 13 = .ok (.ireturn, 1) := by decide +kernel
theorem dX7_feed_14 : decode cX7_feed 14 = .ok (.aload_n 0, 1) := by decide +kernel
theorem dX7_feed_15 : decode cX7_feed 15 = .ok (.getfield 81, 3) := by decide +kernel
theorem dX7_feed_18 : decode cX7_feed 18 = .ok (.ifCond .lt 15, 3) := by decide +kernel
theorem dX7_feed_21 : decode cX7_feed 21 = .ok (.aload_n 0, 1) := by decide +kernel
theorem dX7_feed_22 : decode cX7_feed 22 = .ok (.getfield 81, 3) := by decide +kernel
theorem dX7_feed_25 : decode cX7_feed 25 = .ok (.aload_n 0, 1) := by decide +kernel
theorem dX7_feed_26 : decode cX7_feed 26 = .ok (.getfield 9, 3) := by decide +kernel
theorem dX7_feed_29 : decode cX7_feed 29 = .ok (.arraylength, 1) := by decide +kernel
theorem dX7_feed_30 : decode cX7_feed 30 = .ok (.if_icmp .lt 6, 3) := by decide +kernel
theorem dX7_feed_33 : decode cX7_feed 33 = .ok (.ldc 84, 2) := by decide +kernel
theorem dX7_feed_35 : decode cX7_feed 35 = .ok (.ireturn, 1) := by decide +kernel
theorem dX7_feed_36 : decode cX7_feed 36 = .ok (.aload_n 0, 1) := by decide +kernel
theorem dX7_feed_37 : decode cX7_feed 37 = .ok (.getfield 9, 3) := by decide +kernel
theorem dX7_feed_40 : decode cX7_feed 40 = .ok (.aload_n 0, 1) := by decide +kernel
theorem dX7_feed_41 : decode cX7_feed 41 = .ok (.getfield 81, 3) := by decide +kernel
theorem dX7_feed_44 : decode cX7_feed 44 = .ok (.iload_n 1, 1) := by decide +kernel
theorem dX7_feed_45 : decode cX7_feed 45 = .ok (.i2c, 1) := by decide +kernel
theorem dX7_feed_46 : decode cX7_feed 46 = .ok (.castore, 1) := by decide +kernel
theorem dX7_feed_47 : decode cX7_feed 47 = .ok (.aload_n 0, 1) := by decide +kernel
theorem dX7_feed_48 : decode cX7_feed 48 = .ok (.dup, 1) := by decide +kernel
theorem dX7_feed_49 : decode cX7_feed 49 = .ok (.getfield 81, 3) := by decide +kernel
theorem dX7_feed_52 : decode cX7_feed 52 = .ok (.iconst 1, 1) := by decide +kernel
theorem dX7_feed_53 : decode cX7_feed 53 = .ok (.iadd, 1) := by decide +kernel
theorem dX7_feed_54 : decode cX7_feed 54 = .ok (.putfield 81, 3) := by decide +kernel
theorem dX7_feed_57 : decode cX7_feed 57 = .ok (.aload_n 0, 1) := by decide +kernel
theorem dX7_feed_58 : decode cX7_feed 58 = .ok (.getfield 81, 3) := by decide +kernel
theorem dX7_feed_61 : decode cX7_feed 61 = .ok (.ireturn, 1) := by decide +kernel
theorem dX7_rock_0 : decode cX7_rock 0 = .ok (.aload_n 0, 1) := by decide +kernel
theorem dX7_rock_1 : decode cX7_rock 1 = .ok (.getfield 20, 3) := by decide +kernel
theorem dX7_rock_4 : decode cX7_rock 4 = .ok (.aload_n 0, 1) := by decide +kernel
theorem dX7_rock_5 : decode cX7_rock 5 = .ok (.getfield 9, 3) := by decide +kernel
theorem dX7_rock_8 : decode cX7_rock 8 = .ok (.aload_n 0, 1) := by decide +kernel
theorem dX7_rock_9 : decode cX7_rock 9 = .ok (.getfield 81, 3) := by decide +kernel
theorem dX7_rock_12 : decode cX7_rock 12 = .ok (.aload_n 0, 1) := by decide +kernel
theorem dX7_rock_13 : decode cX7_rock 13 = .ok (.getfield 31, 3) := by decide +kernel
theorem dX7_rock_16 : decode cX7_rock 16 = .ok (.invokevirtual 85, 3) := by decide +kernel
theorem dX7_rock_19 : decode cX7_rock 19 = .ok (.istore_n 1, 1) := by decide +kernel
theorem dX7_rock_20 : decode cX7_rock 20 = .ok (.aload_n 0, 1) := by decide +kernel
theorem dX7_rock_21 : decode cX7_rock 21 = .ok (.iconst 0, 1) := by decide +kernel
theorem dX7_rock_22 : decode cX7_rock 22 = .ok (.putfield 81, 3) := by decide +kernel
theorem dX7_rock_25 : decode cX7_rock 25 = .ok (.iload_n 1, 1) := by decide +kernel
theorem dX7_rock_26 : decode cX7_rock 26 = .ok (.ifCond .eq 19, 3) := by decide +kernel
theorem dX7_rock_29 : decode cX7_rock 29 = .ok (.aload_n 0, 1) := by decide +kernel
theorem dX7_rock_30 : decode cX7_rock 30 = .ok (.aload_n 0, 1) := by decide +kernel
theorem dX7_rock_31 : decode cX7_rock 31 = .ok (.getfield 20, 3) := by decide +kernel
theorem dX7_rock_34 : decode cX7_rock 34 = .ok (.getfield 89, 3) := by decide +kernel
theorem dX7_rock_37 : decode cX7_rock 37 = .ok (.putfield 13, 3) := by decide +kernel
theorem dX7_rock_40 : decode cX7_rock 40 = .ok (.bipush (-10), 2) := by decide +kernel
theorem dX7_rock_42 : decode cX7_rock 42 = .ok (.iload_n 1, 1) := by decide +kernel
theorem dX7_rock_43 : decode cX7_rock 43 = .ok (.isub, 1) := by decide +kernel
theorem dX7_rock_44 : decode cX7_rock 44 = .ok (.ireturn, 1) := by decide +kernel
theorem dX7_rock_45 : decode cX7_rock 45 = .ok (.aload_n 0, 1) := by decide +kernel
theorem dX7_rock_46 : decode cX7_rock 46 = .ok (.iconst (-1), 1) := by decide +kernel
theorem dX7_rock_47 : decode cX7_rock 47 = .ok (.putfield 13, 3) := by decide +kernel
theorem dX7_rock_50 : decode cX7_rock 50 = .ok (.aload_n 0, 1) := by decide +kernel
theorem dX7_rock_51 : decode cX7_rock 51 = .ok (.getfield 27, 3) := by decide +kernel
theorem dX7_rock_54 : decode cX7_rock 54 = .ok (.astore_n 2, 1) := by decide +kernel
theorem dX7_rock_55 : decode cX7_rock 55 = .ok (.aload_n 0, 1) := by decide +kernel
theorem dX7_rock_56 : decode cX7_rock 56 = .ok (.aload_n 0, 1) := by decide +kernel
theorem dX7_rock_57 : decode cX7_rock 57 = .ok (.getfield 31, 3) := by decide +kernel
theorem dX7_rock_60 : decode cX7_rock 60 = .ok (.putfield 27, 3) := by decide +kernel
theorem dX7_rock_63 : decode cX7_rock 63 = .ok (.aload_n 0, 1) := by decide +kernel
theorem dX7_rock_64 : decode cX7_rock 64 = .ok (.aload_n 2, 1) := by decide +kernel
theorem dX7_rock_65 : decode cX7_rock 65 = .ok (.putfield 31, 3) := by decide +kernel
theorem dX7_rock_68 : decode cX7_rock 68 = .ok (.aload_n 0, 1) := by decide +kernel
theorem dX7_rock_69 : decode cX7_rock 69 = .ok (.getfield 37, 3) := by decide +kernel
theorem dX7_rock_72 : decode cX7_rock 72 = .ok (.aload_n 0, 1) := by decide +kernel
theorem dX7_rock_73 : decode cX7_rock 73 = .ok (.getfield 27, 3) := by decide +kernel
theorem dX7_rock_76 : decode cX7_rock 76 = .ok (.invokevirtual 92, 3) := by decide +kernel
theorem dX7_rock_79 : decode cX7_rock 79 = .ok (.aload_n 0, 1) := by decide +kernel
theorem dX7_rock_80 : decode cX7_rock 80 = .ok (.getfield 62, 3) := by decide +kernel
theorem dX7_rock_83 : decode cX7_rock 83 = .ok (.invokevirtual 96, 3) := by decide +kernel
theorem dX7_rock_86 : decode cX7_rock 86 = .ok (.aload_n 0, 1) := by decide +kernel
theorem dX7_rock_87 : decode cX7_rock 87 = .ok (.getfield 47, 3) := by decide +kernel
theorem dX7_rock_90 : decode cX7_rock 90 = .ok (.invokevirtual 99, 3) := by decide +kernel
theorem dX7_rock_93 : decode cX7_rock 93 = .ok (.aload_n 0, 1) := by decide +kernel
theorem dX7_rock_94 : decode cX7_rock 94 = .ok (.iconst 0, 1) := by decide +kernel
theorem dX7_rock_95 : decode cX7_rock 95 = .ok (.putfield 100, 3) := by decide +kernel
theorem dX7_rock_98 : decode cX7_rock 98 = .ok (.aload_n 0, 1) := by decide +kernel
theorem dX7_rock_99 : decode cX7_rock 99 = .ok (.getfield 27, 3) := by decide +kernel
theorem dX7_rock_102 : decode cX7_rock 102 = .ok (.getfield 103, 3) := by decide +kernel
theorem dX7_rock_105 : decode cX7_rock 105 = .ok (.ireturn, 1) := by decide +kernel
theorem dX7_fault_0 : decode cX7_fault 0 = .ok (.aload_n 0, 1) := by decide +kernel
theorem dX7_fault_1 : decode cX7_fault 1 = .ok (.getfield 13, 3) := by decide +kernel
theorem dX7_fault_4 : decode cX7_fault 4 = .ok (.ireturn, 1) := by decide +kernel
theorem dX7_told_0 : decode cX7_told 0 = .ok (.iload_n 1, 1) := by decide +kernel
theorem dX7_told_1 : decode cX7_told 1 = .ok (.tableswitch 248 0 18 #[91, 99, 107, 115, 123, 131, 139, 144, 152, 160, 176, 184, 192, 200, 208, 216, 224, 232, 240], 91) := by decide +kernel
theorem dX7_told_92 : decode cX7_told 92 = .ok (.aload_n 0, 1) := by decide +kernel
theorem dX7_told_93 : decode cX7_told 93 = .ok (.getfield 27, 3) := by decide +kernel
theorem dX7_told_96 : decode cX7_told 96 = .ok (.getfield 106, 3) := by decide +kernel
theorem dX7_told_99 : decode cX7_told 99 = .ok (.ireturn, 1) := by decide +kernel
theorem dX7_told_100 : decode cX7_told 100 = .ok (.aload_n 0, 1) := by decide +kernel
theorem dX7_told_101 : decode cX7_told 101 = .ok (.getfield 27, 3) := by decide +kernel
theorem dX7_told_104 : decode cX7_told 104 = .ok (.getfield 109, 3) := by decide +kernel
theorem dX7_told_107 : decode cX7_told 107 = .ok (.ireturn, 1) := by decide +kernel
theorem dX7_told_108 : decode cX7_told 108 = .ok (.aload_n 0, 1) := by decide +kernel
theorem dX7_told_109 : decode cX7_told 109 = .ok (.getfield 27, 3) := by decide +kernel
theorem dX7_told_112 : decode cX7_told 112 = .ok (.getfield 112, 3) := by decide +kernel
theorem dX7_told_115 : decode cX7_told 115 = .ok (.ireturn, 1) := by decide +kernel
theorem dX7_told_116 : decode cX7_told 116 = .ok (.aload_n 0, 1) := by decide +kernel
theorem dX7_told_117 : decode cX7_told 117 = .ok (.getfield 27, 3) := by decide +kernel
theorem dX7_told_120 : decode cX7_told 120 = .ok (.getfield 103, 3) := by decide +kernel
theorem dX7_told_123 : decode cX7_told 123 = .ok (.ireturn, 1) := by decide +kernel
theorem dX7_told_124 : decode cX7_told 124 = .ok (.aload_n 0, 1) := by decide +kernel
theorem dX7_told_125 : decode cX7_told 125 = .ok (.getfield 27, 3) := by decide +kernel
theorem dX7_told_128 : decode cX7_told 128 = .ok (.getfield 115, 3) := by decide +kernel
theorem dX7_told_131 : decode cX7_told 131 = .ok (.ireturn, 1) := by decide +kernel
theorem dX7_told_132 : decode cX7_told 132 = .ok (.aload_n 0, 1) := by decide +kernel
theorem dX7_told_133 : decode cX7_told 133 = .ok (.getfield 27, 3) := by decide +kernel
theorem dX7_told_136 : decode cX7_told 136 = .ok (.getfield 118, 3) := by decide +kernel
theorem dX7_told_139 : decode cX7_told 139 = .ok (.ireturn, 1) := by decide +kernel
theorem dX7_told_140 : decode cX7_told 140 = .ok (.aload_n 0, 1) := by decide +kernel
theorem dX7_told_141 : decode cX7_told 141 = .ok (.getfield 81, 3) := by decide +kernel
theorem dX7_told_144 : decode cX7_told 144 = .ok (.ireturn, 1) := by decide +kernel
theorem dX7_told_145 : decode cX7_told 145 = .ok (.aload_n 0, 1) := by decide +kernel
theorem dX7_told_146 : decode cX7_told 146 = .ok (.getfield 37, 3) := by decide +kernel
theorem dX7_told_149 : decode cX7_told 149 = .ok (.getfield 121, 3) := by decide +kernel
theorem dX7_told_152 : decode cX7_told 152 = .ok (.ireturn, 1) := by decide +kernel
theorem dX7_told_153 : decode cX7_told 153 = .ok (.aload_n 0, 1) := by decide +kernel
theorem dX7_told_154 : decode cX7_told 154 = .ok (.getfield 37, 3) := by decide +kernel
theorem dX7_told_157 : decode cX7_told 157 = .ok (.getfield 124, 3) := by decide +kernel
theorem dX7_told_160 : decode cX7_told 160 = .ok (.ireturn, 1) := by decide +kernel
theorem dX7_told_161 : decode cX7_told 161 = .ok (.aload_n 0, 1) := by decide +kernel
theorem dX7_told_162 : decode cX7_told 162 = .ok (.getfield 37, 3) := by decide +kernel
theorem dX7_told_165 : decode cX7_told 165 = .ok (.getfield 127, 3) := by decide +kernel
theorem dX7_told_168 : decode cX7_told 168 = .ok (.ifCond .eq 7, 3) := by decide +kernel
theorem dX7_told_171 : decode cX7_told 171 = .ok (.iconst 1, 1) := by decide +kernel
theorem dX7_told_172 : decode cX7_told 172 = .ok (.goto 4, 3) := by decide +kernel
theorem dX7_told_175 : decode cX7_told 175 = .ok (.iconst 0, 1) := by decide +kernel
theorem dX7_told_176 : decode cX7_told 176 = .ok (.ireturn, 1) := by decide +kernel
theorem dX7_told_177 : decode cX7_told 177 = .ok (.aload_n 0, 1) := by decide +kernel
theorem dX7_told_178 : decode cX7_told 178 = .ok (.getfield 37, 3) := by decide +kernel
theorem dX7_told_181 : decode cX7_told 181 = .ok (.getfield 131, 3) := by decide +kernel
theorem dX7_told_184 : decode cX7_told 184 = .ok (.ireturn, 1) := by decide +kernel
theorem dX7_told_185 : decode cX7_told 185 = .ok (.aload_n 0, 1) := by decide +kernel
theorem dX7_told_186 : decode cX7_told 186 = .ok (.getfield 37, 3) := by decide +kernel
theorem dX7_told_189 : decode cX7_told 189 = .ok (.getfield 134, 3) := by decide +kernel
theorem dX7_told_192 : decode cX7_told 192 = .ok (.ireturn, 1) := by decide +kernel
theorem dX7_told_193 : decode cX7_told 193 = .ok (.aload_n 0, 1) := by decide +kernel
theorem dX7_told_194 : decode cX7_told 194 = .ok (.getfield 37, 3) := by decide +kernel
theorem dX7_told_197 : decode cX7_told 197 = .ok (.getfield 137, 3) := by decide +kernel
theorem dX7_told_200 : decode cX7_told 200 = .ok (.ireturn, 1) := by decide +kernel
theorem dX7_told_201 : decode cX7_told 201 = .ok (.aload_n 0, 1) := by decide +kernel
theorem dX7_told_202 : decode cX7_told 202 = .ok (.getfield 37, 3) := by decide +kernel
theorem dX7_told_205 : decode cX7_told 205 = .ok (.getfield 140, 3) := by decide +kernel
theorem dX7_told_208 : decode cX7_told 208 = .ok (.ireturn, 1) := by decide +kernel
theorem dX7_told_209 : decode cX7_told 209 = .ok (.aload_n 0, 1) := by decide +kernel
theorem dX7_told_210 : decode cX7_told 210 = .ok (.getfield 37, 3) := by decide +kernel
theorem dX7_told_213 : decode cX7_told 213 = .ok (.getfield 143, 3) := by decide +kernel
theorem dX7_told_216 : decode cX7_told 216 = .ok (.ireturn, 1) := by decide +kernel
theorem dX7_told_217 : decode cX7_told 217 = .ok (.aload_n 0, 1) := by decide +kernel
theorem dX7_told_218 : decode cX7_told 218 = .ok (.getfield 37, 3) := by decide +kernel
theorem dX7_told_221 : decode cX7_told 221 = .ok (.getfield 146, 3) := by decide +kernel
theorem dX7_told_224 : decode cX7_told 224 = .ok (.ireturn, 1) := by decide +kernel
theorem dX7_told_225 : decode cX7_told 225 = .ok (.aload_n 0, 1) := by decide +kernel
theorem dX7_told_226 : decode cX7_told 226 = .ok (.getfield 62, 3) := by decide +kernel
theorem dX7_told_229 : decode cX7_told 229 = .ok (.getfield 149, 3) := by decide +kernel
theorem dX7_told_232 : decode cX7_told 232 = .ok (.ireturn, 1) := by decide +kernel
theorem dX7_told_233 : decode cX7_told 233 = .ok (.aload_n 0, 1) := by decide +kernel
theorem dX7_told_234 : decode cX7_told 234 = .ok (.getfield 62, 3) := by decide +kernel
theorem dX7_told_237 : decode cX7_told 237 = .ok (.getfield 152, 3) := by decide +kernel
theorem dX7_told_240 : decode cX7_told 240 = .ok (.ireturn, 1) := by decide +kernel
theorem dX7_told_241 : decode cX7_told 241 = .ok (.aload_n 0, 1) := by decide +kernel
theorem dX7_told_242 : decode cX7_told 242 = .ok (.getfield 47, 3) := by decide +kernel
theorem dX7_told_245 : decode cX7_told 245 = .ok (.getfield 155, 3) := by decide +kernel
theorem dX7_told_248 : decode cX7_told 248 = .ok (.ireturn, 1) := by decide +kernel
theorem dX7_told_249 : decode cX7_told 249 = .ok (.ldc 80, 2) := by decide +kernel
theorem dX7_told_251 : decode cX7_told 251 = .ok (.ireturn, 1) := by decide +kernel
theorem dX7_village_0 : decode cX7_village 0 = .ok (.aload_n 0, 1) := by decide +kernel
theorem dX7_village_1 : decode cX7_village 1 = .ok (.getfield 27, 3) := by decide +kernel
theorem dX7_village_4 : decode cX7_village 4 = .ok (.iload_n 1, 1) := by decide +kernel
theorem dX7_village_5 : decode cX7_village 5 = .ok (.invokevirtual 158, 3) := by decide +kernel
theorem dX7_village_8 : decode cX7_village 8 = .ok (.ifCond .ne 6, 3) := by decide +kernel
theorem dX7_village_11 : decode cX7_village 11 = .ok (.ldc 162, 2) := by decide +kernel
theorem dX7_village_13 : decode cX7_village 13 = .ok (.ireturn, 1) := by decide +kernel
theorem dX7_village_14 : decode cX7_village 14 = .ok (.iload_n 2, 1) := by decide +kernel
theorem dX7_village_15 : decode cX7_village 15 = .ok (.tableswitch 104 0 5 #[37, 47, 57, 67, 77, 94], 37) := by decide +kernel
theorem dX7_village_52 : decode cX7_village 52 = .ok (.aload_n 0, 1) := by decide +kernel
theorem dX7_village_53 : decode cX7_village 53 = .ok (.getfield 27, 3) := by decide +kernel
theorem dX7_village_56 : decode cX7_village 56 = .ok (.getfield 163, 3) := by decide +kernel
theorem dX7_village_59 : decode cX7_village 59 = .ok (.iload_n 1, 1) := by decide +kernel
theorem dX7_village_60 : decode cX7_village 60 = .ok (.iaload, 1) := by decide +kernel
theorem dX7_village_61 : decode cX7_village 61 = .ok (.ireturn, 1) := by decide +kernel
theorem dX7_village_62 : decode cX7_village 62 = .ok (.aload_n 0, 1) := by decide +kernel
theorem dX7_village_63 : decode cX7_village 63 = .ok (.getfield 27, 3) := by decide +kernel
theorem dX7_village_66 : decode cX7_village 66 = .ok (.getfield 166, 3) := by decide +kernel
theorem dX7_village_69 : decode cX7_village 69 = .ok (.iload_n 1, 1) := by decide +kernel
theorem dX7_village_70 : decode cX7_village 70 = .ok (.iaload, 1) := by decide +kernel
theorem dX7_village_71 : decode cX7_village 71 = .ok (.ireturn, 1) := by decide +kernel
theorem dX7_village_72 : decode cX7_village 72 = .ok (.aload_n 0, 1) := by decide +kernel
theorem dX7_village_73 : decode cX7_village 73 = .ok (.getfield 37, 3) := by decide +kernel
theorem dX7_village_76 : decode cX7_village 76 = .ok (.getfield 169, 3) := by decide +kernel
theorem dX7_village_79 : decode cX7_village 79 = .ok (.iload_n 1, 1) := by decide +kernel
theorem dX7_village_80 : decode cX7_village 80 = .ok (.iaload, 1) := by decide +kernel
theorem dX7_village_81 : decode cX7_village 81 = .ok (.ireturn, 1) := by decide +kernel
theorem dX7_village_82 : decode cX7_village 82 = .ok (.aload_n 0, 1) := by decide +kernel
theorem dX7_village_83 : decode cX7_village 83 = .ok (.getfield 27, 3) := by decide +kernel
theorem dX7_village_86 : decode cX7_village 86 = .ok (.getfield 172, 3) := by decide +kernel
theorem dX7_village_89 : decode cX7_village 89 = .ok (.iload_n 1, 1) := by decide +kernel
theorem dX7_village_90 : decode cX7_village 90 = .ok (.iaload, 1) := by decide +kernel
theorem dX7_village_91 : decode cX7_village 91 = .ok (.ireturn, 1) := by decide +kernel
theorem dX7_village_92 : decode cX7_village 92 = .ok (.aload_n 0, 1) := by decide +kernel
theorem dX7_village_93 : decode cX7_village 93 = .ok (.getfield 37, 3) := by decide +kernel
theorem dX7_village_96 : decode cX7_village 96 = .ok (.iload_n 1, 1) := by decide +kernel
theorem dX7_village_97 : decode cX7_village 97 = .ok (.invokevirtual 175, 3) := by decide +kernel
theorem dX7_village_100 : decode cX7_village 100 = .ok (.ifCond .eq 7, 3) := by decide +kernel
theorem dX7_village_103 : decode cX7_village 103 = .ok (.iconst 1, 1) := by decide +kernel
theorem dX7_village_104 : decode cX7_village 104 = .ok (.goto 4, 3) := by decide +kernel
theorem dX7_village_107 : decode cX7_village 107 = .ok (.iconst 0, 1) := by decide +kernel
theorem dX7_village_108 : decode cX7_village 108 = .ok (.ireturn, 1) := by decide +kernel
theorem dX7_village_109 : decode cX7_village 109 = .ok (.aload_n 0, 1) := by decide +kernel
theorem dX7_village_110 : decode cX7_village 110 = .ok (.getfield 37, 3) := by decide +kernel
theorem dX7_village_113 : decode cX7_village 113 = .ok (.getfield 178, 3) := by decide +kernel
theorem dX7_village_116 : decode cX7_village 116 = .ok (.iload_n 1, 1) := by decide +kernel
theorem dX7_village_117 : decode cX7_village 117 = .ok (.iaload, 1) := by decide +kernel
theorem dX7_village_118 : decode cX7_village 118 = .ok (.ireturn, 1) := by decide +kernel
theorem dX7_village_119 : decode cX7_village 119 = .ok (.ldc 80, 2) := by decide +kernel
theorem dX7_village_121 : decode cX7_village 121 = .ok (.ireturn, 1) := by decide +kernel
theorem dX7_comes_0 : decode cX7_comes 0 = .ok (.iload_n 1, 1) := by decide +kernel
theorem dX7_comes_1 : decode cX7_comes 1 = .ok (.ifCond .lt 10, 3) := by decide +kernel
theorem dX7_comes_4 : decode cX7_comes 4 = .ok (.iload_n 1, 1) := by decide +kernel
theorem dX7_comes_5 : decode cX7_comes 5 = .ok (.sipush 9999, 3) := by decide +kernel
theorem dX7_comes_8 : decode cX7_comes 8 = .ok (.if_icmp .le 6, 3) := by decide +kernel
theorem dX7_comes_11 : decode cX7_comes 11 = .ok (.ldc 80, 2) := by decide +kernel
theorem dX7_comes_13 : decode cX7_comes 13 = .ok (.ireturn, 1) := by decide +kernel
theorem dX7_comes_14 : decode cX7_comes 14 = .ok (.aload_n 0, 1) := by decide +kernel
theorem dX7_comes_15 : decode cX7_comes 15 = .ok (.getfield 37, 3) := by decide +kernel
theorem dX7_comes_18 : decode cX7_comes 18 = .ok (.aload_n 0, 1) := by decide +kernel
theorem dX7_comes_19 : decode cX7_comes 19 = .ok (.getfield 27, 3) := by decide +kernel
theorem dX7_comes_22 : decode cX7_comes 22 = .ok (.iload_n 1, 1) := by decide +kernel
theorem dX7_comes_23 : decode cX7_comes 23 = .ok (.invokevirtual 181, 3) := by decide +kernel
theorem dX7_comes_26 : decode cX7_comes 26 = .ok (.ireturn, 1) := by decide +kernel
theorem dX7_blessed_0 : decode cX7_blessed 0 = .ok (.aload_n 0, 1) := by decide +kernel
theorem dX7_blessed_1 : decode cX7_blessed 1 = .ok (.getfield 37, 3) := by decide +kernel
theorem dX7_blessed_4 : decode cX7_blessed 4 = .ok (.iload_n 1, 1) := by decide +kernel
theorem dX7_blessed_5 : decode cX7_blessed 5 = .ok (.invokevirtual 185, 3) := by decide +kernel
theorem dX7_blessed_8 : decode cX7_blessed 8 = .ok (.ireturn, 1) := by decide +kernel
theorem dX7_day_0 : decode cX7_day 0 = .ok (.aload_n 0, 1) := by decide +kernel
theorem dX7_day_1 : decode cX7_day 1 = .ok (.iload_n 1, 1) := by decide +kernel
theorem dX7_day_2 : decode cX7_day 2 = .ok (.invokevirtual 189, 3) := by decide +kernel
theorem dX7_day_5 : decode cX7_day 5 = .ok (.istore_n 2, 1) := by decide +kernel
theorem dX7_day_6 : decode cX7_day 6 = .ok (.iload_n 2, 1) := by decide +kernel
theorem dX7_day_7 : decode cX7_day 7 = .ok (.ifCond .eq 5, 3) := by decide +kernel
theorem dX7_day_10 : decode cX7_day 10 = .ok (.iload_n 2, 1) := by decide +kernel
theorem dX7_day_11 : decode cX7_day 11 = .ok (.ireturn, 1) := by decide +kernel
theorem dX7_day_12 : decode cX7_day 12 = .ok (.aload_n 0, 1) := by decide +kernel
theorem dX7_day_13 : decode cX7_day 13 = .ok (.getfield 47, 3) := by decide +kernel
theorem dX7_day_16 : decode cX7_day 16 = .ok (.aload_n 0, 1) := by decide +kernel
theorem dX7_day_17 : decode cX7_day 17 = .ok (.getfield 37, 3) := by decide +kernel
theorem dX7_day_20 : decode cX7_day 20 = .ok (.invokevirtual 192, 3) := by decide +kernel
theorem dX7_day_23 : decode cX7_day 23 = .ok (.iconst 0, 1) := by decide +kernel
theorem dX7_day_24 : decode cX7_day 24 = .ok (.istore_n 3, 1) := by decide +kernel
theorem dX7_day_25 : decode cX7_day 25 = .ok (.iload_n 3, 1) := by decide +kernel
theorem dX7_day_26 : decode cX7_day 26 = .ok (.iload_n 1, 1) := by decide +kernel
theorem dX7_day_27 : decode cX7_day 27 = .ok (.if_icmp .ge 37, 3) := by decide +kernel
theorem dX7_day_30 : decode cX7_day 30 = .ok (.aload_n 0, 1) := by decide +kernel
theorem dX7_day_31 : decode cX7_day 31 = .ok (.getfield 37, 3) := by decide +kernel
theorem dX7_day_34 : decode cX7_day 34 = .ok (.getfield 127, 3) := by decide +kernel
theorem dX7_day_37 : decode cX7_day 37 = .ok (.ifCond .ne 27, 3) := by decide +kernel
theorem dX7_day_40 : decode cX7_day 40 = .ok (.aload_n 0, 1) := by decide +kernel
theorem dX7_day_41 : decode cX7_day 41 = .ok (.getfield 37, 3) := by decide +kernel
theorem dX7_day_44 : decode cX7_day 44 = .ok (.aload_n 0, 1) := by decide +kernel
theorem dX7_day_45 : decode cX7_day 45 = .ok (.getfield 27, 3) := by decide +kernel
theorem dX7_day_48 : decode cX7_day 48 = .ok (.aload_n 0, 1) := by decide +kernel
theorem dX7_day_49 : decode cX7_day 49 = .ok (.getfield 27, 3) := by decide +kernel
theorem dX7_day_52 : decode cX7_day 52 = .ok (.getfield 112, 3) := by decide +kernel
theorem dX7_day_55 : decode cX7_day 55 = .ok (.invokevirtual 196, 3) := by decide +kernel
theorem dX7_day_58 : decode cX7_day 58 = .ok (.iinc 3 1, 3) := by decide +kernel
theorem dX7_day_61 : decode cX7_day 61 = .ok (.goto (-36), 3) := by decide +kernel
theorem dX7_day_64 : decode cX7_day 64 = .ok (.aload_n 0, 1) := by decide +kernel
theorem dX7_day_65 : decode cX7_day 65 = .ok (.getfield 37, 3) := by decide +kernel
theorem dX7_day_68 : decode cX7_day 68 = .ok (.getfield 121, 3) := by decide +kernel
theorem dX7_day_71 : decode cX7_day 71 = .ok (.ireturn, 1) := by decide +kernel
theorem dX7_calendar_0 : decode cX7_calendar 0 = .ok (.aload_n 0, 1) := by decide +kernel
theorem dX7_calendar_1 : decode cX7_calendar 1 = .ok (.getfield 27, 3) := by decide +kernel
theorem dX7_calendar_4 : decode cX7_calendar 4 = .ok (.iload_n 1, 1) := by decide +kernel
theorem dX7_calendar_5 : decode cX7_calendar 5 = .ok (.invokevirtual 158, 3) := by decide +kernel
theorem dX7_calendar_8 : decode cX7_calendar 8 = .ok (.ifCond .ne 6, 3) := by decide +kernel
theorem dX7_calendar_11 : decode cX7_calendar 11 = .ok (.ldc 162, 2) := by decide +kernel
theorem dX7_calendar_13 : decode cX7_calendar 13 = .ok (.ireturn, 1) := by decide +kernel
theorem dX7_calendar_14 : decode cX7_calendar 14 = .ok (.iload_n 2, 1) := by decide +kernel
theorem dX7_calendar_15 : decode cX7_calendar 15 = .ok (.iconst (-1), 1) := by decide +kernel
theorem dX7_calendar_16 : decode cX7_calendar 16 = .ok (.if_icmp .lt 16, 3) := by decide +kernel
theorem dX7_calendar_19 : decode cX7_calendar 19 = .ok (.iload_n 2, 1) := by decide +kernel
theorem dX7_calendar_20 : decode cX7_calendar 20 = .ok (.aload_n 0, 1) := by decide +kernel
theorem dX7_calendar_21 : decode cX7_calendar 21 = .ok (.getfield 27, 3) := by decide +kernel
theorem dX7_calendar_24 : decode cX7_calendar 24 = .ok (.getfield 166, 3) := by decide +kernel
theorem dX7_calendar_27 : decode cX7_calendar 27 = .ok (.iload_n 1, 1) := by decide +kernel
theorem dX7_calendar_28 : decode cX7_calendar 28 = .ok (.iaload, 1) := by decide +kernel
theorem dX7_calendar_29 : decode cX7_calendar 29 = .ok (.if_icmp .lt 6, 3) := by decide +kernel
theorem dX7_calendar_32 : decode cX7_calendar 32 = .ok (.ldc 80, 2) := by decide +kernel
theorem dX7_calendar_34 : decode cX7_calendar 34 = .ok (.ireturn, 1) := by decide +kernel
theorem dX7_calendar_35 : decode cX7_calendar 35 = .ok (.aload_n 0, 1) := by decide +kernel
theorem dX7_calendar_36 : decode cX7_calendar 36 = .ok (.getfield 47, 3) := by decide +kernel
theorem dX7_calendar_39 : decode cX7_calendar 39 = .ok (.aload_n 0, 1) := by decide +kernel
theorem dX7_calendar_40 : decode cX7_calendar 40 = .ok (.getfield 37, 3) := by decide +kernel
theorem dX7_calendar_43 : decode cX7_calendar 43 = .ok (.invokevirtual 192, 3) := by decide +kernel
theorem dX7_calendar_46 : decode cX7_calendar 46 = .ok (.aload_n 0, 1) := by decide +kernel
theorem dX7_calendar_47 : decode cX7_calendar 47 = .ok (.getfield 37, 3) := by decide +kernel
theorem dX7_calendar_50 : decode cX7_calendar 50 = .ok (.iload_n 1, 1) := by decide +kernel
theorem dX7_calendar_51 : decode cX7_calendar 51 = .ok (.invokevirtual 175, 3) := by decide +kernel
theorem dX7_calendar_54 : decode cX7_calendar 54 = .ok (.ifCond .eq 7, 3) := by decide +kernel
theorem dX7_calendar_57 : decode cX7_calendar 57 = .ok (.iconst (-1), 1) := by decide +kernel
theorem dX7_calendar_58 : decode cX7_calendar 58 = .ok (.goto 12, 3) := by decide +kernel
theorem dX7_calendar_61 : decode cX7_calendar 61 = .ok (.aload_n 0, 1) := by decide +kernel
theorem dX7_calendar_62 : decode cX7_calendar 62 = .ok (.getfield 37, 3) := by decide +kernel
theorem dX7_calendar_65 : decode cX7_calendar 65 = .ok (.getfield 169, 3) := by decide +kernel
theorem dX7_calendar_68 : decode cX7_calendar 68 = .ok (.iload_n 1, 1) := by decide +kernel
theorem dX7_calendar_69 : decode cX7_calendar 69 = .ok (.iaload, 1) := by decide +kernel
theorem dX7_calendar_70 : decode cX7_calendar 70 = .ok (.istore_n 3, 1) := by decide +kernel
theorem dX7_calendar_71 : decode cX7_calendar 71 = .ok (.iload_n 2, 1) := by decide +kernel
theorem dX7_calendar_72 : decode cX7_calendar 72 = .ok (.iconst (-1), 1) := by decide +kernel
theorem dX7_calendar_73 : decode cX7_calendar 73 = .ok (.if_icmp .ne 21, 3) := by decide +kernel
theorem dX7_calendar_76 : decode cX7_calendar 76 = .ok (.aload_n 0, 1) := by decide +kernel
theorem dX7_calendar_77 : decode cX7_calendar 77 = .ok (.getfield 37, 3) := by decide +kernel
theorem dX7_calendar_80 : decode cX7_calendar 80 = .ok (.dup, 1) := by decide +kernel
theorem dX7_calendar_81 : decode cX7_calendar 81 = .ok (.getfield 200, 3) := by decide +kernel
theorem dX7_calendar_84 : decode cX7_calendar 84 = .ok (.iconst 1, 1) := by decide +kernel
theorem dX7_calendar_85 : decode cX7_calendar 85 = .ok (.iload_n 1, 1) := by decide +kernel
theorem dX7_calendar_86 : decode cX7_calendar 86 = .ok (.ishl, 1) := by decide +kernel
theorem dX7_calendar_87 : decode cX7_calendar 87 = .ok (.ior, 1) := by decide +kernel
theorem dX7_calendar_88 : decode cX7_calendar 88 = .ok (.putfield 200, 3) := by decide +kernel
theorem dX7_calendar_91 : decode cX7_calendar 91 = .ok (.goto 30, 3) := by decide +kernel
theorem dX7_calendar_94 : decode cX7_calendar 94 = .ok (.aload_n 0, 1) := by decide +kernel
theorem dX7_calendar_95 : decode cX7_calendar 95 = .ok (.getfield 37, 3) := by decide +kernel
theorem dX7_calendar_98 : decode cX7_calendar 98 = .ok (.dup, 1) := by decide +kernel
theorem dX7_calendar_99 : decode cX7_calendar 99 = .ok (.getfield 200, 3) := by decide +kernel
theorem dX7_calendar_102 : decode cX7_calendar 102 = .ok (.iconst 1, 1) := by decide +kernel
theorem dX7_calendar_103 : decode cX7_calendar 103 = .ok (.iload_n 1, 1) := by decide +kernel
theorem dX7_calendar_104 : decode cX7_calendar 104 = .ok (.ishl, 1) := by decide +kernel
theorem dX7_calendar_105 : decode cX7_calendar 105 = .ok (.iconst (-1), 1) := by decide +kernel
theorem dX7_calendar_106 : decode cX7_calendar 106 = .ok (.ixor, 1) := by decide +kernel
theorem dX7_calendar_107 : decode cX7_calendar 107 = .ok (.iand, 1) := by decide +kernel
theorem dX7_calendar_108 : decode cX7_calendar 108 = .ok (.putfield 200, 3) := by decide +kernel
theorem dX7_calendar_111 : decode cX7_calendar 111 = .ok (.aload_n 0, 1) := by decide +kernel
theorem dX7_calendar_112 : decode cX7_calendar 112 = .ok (.getfield 37, 3) := by decide +kernel
theorem dX7_calendar_115 : decode cX7_calendar 115 = .ok (.getfield 169, 3) := by decide +kernel
theorem dX7_calendar_118 : decode cX7_calendar 118 = .ok (.iload_n 1, 1) := by decide +kernel
theorem dX7_calendar_119 : decode cX7_calendar 119 = .ok (.iload_n 2, 1) := by decide +kernel
theorem dX7_calendar_120 : decode cX7_calendar 120 = .ok (.iastore, 1) := by decide +kernel
theorem dX7_calendar_121 : decode cX7_calendar 121 = .ok (.iload_n 3, 1) := by decide +kernel
theorem dX7_calendar_122 : decode cX7_calendar 122 = .ok (.ireturn, 1) := by decide +kernel
theorem dX7_drift_0 : decode cX7_drift 0 = .ok (.aload_n 0, 1) := by decide +kernel
theorem dX7_drift_1 : decode cX7_drift 1 = .ok (.iload_n 1, 1) := by decide +kernel
theorem dX7_drift_2 : decode cX7_drift 2 = .ok (.invokevirtual 189, 3) := by decide +kernel
theorem dX7_drift_5 : decode cX7_drift 5 = .ok (.istore_n 2, 1) := by decide +kernel
theorem dX7_drift_6 : decode cX7_drift 6 = .ok (.iload_n 2, 1) := by decide +kernel
theorem dX7_drift_7 : decode cX7_drift 7 = .ok (.ifCond .eq 5, 3) := by decide +kernel
theorem dX7_drift_10 : decode cX7_drift 10 = .ok (.iload_n 2, 1) := by decide +kernel
theorem dX7_drift_11 : decode cX7_drift 11 = .ok (.ireturn, 1) := by decide +kernel
theorem dX7_drift_12 : decode cX7_drift 12 = .ok (.aload_n 0, 1) := by decide +kernel
theorem dX7_drift_13 : decode cX7_drift 13 = .ok (.getfield 47, 3) := by decide +kernel
theorem dX7_drift_16 : decode cX7_drift 16 = .ok (.aload_n 0, 1) := by decide +kernel
theorem dX7_drift_17 : decode cX7_drift 17 = .ok (.getfield 37, 3) := by decide +kernel
theorem dX7_drift_20 : decode cX7_drift 20 = .ok (.invokevirtual 192, 3) := by decide +kernel
theorem dX7_drift_23 : decode cX7_drift 23 = .ok (.iconst 0, 1) := by decide +kernel
theorem dX7_drift_24 : decode cX7_drift 24 = .ok (.istore_n 3, 1) := by decide +kernel
theorem dX7_drift_25 : decode cX7_drift 25 = .ok (.iload_n 3, 1) := by decide +kernel
theorem dX7_drift_26 : decode cX7_drift 26 = .ok (.iload_n 1, 1) := by decide +kernel
theorem dX7_drift_27 : decode cX7_drift 27 = .ok (.if_icmp .ge 41, 3) := by decide +kernel
theorem dX7_drift_30 : decode cX7_drift 30 = .ok (.aload_n 0, 1) := by decide +kernel
theorem dX7_drift_31 : decode cX7_drift 31 = .ok (.getfield 37, 3) := by decide +kernel
theorem dX7_drift_34 : decode cX7_drift 34 = .ok (.getfield 127, 3) := by decide +kernel
theorem dX7_drift_37 : decode cX7_drift 37 = .ok (.ifCond .ne 31, 3) := by decide +kernel
theorem dX7_drift_40 : decode cX7_drift 40 = .ok (.aload_n 0, 1) := by decide +kernel
theorem dX7_drift_41 : decode cX7_drift 41 = .ok (.invokevirtual 203, 3) := by decide +kernel
theorem dX7_drift_44 : decode cX7_drift 44 = .ok (.aload_n 0, 1) := by decide +kernel
theorem dX7_drift_45 : decode cX7_drift 45 = .ok (.getfield 37, 3) := by decide +kernel
theorem dX7_drift_48 : decode cX7_drift 48 = .ok (.aload_n 0, 1) := by decide +kernel
theorem dX7_drift_49 : decode cX7_drift 49 = .ok (.getfield 27, 3) := by decide +kernel
theorem dX7_drift_52 : decode cX7_drift 52 = .ok (.aload_n 0, 1) := by decide +kernel
theorem dX7_drift_53 : decode cX7_drift 53 = .ok (.getfield 27, 3) := by decide +kernel
theorem dX7_drift_56 : decode cX7_drift 56 = .ok (.getfield 112, 3) := by decide +kernel
theorem dX7_drift_59 : decode cX7_drift 59 = .ok (.invokevirtual 196, 3) := by decide +kernel
theorem dX7_drift_62 : decode cX7_drift 62 = .ok (.iinc 3 1, 3) := by decide +kernel
theorem dX7_drift_65 : decode cX7_drift 65 = .ok (.goto (-40), 3) := by decide +kernel
theorem dX7_drift_68 : decode cX7_drift 68 = .ok (.aload_n 0, 1) := by decide +kernel
theorem dX7_drift_69 : decode cX7_drift 69 = .ok (.getfield 37, 3) := by decide +kernel
theorem dX7_drift_72 : decode cX7_drift 72 = .ok (.getfield 121, 3) := by decide +kernel
theorem dX7_drift_75 : decode cX7_drift 75 = .ok (.ireturn, 1) := by decide +kernel
theorem dX7_undo_0 : decode cX7_undo 0 = .ok (.aload_n 0, 1) := by decide +kernel
theorem dX7_undo_1 : decode cX7_undo 1 = .ok (.getfield 47, 3) := by decide +kernel
theorem dX7_undo_4 : decode cX7_undo 4 = .ok (.getfield 155, 3) := by decide +kernel
theorem dX7_undo_7 : decode cX7_undo 7 = .ok (.iconst 1, 1) := by decide +kernel
theorem dX7_undo_8 : decode cX7_undo 8 = .ok (.if_icmp .ge 6, 3) := by decide +kernel
theorem dX7_undo_11 : decode cX7_undo 11 = .ok (.ldc 206, 2) := by decide +kernel
theorem dX7_undo_13 : decode cX7_undo 13 = .ok (.ireturn, 1) := by decide +kernel
theorem dX7_undo_14 : decode cX7_undo 14 = .ok (.aload_n 0, 1) := by decide +kernel
theorem dX7_undo_15 : decode cX7_undo 15 = .ok (.getfield 47, 3) := by decide +kernel
theorem dX7_undo_18 : decode cX7_undo 18 = .ok (.aload_n 0, 1) := by decide +kernel
theorem dX7_undo_19 : decode cX7_undo 19 = .ok (.getfield 37, 3) := by decide +kernel
theorem dX7_undo_22 : decode cX7_undo 22 = .ok (.invokevirtual 207, 3) := by decide +kernel
theorem dX7_undo_25 : decode cX7_undo 25 = .ok (.aload_n 0, 1) := by decide +kernel
theorem dX7_undo_26 : decode cX7_undo 26 = .ok (.getfield 47, 3) := by decide +kernel
theorem dX7_undo_29 : decode cX7_undo 29 = .ok (.getfield 155, 3) := by decide +kernel
theorem dX7_undo_32 : decode cX7_undo 32 = .ok (.ireturn, 1) := by decide +kernel
theorem dX7_whenDown_0 : decode cX7_whenDown 0 = .ok (.aload_n 0, 1) := by decide +kernel
theorem dX7_whenDown_1 : decode cX7_whenDown 1 = .ok (.getfield 27, 3) := by decide +kernel
theorem dX7_whenDown_4 : decode cX7_whenDown 4 = .ok (.getfield 210, 3) := by decide +kernel
theorem dX7_whenDown_7 : decode cX7_whenDown 7 = .ok (.ifCond .eq 13, 3) := by decide +kernel
theorem dX7_whenDown_10 : decode cX7_whenDown 10 = .ok (.aload_n 0, 1) := by decide +kernel
theorem dX7_whenDown_11 : decode cX7_whenDown 11 = .ok (.getfield 37, 3) := by decide +kernel
theorem dX7_whenDown_14 : decode cX7_whenDown 14 = .ok (.getfield 127, 3) := by decide +kernel
theorem dX7_whenDown_17 : decode cX7_whenDown 17 = .ok (.ifCond .eq 6, 3) := by decide +kernel
theorem dX7_whenDown_20 : decode cX7_whenDown 20 = .ok (.ldc 206, 2) := by decide +kernel
theorem dX7_whenDown_22 : decode cX7_whenDown 22 = .ok (.ireturn, 1) := by decide +kernel
theorem dX7_whenDown_23 : decode cX7_whenDown 23 = .ok (.aload_n 0, 1) := by decide +kernel
theorem dX7_whenDown_24 : decode cX7_whenDown 24 = .ok (.getfield 41, 3) := by decide +kernel
theorem dX7_whenDown_27 : decode cX7_whenDown 27 = .ok (.aload_n 0, 1) := by decide +kernel
theorem dX7_whenDown_28 : decode cX7_whenDown 28 = .ok (.getfield 37, 3) := by decide +kernel
theorem dX7_whenDown_31 : decode cX7_whenDown 31 = .ok (.invokevirtual 213, 3) := by decide +kernel
theorem dX7_whenDown_34 : decode cX7_whenDown 34 = .ok (.iconst 0, 1) := by decide +kernel
theorem dX7_whenDown_35 : decode cX7_whenDown 35 = .ok (.istore_n 1, 1) := by decide +kernel
theorem dX7_whenDown_36 : decode cX7_whenDown 36 = .ok (.iload_n 1, 1) := by decide +kernel
theorem dX7_whenDown_37 : decode cX7_whenDown 37 = .ok (.sipush 999, 3) := by decide +kernel
theorem dX7_whenDown_40 : decode cX7_whenDown 40 = .ok (.if_icmp .ge 47, 3) := by decide +kernel
theorem dX7_whenDown_43 : decode cX7_whenDown 43 = .ok (.aload_n 0, 1) := by decide +kernel
theorem dX7_whenDown_44 : decode cX7_whenDown 44 = .ok (.getfield 41, 3) := by decide +kernel
theorem dX7_whenDown_47 : decode cX7_whenDown 47 = .ok (.aload_n 0, 1) := by decide +kernel
theorem dX7_whenDown_48 : decode cX7_whenDown 48 = .ok (.getfield 27, 3) := by decide +kernel
theorem dX7_whenDown_51 : decode cX7_whenDown 51 = .ok (.aload_n 0, 1) := by decide +kernel
theorem dX7_whenDown_52 : decode cX7_whenDown 52 = .ok (.getfield 27, 3) := by decide +kernel
theorem dX7_whenDown_55 : decode cX7_whenDown 55 = .ok (.getfield 112, 3) := by decide +kernel
theorem dX7_whenDown_58 : decode cX7_whenDown 58 = .ok (.invokevirtual 196, 3) := by decide +kernel
theorem dX7_whenDown_61 : decode cX7_whenDown 61 = .ok (.aload_n 0, 1) := by decide +kernel
theorem dX7_whenDown_62 : decode cX7_whenDown 62 = .ok (.getfield 41, 3) := by decide +kernel
theorem dX7_whenDown_65 : decode cX7_whenDown 65 = .ok (.getfield 127, 3) := by decide +kernel
theorem dX7_whenDown_68 : decode cX7_whenDown 68 = .ok (.ifCond .eq 13, 3) := by decide +kernel
theorem dX7_whenDown_71 : decode cX7_whenDown 71 = .ok (.aload_n 0, 1) := by decide +kernel
theorem dX7_whenDown_72 : decode cX7_whenDown 72 = .ok (.getfield 41, 3) := by decide +kernel
theorem dX7_whenDown_75 : decode cX7_whenDown 75 = .ok (.getfield 121, 3) := by decide +kernel
theorem dX7_whenDown_78 : decode cX7_whenDown 78 = .ok (.iconst 1, 1) := by decide +kernel
theorem dX7_whenDown_79 : decode cX7_whenDown 79 = .ok (.isub, 1) := by decide +kernel
theorem dX7_whenDown_80 : decode cX7_whenDown 80 = .ok (.ireturn, 1) := by decide +kernel
theorem dX7_whenDown_81 : decode cX7_whenDown 81 = .ok (.iinc 1 1, 3) := by decide +kernel
theorem dX7_whenDown_84 : decode cX7_whenDown 84 = .ok (.goto (-48), 3) := by decide +kernel
theorem dX7_whenDown_87 : decode cX7_whenDown 87 = .ok (.iconst (-1), 1) := by decide +kernel
theorem dX7_whenDown_88 : decode cX7_whenDown 88 = .ok (.ireturn, 1) := by decide +kernel
theorem dX7_ahead_0 : decode cX7_ahead 0 = .ok (.iload_n 1, 1) := by decide +kernel
theorem dX7_ahead_1 : decode cX7_ahead 1 = .ok (.ifCond .lt 18, 3) := by decide +kernel
theorem dX7_ahead_4 : decode cX7_ahead 4 = .ok (.iload_n 1, 1) := by decide +kernel
theorem dX7_ahead_5 : decode cX7_ahead 5 = .ok (.bipush 60, 2) := by decide +kernel
theorem dX7_ahead_7 : decode cX7_ahead 7 = .ok (.if_icmp .gt 12, 3) := by decide +kernel
theorem dX7_ahead_10 : decode cX7_ahead 10 = .ok (.iload_n 2, 1) := by decide +kernel
theorem dX7_ahead_11 : decode cX7_ahead 11 = .ok (.ifCond .lt 8, 3) := by decide +kernel
theorem dX7_ahead_14 : decode cX7_ahead 14 = .ok (.iload_n 2, 1) := by decide +kernel
theorem dX7_ahead_15 : decode cX7_ahead 15 = .ok (.iconst 1, 1) := by decide +kernel
theorem dX7_ahead_16 : decode cX7_ahead 16 = .ok (.if_icmp .le 6, 3) := by decide +kernel
theorem dX7_ahead_19 : decode cX7_ahead 19 = .ok (.ldc 80, 2) := by decide +kernel
theorem dX7_ahead_21 : decode cX7_ahead 21 = .ok (.ireturn, 1) := by decide +kernel
theorem dX7_ahead_22 : decode cX7_ahead 22 = .ok (.aload_n 0, 1) := by decide +kernel
theorem dX7_ahead_23 : decode cX7_ahead 23 = .ok (.getfield 27, 3) := by decide +kernel
theorem dX7_ahead_26 : decode cX7_ahead 26 = .ok (.getfield 210, 3) := by decide +kernel
theorem dX7_ahead_29 : decode cX7_ahead 29 = .ok (.ifCond .ne 6, 3) := by decide +kernel
theorem dX7_ahead_32 : decode cX7_ahead 32 = .ok (.ldc 206, 2) := by decide +kernel
theorem dX7_ahead_34 : decode cX7_ahead 34 = .ok (.ireturn, 1) := by decide +kernel
theorem dX7_ahead_35 : decode cX7_ahead 35 = .ok (.aload_n 0, 1) := by decide +kernel
theorem dX7_ahead_36 : decode cX7_ahead 36 = .ok (.getfield 41, 3) := by decide +kernel
theorem dX7_ahead_39 : decode cX7_ahead 39 = .ok (.aload_n 0, 1) := by decide +kernel
theorem dX7_ahead_40 : decode cX7_ahead 40 = .ok (.getfield 37, 3) := by decide +kernel
theorem dX7_ahead_43 : decode cX7_ahead 43 = .ok (.invokevirtual 213, 3) := by decide +kernel
theorem dX7_ahead_46 : decode cX7_ahead 46 = .ok (.iconst 0, 1) := by decide +kernel
theorem dX7_ahead_47 : decode cX7_ahead 47 = .ok (.istore_n 3, 1) := by decide +kernel
theorem dX7_ahead_48 : decode cX7_ahead 48 = .ok (.iload_n 3, 1) := by decide +kernel
theorem dX7_ahead_49 : decode cX7_ahead 49 = .ok (.iload_n 1, 1) := by decide +kernel
theorem dX7_ahead_50 : decode cX7_ahead 50 = .ok (.if_icmp .ge 37, 3) := by decide +kernel
theorem dX7_ahead_53 : decode cX7_ahead 53 = .ok (.aload_n 0, 1) := by decide +kernel
theorem dX7_ahead_54 : decode cX7_ahead 54 = .ok (.getfield 41, 3) := by decide +kernel
theorem dX7_ahead_57 : decode cX7_ahead 57 = .ok (.getfield 127, 3) := by decide +kernel
theorem dX7_ahead_60 : decode cX7_ahead 60 = .ok (.ifCond .ne 27, 3) := by decide +kernel
theorem dX7_ahead_63 : decode cX7_ahead 63 = .ok (.aload_n 0, 1) := by decide +kernel
theorem dX7_ahead_64 : decode cX7_ahead 64 = .ok (.getfield 41, 3) := by decide +kernel
theorem dX7_ahead_67 : decode cX7_ahead 67 = .ok (.aload_n 0, 1) := by decide +kernel
theorem dX7_ahead_68 : decode cX7_ahead 68 = .ok (.getfield 27, 3) := by decide +kernel
theorem dX7_ahead_71 : decode cX7_ahead 71 = .ok (.aload_n 0, 1) := by decide +kernel
theorem dX7_ahead_72 : decode cX7_ahead 72 = .ok (.getfield 27, 3) := by decide +kernel
theorem dX7_ahead_75 : decode cX7_ahead 75 = .ok (.getfield 112, 3) := by decide +kernel
theorem dX7_ahead_78 : decode cX7_ahead 78 = .ok (.invokevirtual 196, 3) := by decide +kernel
theorem dX7_ahead_81 : decode cX7_ahead 81 = .ok (.iinc 3 1, 3) := by decide +kernel
theorem dX7_ahead_84 : decode cX7_ahead 84 = .ok (.goto (-36), 3) := by decide +kernel
theorem dX7_ahead_87 : decode cX7_ahead 87 = .ok (.iload_n 2, 1) := by decide +kernel
theorem dX7_ahead_88 : decode cX7_ahead 88 = .ok (.ifCond .ne 21, 3) := by decide +kernel
theorem dX7_ahead_91 : decode cX7_ahead 91 = .ok (.aload_n 0, 1) := by decide +kernel
theorem dX7_ahead_92 : decode cX7_ahead 92 = .ok (.getfield 41, 3) := by decide +kernel
theorem dX7_ahead_95 : decode cX7_ahead 95 = .ok (.getfield 137, 3) := by decide +kernel
theorem dX7_ahead_98 : decode cX7_ahead 98 = .ok (.aload_n 0, 1) := by decide +kernel
theorem dX7_ahead_99 : decode cX7_ahead 99 = .ok (.getfield 37, 3) := by decide +kernel
theorem dX7_ahead_102 : decode cX7_ahead 102 = .ok (.getfield 137, 3) := by decide +kernel
theorem dX7_ahead_105 : decode cX7_ahead 105 = .ok (.isub, 1) := by decide +kernel
theorem dX7_ahead_106 : decode cX7_ahead 106 = .ok (.goto 18, 3) := by decide +kernel
theorem dX7_ahead_109 : decode cX7_ahead 109 = .ok (.aload_n 0, 1) := by decide +kernel
theorem dX7_ahead_110 : decode cX7_ahead 110 = .ok (.getfield 41, 3) := by decide +kernel
theorem dX7_ahead_113 : decode cX7_ahead 113 = .ok (.getfield 134, 3) := by decide +kernel
theorem dX7_ahead_116 : decode cX7_ahead 116 = .ok (.aload_n 0, 1) := by decide +kernel
theorem dX7_ahead_117 : decode cX7_ahead 117 = .ok (.getfield 37, 3) := by decide +kernel
theorem dX7_ahead_120 : decode cX7_ahead 120 = .ok (.getfield 134, 3) := by decide +kernel
theorem dX7_ahead_123 : decode cX7_ahead 123 = .ok (.isub, 1) := by decide +kernel
theorem dX7_ahead_124 : decode cX7_ahead 124 = .ok (.ireturn, 1) := by decide +kernel
theorem dX7_certain_0 : decode cX7_certain 0 = .ok (.aload_n 0, 1) := by decide +kernel
theorem dX7_certain_1 : decode cX7_certain 1 = .ok (.getfield 27, 3) := by decide +kernel
theorem dX7_certain_4 : decode cX7_certain 4 = .ok (.iload_n 2, 1) := by decide +kernel
theorem dX7_certain_5 : decode cX7_certain 5 = .ok (.invokevirtual 158, 3) := by decide +kernel
theorem dX7_certain_8 : decode cX7_certain 8 = .ok (.ifCond .eq 17, 3) := by decide +kernel
theorem dX7_certain_11 : decode cX7_certain 11 = .ok (.iload_n 1, 1) := by decide +kernel
theorem dX7_certain_12 : decode cX7_certain 12 = .ok (.aload_n 0, 1) := by decide +kernel
theorem dX7_certain_13 : decode cX7_certain 13 = .ok (.getfield 27, 3) := by decide +kernel
theorem dX7_certain_16 : decode cX7_certain 16 = .ok (.invokevirtual 216, 3) := by decide +kernel
theorem dX7_certain_19 : decode cX7_certain 19 = .ok (.iconst (-1), 1) := by decide +kernel
theorem dX7_certain_20 : decode cX7_certain 20 = .ok (.ixor, 1) := by decide +kernel
theorem dX7_certain_21 : decode cX7_certain 21 = .ok (.iand, 1) := by decide +kernel
theorem dX7_certain_22 : decode cX7_certain 22 = .ok (.ifCond .eq 6, 3) := by decide +kernel
theorem dX7_certain_25 : decode cX7_certain 25 = .ok (.ldc 162, 2) := by decide +kernel
theorem dX7_certain_27 : decode cX7_certain 27 = .ok (.ireturn, 1) := by decide +kernel
theorem dX7_certain_28 : decode cX7_certain 28 = .ok (.iload_n 1, 1) := by decide +kernel
theorem dX7_certain_29 : decode cX7_certain 29 = .ok (.iload_n 2, 1) := by decide +kernel
theorem dX7_certain_30 : decode cX7_certain 30 = .ok (.ishr, 1) := by decide +kernel
theorem dX7_certain_31 : decode cX7_certain 31 = .ok (.iconst 1, 1) := by decide +kernel
theorem dX7_certain_32 : decode cX7_certain 32 = .ok (.iand, 1) := by decide +kernel
theorem dX7_certain_33 : decode cX7_certain 33 = .ok (.ifCond .ne 5, 3) := by decide +kernel
theorem dX7_certain_36 : decode cX7_certain 36 = .ok (.iconst (-1), 1) := by decide +kernel
theorem dX7_certain_37 : decode cX7_certain 37 = .ok (.ireturn, 1) := by decide +kernel
theorem dX7_certain_38 : decode cX7_certain 38 = .ok (.aload_n 0, 1) := by decide +kernel
theorem dX7_certain_39 : decode cX7_certain 39 = .ok (.getfield 69, 3) := by decide +kernel
theorem dX7_certain_42 : decode cX7_certain 42 = .ok (.aload_n 0, 1) := by decide +kernel
theorem dX7_certain_43 : decode cX7_certain 43 = .ok (.getfield 27, 3) := by decide +kernel
theorem dX7_certain_46 : decode cX7_certain 46 = .ok (.iload_n 1, 1) := by decide +kernel
theorem dX7_certain_47 : decode cX7_certain 47 = .ok (.invokevirtual 220, 3) := by decide +kernel
theorem dX7_certain_50 : decode cX7_certain 50 = .ok (.ifCond .eq 15, 3) := by decide +kernel
theorem dX7_certain_53 : decode cX7_certain 53 = .ok (.aload_n 0, 1) := by decide +kernel
theorem dX7_certain_54 : decode cX7_certain 54 = .ok (.getfield 69, 3) := by decide +kernel
theorem dX7_certain_57 : decode cX7_certain 57 = .ok (.getfield 224, 3) := by decide +kernel
theorem dX7_certain_60 : decode cX7_certain 60 = .ok (.iload_n 2, 1) := by decide +kernel
theorem dX7_certain_61 : decode cX7_certain 61 = .ok (.iaload, 1) := by decide +kernel
theorem dX7_certain_62 : decode cX7_certain 62 = .ok (.goto 4, 3) := by decide +kernel
theorem dX7_certain_65 : decode cX7_certain 65 = .ok (.iconst (-1), 1) := by decide +kernel
theorem dX7_certain_66 : decode cX7_certain 66 = .ok (.ireturn, 1) := by decide +kernel
theorem dX7_away_0 : decode cX7_away 0 = .ok (.iload_n 1, 1) := by decide +kernel
theorem dX7_away_1 : decode cX7_away 1 = .ok (.iconst 1, 1) := by decide +kernel
theorem dX7_away_2 : decode cX7_away 2 = .ok (.if_icmp .lt 9, 3) := by decide +kernel
theorem dX7_away_5 : decode cX7_away 5 = .ok (.iload_n 1, 1) := by decide +kernel
theorem dX7_away_6 : decode cX7_away 6 = .ok (.bipush 30, 2) := by decide +kernel
theorem dX7_away_8 : decode cX7_away 8 = .ok (.if_icmp .le 6, 3) := by decide +kernel
theorem dX7_away_11 : decode cX7_away 11 = .ok (.ldc 80, 2) := by decide +kernel
theorem dX7_away_13 : decode cX7_away 13 = .ok (.ireturn, 1) := by decide +kernel
theorem dX7_away_14 : decode cX7_away 14 = .ok (.aload_n 0, 1) := by decide +kernel
theorem dX7_away_15 : decode cX7_away 15 = .ok (.getfield 27, 3) := by decide +kernel
theorem dX7_away_18 : decode cX7_away 18 = .ok (.getfield 210, 3) := by decide +kernel
theorem dX7_away_21 : decode cX7_away 21 = .ok (.ifCond .ne 6, 3) := by decide +kernel
theorem dX7_away_24 : decode cX7_away 24 = .ok (.ldc 206, 2) := by decide +kernel
theorem dX7_away_26 : decode cX7_away 26 = .ok (.ireturn, 1) := by decide +kernel
theorem dX7_away_27 : decode cX7_away 27 = .ok (.aload_n 0, 1) := by decide +kernel
theorem dX7_away_28 : decode cX7_away 28 = .ok (.getfield 27, 3) := by decide +kernel
theorem dX7_away_31 : decode cX7_away 31 = .ok (.invokevirtual 216, 3) := by decide +kernel
theorem dX7_away_34 : decode cX7_away 34 = .ok (.istore_n 2, 1) := by decide +kernel
theorem dX7_away_35 : decode cX7_away 35 = .ok (.iconst 0, 1) := by decide +kernel
theorem dX7_away_36 : decode cX7_away 36 = .ok (.istore_n 3, 1) := by decide +kernel
theorem dX7_away_37 : decode cX7_away 37 = .ok (.iload_n 3, 1) := by decide +kernel
theorem dX7_away_38 : decode cX7_away 38 = .ok (.bipush 8, 2) := by decide +kernel
theorem dX7_away_40 : decode cX7_away 40 = .ok (.if_icmp .gt 71, 3) := by decide +kernel
theorem dX7_away_43 : decode cX7_away 43 = .ok (.iconst 0, 1) := by decide +kernel
theorem dX7_away_44 : decode cX7_away 44 = .ok (.istore 4, 2) := by decide +kernel
theorem dX7_away_46 : decode cX7_away 46 = .ok (.iload 4, 2) := by decide +kernel
theorem dX7_away_48 : decode cX7_away 48 = .ok (.iload_n 2, 1) := by decide +kernel
theorem dX7_away_49 : decode cX7_away 49 = .ok (.if_icmp .gt 56, 3) := by decide +kernel
theorem dX7_away_52 : decode cX7_away 52 = .ok (.iload 4, 2) := by decide +kernel
theorem dX7_away_54 : decode cX7_away 54 = .ok (.aload_n 0, 1) := by decide +kernel
theorem dX7_away_55 : decode cX7_away 55 = .ok (.getfield 37, 3) := by decide +kernel
theorem dX7_away_58 : decode cX7_away 58 = .ok (.getfield 200, 3) := by decide +kernel
theorem dX7_away_61 : decode cX7_away 61 = .ok (.iand, 1) := by decide +kernel
theorem dX7_away_62 : decode cX7_away 62 = .ok (.ifCond .ne 16, 3) := by decide +kernel
theorem dX7_away_65 : decode cX7_away 65 = .ok (.iload 4, 2) := by decide +kernel
theorem dX7_away_67 : decode cX7_away 67 = .ok (.invokestatic 225, 3) := by decide +kernel
theorem dX7_away_70 : decode cX7_away 70 = .ok (.iload_n 3, 1) := by decide +kernel
theorem dX7_away_71 : decode cX7_away 71 = .ok (.if_icmp .ne 7, 3) := by decide +kernel
end
section
theorem dX7_away_74 : decode cX7_away 74 = .ok (.iconst 1, 1) := by decide +kernel
theorem dX7_away_75 : decode cX7_away 75 = .ok (.goto 4, 3) := by decide +kernel
theorem dX7_away_78 : decode cX7_away 78 = .ok (.iconst 0, 1) := by decide +kernel
theorem dX7_away_79 : decode cX7_away 79 = .ok (.istore 5, 2) := by decide +kernel
theorem dX7_away_81 : decode cX7_away 81 = .ok (.iload 5, 2) := by decide +kernel
theorem dX7_away_83 : decode cX7_away 83 = .ok (.ifCond .eq 16, 3) := by decide +kernel
theorem dX7_away_86 : decode cX7_away 86 = .ok (.aload_n 0, 1) := by decide +kernel
theorem dX7_away_87 : decode cX7_away 87 = .ok (.iload 4, 2) := by decide +kernel
theorem dX7_away_89 : decode cX7_away 89 = .ok (.iload_n 1, 1) := by decide +kernel
theorem dX7_away_90 : decode cX7_away 90 = .ok (.invokevirtual 230, 3) := by decide +kernel
theorem dX7_away_93 : decode cX7_away 93 = .ok (.ifCond .eq 6, 3) := by decide +kernel
theorem dX7_away_96 : decode cX7_away 96 = .ok (.iload 4, 2) := by decide +kernel
theorem dX7_away_98 : decode cX7_away 98 = .ok (.ireturn, 1) := by decide +kernel
theorem dX7_away_99 : decode cX7_away 99 = .ok (.iinc 4 1, 3) := by decide +kernel
theorem dX7_away_102 : decode cX7_away 102 = .ok (.goto (-56), 3) := by decide +kernel
theorem dX7_away_105 : decode cX7_away 105 = .ok (.iinc 3 1, 3) := by decide +kernel
theorem dX7_away_108 : decode cX7_away 108 = .ok (.goto (-71), 3) := by decide +kernel
theorem dX7_away_111 : decode cX7_away 111 = .ok (.iconst (-1), 1) := by decide +kernel
theorem dX7_away_112 : decode cX7_away 112 = .ok (.ireturn, 1) := by decide +kernel
theorem dX7_smoke_0 : decode cX7_smoke 0 = .ok (.aload_n 0, 1) := by decide +kernel
theorem dX7_smoke_1 : decode cX7_smoke 1 = .ok (.getfield 27, 3) := by decide +kernel
theorem dX7_smoke_4 : decode cX7_smoke 4 = .ok (.iload_n 1, 1) := by decide +kernel
theorem dX7_smoke_5 : decode cX7_smoke 5 = .ok (.invokevirtual 158, 3) := by decide +kernel
theorem dX7_smoke_8 : decode cX7_smoke 8 = .ok (.ifCond .ne 6, 3) := by decide +kernel
theorem dX7_smoke_11 : decode cX7_smoke 11 = .ok (.ldc 162, 2) := by decide +kernel
theorem dX7_smoke_13 : decode cX7_smoke 13 = .ok (.ireturn, 1) := by decide +kernel
theorem dX7_smoke_14 : decode cX7_smoke 14 = .ok (.iload_n 2, 1) := by decide +kernel
theorem dX7_smoke_15 : decode cX7_smoke 15 = .ok (.ifCond .lt 10, 3) := by decide +kernel
theorem dX7_smoke_18 : decode cX7_smoke 18 = .ok (.iload_n 2, 1) := by decide +kernel
theorem dX7_smoke_19 : decode cX7_smoke 19 = .ok (.sipush 999, 3) := by decide +kernel
theorem dX7_smoke_22 : decode cX7_smoke 22 = .ok (.if_icmp .le 6, 3) := by decide +kernel
theorem dX7_smoke_25 : decode cX7_smoke 25 = .ok (.ldc 80, 2) := by decide +kernel
theorem dX7_smoke_27 : decode cX7_smoke 27 = .ok (.ireturn, 1) := by decide +kernel
theorem dX7_smoke_28 : decode cX7_smoke 28 = .ok (.aload_n 0, 1) := by decide +kernel
theorem dX7_smoke_29 : decode cX7_smoke 29 = .ok (.getfield 37, 3) := by decide +kernel
theorem dX7_smoke_32 : decode cX7_smoke 32 = .ok (.aload_n 0, 1) := by decide +kernel
theorem dX7_smoke_33 : decode cX7_smoke 33 = .ok (.getfield 27, 3) := by decide +kernel
theorem dX7_smoke_36 : decode cX7_smoke 36 = .ok (.iload_n 2, 1) := by decide +kernel
theorem dX7_smoke_37 : decode cX7_smoke 37 = .ok (.invokevirtual 234, 3) := by decide +kernel
theorem dX7_smoke_40 : decode cX7_smoke 40 = .ok (.iconst 1, 1) := by decide +kernel
theorem dX7_smoke_41 : decode cX7_smoke 41 = .ok (.iload_n 1, 1) := by decide +kernel
theorem dX7_smoke_42 : decode cX7_smoke 42 = .ok (.ishl, 1) := by decide +kernel
theorem dX7_smoke_43 : decode cX7_smoke 43 = .ok (.iconst (-1), 1) := by decide +kernel
theorem dX7_smoke_44 : decode cX7_smoke 44 = .ok (.ixor, 1) := by decide +kernel
theorem dX7_smoke_45 : decode cX7_smoke 45 = .ok (.iand, 1) := by decide +kernel
theorem dX7_smoke_46 : decode cX7_smoke 46 = .ok (.ifCond .ne 7, 3) := by decide +kernel
theorem dX7_smoke_49 : decode cX7_smoke 49 = .ok (.iconst 1, 1) := by decide +kernel
theorem dX7_smoke_50 : decode cX7_smoke 50 = .ok (.goto 4, 3) := by decide +kernel
theorem dX7_smoke_53 : decode cX7_smoke 53 = .ok (.iconst 0, 1) := by decide +kernel
theorem dX7_smoke_54 : decode cX7_smoke 54 = .ok (.ireturn, 1) := by decide +kernel
theorem dX7_inn_0 : decode cX7_inn 0 = .ok (.iload_n 1, 1) := by decide +kernel
theorem dX7_inn_1 : decode cX7_inn 1 = .ok (.iconst 1, 1) := by decide +kernel
theorem dX7_inn_2 : decode cX7_inn 2 = .ok (.if_icmp .lt 9, 3) := by decide +kernel
theorem dX7_inn_5 : decode cX7_inn 5 = .ok (.iload_n 1, 1) := by decide +kernel
theorem dX7_inn_6 : decode cX7_inn 6 = .ok (.bipush 60, 2) := by decide +kernel
theorem dX7_inn_8 : decode cX7_inn 8 = .ok (.if_icmp .le 6, 3) := by decide +kernel
theorem dX7_inn_11 : decode cX7_inn 11 = .ok (.ldc 80, 2) := by decide +kernel
theorem dX7_inn_13 : decode cX7_inn 13 = .ok (.ireturn, 1) := by decide +kernel
theorem dX7_inn_14 : decode cX7_inn 14 = .ok (.aload_n 0, 1) := by decide +kernel
theorem dX7_inn_15 : decode cX7_inn 15 = .ok (.getfield 27, 3) := by decide +kernel
theorem dX7_inn_18 : decode cX7_inn 18 = .ok (.getfield 210, 3) := by decide +kernel
theorem dX7_inn_21 : decode cX7_inn 21 = .ok (.ifCond .ne 6, 3) := by decide +kernel
theorem dX7_inn_24 : decode cX7_inn 24 = .ok (.ldc 206, 2) := by decide +kernel
theorem dX7_inn_26 : decode cX7_inn 26 = .ok (.ireturn, 1) := by decide +kernel
theorem dX7_inn_27 : decode cX7_inn 27 = .ok (.iconst 0, 1) := by decide +kernel
theorem dX7_inn_28 : decode cX7_inn 28 = .ok (.istore_n 2, 1) := by decide +kernel
theorem dX7_inn_29 : decode cX7_inn 29 = .ok (.iload_n 2, 1) := by decide +kernel
theorem dX7_inn_30 : decode cX7_inn 30 = .ok (.bipush 9, 2) := by decide +kernel
theorem dX7_inn_32 : decode cX7_inn 32 = .ok (.if_icmp .gt 20, 3) := by decide +kernel
theorem dX7_inn_35 : decode cX7_inn 35 = .ok (.aload_n 0, 1) := by decide +kernel
theorem dX7_inn_36 : decode cX7_inn 36 = .ok (.iload_n 2, 1) := by decide +kernel
theorem dX7_inn_37 : decode cX7_inn 37 = .ok (.iload_n 1, 1) := by decide +kernel
theorem dX7_inn_38 : decode cX7_inn 38 = .ok (.invokevirtual 237, 3) := by decide +kernel
theorem dX7_inn_41 : decode cX7_inn 41 = .ok (.ifCond .eq 5, 3) := by decide +kernel
theorem dX7_inn_44 : decode cX7_inn 44 = .ok (.iload_n 2, 1) := by decide +kernel
theorem dX7_inn_45 : decode cX7_inn 45 = .ok (.ireturn, 1) := by decide +kernel
theorem dX7_inn_46 : decode cX7_inn 46 = .ok (.iinc 2 1, 3) := by decide +kernel
theorem dX7_inn_49 : decode cX7_inn 49 = .ok (.goto (-20), 3) := by decide +kernel
theorem dX7_inn_52 : decode cX7_inn 52 = .ok (.iconst (-1), 1) := by decide +kernel
theorem dX7_inn_53 : decode cX7_inn 53 = .ok (.ireturn, 1) := by decide +kernel
theorem dX7_feet_0 : decode cX7_feet 0 = .ok (.iload_n 1, 1) := by decide +kernel
theorem dX7_feet_1 : decode cX7_feet 1 = .ok (.iconst 1, 1) := by decide +kernel
theorem dX7_feet_2 : decode cX7_feet 2 = .ok (.if_icmp .lt 9, 3) := by decide +kernel
theorem dX7_feet_5 : decode cX7_feet 5 = .ok (.iload_n 1, 1) := by decide +kernel
theorem dX7_feet_6 : decode cX7_feet 6 = .ok (.bipush 10, 2) := by decide +kernel
theorem dX7_feet_8 : decode cX7_feet 8 = .ok (.if_icmp .le 6, 3) := by decide +kernel
theorem dX7_feet_11 : decode cX7_feet 11 = .ok (.ldc 80, 2) := by decide +kernel
theorem dX7_feet_13 : decode cX7_feet 13 = .ok (.ireturn, 1) := by decide +kernel
theorem dX7_feet_14 : decode cX7_feet 14 = .ok (.aload_n 0, 1) := by decide +kernel
theorem dX7_feet_15 : decode cX7_feet 15 = .ok (.getfield 27, 3) := by decide +kernel
theorem dX7_feet_18 : decode cX7_feet 18 = .ok (.getfield 210, 3) := by decide +kernel
theorem dX7_feet_21 : decode cX7_feet 21 = .ok (.ifCond .ne 6, 3) := by decide +kernel
theorem dX7_feet_24 : decode cX7_feet 24 = .ok (.ldc 206, 2) := by decide +kernel
theorem dX7_feet_26 : decode cX7_feet 26 = .ok (.ireturn, 1) := by decide +kernel
theorem dX7_feet_27 : decode cX7_feet 27 = .ok (.aload_n 0, 1) := by decide +kernel
theorem dX7_feet_28 : decode cX7_feet 28 = .ok (.getfield 76, 3) := by decide +kernel
theorem dX7_feet_31 : decode cX7_feet 31 = .ok (.aload_n 0, 1) := by decide +kernel
theorem dX7_feet_32 : decode cX7_feet 32 = .ok (.getfield 27, 3) := by decide +kernel
theorem dX7_feet_35 : decode cX7_feet 35 = .ok (.aload_n 0, 1) := by decide +kernel
theorem dX7_feet_36 : decode cX7_feet 36 = .ok (.getfield 37, 3) := by decide +kernel
theorem dX7_feet_39 : decode cX7_feet 39 = .ok (.getfield 121, 3) := by decide +kernel
theorem dX7_feet_42 : decode cX7_feet 42 = .ok (.iload_n 1, 1) := by decide +kernel
theorem dX7_feet_43 : decode cX7_feet 43 = .ok (.invokevirtual 240, 3) := by decide +kernel
theorem dX7_feet_46 : decode cX7_feet 46 = .ok (.istore_n 3, 1) := by decide +kernel
theorem dX7_feet_47 : decode cX7_feet 47 = .ok (.iload_n 3, 1) := by decide +kernel
theorem dX7_feet_48 : decode cX7_feet 48 = .ok (.iconst (-1), 1) := by decide +kernel
theorem dX7_feet_49 : decode cX7_feet 49 = .ok (.if_icmp .eq 8, 3) := by decide +kernel
theorem dX7_feet_52 : decode cX7_feet 52 = .ok (.iload_n 2, 1) := by decide +kernel
theorem dX7_feet_53 : decode cX7_feet 53 = .ok (.iconst (-1), 1) := by decide +kernel
theorem dX7_feet_54 : decode cX7_feet 54 = .ok (.if_icmp .ne 5, 3) := by decide +kernel
theorem dX7_feet_57 : decode cX7_feet 57 = .ok (.iload_n 3, 1) := by decide +kernel
theorem dX7_feet_58 : decode cX7_feet 58 = .ok (.ireturn, 1) := by decide +kernel
theorem dX7_feet_59 : decode cX7_feet 59 = .ok (.iload_n 2, 1) := by decide +kernel
theorem dX7_feet_60 : decode cX7_feet 60 = .ok (.ifCond .lt 20, 3) := by decide +kernel
theorem dX7_feet_63 : decode cX7_feet 63 = .ok (.iload_n 2, 1) := by decide +kernel
theorem dX7_feet_64 : decode cX7_feet 64 = .ok (.iload_n 1, 1) := by decide +kernel
theorem dX7_feet_65 : decode cX7_feet 65 = .ok (.if_icmp .ge 15, 3) := by decide +kernel
theorem dX7_feet_68 : decode cX7_feet 68 = .ok (.iload_n 2, 1) := by decide +kernel
theorem dX7_feet_69 : decode cX7_feet 69 = .ok (.aload_n 0, 1) := by decide +kernel
theorem dX7_feet_70 : decode cX7_feet 70 = .ok (.getfield 76, 3) := by decide +kernel
theorem dX7_feet_73 : decode cX7_feet 73 = .ok (.getfield 244, 3) := by decide +kernel
theorem dX7_feet_76 : decode cX7_feet 76 = .ok (.arraylength, 1) := by decide +kernel
theorem dX7_feet_77 : decode cX7_feet 77 = .ok (.if_icmp .lt 7, 3) := by decide +kernel
theorem dX7_feet_80 : decode cX7_feet 80 = .ok (.iconst (-1), 1) := by decide +kernel
theorem dX7_feet_81 : decode cX7_feet 81 = .ok (.goto 12, 3) := by decide +kernel
theorem dX7_feet_84 : decode cX7_feet 84 = .ok (.aload_n 0, 1) := by decide +kernel
theorem dX7_feet_85 : decode cX7_feet 85 = .ok (.getfield 76, 3) := by decide +kernel
theorem dX7_feet_88 : decode cX7_feet 88 = .ok (.getfield 244, 3) := by decide +kernel
theorem dX7_feet_91 : decode cX7_feet 91 = .ok (.iload_n 2, 1) := by decide +kernel
theorem dX7_feet_92 : decode cX7_feet 92 = .ok (.iaload, 1) := by decide +kernel
theorem dX7_feet_93 : decode cX7_feet 93 = .ok (.ireturn, 1) := by decide +kernel
theorem dX7_odds_0 : decode cX7_odds 0 = .ok (.iload_n 1, 1) := by decide +kernel
theorem dX7_odds_1 : decode cX7_odds 1 = .ok (.ifCond .lt 10, 3) := by decide +kernel
theorem dX7_odds_4 : decode cX7_odds 4 = .ok (.iload_n 1, 1) := by decide +kernel
theorem dX7_odds_5 : decode cX7_odds 5 = .ok (.sipush 999, 3) := by decide +kernel
theorem dX7_odds_8 : decode cX7_odds 8 = .ok (.if_icmp .le 6, 3) := by decide +kernel
theorem dX7_odds_11 : decode cX7_odds 11 = .ok (.ldc 80, 2) := by decide +kernel
theorem dX7_odds_13 : decode cX7_odds 13 = .ok (.ireturn, 1) := by decide +kernel
theorem dX7_odds_14 : decode cX7_odds 14 = .ok (.aload_n 0, 1) := by decide +kernel
theorem dX7_odds_15 : decode cX7_odds 15 = .ok (.getfield 37, 3) := by decide +kernel
theorem dX7_odds_18 : decode cX7_odds 18 = .ok (.aload_n 0, 1) := by decide +kernel
theorem dX7_odds_19 : decode cX7_odds 19 = .ok (.getfield 27, 3) := by decide +kernel
theorem dX7_odds_22 : decode cX7_odds 22 = .ok (.iload_n 1, 1) := by decide +kernel
theorem dX7_odds_23 : decode cX7_odds 23 = .ok (.invokevirtual 234, 3) := by decide +kernel
theorem dX7_odds_26 : decode cX7_odds 26 = .ok (.istore_n 2, 1) := by decide +kernel
theorem dX7_odds_27 : decode cX7_odds 27 = .ok (.ldc 247, 2) := by decide +kernel
theorem dX7_odds_29 : decode cX7_odds 29 = .ok (.istore_n 3, 1) := by decide +kernel
theorem dX7_odds_30 : decode cX7_odds 30 = .ok (.iconst 0, 1) := by decide +kernel
theorem dX7_odds_31 : decode cX7_odds 31 = .ok (.istore 4, 2) := by decide +kernel
theorem dX7_odds_33 : decode cX7_odds 33 = .ok (.iconst 0, 1) := by decide +kernel
theorem dX7_odds_34 : decode cX7_odds 34 = .ok (.istore 5, 2) := by decide +kernel
theorem dX7_odds_36 : decode cX7_odds 36 = .ok (.iload 5, 2) := by decide +kernel
theorem dX7_odds_38 : decode cX7_odds 38 = .ok (.bipush 8, 2) := by decide +kernel
theorem dX7_odds_40 : decode cX7_odds 40 = .ok (.if_icmp .ge 62, 3) := by decide +kernel
theorem dX7_odds_43 : decode cX7_odds 43 = .ok (.iload_n 2, 1) := by decide +kernel
theorem dX7_odds_44 : decode cX7_odds 44 = .ok (.iload 5, 2) := by decide +kernel
theorem dX7_odds_46 : decode cX7_odds 46 = .ok (.ishr, 1) := by decide +kernel
theorem dX7_odds_47 : decode cX7_odds 47 = .ok (.iconst 1, 1) := by decide +kernel
theorem dX7_odds_48 : decode cX7_odds 48 = .ok (.iand, 1) := by decide +kernel
theorem dX7_odds_49 : decode cX7_odds 49 = .ok (.ifCond .ne 6, 3) := by decide +kernel
theorem dX7_odds_52 : decode cX7_odds 52 = .ok (.goto 44, 3) := by decide +kernel
theorem dX7_odds_55 : decode cX7_odds 55 = .ok (.aload_n 0, 1) := by decide +kernel
theorem dX7_odds_56 : decode cX7_odds 56 = .ok (.getfield 27, 3) := by decide +kernel
theorem dX7_odds_59 : decode cX7_odds 59 = .ok (.getfield 172, 3) := by decide +kernel
theorem dX7_odds_62 : decode cX7_odds 62 = .ok (.iload 5, 2) := by decide +kernel
theorem dX7_odds_64 : decode cX7_odds 64 = .ok (.iaload, 1) := by decide +kernel
theorem dX7_odds_65 : decode cX7_odds 65 = .ok (.istore 6, 2) := by decide +kernel
theorem dX7_odds_67 : decode cX7_odds 67 = .ok (.iload 4, 2) := by decide +kernel
theorem dX7_odds_69 : decode cX7_odds 69 = .ok (.iload 6, 2) := by decide +kernel
theorem dX7_odds_71 : decode cX7_odds 71 = .ok (.imul, 1) := by decide +kernel
theorem dX7_odds_72 : decode cX7_odds 72 = .ok (.bipush 100, 2) := by decide +kernel
theorem dX7_odds_74 : decode cX7_odds 74 = .ok (.idiv, 1) := by decide +kernel
theorem dX7_odds_75 : decode cX7_odds 75 = .ok (.iload_n 3, 1) := by decide +kernel
theorem dX7_odds_76 : decode cX7_odds 76 = .ok (.bipush 100, 2) := by decide +kernel
theorem dX7_odds_78 : decode cX7_odds 78 = .ok (.iload 6, 2) := by decide +kernel
theorem dX7_odds_80 : decode cX7_odds 80 = .ok (.isub, 1) := by decide +kernel
theorem dX7_odds_81 : decode cX7_odds 81 = .ok (.imul, 1) := by decide +kernel
theorem dX7_odds_82 : decode cX7_odds 82 = .ok (.bipush 100, 2) := by decide +kernel
theorem dX7_odds_84 : decode cX7_odds 84 = .ok (.idiv, 1) := by decide +kernel
theorem dX7_odds_85 : decode cX7_odds 85 = .ok (.iadd, 1) := by decide +kernel
theorem dX7_odds_86 : decode cX7_odds 86 = .ok (.istore 4, 2) := by decide +kernel
theorem dX7_odds_88 : decode cX7_odds 88 = .ok (.iload_n 3, 1) := by decide +kernel
theorem dX7_odds_89 : decode cX7_odds 89 = .ok (.iload 6, 2) := by decide +kernel
theorem dX7_odds_91 : decode cX7_odds 91 = .ok (.imul, 1) := by decide +kernel
theorem dX7_odds_92 : decode cX7_odds 92 = .ok (.bipush 100, 2) := by decide +kernel
theorem dX7_odds_94 : decode cX7_odds 94 = .ok (.idiv, 1) := by decide +kernel
theorem dX7_odds_95 : decode cX7_odds 95 = .ok (.istore_n 3, 1) := by decide +kernel
theorem dX7_odds_96 : decode cX7_odds 96 = .ok (.iinc 5 1, 3) := by decide +kernel
theorem dX7_odds_99 : decode cX7_odds 99 = .ok (.goto (-63), 3) := by decide +kernel
theorem dX7_odds_102 : decode cX7_odds 102 = .ok (.iload 4, 2) := by decide +kernel
theorem dX7_odds_104 : decode cX7_odds 104 = .ok (.ireturn, 1) := by decide +kernel
theorem dX7_see_0 : decode cX7_see 0 = .ok (.iload_n 1, 1) := by decide +kernel
theorem dX7_see_1 : decode cX7_see 1 = .ok (.ifCond .lt 18, 3) := by decide +kernel
theorem dX7_see_4 : decode cX7_see 4 = .ok (.iload_n 1, 1) := by decide +kernel
theorem dX7_see_5 : decode cX7_see 5 = .ok (.bipush 100, 2) := by decide +kernel
theorem dX7_see_7 : decode cX7_see 7 = .ok (.if_icmp .ge 12, 3) := by decide +kernel
theorem dX7_see_10 : decode cX7_see 10 = .ok (.iload_n 2, 1) := by decide +kernel
theorem dX7_see_11 : decode cX7_see 11 = .ok (.ifCond .lt 8, 3) := by decide +kernel
theorem dX7_see_14 : decode cX7_see 14 = .ok (.iload_n 2, 1) := by decide +kernel
theorem dX7_see_15 : decode cX7_see 15 = .ok (.iconst 2, 1) := by decide +kernel
theorem dX7_see_16 : decode cX7_see 16 = .ok (.if_icmp .le 6, 3) := by decide +kernel
theorem dX7_see_19 : decode cX7_see 19 = .ok (.ldc 80, 2) := by decide +kernel
theorem dX7_see_21 : decode cX7_see 21 = .ok (.ireturn, 1) := by decide +kernel
theorem dX7_see_22 : decode cX7_see 22 = .ok (.aload_n 0, 1) := by decide +kernel
theorem dX7_see_23 : decode cX7_see 23 = .ok (.getfield 62, 3) := by decide +kernel
theorem dX7_see_26 : decode cX7_see 26 = .ok (.iload_n 1, 1) := by decide +kernel
theorem dX7_see_27 : decode cX7_see 27 = .ok (.iload_n 2, 1) := by decide +kernel
theorem dX7_see_28 : decode cX7_see 28 = .ok (.invokevirtual 248, 3) := by decide +kernel
theorem dX7_see_31 : decode cX7_see 31 = .ok (.ifCond .eq 13, 3) := by decide +kernel
theorem dX7_see_34 : decode cX7_see 34 = .ok (.aload_n 0, 1) := by decide +kernel
theorem dX7_see_35 : decode cX7_see 35 = .ok (.getfield 62, 3) := by decide +kernel
theorem dX7_see_38 : decode cX7_see 38 = .ok (.getfield 149, 3) := by decide +kernel
theorem dX7_see_41 : decode cX7_see 41 = .ok (.goto 5, 3) := by decide +kernel
theorem dX7_see_44 : decode cX7_see 44 = .ok (.ldc 84, 2) := by decide +kernel
theorem dX7_see_46 : decode cX7_see 46 = .ok (.ireturn, 1) := by decide +kernel
theorem dX7_went_0 : decode cX7_went 0 = .ok (.aload_n 0, 1) := by decide +kernel
theorem dX7_went_1 : decode cX7_went 1 = .ok (.getfield 27, 3) := by decide +kernel
theorem dX7_went_4 : decode cX7_went 4 = .ok (.iload_n 1, 1) := by decide +kernel
theorem dX7_went_5 : decode cX7_went 5 = .ok (.invokevirtual 158, 3) := by decide +kernel
theorem dX7_went_8 : decode cX7_went 8 = .ok (.ifCond .ne 6, 3) := by decide +kernel
theorem dX7_went_11 : decode cX7_went 11 = .ok (.ldc 162, 2) := by decide +kernel
theorem dX7_went_13 : decode cX7_went 13 = .ok (.ireturn, 1) := by decide +kernel
theorem dX7_went_14 : decode cX7_went 14 = .ok (.iload_n 2, 1) := by decide +kernel
theorem dX7_went_15 : decode cX7_went 15 = .ok (.ifCond .lt 8, 3) := by decide +kernel
theorem dX7_went_18 : decode cX7_went 18 = .ok (.iload_n 2, 1) := by decide +kernel
theorem dX7_went_19 : decode cX7_went 19 = .ok (.iconst 1, 1) := by decide +kernel
theorem dX7_went_20 : decode cX7_went 20 = .ok (.if_icmp .le 6, 3) := by decide +kernel
theorem dX7_went_23 : decode cX7_went 23 = .ok (.ldc 80, 2) := by decide +kernel
theorem dX7_went_25 : decode cX7_went 25 = .ok (.ireturn, 1) := by decide +kernel
theorem dX7_went_26 : decode cX7_went 26 = .ok (.aload_n 0, 1) := by decide +kernel
theorem dX7_went_27 : decode cX7_went 27 = .ok (.getfield 62, 3) := by decide +kernel
theorem dX7_went_30 : decode cX7_went 30 = .ok (.aload_n 0, 1) := by decide +kernel
theorem dX7_went_31 : decode cX7_went 31 = .ok (.getfield 27, 3) := by decide +kernel
theorem dX7_went_34 : decode cX7_went 34 = .ok (.aload_n 0, 1) := by decide +kernel
theorem dX7_went_35 : decode cX7_went 35 = .ok (.getfield 37, 3) := by decide +kernel
theorem dX7_went_38 : decode cX7_went 38 = .ok (.iload_n 1, 1) := by decide +kernel
theorem dX7_went_39 : decode cX7_went 39 = .ok (.invokevirtual 251, 3) := by decide +kernel
theorem dX7_went_42 : decode cX7_went 42 = .ok (.istore_n 3, 1) := by decide +kernel
theorem dX7_went_43 : decode cX7_went 43 = .ok (.iload_n 2, 1) := by decide +kernel
theorem dX7_went_44 : decode cX7_went 44 = .ok (.ifCond .ne 7, 3) := by decide +kernel
theorem dX7_went_47 : decode cX7_went 47 = .ok (.iload_n 3, 1) := by decide +kernel
theorem dX7_went_48 : decode cX7_went 48 = .ok (.goto 9, 3) := by decide +kernel
theorem dX7_went_51 : decode cX7_went 51 = .ok (.aload_n 0, 1) := by decide +kernel
theorem dX7_went_52 : decode cX7_went 52 = .ok (.iload_n 1, 1) := by decide +kernel
theorem dX7_went_53 : decode cX7_went 53 = .ok (.iload_n 3, 1) := by decide +kernel
theorem dX7_went_54 : decode cX7_went 54 = .ok (.invokevirtual 255, 3) := by decide +kernel
theorem dX7_went_57 : decode cX7_went 57 = .ok (.ireturn, 1) := by decide +kernel
theorem dX7_write_0 : decode cX7_write 0 = .ok (.iload_n 2, 1) := by decide +kernel
theorem dX7_write_1 : decode cX7_write 1 = .ok (.iconst (-1), 1) := by decide +kernel
theorem dX7_write_2 : decode cX7_write 2 = .ok (.if_icmp .eq 17, 3) := by decide +kernel
theorem dX7_write_5 : decode cX7_write 5 = .ok (.aload_n 0, 1) := by decide +kernel
theorem dX7_write_6 : decode cX7_write 6 = .ok (.getfield 27, 3) := by decide +kernel
theorem dX7_write_9 : decode cX7_write 9 = .ok (.iload_n 2, 1) := by decide +kernel
theorem dX7_write_10 : decode cX7_write 10 = .ok (.invokevirtual 158, 3) := by decide +kernel
theorem dX7_write_13 : decode cX7_write 13 = .ok (.ifCond .ne 6, 3) := by decide +kernel
theorem dX7_write_16 : decode cX7_write 16 = .ok (.ldc 162, 2) := by decide +kernel
theorem dX7_write_18 : decode cX7_write 18 = .ok (.ireturn, 1) := by decide +kernel
theorem dX7_write_19 : decode cX7_write 19 = .ok (.iload_n 1, 1) := by decide +kernel
theorem dX7_write_20 : decode cX7_write 20 = .ok (.ifCond .lt 10, 3) := by decide +kernel
theorem dX7_write_23 : decode cX7_write 23 = .ok (.iload_n 1, 1) := by decide +kernel
theorem dX7_write_24 : decode cX7_write 24 = .ok (.sipush 9999, 3) := by decide +kernel
theorem dX7_write_27 : decode cX7_write 27 = .ok (.if_icmp .le 6, 3) := by decide +kernel
theorem dX7_write_30 : decode cX7_write 30 = .ok (.ldc 80, 2) := by decide +kernel
theorem dX7_write_32 : decode cX7_write 32 = .ok (.ireturn, 1) := by decide +kernel
theorem dX7_write_33 : decode cX7_write 33 = .ok (.aload_n 0, 1) := by decide +kernel
theorem dX7_write_34 : decode cX7_write 34 = .ok (.getfield 62, 3) := by decide +kernel
theorem dX7_write_37 : decode cX7_write 37 = .ok (.iload_n 1, 1) := by decide +kernel
theorem dX7_write_38 : decode cX7_write 38 = .ok (.iload_n 2, 1) := by decide +kernel
theorem dX7_write_39 : decode cX7_write 39 = .ok (.invokevirtual 259, 3) := by decide +kernel
theorem dX7_write_42 : decode cX7_write 42 = .ok (.ifCond .eq 13, 3) := by decide +kernel
theorem dX7_write_45 : decode cX7_write 45 = .ok (.aload_n 0, 1) := by decide +kernel
theorem dX7_write_46 : decode cX7_write 46 = .ok (.getfield 62, 3) := by decide +kernel
theorem dX7_write_49 : decode cX7_write 49 = .ok (.getfield 152, 3) := by decide +kernel
theorem dX7_write_52 : decode cX7_write 52 = .ok (.goto 5, 3) := by decide +kernel
theorem dX7_write_55 : decode cX7_write 55 = .ok (.ldc 84, 2) := by decide +kernel
theorem dX7_write_57 : decode cX7_write 57 = .ok (.ireturn, 1) := by decide +kernel
theorem dX7_tear_0 : decode cX7_tear 0 = .ok (.aload_n 0, 1) := by decide +kernel
theorem dX7_tear_1 : decode cX7_tear 1 = .ok (.getfield 62, 3) := by decide +kernel
theorem dX7_tear_4 : decode cX7_tear 4 = .ok (.getfield 149, 3) := by decide +kernel
theorem dX7_tear_7 : decode cX7_tear 7 = .ok (.aload_n 0, 1) := by decide +kernel
theorem dX7_tear_8 : decode cX7_tear 8 = .ok (.getfield 62, 3) := by decide +kernel
theorem dX7_tear_11 : decode cX7_tear 11 = .ok (.getfield 152, 3) := by decide +kernel
theorem dX7_tear_14 : decode cX7_tear 14 = .ok (.iadd, 1) := by decide +kernel
theorem dX7_tear_15 : decode cX7_tear 15 = .ok (.istore_n 1, 1) := by decide +kernel
theorem dX7_tear_16 : decode cX7_tear 16 = .ok (.aload_n 0, 1) := by decide +kernel
theorem dX7_tear_17 : decode cX7_tear 17 = .ok (.getfield 62, 3) := by decide +kernel
theorem dX7_tear_20 : decode cX7_tear 20 = .ok (.invokevirtual 96, 3) := by decide +kernel
theorem dX7_tear_23 : decode cX7_tear 23 = .ok (.iload_n 1, 1) := by decide +kernel
theorem dX7_tear_24 : decode cX7_tear 24 = .ok (.ireturn, 1) := by decide +kernel
theorem dX7_judge_0 : decode cX7_judge 0 = .ok (.aload_n 0, 1) := by decide +kernel
theorem dX7_judge_1 : decode cX7_judge 1 = .ok (.getfield 62, 3) := by decide +kernel
theorem dX7_judge_4 : decode cX7_judge 4 = .ok (.aload_n 0, 1) := by decide +kernel
theorem dX7_judge_5 : decode cX7_judge 5 = .ok (.getfield 37, 3) := by decide +kernel
theorem dX7_judge_8 : decode cX7_judge 8 = .ok (.invokevirtual 262, 3) := by decide +kernel
theorem dX7_judge_11 : decode cX7_judge 11 = .ok (.ireturn, 1) := by decide +kernel
theorem dX7_seed_0 : decode cX7_seed 0 = .ok (.iload_n 1, 1) := by decide +kernel
theorem dX7_seed_1 : decode cX7_seed 1 = .ok (.ifCond .ge 6, 3) := by decide +kernel
theorem dX7_seed_4 : decode cX7_seed 4 = .ok (.ldc 80, 2) := by decide +kernel
theorem dX7_seed_6 : decode cX7_seed 6 = .ok (.ireturn, 1) := by decide +kernel
theorem dX7_seed_7 : decode cX7_seed 7 = .ok (.aload_n 0, 1) := by decide +kernel
theorem dX7_seed_8 : decode cX7_seed 8 = .ok (.getfield 266, 3) := by decide +kernel
theorem dX7_seed_11 : decode cX7_seed 11 = .ok (.istore_n 2, 1) := by decide +kernel
theorem dX7_seed_12 : decode cX7_seed 12 = .ok (.aload_n 0, 1) := by decide +kernel
theorem dX7_seed_13 : decode cX7_seed 13 = .ok (.iload_n 1, 1) := by decide +kernel
theorem dX7_seed_14 : decode cX7_seed 14 = .ok (.putfield 266, 3) := by decide +kernel
theorem dX7_seed_17 : decode cX7_seed 17 = .ok (.iload_n 2, 1) := by decide +kernel
theorem dX7_seed_18 : decode cX7_seed 18 = .ok (.ireturn, 1) := by decide +kernel
theorem dX7_keep_0 : decode cX7_keep 0 = .ok (.iload_n 1, 1) := by decide +kernel
theorem dX7_keep_1 : decode cX7_keep 1 = .ok (.ifCond .lt 21, 3) := by decide +kernel
theorem dX7_keep_4 : decode cX7_keep 4 = .ok (.iload_n 1, 1) := by decide +kernel
theorem dX7_keep_5 : decode cX7_keep 5 = .ok (.aload_n 0, 1) := by decide +kernel
theorem dX7_keep_6 : decode cX7_keep 6 = .ok (.getfield 51, 3) := by decide +kernel
theorem dX7_keep_9 : decode cX7_keep 9 = .ok (.arraylength, 1) := by decide +kernel
theorem dX7_keep_10 : decode cX7_keep 10 = .ok (.if_icmp .ge 12, 3) := by decide +kernel
theorem dX7_keep_13 : decode cX7_keep 13 = .ok (.iload_n 1, 1) := by decide +kernel
theorem dX7_keep_14 : decode cX7_keep 14 = .ok (.aload_n 0, 1) := by decide +kernel
theorem dX7_keep_15 : decode cX7_keep 15 = .ok (.getfield 55, 3) := by decide +kernel
theorem dX7_keep_18 : decode cX7_keep 18 = .ok (.arraylength, 1) := by decide +kernel
theorem dX7_keep_19 : decode cX7_keep 19 = .ok (.if_icmp .lt 6, 3) := by decide +kernel
theorem dX7_keep_22 : decode cX7_keep 22 = .ok (.ldc 162, 2) := by decide +kernel
theorem dX7_keep_24 : decode cX7_keep 24 = .ok (.ireturn, 1) := by decide +kernel
theorem dX7_keep_25 : decode cX7_keep 25 = .ok (.aload_n 0, 1) := by decide +kernel
theorem dX7_keep_26 : decode cX7_keep 26 = .ok (.getfield 51, 3) := by decide +kernel
theorem dX7_keep_29 : decode cX7_keep 29 = .ok (.iload_n 1, 1) := by decide +kernel
theorem dX7_keep_30 : decode cX7_keep 30 = .ok (.aaload, 1) := by decide +kernel
theorem dX7_keep_31 : decode cX7_keep 31 = .ok (.astore_n 2, 1) := by decide +kernel
theorem dX7_keep_32 : decode cX7_keep 32 = .ok (.aload_n 2, 1) := by decide +kernel
theorem dX7_keep_33 : decode cX7_keep 33 = .ok (.ifnonnull 6, 3) := by decide +kernel
theorem dX7_keep_36 : decode cX7_keep 36 = .ok (.ldc 162, 2) := by decide +kernel
theorem dX7_keep_38 : decode cX7_keep 38 = .ok (.ireturn, 1) := by decide +kernel
theorem dX7_keep_39 : decode cX7_keep 39 = .ok (.aload_n 2, 1) := by decide +kernel
theorem dX7_keep_40 : decode cX7_keep 40 = .ok (.aload_n 0, 1) := by decide +kernel
theorem dX7_keep_41 : decode cX7_keep 41 = .ok (.getfield 37, 3) := by decide +kernel
theorem dX7_keep_44 : decode cX7_keep 44 = .ok (.invokevirtual 269, 3) := by decide +kernel
theorem dX7_keep_47 : decode cX7_keep 47 = .ok (.aload_n 0, 1) := by decide +kernel
theorem dX7_keep_48 : decode cX7_keep 48 = .ok (.getfield 55, 3) := by decide +kernel
theorem dX7_keep_51 : decode cX7_keep 51 = .ok (.iload_n 1, 1) := by decide +kernel
theorem dX7_keep_52 : decode cX7_keep 52 = .ok (.aload_n 0, 1) := by decide +kernel
theorem dX7_keep_53 : decode cX7_keep 53 = .ok (.getfield 266, 3) := by decide +kernel
theorem dX7_keep_56 : decode cX7_keep 56 = .ok (.iastore, 1) := by decide +kernel
theorem dX7_keep_57 : decode cX7_keep 57 = .ok (.aload_n 0, 1) := by decide +kernel
theorem dX7_keep_58 : decode cX7_keep 58 = .ok (.dup, 1) := by decide +kernel
theorem dX7_keep_59 : decode cX7_keep 59 = .ok (.getfield 100, 3) := by decide +kernel
theorem dX7_keep_62 : decode cX7_keep 62 = .ok (.iconst 1, 1) := by decide +kernel
theorem dX7_keep_63 : decode cX7_keep 63 = .ok (.iload_n 1, 1) := by decide +kernel
theorem dX7_keep_64 : decode cX7_keep 64 = .ok (.ishl, 1) := by decide +kernel
theorem dX7_keep_65 : decode cX7_keep 65 = .ok (.ior, 1) := by decide +kernel
theorem dX7_keep_66 : decode cX7_keep 66 = .ok (.putfield 100, 3) := by decide +kernel
theorem dX7_keep_69 : decode cX7_keep 69 = .ok (.aload_n 0, 1) := by decide +kernel
theorem dX7_keep_70 : decode cX7_keep 70 = .ok (.getfield 47, 3) := by decide +kernel
theorem dX7_keep_73 : decode cX7_keep 73 = .ok (.invokevirtual 99, 3) := by decide +kernel
theorem dX7_keep_76 : decode cX7_keep 76 = .ok (.iconst 1, 1) := by decide +kernel
theorem dX7_keep_77 : decode cX7_keep 77 = .ok (.ireturn, 1) := by decide +kernel
theorem dX7_goBack_0 : decode cX7_goBack 0 = .ok (.iload_n 1, 1) := by decide +kernel
theorem dX7_goBack_1 : decode cX7_goBack 1 = .ok (.ifCond .lt 21, 3) := by decide +kernel
theorem dX7_goBack_4 : decode cX7_goBack 4 = .ok (.iload_n 1, 1) := by decide +kernel
theorem dX7_goBack_5 : decode cX7_goBack 5 = .ok (.aload_n 0, 1) := by decide +kernel
theorem dX7_goBack_6 : decode cX7_goBack 6 = .ok (.getfield 51, 3) := by decide +kernel
theorem dX7_goBack_9 : decode cX7_goBack 9 = .ok (.arraylength, 1) := by decide +kernel
theorem dX7_goBack_10 : decode cX7_goBack 10 = .ok (.if_icmp .ge 12, 3) := by decide +kernel
theorem dX7_goBack_13 : decode cX7_goBack 13 = .ok (.iload_n 1, 1) := by decide +kernel
theorem dX7_goBack_14 : decode cX7_goBack 14 = .ok (.aload_n 0, 1) := by decide +kernel
theorem dX7_goBack_15 : decode cX7_goBack 15 = .ok (.getfield 55, 3) := by decide +kernel
theorem dX7_goBack_18 : decode cX7_goBack 18 = .ok (.arraylength, 1) := by decide +kernel
theorem dX7_goBack_19 : decode cX7_goBack 19 = .ok (.if_icmp .lt 6, 3) := by decide +kernel
theorem dX7_goBack_22 : decode cX7_goBack 22 = .ok (.ldc 162, 2) := by decide +kernel
theorem dX7_goBack_24 : decode cX7_goBack 24 = .ok (.ireturn, 1) := by decide +kernel
theorem dX7_goBack_25 : decode cX7_goBack 25 = .ok (.aload_n 0, 1) := by decide +kernel
theorem dX7_goBack_26 : decode cX7_goBack 26 = .ok (.getfield 51, 3) := by decide +kernel
theorem dX7_goBack_29 : decode cX7_goBack 29 = .ok (.iload_n 1, 1) := by decide +kernel
theorem dX7_goBack_30 : decode cX7_goBack 30 = .ok (.aaload, 1) := by decide +kernel
theorem dX7_goBack_31 : decode cX7_goBack 31 = .ok (.astore_n 2, 1) := by decide +kernel
theorem dX7_goBack_32 : decode cX7_goBack 32 = .ok (.aload_n 2, 1) := by decide +kernel
theorem dX7_goBack_33 : decode cX7_goBack 33 = .ok (.ifnull 14, 3) := by decide +kernel
theorem dX7_goBack_36 : decode cX7_goBack 36 = .ok (.aload_n 0, 1) := by decide +kernel
theorem dX7_goBack_37 : decode cX7_goBack 37 = .ok (.getfield 100, 3) := by decide +kernel
theorem dX7_goBack_40 : decode cX7_goBack 40 = .ok (.iload_n 1, 1) := by decide +kernel
theorem dX7_goBack_41 : decode cX7_goBack 41 = .ok (.ishr, 1) := by decide +kernel
theorem dX7_goBack_42 : decode cX7_goBack 42 = .ok (.iconst 1, 1) := by decide +kernel
theorem dX7_goBack_43 : decode cX7_goBack 43 = .ok (.iand, 1) := by decide +kernel
theorem dX7_goBack_44 : decode cX7_goBack 44 = .ok (.ifCond .ne 6, 3) := by decide +kernel
theorem dX7_goBack_47 : decode cX7_goBack 47 = .ok (.ldc 206, 2) := by decide +kernel
theorem dX7_goBack_49 : decode cX7_goBack 49 = .ok (.ireturn, 1) := by decide +kernel
theorem dX7_goBack_50 : decode cX7_goBack 50 = .ok (.aload_n 0, 1) := by decide +kernel
theorem dX7_goBack_51 : decode cX7_goBack 51 = .ok (.getfield 37, 3) := by decide +kernel
theorem dX7_goBack_54 : decode cX7_goBack 54 = .ok (.aload_n 2, 1) := by decide +kernel
theorem dX7_goBack_55 : decode cX7_goBack 55 = .ok (.invokevirtual 269, 3) := by decide +kernel
theorem dX7_goBack_58 : decode cX7_goBack 58 = .ok (.aload_n 0, 1) := by decide +kernel
theorem dX7_goBack_59 : decode cX7_goBack 59 = .ok (.aload_n 0, 1) := by decide +kernel
theorem dX7_goBack_60 : decode cX7_goBack 60 = .ok (.getfield 55, 3) := by decide +kernel
theorem dX7_goBack_63 : decode cX7_goBack 63 = .ok (.iload_n 1, 1) := by decide +kernel
theorem dX7_goBack_64 : decode cX7_goBack 64 = .ok (.iaload, 1) := by decide +kernel
theorem dX7_goBack_65 : decode cX7_goBack 65 = .ok (.putfield 266, 3) := by decide +kernel
theorem dX7_goBack_68 : decode cX7_goBack 68 = .ok (.aload_n 0, 1) := by decide +kernel
theorem dX7_goBack_69 : decode cX7_goBack 69 = .ok (.getfield 47, 3) := by decide +kernel
theorem dX7_goBack_72 : decode cX7_goBack 72 = .ok (.invokevirtual 99, 3) := by decide +kernel
theorem dX7_goBack_75 : decode cX7_goBack 75 = .ok (.iconst 1, 1) := by decide +kernel
theorem dX7_goBack_76 : decode cX7_goBack 76 = .ok (.ireturn, 1) := by decide +kernel
theorem dX7_refusalOfDays_0 : decode cX7_refusalOfDays 0 = .ok (.iload_n 1, 1) := by decide +kernel
theorem dX7_refusalOfDays_1 : decode cX7_refusalOfDays 1 = .ok (.iconst 1, 1) := by decide +kernel
theorem dX7_refusalOfDays_2 : decode cX7_refusalOfDays 2 = .ok (.if_icmp .lt 9, 3) := by decide +kernel
theorem dX7_refusalOfDays_5 : decode cX7_refusalOfDays 5 = .ok (.iload_n 1, 1) := by decide +kernel
theorem dX7_refusalOfDays_6 : decode cX7_refusalOfDays 6 = .ok (.bipush 99, 2) := by decide +kernel
theorem dX7_refusalOfDays_8 : decode cX7_refusalOfDays 8 = .ok (.if_icmp .le 6, 3) := by decide +kernel
theorem dX7_refusalOfDays_11 : decode cX7_refusalOfDays 11 = .ok (.ldc 80, 2) := by decide +kernel
theorem dX7_refusalOfDays_13 : decode cX7_refusalOfDays 13 = .ok (.ireturn, 1) := by decide +kernel
theorem dX7_refusalOfDays_14 : decode cX7_refusalOfDays 14 = .ok (.aload_n 0, 1) := by decide +kernel
theorem dX7_refusalOfDays_15 : decode cX7_refusalOfDays 15 = .ok (.getfield 27, 3) := by decide +kernel
theorem dX7_refusalOfDays_18 : decode cX7_refusalOfDays 18 = .ok (.getfield 210, 3) := by decide +kernel
theorem dX7_refusalOfDays_21 : decode cX7_refusalOfDays 21 = .ok (.ifCond .eq 13, 3) := by decide +kernel
theorem dX7_refusalOfDays_24 : decode cX7_refusalOfDays 24 = .ok (.aload_n 0, 1) := by decide +kernel
theorem dX7_refusalOfDays_25 : decode cX7_refusalOfDays 25 = .ok (.getfield 37, 3) := by decide +kernel
theorem dX7_refusalOfDays_28 : decode cX7_refusalOfDays 28 = .ok (.getfield 127, 3) := by decide +kernel
theorem dX7_refusalOfDays_31 : decode cX7_refusalOfDays 31 = .ok (.ifCond .eq 6, 3) := by decide +kernel
theorem dX7_refusalOfDays_34 : decode cX7_refusalOfDays 34 = .ok (.ldc 206, 2) := by decide +kernel
theorem dX7_refusalOfDays_36 : decode cX7_refusalOfDays 36 = .ok (.ireturn, 1) := by decide +kernel
theorem dX7_refusalOfDays_37 : decode cX7_refusalOfDays 37 = .ok (.aload_n 0, 1) := by decide +kernel
theorem dX7_refusalOfDays_38 : decode cX7_refusalOfDays 38 = .ok (.getfield 37, 3) := by decide +kernel
theorem dX7_refusalOfDays_41 : decode cX7_refusalOfDays 41 = .ok (.getfield 121, 3) := by decide +kernel
theorem dX7_refusalOfDays_44 : decode cX7_refusalOfDays 44 = .ok (.sipush 9000, 3) := by decide +kernel
theorem dX7_refusalOfDays_47 : decode cX7_refusalOfDays 47 = .ok (.if_icmp .le 8, 3) := by decide +kernel
theorem dX7_refusalOfDays_50 : decode cX7_refusalOfDays 50 = .ok (.ldc 84, 2) := by decide +kernel
theorem dX7_refusalOfDays_52 : decode cX7_refusalOfDays 52 = .ok (.goto 4, 3) := by decide +kernel
theorem dX7_refusalOfDays_55 : decode cX7_refusalOfDays 55 = .ok (.iconst 0, 1) := by decide +kernel
theorem dX7_refusalOfDays_56 : decode cX7_refusalOfDays 56 = .ok (.ireturn, 1) := by decide +kernel
theorem dX7_draw_0 : decode cX7_draw 0 = .ok (.aload_n 0, 1) := by decide +kernel
theorem dX7_draw_1 : decode cX7_draw 1 = .ok (.aload_n 0, 1) := by decide +kernel
theorem dX7_draw_2 : decode cX7_draw 2 = .ok (.getfield 266, 3) := by decide +kernel
theorem dX7_draw_5 : decode cX7_draw 5 = .ok (.i2l, 1) := by decide +kernel
theorem dX7_draw_6 : decode cX7_draw 6 = .ok (.ldc2_w 272, 3) := by decide +kernel
theorem dX7_draw_9 : decode cX7_draw 9 = .ok (.lmul, 1) := by decide +kernel
theorem dX7_draw_10 : decode cX7_draw 10 = .ok (.ldc2_w 274, 3) := by decide +kernel
theorem dX7_draw_13 : decode cX7_draw 13 = .ok (.ladd, 1) := by decide +kernel
theorem dX7_draw_14 : decode cX7_draw 14 = .ok (.ldc2_w 276, 3) := by decide +kernel
theorem dX7_draw_17 : decode cX7_draw 17 = .ok (.land, 1) := by decide +kernel
theorem dX7_draw_18 : decode cX7_draw 18 = .ok (.l2i, 1) := by decide +kernel
theorem dX7_draw_19 : decode cX7_draw 19 = .ok (.putfield 266, 3) := by decide +kernel
theorem dX7_draw_22 : decode cX7_draw 22 = .ok (.iload_n 1, 1) := by decide +kernel
theorem dX7_draw_23 : decode cX7_draw 23 = .ok (.iconst 1, 1) := by decide +kernel
theorem dX7_draw_24 : decode cX7_draw 24 = .ok (.if_icmp .ge 7, 3) := by decide +kernel
theorem dX7_draw_27 : decode cX7_draw 27 = .ok (.iconst 0, 1) := by decide +kernel
theorem dX7_draw_28 : decode cX7_draw 28 = .ok (.goto 13, 3) := by decide +kernel
theorem dX7_draw_31 : decode cX7_draw 31 = .ok (.aload_n 0, 1) := by decide +kernel
theorem dX7_draw_32 : decode cX7_draw 32 = .ok (.getfield 266, 3) := by decide +kernel
theorem dX7_draw_35 : decode cX7_draw 35 = .ok (.ldc_w 278, 3) := by decide +kernel
theorem dX7_draw_38 : decode cX7_draw 38 = .ok (.idiv, 1) := by decide +kernel
theorem dX7_draw_39 : decode cX7_draw 39 = .ok (.iload_n 1, 1) := by decide +kernel
theorem dX7_draw_40 : decode cX7_draw 40 = .ok (.irem, 1) := by decide +kernel
theorem dX7_draw_41 : decode cX7_draw 41 = .ok (.ireturn, 1) := by decide +kernel
theorem dX7_shiftByDraws_0 : decode cX7_shiftByDraws 0 = .ok (.aload_n 0, 1) := by decide +kernel
theorem dX7_shiftByDraws_1 : decode cX7_shiftByDraws 1 = .ok (.iconst 4, 1) := by decide +kernel
theorem dX7_shiftByDraws_2 : decode cX7_shiftByDraws 2 = .ok (.invokevirtual 279, 3) := by decide +kernel
theorem dX7_shiftByDraws_5 : decode cX7_shiftByDraws 5 = .ok (.ifCond .ne 14, 3) := by decide +kernel
theorem dX7_shiftByDraws_8 : decode cX7_shiftByDraws 8 = .ok (.aload_n 0, 1) := by decide +kernel
theorem dX7_shiftByDraws_9 : decode cX7_shiftByDraws 9 = .ok (.getfield 27, 3) := by decide +kernel
theorem dX7_shiftByDraws_12 : decode cX7_shiftByDraws 12 = .ok (.getfield 103, 3) := by decide +kernel
theorem dX7_shiftByDraws_15 : decode cX7_shiftByDraws 15 = .ok (.iconst 1, 1) := by decide +kernel
theorem dX7_shiftByDraws_16 : decode cX7_shiftByDraws 16 = .ok (.if_icmp .ge 4, 3) := by decide +kernel
theorem dX7_shiftByDraws_19 : decode cX7_shiftByDraws 19 = .ok (.return_, 1) := by decide +kernel
theorem dX7_shiftByDraws_20 : decode cX7_shiftByDraws 20 = .ok (.aload_n 0, 1) := by decide +kernel
theorem dX7_shiftByDraws_21 : decode cX7_shiftByDraws 21 = .ok (.aload_n 0, 1) := by decide +kernel
theorem dX7_shiftByDraws_22 : decode cX7_shiftByDraws 22 = .ok (.getfield 27, 3) := by decide +kernel
theorem dX7_shiftByDraws_25 : decode cX7_shiftByDraws 25 = .ok (.getfield 103, 3) := by decide +kernel
theorem dX7_shiftByDraws_28 : decode cX7_shiftByDraws 28 = .ok (.invokevirtual 279, 3) := by decide +kernel
theorem dX7_shiftByDraws_31 : decode cX7_shiftByDraws 31 = .ok (.istore_n 1, 1) := by decide +kernel
theorem dX7_shiftByDraws_32 : decode cX7_shiftByDraws 32 = .ok (.aload_n 0, 1) := by decide +kernel
theorem dX7_shiftByDraws_33 : decode cX7_shiftByDraws 33 = .ok (.getfield 27, 3) := by decide +kernel
theorem dX7_shiftByDraws_36 : decode cX7_shiftByDraws 36 = .ok (.iload_n 1, 1) := by decide +kernel
theorem dX7_shiftByDraws_37 : decode cX7_shiftByDraws 37 = .ok (.invokevirtual 158, 3) := by decide +kernel
theorem dX7_shiftByDraws_40 : decode cX7_shiftByDraws 40 = .ok (.ifCond .eq 25, 3) := by decide +kernel
theorem dX7_shiftByDraws_43 : decode cX7_shiftByDraws 43 = .ok (.aload_n 0, 1) := by decide +kernel
theorem dX7_shiftByDraws_44 : decode cX7_shiftByDraws 44 = .ok (.getfield 37, 3) := by decide +kernel
theorem dX7_shiftByDraws_47 : decode cX7_shiftByDraws 47 = .ok (.getfield 169, 3) := by decide +kernel
theorem dX7_shiftByDraws_50 : decode cX7_shiftByDraws 50 = .ok (.iload_n 1, 1) := by decide +kernel
theorem dX7_shiftByDraws_51 : decode cX7_shiftByDraws 51 = .ok (.aload_n 0, 1) := by decide +kernel
theorem dX7_shiftByDraws_52 : decode cX7_shiftByDraws 52 = .ok (.aload_n 0, 1) := by decide +kernel
theorem dX7_shiftByDraws_53 : decode cX7_shiftByDraws 53 = .ok (.getfield 27, 3) := by decide +kernel
theorem dX7_shiftByDraws_56 : decode cX7_shiftByDraws 56 = .ok (.getfield 166, 3) := by decide +kernel
theorem dX7_shiftByDraws_59 : decode cX7_shiftByDraws 59 = .ok (.iload_n 1, 1) := by decide +kernel
theorem dX7_shiftByDraws_60 : decode cX7_shiftByDraws 60 = .ok (.iaload, 1) := by decide +kernel
theorem dX7_shiftByDraws_61 : decode cX7_shiftByDraws 61 = .ok (.invokevirtual 279, 3) := by decide +kernel
theorem dX7_shiftByDraws_64 : decode cX7_shiftByDraws 64 = .ok (.iastore, 1) := by decide +kernel
theorem dX7_shiftByDraws_65 : decode cX7_shiftByDraws 65 = .ok (.return_, 1) := by decide +kernel
theorem dX7_isPeaceful_0 : decode cX7_isPeaceful 0 = .ok (.aload_n 0, 1) := by decide +kernel
theorem dX7_isPeaceful_1 : decode cX7_isPeaceful 1 = .ok (.getfield 41, 3) := by decide +kernel
theorem dX7_isPeaceful_4 : decode cX7_isPeaceful 4 = .ok (.aload_n 0, 1) := by decide +kernel
theorem dX7_isPeaceful_5 : decode cX7_isPeaceful 5 = .ok (.getfield 37, 3) := by decide +kernel
theorem dX7_isPeaceful_8 : decode cX7_isPeaceful 8 = .ok (.invokevirtual 213, 3) := by decide +kernel
theorem dX7_isPeaceful_11 : decode cX7_isPeaceful 11 = .ok (.aload_n 0, 1) := by decide +kernel
theorem dX7_isPeaceful_12 : decode cX7_isPeaceful 12 = .ok (.getfield 41, 3) := by decide +kernel
theorem dX7_isPeaceful_15 : decode cX7_isPeaceful 15 = .ok (.dup, 1) := by decide +kernel
theorem dX7_isPeaceful_16 : decode cX7_isPeaceful 16 = .ok (.getfield 200, 3) := by decide +kernel
theorem dX7_isPeaceful_19 : decode cX7_isPeaceful 19 = .ok (.iload_n 1, 1) := by decide +kernel
theorem dX7_isPeaceful_20 : decode cX7_isPeaceful 20 = .ok (.ior, 1) := by decide +kernel
theorem dX7_isPeaceful_21 : decode cX7_isPeaceful 21 = .ok (.putfield 200, 3) := by decide +kernel
theorem dX7_isPeaceful_24 : decode cX7_isPeaceful 24 = .ok (.iconst 0, 1) := by decide +kernel
theorem dX7_isPeaceful_25 : decode cX7_isPeaceful 25 = .ok (.istore_n 3, 1) := by decide +kernel
theorem dX7_isPeaceful_26 : decode cX7_isPeaceful 26 = .ok (.iload_n 3, 1) := by decide +kernel
theorem dX7_isPeaceful_27 : decode cX7_isPeaceful 27 = .ok (.iload_n 2, 1) := by decide +kernel
theorem dX7_isPeaceful_28 : decode cX7_isPeaceful 28 = .ok (.if_icmp .ge 73, 3) := by decide +kernel
theorem dX7_isPeaceful_31 : decode cX7_isPeaceful 31 = .ok (.aload_n 0, 1) := by decide +kernel
theorem dX7_isPeaceful_32 : decode cX7_isPeaceful 32 = .ok (.getfield 41, 3) := by decide +kernel
theorem dX7_isPeaceful_35 : decode cX7_isPeaceful 35 = .ok (.getfield 127, 3) := by decide +kernel
theorem dX7_isPeaceful_38 : decode cX7_isPeaceful 38 = .ok (.ifCond .ne 63, 3) := by decide +kernel
theorem dX7_isPeaceful_41 : decode cX7_isPeaceful 41 = .ok (.aload_n 0, 1) := by decide +kernel
theorem dX7_isPeaceful_42 : decode cX7_isPeaceful 42 = .ok (.getfield 41, 3) := by decide +kernel
theorem dX7_isPeaceful_45 : decode cX7_isPeaceful 45 = .ok (.aload_n 0, 1) := by decide +kernel
theorem dX7_isPeaceful_46 : decode cX7_isPeaceful 46 = .ok (.getfield 27, 3) := by decide +kernel
theorem dX7_isPeaceful_49 : decode cX7_isPeaceful 49 = .ok (.aload_n 0, 1) := by decide +kernel
theorem dX7_isPeaceful_50 : decode cX7_isPeaceful 50 = .ok (.getfield 27, 3) := by decide +kernel
theorem dX7_isPeaceful_53 : decode cX7_isPeaceful 53 = .ok (.getfield 112, 3) := by decide +kernel
theorem dX7_isPeaceful_56 : decode cX7_isPeaceful 56 = .ok (.invokevirtual 196, 3) := by decide +kernel
theorem dX7_isPeaceful_59 : decode cX7_isPeaceful 59 = .ok (.aload_n 0, 1) := by decide +kernel
theorem dX7_isPeaceful_60 : decode cX7_isPeaceful 60 = .ok (.getfield 41, 3) := by decide +kernel
theorem dX7_isPeaceful_63 : decode cX7_isPeaceful 63 = .ok (.getfield 134, 3) := by decide +kernel
theorem dX7_isPeaceful_66 : decode cX7_isPeaceful 66 = .ok (.aload_n 0, 1) := by decide +kernel
theorem dX7_isPeaceful_67 : decode cX7_isPeaceful 67 = .ok (.getfield 37, 3) := by decide +kernel
theorem dX7_isPeaceful_70 : decode cX7_isPeaceful 70 = .ok (.getfield 134, 3) := by decide +kernel
theorem dX7_isPeaceful_73 : decode cX7_isPeaceful 73 = .ok (.if_icmp .gt 20, 3) := by decide +kernel
theorem dX7_isPeaceful_76 : decode cX7_isPeaceful 76 = .ok (.aload_n 0, 1) := by decide +kernel
theorem dX7_isPeaceful_77 : decode cX7_isPeaceful 77 = .ok (.getfield 41, 3) := by decide +kernel
theorem dX7_isPeaceful_80 : decode cX7_isPeaceful 80 = .ok (.getfield 146, 3) := by decide +kernel
theorem dX7_isPeaceful_83 : decode cX7_isPeaceful 83 = .ok (.aload_n 0, 1) := by decide +kernel
theorem dX7_isPeaceful_84 : decode cX7_isPeaceful 84 = .ok (.getfield 37, 3) := by decide +kernel
theorem dX7_isPeaceful_87 : decode cX7_isPeaceful 87 = .ok (.getfield 146, 3) := by decide +kernel
theorem dX7_isPeaceful_90 : decode cX7_isPeaceful 90 = .ok (.if_icmp .le 5, 3) := by decide +kernel
theorem dX7_isPeaceful_93 : decode cX7_isPeaceful 93 = .ok (.iconst 0, 1) := by decide +kernel
theorem dX7_isPeaceful_94 : decode cX7_isPeaceful 94 = .ok (.ireturn, 1) := by decide +kernel
theorem dX7_isPeaceful_95 : decode cX7_isPeaceful 95 = .ok (.iinc 3 1, 3) := by decide +kernel
theorem dX7_isPeaceful_98 : decode cX7_isPeaceful 98 = .ok (.goto (-72), 3) := by decide +kernel
theorem dX7_isPeaceful_101 : decode cX7_isPeaceful 101 = .ok (.iconst 1, 1) := by decide +kernel
theorem dX7_isPeaceful_102 : decode cX7_isPeaceful 102 = .ok (.ireturn, 1) := by decide +kernel
theorem dX7_isLargeEnough_0 : decode cX7_isLargeEnough 0 = .ok (.aload_n 0, 1) := by decide +kernel
theorem dX7_isLargeEnough_1 : decode cX7_isLargeEnough 1 = .ok (.getfield 41, 3) := by decide +kernel
theorem dX7_isLargeEnough_4 : decode cX7_isLargeEnough 4 = .ok (.aload_n 0, 1) := by decide +kernel
theorem dX7_isLargeEnough_5 : decode cX7_isLargeEnough 5 = .ok (.getfield 37, 3) := by decide +kernel
theorem dX7_isLargeEnough_8 : decode cX7_isLargeEnough 8 = .ok (.invokevirtual 213, 3) := by decide +kernel
theorem dX7_isLargeEnough_11 : decode cX7_isLargeEnough 11 = .ok (.iconst 0, 1) := by decide +kernel
theorem dX7_isLargeEnough_12 : decode cX7_isLargeEnough 12 = .ok (.istore_n 3, 1) := by decide +kernel
theorem dX7_isLargeEnough_13 : decode cX7_isLargeEnough 13 = .ok (.iload_n 3, 1) := by decide +kernel
theorem dX7_isLargeEnough_14 : decode cX7_isLargeEnough 14 = .ok (.iload_n 2, 1) := by decide +kernel
theorem dX7_isLargeEnough_15 : decode cX7_isLargeEnough 15 = .ok (.if_icmp .ge 84, 3) := by decide +kernel
theorem dX7_isLargeEnough_18 : decode cX7_isLargeEnough 18 = .ok (.aload_n 0, 1) := by decide +kernel
theorem dX7_isLargeEnough_19 : decode cX7_isLargeEnough 19 = .ok (.getfield 41, 3) := by decide +kernel
theorem dX7_isLargeEnough_22 : decode cX7_isLargeEnough 22 = .ok (.getfield 127, 3) := by decide +kernel
theorem dX7_isLargeEnough_25 : decode cX7_isLargeEnough 25 = .ok (.ifCond .ne 74, 3) := by decide +kernel
theorem dX7_isLargeEnough_28 : decode cX7_isLargeEnough 28 = .ok (.aload_n 0, 1) := by decide +kernel
theorem dX7_isLargeEnough_29 : decode cX7_isLargeEnough 29 = .ok (.getfield 41, 3) := by decide +kernel
theorem dX7_isLargeEnough_32 : decode cX7_isLargeEnough 32 = .ok (.aload_n 0, 1) := by decide +kernel
theorem dX7_isLargeEnough_33 : decode cX7_isLargeEnough 33 = .ok (.getfield 27, 3) := by decide +kernel
theorem dX7_isLargeEnough_36 : decode cX7_isLargeEnough 36 = .ok (.iload_n 1, 1) := by decide +kernel
theorem dX7_isLargeEnough_37 : decode cX7_isLargeEnough 37 = .ok (.invokevirtual 196, 3) := by decide +kernel
theorem dX7_isLargeEnough_40 : decode cX7_isLargeEnough 40 = .ok (.aload_n 0, 1) := by decide +kernel
theorem dX7_isLargeEnough_41 : decode cX7_isLargeEnough 41 = .ok (.getfield 41, 3) := by decide +kernel
theorem dX7_isLargeEnough_44 : decode cX7_isLargeEnough 44 = .ok (.getfield 134, 3) := by decide +kernel
theorem dX7_isLargeEnough_47 : decode cX7_isLargeEnough 47 = .ok (.aload_n 0, 1) := by decide +kernel
theorem dX7_isLargeEnough_48 : decode cX7_isLargeEnough 48 = .ok (.getfield 37, 3) := by decide +kernel
theorem dX7_isLargeEnough_51 : decode cX7_isLargeEnough 51 = .ok (.getfield 134, 3) := by decide +kernel
theorem dX7_isLargeEnough_54 : decode cX7_isLargeEnough 54 = .ok (.if_icmp .gt 37, 3) := by decide +kernel
theorem dX7_isLargeEnough_57 : decode cX7_isLargeEnough 57 = .ok (.aload_n 0, 1) := by decide +kernel
theorem dX7_isLargeEnough_58 : decode cX7_isLargeEnough 58 = .ok (.getfield 41, 3) := by decide +kernel
theorem dX7_isLargeEnough_61 : decode cX7_isLargeEnough 61 = .ok (.getfield 146, 3) := by decide +kernel
theorem dX7_isLargeEnough_64 : decode cX7_isLargeEnough 64 = .ok (.aload_n 0, 1) := by decide +kernel
theorem dX7_isLargeEnough_65 : decode cX7_isLargeEnough 65 = .ok (.getfield 37, 3) := by decide +kernel
theorem dX7_isLargeEnough_68 : decode cX7_isLargeEnough 68 = .ok (.getfield 146, 3) := by decide +kernel
theorem dX7_isLargeEnough_71 : decode cX7_isLargeEnough 71 = .ok (.if_icmp .gt 20, 3) := by decide +kernel
theorem dX7_isLargeEnough_74 : decode cX7_isLargeEnough 74 = .ok (.aload_n 0, 1) := by decide +kernel
theorem dX7_isLargeEnough_75 : decode cX7_isLargeEnough 75 = .ok (.getfield 41, 3) := by decide +kernel
theorem dX7_isLargeEnough_78 : decode cX7_isLargeEnough 78 = .ok (.getfield 137, 3) := by decide +kernel
theorem dX7_isLargeEnough_81 : decode cX7_isLargeEnough 81 = .ok (.aload_n 0, 1) := by decide +kernel
theorem dX7_isLargeEnough_82 : decode cX7_isLargeEnough 82 = .ok (.getfield 37, 3) := by decide +kernel
theorem dX7_isLargeEnough_85 : decode cX7_isLargeEnough 85 = .ok (.getfield 137, 3) := by decide +kernel
theorem dX7_isLargeEnough_88 : decode cX7_isLargeEnough 88 = .ok (.if_icmp .le 5, 3) := by decide +kernel
theorem dX7_isLargeEnough_91 : decode cX7_isLargeEnough 91 = .ok (.iconst 0, 1) := by decide +kernel
theorem dX7_isLargeEnough_92 : decode cX7_isLargeEnough 92 = .ok (.ireturn, 1) := by decide +kernel
theorem dX7_isLargeEnough_93 : decode cX7_isLargeEnough 93 = .ok (.iinc 3 1, 3) := by decide +kernel
theorem dX7_isLargeEnough_96 : decode cX7_isLargeEnough 96 = .ok (.goto (-83), 3) := by decide +kernel
theorem dX7_isLargeEnough_99 : decode cX7_isLargeEnough 99 = .ok (.iconst 1, 1) := by decide +kernel
theorem dX7_isLargeEnough_100 : decode cX7_isLargeEnough 100 = .ok (.ireturn, 1) := by decide +kernel
theorem dX7_dayToLookAt_0 : decode cX7_dayToLookAt 0 = .ok (.iconst 0, 1) := by decide +kernel
theorem dX7_dayToLookAt_1 : decode cX7_dayToLookAt 1 = .ok (.istore_n 3, 1) := by decide +kernel
theorem dX7_dayToLookAt_2 : decode cX7_dayToLookAt 2 = .ok (.iload_n 3, 1) := by decide +kernel
theorem dX7_dayToLookAt_3 : decode cX7_dayToLookAt 3 = .ok (.bipush 100, 2) := by decide +kernel
theorem dX7_dayToLookAt_5 : decode cX7_dayToLookAt 5 = .ok (.if_icmp .ge 76, 3) := by decide +kernel
theorem dX7_dayToLookAt_8 : decode cX7_dayToLookAt 8 = .ok (.iconst 0, 1) := by decide +kernel
theorem dX7_dayToLookAt_9 : decode cX7_dayToLookAt 9 = .ok (.istore 4, 2) := by decide +kernel
theorem dX7_dayToLookAt_11 : decode cX7_dayToLookAt 11 = .ok (.iconst 0, 1) := by decide +kernel
theorem dX7_dayToLookAt_12 : decode cX7_dayToLookAt 12 = .ok (.istore 5, 2) := by decide +kernel
theorem dX7_dayToLookAt_14 : decode cX7_dayToLookAt 14 = .ok (.iload 5, 2) := by decide +kernel
theorem dX7_dayToLookAt_16 : decode cX7_dayToLookAt 16 = .ok (.aload_n 0, 1) := by decide +kernel
theorem dX7_dayToLookAt_17 : decode cX7_dayToLookAt 17 = .ok (.getfield 27, 3) := by decide +kernel
theorem dX7_dayToLookAt_20 : decode cX7_dayToLookAt 20 = .ok (.iload_n 1, 1) := by decide +kernel
theorem dX7_dayToLookAt_21 : decode cX7_dayToLookAt 21 = .ok (.invokevirtual 282, 3) := by decide +kernel
theorem dX7_dayToLookAt_24 : decode cX7_dayToLookAt 24 = .ok (.if_icmp .ge 40, 3) := by decide +kernel
theorem dX7_dayToLookAt_27 : decode cX7_dayToLookAt 27 = .ok (.iload_n 2, 1) := by decide +kernel
theorem dX7_dayToLookAt_28 : decode cX7_dayToLookAt 28 = .ok (.iload 5, 2) := by decide +kernel
theorem dX7_dayToLookAt_30 : decode cX7_dayToLookAt 30 = .ok (.ishr, 1) := by decide +kernel
theorem dX7_dayToLookAt_31 : decode cX7_dayToLookAt 31 = .ok (.iconst 1, 1) := by decide +kernel
theorem dX7_dayToLookAt_32 : decode cX7_dayToLookAt 32 = .ok (.iand, 1) := by decide +kernel
theorem dX7_dayToLookAt_33 : decode cX7_dayToLookAt 33 = .ok (.ifCond .eq 25, 3) := by decide +kernel
theorem dX7_dayToLookAt_36 : decode cX7_dayToLookAt 36 = .ok (.iload 4, 2) := by decide +kernel
theorem dX7_dayToLookAt_38 : decode cX7_dayToLookAt 38 = .ok (.iconst 1, 1) := by decide +kernel
theorem dX7_dayToLookAt_39 : decode cX7_dayToLookAt 39 = .ok (.aload_n 0, 1) := by decide +kernel
theorem dX7_dayToLookAt_40 : decode cX7_dayToLookAt 40 = .ok (.getfield 37, 3) := by decide +kernel
theorem dX7_dayToLookAt_43 : decode cX7_dayToLookAt 43 = .ok (.aload_n 0, 1) := by decide +kernel
theorem dX7_dayToLookAt_44 : decode cX7_dayToLookAt 44 = .ok (.getfield 27, 3) := by decide +kernel
theorem dX7_dayToLookAt_47 : decode cX7_dayToLookAt 47 = .ok (.iload_n 1, 1) := by decide +kernel
theorem dX7_dayToLookAt_48 : decode cX7_dayToLookAt 48 = .ok (.iload 5, 2) := by decide +kernel
theorem dX7_dayToLookAt_50 : decode cX7_dayToLookAt 50 = .ok (.iload_n 3, 1) := by decide +kernel
theorem dX7_dayToLookAt_51 : decode cX7_dayToLookAt 51 = .ok (.invokevirtual 285, 3) := by decide +kernel
theorem dX7_dayToLookAt_54 : decode cX7_dayToLookAt 54 = .ok (.ishl, 1) := by decide +kernel
theorem dX7_dayToLookAt_55 : decode cX7_dayToLookAt 55 = .ok (.ior, 1) := by decide +kernel
theorem dX7_dayToLookAt_56 : decode cX7_dayToLookAt 56 = .ok (.istore 4, 2) := by decide +kernel
theorem dX7_dayToLookAt_58 : decode cX7_dayToLookAt 58 = .ok (.iinc 5 1, 3) := by decide +kernel
theorem dX7_dayToLookAt_61 : decode cX7_dayToLookAt 61 = .ok (.goto (-47), 3) := by decide +kernel
theorem dX7_dayToLookAt_64 : decode cX7_dayToLookAt 64 = .ok (.iload 4, 2) := by decide +kernel
theorem dX7_dayToLookAt_66 : decode cX7_dayToLookAt 66 = .ok (.invokestatic 225, 3) := by decide +kernel
theorem dX7_dayToLookAt_69 : decode cX7_dayToLookAt 69 = .ok (.iconst 1, 1) := by decide +kernel
theorem dX7_dayToLookAt_70 : decode cX7_dayToLookAt 70 = .ok (.if_icmp .le 5, 3) := by decide +kernel
theorem dX7_dayToLookAt_73 : decode cX7_dayToLookAt 73 = .ok (.iload_n 3, 1) := by decide +kernel
theorem dX7_dayToLookAt_74 : decode cX7_dayToLookAt 74 = .ok (.ireturn, 1) := by decide +kernel
theorem dX7_dayToLookAt_75 : decode cX7_dayToLookAt 75 = .ok (.iinc 3 1, 3) := by decide +kernel
theorem dX7_dayToLookAt_78 : decode cX7_dayToLookAt 78 = .ok (.goto (-76), 3) := by decide +kernel
theorem dX7_dayToLookAt_81 : decode cX7_dayToLookAt 81 = .ok (.iconst (-1), 1) := by decide +kernel
theorem dX7_dayToLookAt_82 : decode cX7_dayToLookAt 82 = .ok (.ireturn, 1) := by decide +kernel
theorem dX7_outcomeOf_0 : decode cX7_outcomeOf 0 = .ok (.iload_n 0, 1) := by decide +kernel
theorem dX7_outcomeOf_1 : decode cX7_outcomeOf 1 = .ok (.invokestatic 225, 3) := by decide +kernel
theorem dX7_outcomeOf_4 : decode cX7_outcomeOf 4 = .ok (.istore_n 1, 1) := by decide +kernel
theorem dX7_outcomeOf_5 : decode cX7_outcomeOf 5 = .ok (.iload_n 1, 1) := by decide +kernel
theorem dX7_outcomeOf_6 : decode cX7_outcomeOf 6 = .ok (.ifCond .ne 5, 3) := by decide +kernel
theorem dX7_outcomeOf_9 : decode cX7_outcomeOf 9 = .ok (.iconst 0, 1) := by decide +kernel
theorem dX7_outcomeOf_10 : decode cX7_outcomeOf 10 = .ok (.ireturn, 1) := by decide +kernel
theorem dX7_outcomeOf_11 : decode cX7_outcomeOf 11 = .ok (.iload_n 1, 1) := by decide +kernel
theorem dX7_outcomeOf_12 : decode cX7_outcomeOf 12 = .ok (.iconst 1, 1) := by decide +kernel
theorem dX7_outcomeOf_13 : decode cX7_outcomeOf 13 = .ok (.if_icmp .ne 7, 3) := by decide +kernel
theorem dX7_outcomeOf_16 : decode cX7_outcomeOf 16 = .ok (.iconst 1, 1) := by decide +kernel
theorem dX7_outcomeOf_17 : decode cX7_outcomeOf 17 = .ok (.goto 4, 3) := by decide +kernel
theorem dX7_outcomeOf_20 : decode cX7_outcomeOf 20 = .ok (.iconst 2, 1) := by decide +kernel
theorem dX7_outcomeOf_21 : decode cX7_outcomeOf 21 = .ok (.ireturn, 1) := by decide +kernel
theorem dX7_firstOf_0 : decode cX7_firstOf 0 = .ok (.iconst 0, 1) := by decide +kernel
theorem dX7_firstOf_1 : decode cX7_firstOf 1 = .ok (.istore_n 1, 1) := by decide +kernel
theorem dX7_firstOf_2 : decode cX7_firstOf 2 = .ok (.iload_n 1, 1) := by decide +kernel
theorem dX7_firstOf_3 : decode cX7_firstOf 3 = .ok (.bipush 8, 2) := by decide +kernel
theorem dX7_firstOf_5 : decode cX7_firstOf 5 = .ok (.if_icmp .ge 19, 3) := by decide +kernel
theorem dX7_firstOf_8 : decode cX7_firstOf 8 = .ok (.iload_n 0, 1) := by decide +kernel
theorem dX7_firstOf_9 : decode cX7_firstOf 9 = .ok (.iload_n 1, 1) := by decide +kernel
theorem dX7_firstOf_10 : decode cX7_firstOf 10 = .ok (.ishr, 1) := by decide +kernel
theorem dX7_firstOf_11 : decode cX7_firstOf 11 = .ok (.iconst 1, 1) := by decide +kernel
theorem dX7_firstOf_12 : decode cX7_firstOf 12 = .ok (.iand, 1) := by decide +kernel
theorem dX7_firstOf_13 : decode cX7_firstOf 13 = .ok (.ifCond .eq 5, 3) := by decide +kernel
theorem dX7_firstOf_16 : decode cX7_firstOf 16 = .ok (.iload_n 1, 1) := by decide +kernel
theorem dX7_firstOf_17 : decode cX7_firstOf 17 = .ok (.ireturn, 1) := by decide +kernel
theorem dX7_firstOf_18 : decode cX7_firstOf 18 = .ok (.iinc 1 1, 3) := by decide +kernel
theorem dX7_firstOf_21 : decode cX7_firstOf 21 = .ok (.goto (-19), 3) := by decide +kernel
theorem dX7_firstOf_24 : decode cX7_firstOf 24 = .ok (.iconst (-1), 1) := by decide +kernel
theorem dX7_firstOf_25 : decode cX7_firstOf 25 = .ok (.ireturn, 1) := by decide +kernel
theorem dX8_init_0 : decode cX8_init 0 = .ok (.aload_n 0, 1) := by decide +kernel
theorem dX8_init_1 : decode cX8_init 1 = .ok (.invokespecial 1, 3) := by decide +kernel
theorem dX8_init_4 : decode cX8_init 4 = .ok (.aload_n 0, 1) := by decide +kernel
theorem dX8_init_5 : decode cX8_init 5 = .ok (.bipush 8, 2) := by decide +kernel
theorem dX8_init_7 : decode cX8_init 7 = .ok (.newarray .int, 2) := by decide +kernel
theorem dX8_init_9 : decode cX8_init 9 = .ok (.putfield 7, 3) := by decide +kernel
theorem dX8_init_12 : decode cX8_init 12 = .ok (.aload_n 0, 1) := by decide +kernel
theorem dX8_init_13 : decode cX8_init 13 = .ok (.bipush 8, 2) := by decide +kernel
theorem dX8_init_15 : decode cX8_init 15 = .ok (.newarray .int, 2) := by decide +kernel
theorem dX8_init_17 : decode cX8_init 17 = .ok (.putfield 13, 3) := by decide +kernel
theorem dX8_init_20 : decode cX8_init 20 = .ok (.aload_n 0, 1) := by decide +kernel
theorem dX8_init_21 : decode cX8_init 21 = .ok (.bipush 8, 2) := by decide +kernel
theorem dX8_init_23 : decode cX8_init 23 = .ok (.newarray .int, 2) := by decide +kernel
theorem dX8_init_25 : decode cX8_init 25 = .ok (.putfield 16, 3) := by decide +kernel
theorem dX8_init_28 : decode cX8_init 28 = .ok (.aload_n 0, 1) := by decide +kernel
theorem dX8_init_29 : decode cX8_init 29 = .ok (.bipush 8, 2) := by decide +kernel
theorem dX8_init_31 : decode cX8_init 31 = .ok (.newarray .int, 2) := by decide +kernel
theorem dX8_init_33 : decode cX8_init 33 = .ok (.putfield 19, 3) := by decide +kernel
theorem dX8_init_36 : decode cX8_init 36 = .ok (.aload_n 0, 1) := by decide +kernel
theorem dX8_init_37 : decode cX8_init 37 = .ok (.bipush 8, 2) := by decide +kernel
theorem dX8_init_39 : decode cX8_init 39 = .ok (.newarray .int, 2) := by decide +kernel
theorem dX8_init_41 : decode cX8_init 41 = .ok (.putfield 22, 3) := by decide +kernel
theorem dX8_init_44 : decode cX8_init 44 = .ok (.aload_n 0, 1) := by decide +kernel
theorem dX8_init_45 : decode cX8_init 45 = .ok (.bipush 103, 2) := by decide +kernel
theorem dX8_init_47 : decode cX8_init 47 = .ok (.newarray .int, 2) := by decide +kernel
theorem dX8_init_49 : decode cX8_init 49 = .ok (.putfield 25, 3) := by decide +kernel
theorem dX8_init_52 : decode cX8_init 52 = .ok (.aload_n 0, 1) := by decide +kernel
theorem dX8_init_53 : decode cX8_init 53 = .ok (.sipush 240, 3) := by decide +kernel
theorem dX8_init_56 : decode cX8_init 56 = .ok (.newarray .int, 2) := by decide +kernel
theorem dX8_init_58 : decode cX8_init 58 = .ok (.putfield 28, 3) := by decide +kernel
theorem dX8_init_61 : decode cX8_init 61 = .ok (.aload_n 0, 1) := by decide +kernel
theorem dX8_init_62 : decode cX8_init 62 = .ok (.iconst (-1), 1) := by decide +kernel
theorem dX8_init_63 : decode cX8_init 63 = .ok (.putfield 31, 3) := by decide +kernel
theorem dX8_init_66 : decode cX8_init 66 = .ok (.aload_n 0, 1) := by decide +kernel
theorem dX8_init_67 : decode cX8_init 67 = .ok (.iconst 3, 1) := by decide +kernel
theorem dX8_init_68 : decode cX8_init 68 = .ok (.newarray .int, 2) := by decide +kernel
theorem dX8_init_70 : decode cX8_init 70 = .ok (.putfield 35, 3) := by decide +kernel
theorem dX8_init_73 : decode cX8_init 73 = .ok (.aload_n 0, 1) := by decide +kernel
theorem dX8_init_74 : decode cX8_init 74 = .ok (.bipush 8, 2) := by decide +kernel
theorem dX8_init_76 : decode cX8_init 76 = .ok (.newarray .int, 2) := by decide +kernel
theorem dX8_init_78 : decode cX8_init 78 = .ok (.putfield 38, 3) := by decide +kernel
theorem dX8_init_81 : decode cX8_init 81 = .ok (.aload_n 0, 1) := by decide +kernel
theorem dX8_init_82 : decode cX8_init 82 = .ok (.bipush 8, 2) := by decide +kernel
theorem dX8_init_84 : decode cX8_init 84 = .ok (.newarray .int, 2) := by decide +kernel
theorem dX8_init_86 : decode cX8_init 86 = .ok (.putfield 41, 3) := by decide +kernel
theorem dX8_init_89 : decode cX8_init 89 = .ok (.aload_n 0, 1) := by decide +kernel
theorem dX8_init_90 : decode cX8_init 90 = .ok (.bipush 8, 2) := by decide +kernel
theorem dX8_init_92 : decode cX8_init 92 = .ok (.newarray .int, 2) := by decide +kernel
theorem dX8_init_94 : decode cX8_init 94 = .ok (.putfield 44, 3) := by decide +kernel
theorem dX8_init_97 : decode cX8_init 97 = .ok (.aload_n 0, 1) := by decide +kernel
theorem dX8_init_98 : decode cX8_init 98 = .ok (.bipush 8, 2) := by decide +kernel
theorem dX8_init_100 : decode cX8_init 100 = .ok (.newarray .int, 2) := by decide +kernel
theorem dX8_init_102 : decode cX8_init 102 = .ok (.putfield 47, 3) := by decide +kernel
theorem dX8_init_105 : decode cX8_init 105 = .ok (.aload_n 0, 1) := by decide +kernel
theorem dX8_init_106 : decode cX8_init 106 = .ok (.bipush 8, 2) := by decide +kernel
theorem dX8_init_108 : decode cX8_init 108 = .ok (.newarray .int, 2) := by decide +kernel
theorem dX8_init_110 : decode cX8_init 110 = .ok (.putfield 50, 3) := by decide +kernel
theorem dX8_init_113 : decode cX8_init 113 = .ok (.aload_n 0, 1) := by decide +kernel
theorem dX8_init_114 : decode cX8_init 114 = .ok (.bipush 8, 2) := by decide +kernel
theorem dX8_init_116 : decode cX8_init 116 = .ok (.newarray .int, 2) := by decide +kernel
theorem dX8_init_118 : decode cX8_init 118 = .ok (.putfield 53, 3) := by decide +kernel
theorem dX8_init_121 : decode cX8_init 121 = .ok (.aload_n 0, 1) := by decide +kernel
theorem dX8_init_122 : decode cX8_init 122 = .ok (.sipush 2060, 3) := by decide +kernel
theorem dX8_init_125 : decode cX8_init 125 = .ok (.newarray .int, 2) := by decide +kernel
theorem dX8_init_127 : decode cX8_init 127 = .ok (.putfield 56, 3) := by decide +kernel
theorem dX8_init_130 : decode cX8_init 130 = .ok (.aload_n 0, 1) := by decide +kernel
theorem dX8_init_131 : decode cX8_init 131 = .ok (.bipush 103, 2) := by decide +kernel
theorem dX8_init_133 : decode cX8_init 133 = .ok (.newarray .int, 2) := by decide +kernel
theorem dX8_init_135 : decode cX8_init 135 = .ok (.putfield 59, 3) := by decide +kernel
theorem dX8_init_138 : decode cX8_init 138 = .ok (.aload_n 0, 1) := by decide +kernel
theorem dX8_init_139 : decode cX8_init 139 = .ok (.bipush 8, 2) := by decide +kernel
theorem dX8_init_141 : decode cX8_init 141 = .ok (.newarray .int, 2) := by decide +kernel
theorem dX8_init_143 : decode cX8_init 143 = .ok (.putfield 62, 3) := by decide +kernel
theorem dX8_init_146 : decode cX8_init 146 = .ok (.aload_n 0, 1) := by decide +kernel
theorem dX8_init_147 : decode cX8_init 147 = .ok (.ldc 65, 2) := by decide +kernel
theorem dX8_init_149 : decode cX8_init 149 = .ok (.newarray .int, 2) := by decide +kernel
theorem dX8_init_151 : decode cX8_init 151 = .ok (.putfield 66, 3) := by decide +kernel
theorem dX8_init_154 : decode cX8_init 154 = .ok (.aload_n 0, 1) := by decide +kernel
theorem dX8_init_155 : decode cX8_init 155 = .ok (.bipush 10, 2) := by decide +kernel
theorem dX8_init_157 : decode cX8_init 157 = .ok (.newarray .int, 2) := by decide +kernel
theorem dX8_init_159 : decode cX8_init 159 = .ok (.putfield 69, 3) := by decide +kernel
theorem dX8_init_162 : decode cX8_init 162 = .ok (.aload_n 0, 1) := by decide +kernel
theorem dX8_init_163 : decode cX8_init 163 = .ok (.bipush 10, 2) := by decide +kernel
theorem dX8_init_165 : decode cX8_init 165 = .ok (.newarray .int, 2) := by decide +kernel
theorem dX8_init_167 : decode cX8_init 167 = .ok (.putfield 72, 3) := by decide +kernel
theorem dX8_init_170 : decode cX8_init 170 = .ok (.aload_n 0, 1) := by decide +kernel
theorem dX8_init_171 : decode cX8_init 171 = .ok (.bipush 10, 2) := by decide +kernel
theorem dX8_init_173 : decode cX8_init 173 = .ok (.newarray .int, 2) := by decide +kernel
theorem dX8_init_175 : decode cX8_init 175 = .ok (.putfield 75, 3) := by decide +kernel
theorem dX8_init_178 : decode cX8_init 178 = .ok (.aload_n 0, 1) := by decide +kernel
theorem dX8_init_179 : decode cX8_init 179 = .ok (.bipush 10, 2) := by decide +kernel
theorem dX8_init_181 : decode cX8_init 181 = .ok (.newarray .int, 2) := by decide +kernel
theorem dX8_init_183 : decode cX8_init 183 = .ok (.putfield 78, 3) := by decide +kernel
theorem dX8_init_186 : decode cX8_init 186 = .ok (.aload_n 0, 1) := by decide +kernel
theorem dX8_init_187 : decode cX8_init 187 = .ok (.bipush 15, 2) := by decide +kernel
theorem dX8_init_189 : decode cX8_init 189 = .ok (.newarray .int, 2) := by decide +kernel
theorem dX8_init_191 : decode cX8_init 191 = .ok (.putfield 81, 3) := by decide +kernel
theorem dX8_init_194 : decode cX8_init 194 = .ok (.aload_n 0, 1) := by decide +kernel
theorem dX8_init_195 : decode cX8_init 195 = .ok (.bipush 15, 2) := by decide +kernel
theorem dX8_init_197 : decode cX8_init 197 = .ok (.newarray .int, 2) := by decide +kernel
theorem dX8_init_199 : decode cX8_init 199 = .ok (.putfield 84, 3) := by decide +kernel
theorem dX8_init_202 : decode cX8_init 202 = .ok (.aload_n 0, 1) := by decide +kernel
theorem dX8_init_203 : decode cX8_init 203 = .ok (.sipush 208, 3) := by decide +kernel
theorem dX8_init_206 : decode cX8_init 206 = .ok (.newarray .int, 2) := by decide +kernel
theorem dX8_init_208 : decode cX8_init 208 = .ok (.putfield 87, 3) := by decide +kernel
theorem dX8_init_211 : decode cX8_init 211 = .ok (.aload_n 0, 1) := by decide +kernel
theorem dX8_init_212 : decode cX8_init 212 = .ok (.iconst 2, 1) := by decide +kernel
theorem dX8_init_213 : decode cX8_init 213 = .ok (.newarray .boolean, 2) := by decide +kernel
theorem dX8_init_215 : decode cX8_init 215 = .ok (.putfield 90, 3) := by decide +kernel
theorem dX8_init_218 : decode cX8_init 218 = .ok (.iconst 0, 1) := by decide +kernel
theorem dX8_init_219 : decode cX8_init 219 = .ok (.istore_n 1, 1) := by decide +kernel
theorem dX8_init_220 : decode cX8_init 220 = .ok (.iload_n 1, 1) := by decide +kernel
theorem dX8_init_221 : decode cX8_init 221 = .ok (.bipush 60, 2) := by decide +kernel
theorem dX8_init_223 : decode cX8_init 223 = .ok (.if_icmp .ge 19, 3) := by decide +kernel
theorem dX8_init_226 : decode cX8_init 226 = .ok (.aload_n 0, 1) := by decide +kernel
theorem dX8_init_227 : decode cX8_init 227 = .ok (.getfield 25, 3) := by decide +kernel
theorem dX8_init_230 : decode cX8_init 230 = .ok (.bipush 43, 2) := by decide +kernel
theorem dX8_init_232 : decode cX8_init 232 = .ok (.iload_n 1, 1) := by decide +kernel
theorem dX8_init_233 : decode cX8_init 233 = .ok (.iadd, 1) := by decide +kernel
theorem dX8_init_234 : decode cX8_init 234 = .ok (.iconst (-1), 1) := by decide +kernel
theorem dX8_init_235 : decode cX8_init 235 = .ok (.iastore, 1) := by decide +kernel
theorem dX8_init_236 : decode cX8_init 236 = .ok (.iinc 1 1, 3) := by decide +kernel
theorem dX8_init_239 : decode cX8_init 239 = .ok (.goto (-19), 3) := by decide +kernel
theorem dX8_init_242 : decode cX8_init 242 = .ok (.return_, 1) := by decide +kernel
theorem dX8_in_0 : decode cX8_in 0 = .ok (.lload_n 0, 1) := by decide +kernel
theorem dX8_in_1 : decode cX8_in 1 = .ok (.lload_n 2, 1) := by decide +kernel
theorem dX8_in_2 : decode cX8_in 2 = .ok (.lcmp, 1) := by decide +kernel
theorem dX8_in_3 : decode cX8_in 3 = .ok (.ifCond .lt 14, 3) := by decide +kernel
theorem dX8_in_6 : decode cX8_in 6 = .ok (.lload_n 0, 1) := by decide +kernel
theorem dX8_in_7 : decode cX8_in 7 = .ok (.lload 4, 2) := by decide +kernel
theorem dX8_in_9 : decode cX8_in 9 = .ok (.lcmp, 1) := by decide +kernel
theorem dX8_in_10 : decode cX8_in 10 = .ok (.ifCond .gt 7, 3) := by decide +kernel
theorem dX8_in_13 : decode cX8_in 13 = .ok (.iconst 1, 1) := by decide +kernel
theorem dX8_in_14 : decode cX8_in 14 = .ok (.goto 4, 3) := by decide +kernel
theorem dX8_in_17 : decode cX8_in 17 = .ok (.iconst 0, 1) := by decide +kernel
theorem dX8_in_18 : decode cX8_in 18 = .ok (.ireturn, 1) := by decide +kernel
theorem dX8_has_0 : decode cX8_has 0 = .ok (.iload_n 0, 1) := by decide +kernel
theorem dX8_has_1 : decode cX8_has 1 = .ok (.iload_n 1, 1) := by decide +kernel
theorem dX8_has_2 : decode cX8_has 2 = .ok (.ishr, 1) := by decide +kernel
theorem dX8_has_3 : decode cX8_has 3 = .ok (.iconst 1, 1) := by decide +kernel
theorem dX8_has_4 : decode cX8_has 4 = .ok (.iand, 1) := by decide +kernel
theorem dX8_has_5 : decode cX8_has 5 = .ok (.iconst 1, 1) := by decide +kernel
theorem dX8_has_6 : decode cX8_has 6 = .ok (.if_icmp .ne 7, 3) := by decide +kernel
theorem dX8_has_9 : decode cX8_has 9 = .ok (.iconst 1, 1) := by decide +kernel
theorem dX8_has_10 : decode cX8_has 10 = .ok (.goto 4, 3) := by decide +kernel
theorem dX8_has_13 : decode cX8_has 13 = .ok (.iconst 0, 1) := by decide +kernel
theorem dX8_has_14 : decode cX8_has 14 = .ok (.ireturn, 1) := by decide +kernel
theorem dX8_bits_0 : decode cX8_bits 0 = .ok (.iconst 0, 1) := by decide +kernel
theorem dX8_bits_1 : decode cX8_bits 1 = .ok (.istore_n 1, 1) := by decide +kernel
theorem dX8_bits_2 : decode cX8_bits 2 = .ok (.iconst 0, 1) := by decide +kernel
theorem dX8_bits_3 : decode cX8_bits 3 = .ok (.istore_n 2, 1) := by decide +kernel
theorem dX8_bits_4 : decode cX8_bits 4 = .ok (.iload_n 2, 1) := by decide +kernel
theorem dX8_bits_5 : decode cX8_bits 5 = .ok (.bipush 9, 2) := by decide +kernel
theorem dX8_bits_7 : decode cX8_bits 7 = .ok (.if_icmp .ge 17, 3) := by decide +kernel
theorem dX8_bits_10 : decode cX8_bits 10 = .ok (.iload_n 1, 1) := by decide +kernel
theorem dX8_bits_11 : decode cX8_bits 11 = .ok (.iload_n 0, 1) := by decide +kernel
theorem dX8_bits_12 : decode cX8_bits 12 = .ok (.iload_n 2, 1) := by decide +kernel
theorem dX8_bits_13 : decode cX8_bits 13 = .ok (.ishr, 1) := by decide +kernel
theorem dX8_bits_14 : decode cX8_bits 14 = .ok (.iconst 1, 1) := by decide +kernel
theorem dX8_bits_15 : decode cX8_bits 15 = .ok (.iand, 1) := by decide +kernel
theorem dX8_bits_16 : decode cX8_bits 16 = .ok (.iadd, 1) := by decide +kernel
theorem dX8_bits_17 : decode cX8_bits 17 = .ok (.istore_n 1, 1) := by decide +kernel
theorem dX8_bits_18 : decode cX8_bits 18 = .ok (.iinc 2 1, 3) := by decide +kernel
theorem dX8_bits_21 : decode cX8_bits 21 = .ok (.goto (-17), 3) := by decide +kernel
theorem dX8_bits_24 : decode cX8_bits 24 = .ok (.iload_n 1, 1) := by decide +kernel
theorem dX8_bits_25 : decode cX8_bits 25 = .ok (.ireturn, 1) := by decide +kernel
theorem dX8_isVillage_0 : decode cX8_isVillage 0 = .ok (.iload_n 1, 1) := by decide +kernel
theorem dX8_isVillage_1 : decode cX8_isVillage 1 = .ok (.i2l, 1) := by decide +kernel
theorem dX8_isVillage_2 : decode cX8_isVillage 2 = .ok (.lconst 0, 1) := by decide +kernel
theorem dX8_isVillage_3 : decode cX8_isVillage 3 = .ok (.aload_n 0, 1) := by decide +kernel
theorem dX8_isVillage_4 : decode cX8_isVillage 4 = .ok (.getfield 94, 3) := by decide +kernel
theorem dX8_isVillage_7 : decode cX8_isVillage 7 = .ok (.iconst 1, 1) := by decide +kernel
theorem dX8_isVillage_8 : decode cX8_isVillage 8 = .ok (.isub, 1) := by decide +kernel
theorem dX8_isVillage_9 : decode cX8_isVillage 9 = .ok (.i2l, 1) := by decide +kernel
theorem dX8_isVillage_10 : decode cX8_isVillage 10 = .ok (.invokestatic 97, 3) := by decide +kernel
theorem dX8_isVillage_13 : decode cX8_isVillage 13 = .ok (.ireturn, 1) := by decide +kernel
theorem dX8_feed_0 : decode cX8_feed 0 = .ok (.iload_n 1, 1) := by decide +kernel
theorem dX8_feed_1 : decode cX8_feed 1 = .ok (.i2l, 1) := by decide +kernel
theorem dX8_feed_2 : decode cX8_feed 2 = .ok (.lconst 0, 1) := by decide +kernel
theorem dX8_feed_3 : decode cX8_feed 3 = .ok (.ldc2_w 101, 3) := by decide +kernel
theorem dX8_feed_6 : decode cX8_feed 6 = .ok (.invokestatic 97, 3) := by decide +kernel
theorem dX8_feed_9 : decode cX8_feed 9 = .ok (.ifCond .ne 6, 3) := by decide +kernel
theorem dX8_feed_12 : decode cX8_feed 12 = .ok (.ldc 103, 2) := by decide +kernel
theorem dX8_feed_14 : decode cX8_feed 14 = .ok (.ireturn, 1) := by decide +kernel
theorem dX8_feed_15 : decode cX8_feed 15 = .ok (.aload_n 0, 1) := by decide +kernel
theorem dX8_feed_16 : decode cX8_feed 16 = .ok (.getfield 104, 3) := by decide +kernel
theorem dX8_feed_19 : decode cX8_feed 19 = .ok (.sipush 240, 3) := by decide +kernel
theorem dX8_feed_22 : decode cX8_feed 22 = .ok (.if_icmp .ne 6, 3) := by decide +kernel
theorem dX8_feed_25 : decode cX8_feed 25 = .ok (.ldc 107, 2) := by decide +kernel
theorem dX8_feed_27 : decode cX8_feed 27 = .ok (.ireturn, 1) := by decide +kernel
theorem dX8_feed_28 : decode cX8_feed 28 = .ok (.aload_n 0, 1) := by decide +kernel
theorem dX8_feed_29 : decode cX8_feed 29 = .ok (.getfield 28, 3) := by decide +kernel
theorem dX8_feed_32 : decode cX8_feed 32 = .ok (.aload_n 0, 1) := by decide +kernel
theorem dX8_feed_33 : decode cX8_feed 33 = .ok (.getfield 104, 3) := by decide +kernel
theorem dX8_feed_36 : decode cX8_feed 36 = .ok (.iload_n 1, 1) := by decide +kernel
theorem dX8_feed_37 : decode cX8_feed 37 = .ok (.iastore, 1) := by decide +kernel
theorem dX8_feed_38 : decode cX8_feed 38 = .ok (.aload_n 0, 1) := by decide +kernel
theorem dX8_feed_39 : decode cX8_feed 39 = .ok (.dup, 1) := by decide +kernel
theorem dX8_feed_40 : decode cX8_feed 40 = .ok (.getfield 104, 3) := by decide +kernel
theorem dX8_feed_43 : decode cX8_feed 43 = .ok (.iconst 1, 1) := by decide +kernel
theorem dX8_feed_44 : decode cX8_feed 44 = .ok (.iadd, 1) := by decide +kernel
theorem dX8_feed_45 : decode cX8_feed 45 = .ok (.putfield 104, 3) := by decide +kernel
theorem dX8_feed_48 : decode cX8_feed 48 = .ok (.aload_n 0, 1) := by decide +kernel
theorem dX8_feed_49 : decode cX8_feed 49 = .ok (.getfield 104, 3) := by decide +kernel
theorem dX8_feed_52 : decode cX8_feed 52 = .ok (.ireturn, 1) := by decide +kernel
theorem dX8_here_0 : decode cX8_here 0 = .ok (.aload_n 0, 1) := by decide +kernel
theorem dX8_here_1 : decode cX8_here 1 = .ok (.getfield 108, 3) := by decide +kernel
theorem dX8_here_4 : decode cX8_here 4 = .ok (.aload_n 0, 1) := by decide +kernel
theorem dX8_here_5 : decode cX8_here 5 = .ok (.getfield 104, 3) := by decide +kernel
theorem dX8_here_8 : decode cX8_here 8 = .ok (.if_icmp .ge 30, 3) := by decide +kernel
theorem dX8_here_11 : decode cX8_here 11 = .ok (.aload_n 0, 1) := by decide +kernel
theorem dX8_here_12 : decode cX8_here 12 = .ok (.getfield 28, 3) := by decide +kernel
theorem dX8_here_15 : decode cX8_here 15 = .ok (.aload_n 0, 1) := by decide +kernel
theorem dX8_here_16 : decode cX8_here 16 = .ok (.getfield 108, 3) := by decide +kernel
theorem dX8_here_19 : decode cX8_here 19 = .ok (.iaload, 1) := by decide +kernel
theorem dX8_here_20 : decode cX8_here 20 = .ok (.bipush 32, 2) := by decide +kernel
theorem dX8_here_22 : decode cX8_here 22 = .ok (.if_icmp .ne 16, 3) := by decide +kernel
theorem dX8_here_25 : decode cX8_here 25 = .ok (.aload_n 0, 1) := by decide +kernel
theorem dX8_here_26 : decode cX8_here 26 = .ok (.dup, 1) := by decide +kernel
theorem dX8_here_27 : decode cX8_here 27 = .ok (.getfield 108, 3) := by decide +kernel
theorem dX8_here_30 : decode cX8_here 30 = .ok (.iconst 1, 1) := by decide +kernel
theorem dX8_here_31 : decode cX8_here 31 = .ok (.iadd, 1) := by decide +kernel
theorem dX8_here_32 : decode cX8_here 32 = .ok (.putfield 108, 3) := by decide +kernel
theorem dX8_here_35 : decode cX8_here 35 = .ok (.goto (-35), 3) := by decide +kernel
theorem dX8_here_38 : decode cX8_here 38 = .ok (.aload_n 0, 1) := by decide +kernel
theorem dX8_here_39 : decode cX8_here 39 = .ok (.getfield 108, 3) := by decide +kernel
theorem dX8_here_42 : decode cX8_here 42 = .ok (.aload_n 0, 1) := by decide +kernel
theorem dX8_here_43 : decode cX8_here 43 = .ok (.getfield 104, 3) := by decide +kernel
theorem dX8_here_46 : decode cX8_here 46 = .ok (.if_icmp .ge 15, 3) := by decide +kernel
theorem dX8_here_49 : decode cX8_here 49 = .ok (.aload_n 0, 1) := by decide +kernel
theorem dX8_here_50 : decode cX8_here 50 = .ok (.getfield 28, 3) := by decide +kernel
theorem dX8_here_53 : decode cX8_here 53 = .ok (.aload_n 0, 1) := by decide +kernel
theorem dX8_here_54 : decode cX8_here 54 = .ok (.getfield 108, 3) := by decide +kernel
theorem dX8_here_57 : decode cX8_here 57 = .ok (.iaload, 1) := by decide +kernel
theorem dX8_here_58 : decode cX8_here 58 = .ok (.goto 4, 3) := by decide +kernel
theorem dX8_here_61 : decode cX8_here 61 = .ok (.iconst (-1), 1) := by decide +kernel
theorem dX8_here_62 : decode cX8_here 62 = .ok (.ireturn, 1) := by decide +kernel
theorem dX8_fails_0 : decode cX8_fails 0 = .ok (.aload_n 0, 1) := by decide +kernel
theorem dX8_fails_1 : decode cX8_fails 1 = .ok (.iload_n 2, 1) := by decide +kernel
theorem dX8_fails_2 : decode cX8_fails 2 = .ok (.putfield 31, 3) := by decide +kernel
theorem dX8_fails_5 : decode cX8_fails 5 = .ok (.iload_n 1, 1) := by decide +kernel
theorem dX8_fails_6 : decode cX8_fails 6 = .ok (.ireturn, 1) := by decide +kernel
theorem dX8_takeNumber_0 : decode cX8_takeNumber 0 = .ok (.aload_n 0, 1) := by decide +kernel
theorem dX8_takeNumber_1 : decode cX8_takeNumber 1 = .ok (.invokevirtual 111, 3) := by decide +kernel
end
section
theorem dX8_takeNumber_4 : decode cX8_takeNumber 4 = .ok (.istore_n 3, 1) := by decide +kernel
theorem dX8_takeNumber_5 : decode cX8_takeNumber 5 = .ok (.iload_n 3, 1) := by decide +kernel
theorem dX8_takeNumber_6 : decode cX8_takeNumber 6 = .ok (.i2l, 1) := by decide +kernel
theorem dX8_takeNumber_7 : decode cX8_takeNumber 7 = .ok (.ldc2_w 115, 3) := by decide +kernel
theorem dX8_takeNumber_10 : decode cX8_takeNumber 10 = .ok (.ldc2_w 117, 3) := by decide +kernel
theorem dX8_takeNumber_13 : decode cX8_takeNumber 13 = .ok (.invokestatic 97, 3) := by decide +kernel
theorem dX8_takeNumber_16 : decode cX8_takeNumber 16 = .ok (.ifCond .ne 13, 3) := by decide +kernel
theorem dX8_takeNumber_19 : decode cX8_takeNumber 19 = .ok (.aload_n 0, 1) := by decide +kernel
theorem dX8_takeNumber_20 : decode cX8_takeNumber 20 = .ok (.iconst 1, 1) := by decide +kernel
theorem dX8_takeNumber_21 : decode cX8_takeNumber 21 = .ok (.aload_n 0, 1) := by decide +kernel
theorem dX8_takeNumber_22 : decode cX8_takeNumber 22 = .ok (.getfield 108, 3) := by decide +kernel
theorem dX8_takeNumber_25 : decode cX8_takeNumber 25 = .ok (.invokevirtual 119, 3) := by decide +kernel
theorem dX8_takeNumber_28 : decode cX8_takeNumber 28 = .ok (.ireturn, 1) := by decide +kernel
theorem dX8_takeNumber_29 : decode cX8_takeNumber 29 = .ok (.aload_n 0, 1) := by decide +kernel
theorem dX8_takeNumber_30 : decode cX8_takeNumber 30 = .ok (.aload_n 0, 1) := by decide +kernel
theorem dX8_takeNumber_31 : decode cX8_takeNumber 31 = .ok (.getfield 108, 3) := by decide +kernel
theorem dX8_takeNumber_34 : decode cX8_takeNumber 34 = .ok (.putfield 123, 3) := by decide +kernel
theorem dX8_takeNumber_37 : decode cX8_takeNumber 37 = .ok (.aload_n 0, 1) := by decide +kernel
theorem dX8_takeNumber_38 : decode cX8_takeNumber 38 = .ok (.iconst 0, 1) := by decide +kernel
theorem dX8_takeNumber_39 : decode cX8_takeNumber 39 = .ok (.putfield 126, 3) := by decide +kernel
theorem dX8_takeNumber_42 : decode cX8_takeNumber 42 = .ok (.aload_n 0, 1) := by decide +kernel
theorem dX8_takeNumber_43 : decode cX8_takeNumber 43 = .ok (.getfield 108, 3) := by decide +kernel
theorem dX8_takeNumber_46 : decode cX8_takeNumber 46 = .ok (.aload_n 0, 1) := by decide +kernel
theorem dX8_takeNumber_47 : decode cX8_takeNumber 47 = .ok (.getfield 104, 3) := by decide +kernel
theorem dX8_takeNumber_50 : decode cX8_takeNumber 50 = .ok (.if_icmp .ge 79, 3) := by decide +kernel
theorem dX8_takeNumber_53 : decode cX8_takeNumber 53 = .ok (.aload_n 0, 1) := by decide +kernel
theorem dX8_takeNumber_54 : decode cX8_takeNumber 54 = .ok (.getfield 28, 3) := by decide +kernel
theorem dX8_takeNumber_57 : decode cX8_takeNumber 57 = .ok (.aload_n 0, 1) := by decide +kernel
theorem dX8_takeNumber_58 : decode cX8_takeNumber 58 = .ok (.getfield 108, 3) := by decide +kernel
theorem dX8_takeNumber_61 : decode cX8_takeNumber 61 = .ok (.iaload, 1) := by decide +kernel
theorem dX8_takeNumber_62 : decode cX8_takeNumber 62 = .ok (.i2l, 1) := by decide +kernel
theorem dX8_takeNumber_63 : decode cX8_takeNumber 63 = .ok (.ldc2_w 115, 3) := by decide +kernel
theorem dX8_takeNumber_66 : decode cX8_takeNumber 66 = .ok (.ldc2_w 117, 3) := by decide +kernel
theorem dX8_takeNumber_69 : decode cX8_takeNumber 69 = .ok (.invokestatic 97, 3) := by decide +kernel
theorem dX8_takeNumber_72 : decode cX8_takeNumber 72 = .ok (.ifCond .eq 57, 3) := by decide +kernel
theorem dX8_takeNumber_75 : decode cX8_takeNumber 75 = .ok (.aload_n 0, 1) := by decide +kernel
theorem dX8_takeNumber_76 : decode cX8_takeNumber 76 = .ok (.aload_n 0, 1) := by decide +kernel
theorem dX8_takeNumber_77 : decode cX8_takeNumber 77 = .ok (.getfield 126, 3) := by decide +kernel
theorem dX8_takeNumber_80 : decode cX8_takeNumber 80 = .ok (.sipush 10000, 3) := by decide +kernel
theorem dX8_takeNumber_83 : decode cX8_takeNumber 83 = .ok (.if_icmp .le 10, 3) := by decide +kernel
theorem dX8_takeNumber_86 : decode cX8_takeNumber 86 = .ok (.aload_n 0, 1) := by decide +kernel
theorem dX8_takeNumber_87 : decode cX8_takeNumber 87 = .ok (.getfield 126, 3) := by decide +kernel
theorem dX8_takeNumber_90 : decode cX8_takeNumber 90 = .ok (.goto 23, 3) := by decide +kernel
theorem dX8_takeNumber_93 : decode cX8_takeNumber 93 = .ok (.bipush 10, 2) := by decide +kernel
theorem dX8_takeNumber_95 : decode cX8_takeNumber 95 = .ok (.aload_n 0, 1) := by decide +kernel
theorem dX8_takeNumber_96 : decode cX8_takeNumber 96 = .ok (.getfield 126, 3) := by decide +kernel
theorem dX8_takeNumber_99 : decode cX8_takeNumber 99 = .ok (.imul, 1) := by decide +kernel
theorem dX8_takeNumber_100 : decode cX8_takeNumber 100 = .ok (.aload_n 0, 1) := by decide +kernel
theorem dX8_takeNumber_101 : decode cX8_takeNumber 101 = .ok (.getfield 28, 3) := by decide +kernel
theorem dX8_takeNumber_104 : decode cX8_takeNumber 104 = .ok (.aload_n 0, 1) := by decide +kernel
theorem dX8_takeNumber_105 : decode cX8_takeNumber 105 = .ok (.getfield 108, 3) := by decide +kernel
theorem dX8_takeNumber_108 : decode cX8_takeNumber 108 = .ok (.iaload, 1) := by decide +kernel
theorem dX8_takeNumber_109 : decode cX8_takeNumber 109 = .ok (.iadd, 1) := by decide +kernel
theorem dX8_takeNumber_110 : decode cX8_takeNumber 110 = .ok (.bipush 48, 2) := by decide +kernel
theorem dX8_takeNumber_112 : decode cX8_takeNumber 112 = .ok (.isub, 1) := by decide +kernel
theorem dX8_takeNumber_113 : decode cX8_takeNumber 113 = .ok (.putfield 126, 3) := by decide +kernel
theorem dX8_takeNumber_116 : decode cX8_takeNumber 116 = .ok (.aload_n 0, 1) := by decide +kernel
theorem dX8_takeNumber_117 : decode cX8_takeNumber 117 = .ok (.dup, 1) := by decide +kernel
theorem dX8_takeNumber_118 : decode cX8_takeNumber 118 = .ok (.getfield 108, 3) := by decide +kernel
theorem dX8_takeNumber_121 : decode cX8_takeNumber 121 = .ok (.iconst 1, 1) := by decide +kernel
theorem dX8_takeNumber_122 : decode cX8_takeNumber 122 = .ok (.iadd, 1) := by decide +kernel
theorem dX8_takeNumber_123 : decode cX8_takeNumber 123 = .ok (.putfield 108, 3) := by decide +kernel
theorem dX8_takeNumber_126 : decode cX8_takeNumber 126 = .ok (.goto (-84), 3) := by decide +kernel
theorem dX8_takeNumber_129 : decode cX8_takeNumber 129 = .ok (.aload_n 0, 1) := by decide +kernel
theorem dX8_takeNumber_130 : decode cX8_takeNumber 130 = .ok (.getfield 108, 3) := by decide +kernel
theorem dX8_takeNumber_133 : decode cX8_takeNumber 133 = .ok (.aload_n 0, 1) := by decide +kernel
theorem dX8_takeNumber_134 : decode cX8_takeNumber 134 = .ok (.getfield 123, 3) := by decide +kernel
theorem dX8_takeNumber_137 : decode cX8_takeNumber 137 = .ok (.isub, 1) := by decide +kernel
theorem dX8_takeNumber_138 : decode cX8_takeNumber 138 = .ok (.iconst 3, 1) := by decide +kernel
theorem dX8_takeNumber_139 : decode cX8_takeNumber 139 = .ok (.if_icmp .gt 18, 3) := by decide +kernel
theorem dX8_takeNumber_142 : decode cX8_takeNumber 142 = .ok (.aload_n 0, 1) := by decide +kernel
theorem dX8_takeNumber_143 : decode cX8_takeNumber 143 = .ok (.getfield 126, 3) := by decide +kernel
theorem dX8_takeNumber_146 : decode cX8_takeNumber 146 = .ok (.i2l, 1) := by decide +kernel
theorem dX8_takeNumber_147 : decode cX8_takeNumber 147 = .ok (.iload_n 1, 1) := by decide +kernel
theorem dX8_takeNumber_148 : decode cX8_takeNumber 148 = .ok (.i2l, 1) := by decide +kernel
theorem dX8_takeNumber_149 : decode cX8_takeNumber 149 = .ok (.iload_n 2, 1) := by decide +kernel
theorem dX8_takeNumber_150 : decode cX8_takeNumber 150 = .ok (.i2l, 1) := by decide +kernel
theorem dX8_takeNumber_151 : decode cX8_takeNumber 151 = .ok (.invokestatic 97, 3) := by decide +kernel
theorem dX8_takeNumber_154 : decode cX8_takeNumber 154 = .ok (.ifCond .ne 15, 3) := by decide +kernel
theorem dX8_takeNumber_157 : decode cX8_takeNumber 157 = .ok (.aload_n 0, 1) := by decide +kernel
theorem dX8_takeNumber_158 : decode cX8_takeNumber 158 = .ok (.iconst 2, 1) := by decide +kernel
theorem dX8_takeNumber_159 : decode cX8_takeNumber 159 = .ok (.aload_n 0, 1) := by decide +kernel
theorem dX8_takeNumber_160 : decode cX8_takeNumber 160 = .ok (.getfield 123, 3) := by decide +kernel
theorem dX8_takeNumber_163 : decode cX8_takeNumber 163 = .ok (.invokevirtual 119, 3) := by decide +kernel
theorem dX8_takeNumber_166 : decode cX8_takeNumber 166 = .ok (.goto 4, 3) := by decide +kernel
theorem dX8_takeNumber_169 : decode cX8_takeNumber 169 = .ok (.iconst 0, 1) := by decide +kernel
theorem dX8_takeNumber_170 : decode cX8_takeNumber 170 = .ok (.ireturn, 1) := by decide +kernel
theorem dX8_into_0 : decode cX8_into 0 = .ok (.aload_n 0, 1) := by decide +kernel
theorem dX8_into_1 : decode cX8_into 1 = .ok (.iload_n 3, 1) := by decide +kernel
theorem dX8_into_2 : decode cX8_into 2 = .ok (.iload 4, 2) := by decide +kernel
theorem dX8_into_4 : decode cX8_into 4 = .ok (.invokevirtual 129, 3) := by decide +kernel
theorem dX8_into_7 : decode cX8_into 7 = .ok (.istore 5, 2) := by decide +kernel
theorem dX8_into_9 : decode cX8_into 9 = .ok (.aload_n 1, 1) := by decide +kernel
theorem dX8_into_10 : decode cX8_into 10 = .ok (.iload_n 2, 1) := by decide +kernel
theorem dX8_into_11 : decode cX8_into 11 = .ok (.aload_n 0, 1) := by decide +kernel
theorem dX8_into_12 : decode cX8_into 12 = .ok (.getfield 126, 3) := by decide +kernel
theorem dX8_into_15 : decode cX8_into 15 = .ok (.iastore, 1) := by decide +kernel
theorem dX8_into_16 : decode cX8_into 16 = .ok (.iload 5, 2) := by decide +kernel
theorem dX8_into_18 : decode cX8_into 18 = .ok (.ireturn, 1) := by decide +kernel
theorem dX8_takeHermit_0 : decode cX8_takeHermit 0 = .ok (.aload_n 0, 1) := by decide +kernel
theorem dX8_takeHermit_1 : decode cX8_takeHermit 1 = .ok (.aload_n 0, 1) := by decide +kernel
theorem dX8_takeHermit_2 : decode cX8_takeHermit 2 = .ok (.getfield 35, 3) := by decide +kernel
theorem dX8_takeHermit_5 : decode cX8_takeHermit 5 = .ok (.iconst 0, 1) := by decide +kernel
theorem dX8_takeHermit_6 : decode cX8_takeHermit 6 = .ok (.iconst 1, 1) := by decide +kernel
theorem dX8_takeHermit_7 : decode cX8_takeHermit 7 = .ok (.bipush 9, 2) := by decide +kernel
theorem dX8_takeHermit_9 : decode cX8_takeHermit 9 = .ok (.invokevirtual 132, 3) := by decide +kernel
theorem dX8_takeHermit_12 : decode cX8_takeHermit 12 = .ok (.istore_n 1, 1) := by decide +kernel
theorem dX8_takeHermit_13 : decode cX8_takeHermit 13 = .ok (.iload_n 1, 1) := by decide +kernel
theorem dX8_takeHermit_14 : decode cX8_takeHermit 14 = .ok (.ifCond .le 7, 3) := by decide +kernel
theorem dX8_takeHermit_17 : decode cX8_takeHermit 17 = .ok (.iload_n 1, 1) := by decide +kernel
theorem dX8_takeHermit_18 : decode cX8_takeHermit 18 = .ok (.goto 15, 3) := by decide +kernel
theorem dX8_takeHermit_21 : decode cX8_takeHermit 21 = .ok (.aload_n 0, 1) := by decide +kernel
theorem dX8_takeHermit_22 : decode cX8_takeHermit 22 = .ok (.aload_n 0, 1) := by decide +kernel
theorem dX8_takeHermit_23 : decode cX8_takeHermit 23 = .ok (.getfield 35, 3) := by decide +kernel
theorem dX8_takeHermit_26 : decode cX8_takeHermit 26 = .ok (.iconst 1, 1) := by decide +kernel
theorem dX8_takeHermit_27 : decode cX8_takeHermit 27 = .ok (.iconst 0, 1) := by decide +kernel
theorem dX8_takeHermit_28 : decode cX8_takeHermit 28 = .ok (.bipush 30, 2) := by decide +kernel
theorem dX8_takeHermit_30 : decode cX8_takeHermit 30 = .ok (.invokevirtual 132, 3) := by decide +kernel
theorem dX8_takeHermit_33 : decode cX8_takeHermit 33 = .ok (.istore_n 1, 1) := by decide +kernel
theorem dX8_takeHermit_34 : decode cX8_takeHermit 34 = .ok (.iload_n 1, 1) := by decide +kernel
theorem dX8_takeHermit_35 : decode cX8_takeHermit 35 = .ok (.ifCond .le 7, 3) := by decide +kernel
theorem dX8_takeHermit_38 : decode cX8_takeHermit 38 = .ok (.iload_n 1, 1) := by decide +kernel
theorem dX8_takeHermit_39 : decode cX8_takeHermit 39 = .ok (.goto 15, 3) := by decide +kernel
theorem dX8_takeHermit_42 : decode cX8_takeHermit 42 = .ok (.aload_n 0, 1) := by decide +kernel
theorem dX8_takeHermit_43 : decode cX8_takeHermit 43 = .ok (.aload_n 0, 1) := by decide +kernel
theorem dX8_takeHermit_44 : decode cX8_takeHermit 44 = .ok (.getfield 35, 3) := by decide +kernel
theorem dX8_takeHermit_47 : decode cX8_takeHermit 47 = .ok (.iconst 2, 1) := by decide +kernel
theorem dX8_takeHermit_48 : decode cX8_takeHermit 48 = .ok (.iconst 0, 1) := by decide +kernel
theorem dX8_takeHermit_49 : decode cX8_takeHermit 49 = .ok (.bipush 9, 2) := by decide +kernel
theorem dX8_takeHermit_51 : decode cX8_takeHermit 51 = .ok (.invokevirtual 132, 3) := by decide +kernel
theorem dX8_takeHermit_54 : decode cX8_takeHermit 54 = .ok (.ireturn, 1) := by decide +kernel
theorem dX8_takeVillage_0 : decode cX8_takeVillage 0 = .ok (.aload_n 0, 1) := by decide +kernel
theorem dX8_takeVillage_1 : decode cX8_takeVillage 1 = .ok (.getfield 136, 3) := by decide +kernel
theorem dX8_takeVillage_4 : decode cX8_takeVillage 4 = .ok (.istore_n 1, 1) := by decide +kernel
theorem dX8_takeVillage_5 : decode cX8_takeVillage 5 = .ok (.aload_n 0, 1) := by decide +kernel
theorem dX8_takeVillage_6 : decode cX8_takeVillage 6 = .ok (.dup, 1) := by decide +kernel
theorem dX8_takeVillage_7 : decode cX8_takeVillage 7 = .ok (.getfield 136, 3) := by decide +kernel
theorem dX8_takeVillage_10 : decode cX8_takeVillage 10 = .ok (.iconst 1, 1) := by decide +kernel
theorem dX8_takeVillage_11 : decode cX8_takeVillage 11 = .ok (.iadd, 1) := by decide +kernel
theorem dX8_takeVillage_12 : decode cX8_takeVillage 12 = .ok (.putfield 136, 3) := by decide +kernel
theorem dX8_takeVillage_15 : decode cX8_takeVillage 15 = .ok (.aload_n 0, 1) := by decide +kernel
theorem dX8_takeVillage_16 : decode cX8_takeVillage 16 = .ok (.aload_n 0, 1) := by decide +kernel
theorem dX8_takeVillage_17 : decode cX8_takeVillage 17 = .ok (.getfield 38, 3) := by decide +kernel
theorem dX8_takeVillage_20 : decode cX8_takeVillage 20 = .ok (.iload_n 1, 1) := by decide +kernel
theorem dX8_takeVillage_21 : decode cX8_takeVillage 21 = .ok (.iconst 0, 1) := by decide +kernel
theorem dX8_takeVillage_22 : decode cX8_takeVillage 22 = .ok (.bipush 9, 2) := by decide +kernel
theorem dX8_takeVillage_24 : decode cX8_takeVillage 24 = .ok (.invokevirtual 132, 3) := by decide +kernel
theorem dX8_takeVillage_27 : decode cX8_takeVillage 27 = .ok (.istore_n 2, 1) := by decide +kernel
theorem dX8_takeVillage_28 : decode cX8_takeVillage 28 = .ok (.iload_n 2, 1) := by decide +kernel
theorem dX8_takeVillage_29 : decode cX8_takeVillage 29 = .ok (.ifCond .le 7, 3) := by decide +kernel
theorem dX8_takeVillage_32 : decode cX8_takeVillage 32 = .ok (.iload_n 2, 1) := by decide +kernel
theorem dX8_takeVillage_33 : decode cX8_takeVillage 33 = .ok (.goto 15, 3) := by decide +kernel
theorem dX8_takeVillage_36 : decode cX8_takeVillage 36 = .ok (.aload_n 0, 1) := by decide +kernel
theorem dX8_takeVillage_37 : decode cX8_takeVillage 37 = .ok (.aload_n 0, 1) := by decide +kernel
theorem dX8_takeVillage_38 : decode cX8_takeVillage 38 = .ok (.getfield 41, 3) := by decide +kernel
theorem dX8_takeVillage_41 : decode cX8_takeVillage 41 = .ok (.iload_n 1, 1) := by decide +kernel
theorem dX8_takeVillage_42 : decode cX8_takeVillage 42 = .ok (.iconst 1, 1) := by decide +kernel
theorem dX8_takeVillage_43 : decode cX8_takeVillage 43 = .ok (.bipush 9, 2) := by decide +kernel
theorem dX8_takeVillage_45 : decode cX8_takeVillage 45 = .ok (.invokevirtual 132, 3) := by decide +kernel
theorem dX8_takeVillage_48 : decode cX8_takeVillage 48 = .ok (.istore_n 2, 1) := by decide +kernel
theorem dX8_takeVillage_49 : decode cX8_takeVillage 49 = .ok (.iload_n 2, 1) := by decide +kernel
theorem dX8_takeVillage_50 : decode cX8_takeVillage 50 = .ok (.ifCond .le 7, 3) := by decide +kernel
theorem dX8_takeVillage_53 : decode cX8_takeVillage 53 = .ok (.iload_n 2, 1) := by decide +kernel
theorem dX8_takeVillage_54 : decode cX8_takeVillage 54 = .ok (.goto 21, 3) := by decide +kernel
theorem dX8_takeVillage_57 : decode cX8_takeVillage 57 = .ok (.aload_n 0, 1) := by decide +kernel
theorem dX8_takeVillage_58 : decode cX8_takeVillage 58 = .ok (.aload_n 0, 1) := by decide +kernel
theorem dX8_takeVillage_59 : decode cX8_takeVillage 59 = .ok (.getfield 44, 3) := by decide +kernel
theorem dX8_takeVillage_62 : decode cX8_takeVillage 62 = .ok (.iload_n 1, 1) := by decide +kernel
theorem dX8_takeVillage_63 : decode cX8_takeVillage 63 = .ok (.iconst 0, 1) := by decide +kernel
theorem dX8_takeVillage_64 : decode cX8_takeVillage 64 = .ok (.aload_n 0, 1) := by decide +kernel
theorem dX8_takeVillage_65 : decode cX8_takeVillage 65 = .ok (.getfield 41, 3) := by decide +kernel
theorem dX8_takeVillage_68 : decode cX8_takeVillage 68 = .ok (.iload_n 1, 1) := by decide +kernel
theorem dX8_takeVillage_69 : decode cX8_takeVillage 69 = .ok (.iaload, 1) := by decide +kernel
theorem dX8_takeVillage_70 : decode cX8_takeVillage 70 = .ok (.iconst 1, 1) := by decide +kernel
theorem dX8_takeVillage_71 : decode cX8_takeVillage 71 = .ok (.isub, 1) := by decide +kernel
theorem dX8_takeVillage_72 : decode cX8_takeVillage 72 = .ok (.invokevirtual 132, 3) := by decide +kernel
theorem dX8_takeVillage_75 : decode cX8_takeVillage 75 = .ok (.istore_n 2, 1) := by decide +kernel
theorem dX8_takeVillage_76 : decode cX8_takeVillage 76 = .ok (.iload_n 2, 1) := by decide +kernel
theorem dX8_takeVillage_77 : decode cX8_takeVillage 77 = .ok (.ifCond .le 7, 3) := by decide +kernel
theorem dX8_takeVillage_80 : decode cX8_takeVillage 80 = .ok (.iload_n 2, 1) := by decide +kernel
theorem dX8_takeVillage_81 : decode cX8_takeVillage 81 = .ok (.goto 15, 3) := by decide +kernel
theorem dX8_takeVillage_84 : decode cX8_takeVillage 84 = .ok (.aload_n 0, 1) := by decide +kernel
theorem dX8_takeVillage_85 : decode cX8_takeVillage 85 = .ok (.aload_n 0, 1) := by decide +kernel
theorem dX8_takeVillage_86 : decode cX8_takeVillage 86 = .ok (.getfield 47, 3) := by decide +kernel
theorem dX8_takeVillage_89 : decode cX8_takeVillage 89 = .ok (.iload_n 1, 1) := by decide +kernel
theorem dX8_takeVillage_90 : decode cX8_takeVillage 90 = .ok (.iconst 0, 1) := by decide +kernel
theorem dX8_takeVillage_91 : decode cX8_takeVillage 91 = .ok (.bipush 100, 2) := by decide +kernel
theorem dX8_takeVillage_93 : decode cX8_takeVillage 93 = .ok (.invokevirtual 132, 3) := by decide +kernel
theorem dX8_takeVillage_96 : decode cX8_takeVillage 96 = .ok (.ireturn, 1) := by decide +kernel
theorem dX8_takeDay_0 : decode cX8_takeDay 0 = .ok (.aload_n 0, 1) := by decide +kernel
theorem dX8_takeDay_1 : decode cX8_takeDay 1 = .ok (.aload_n 1, 1) := by decide +kernel
theorem dX8_takeDay_2 : decode cX8_takeDay 2 = .ok (.iload_n 2, 1) := by decide +kernel
theorem dX8_takeDay_3 : decode cX8_takeDay 3 = .ok (.iconst 0, 1) := by decide +kernel
theorem dX8_takeDay_4 : decode cX8_takeDay 4 = .ok (.sipush 999, 3) := by decide +kernel
theorem dX8_takeDay_7 : decode cX8_takeDay 7 = .ok (.invokevirtual 132, 3) := by decide +kernel
theorem dX8_takeDay_10 : decode cX8_takeDay 10 = .ok (.istore_n 3, 1) := by decide +kernel
theorem dX8_takeDay_11 : decode cX8_takeDay 11 = .ok (.iconst 0, 1) := by decide +kernel
theorem dX8_takeDay_12 : decode cX8_takeDay 12 = .ok (.istore 4, 2) := by decide +kernel
theorem dX8_takeDay_14 : decode cX8_takeDay 14 = .ok (.iload 4, 2) := by decide +kernel
theorem dX8_takeDay_16 : decode cX8_takeDay 16 = .ok (.iload_n 2, 1) := by decide +kernel
theorem dX8_takeDay_17 : decode cX8_takeDay 17 = .ok (.if_icmp .ge 38, 3) := by decide +kernel
theorem dX8_takeDay_20 : decode cX8_takeDay 20 = .ok (.iload_n 3, 1) := by decide +kernel
theorem dX8_takeDay_21 : decode cX8_takeDay 21 = .ok (.ifCond .ne 34, 3) := by decide +kernel
theorem dX8_takeDay_24 : decode cX8_takeDay 24 = .ok (.aload_n 1, 1) := by decide +kernel
theorem dX8_takeDay_25 : decode cX8_takeDay 25 = .ok (.iload 4, 2) := by decide +kernel
theorem dX8_takeDay_27 : decode cX8_takeDay 27 = .ok (.iaload, 1) := by decide +kernel
theorem dX8_takeDay_28 : decode cX8_takeDay 28 = .ok (.aload_n 0, 1) := by decide +kernel
theorem dX8_takeDay_29 : decode cX8_takeDay 29 = .ok (.getfield 126, 3) := by decide +kernel
theorem dX8_takeDay_32 : decode cX8_takeDay 32 = .ok (.if_icmp .ne 15, 3) := by decide +kernel
theorem dX8_takeDay_35 : decode cX8_takeDay 35 = .ok (.aload_n 0, 1) := by decide +kernel
theorem dX8_takeDay_36 : decode cX8_takeDay 36 = .ok (.iconst 4, 1) := by decide +kernel
theorem dX8_takeDay_37 : decode cX8_takeDay 37 = .ok (.aload_n 0, 1) := by decide +kernel
theorem dX8_takeDay_38 : decode cX8_takeDay 38 = .ok (.getfield 123, 3) := by decide +kernel
theorem dX8_takeDay_41 : decode cX8_takeDay 41 = .ok (.invokevirtual 119, 3) := by decide +kernel
theorem dX8_takeDay_44 : decode cX8_takeDay 44 = .ok (.goto 4, 3) := by decide +kernel
theorem dX8_takeDay_47 : decode cX8_takeDay 47 = .ok (.iconst 0, 1) := by decide +kernel
theorem dX8_takeDay_48 : decode cX8_takeDay 48 = .ok (.istore_n 3, 1) := by decide +kernel
theorem dX8_takeDay_49 : decode cX8_takeDay 49 = .ok (.iinc 4 1, 3) := by decide +kernel
theorem dX8_takeDay_52 : decode cX8_takeDay 52 = .ok (.goto (-38), 3) := by decide +kernel
theorem dX8_takeDay_55 : decode cX8_takeDay 55 = .ok (.iload_n 3, 1) := by decide +kernel
theorem dX8_takeDay_56 : decode cX8_takeDay 56 = .ok (.ireturn, 1) := by decide +kernel
theorem dX8_takeClause_0 : decode cX8_takeClause 0 = .ok (.aload_n 0, 1) := by decide +kernel
theorem dX8_takeClause_1 : decode cX8_takeClause 1 = .ok (.invokevirtual 111, 3) := by decide +kernel
theorem dX8_takeClause_4 : decode cX8_takeClause 4 = .ok (.istore_n 1, 1) := by decide +kernel
theorem dX8_takeClause_5 : decode cX8_takeClause 5 = .ok (.iload_n 1, 1) := by decide +kernel
theorem dX8_takeClause_6 : decode cX8_takeClause 6 = .ok (.bipush 104, 2) := by decide +kernel
theorem dX8_takeClause_8 : decode cX8_takeClause 8 = .ok (.if_icmp .ne 7, 3) := by decide +kernel
theorem dX8_takeClause_11 : decode cX8_takeClause 11 = .ok (.iconst 0, 1) := by decide +kernel
theorem dX8_takeClause_12 : decode cX8_takeClause 12 = .ok (.goto 34, 3) := by decide +kernel
theorem dX8_takeClause_15 : decode cX8_takeClause 15 = .ok (.iload_n 1, 1) := by decide +kernel
theorem dX8_takeClause_16 : decode cX8_takeClause 16 = .ok (.bipush 118, 2) := by decide +kernel
theorem dX8_takeClause_18 : decode cX8_takeClause 18 = .ok (.if_icmp .ne 7, 3) := by decide +kernel
theorem dX8_takeClause_21 : decode cX8_takeClause 21 = .ok (.iconst 1, 1) := by decide +kernel
theorem dX8_takeClause_22 : decode cX8_takeClause 22 = .ok (.goto 24, 3) := by decide +kernel
theorem dX8_takeClause_25 : decode cX8_takeClause 25 = .ok (.iload_n 1, 1) := by decide +kernel
theorem dX8_takeClause_26 : decode cX8_takeClause 26 = .ok (.bipush 102, 2) := by decide +kernel
theorem dX8_takeClause_28 : decode cX8_takeClause 28 = .ok (.if_icmp .ne 7, 3) := by decide +kernel
theorem dX8_takeClause_31 : decode cX8_takeClause 31 = .ok (.iconst 2, 1) := by decide +kernel
theorem dX8_takeClause_32 : decode cX8_takeClause 32 = .ok (.goto 14, 3) := by decide +kernel
theorem dX8_takeClause_35 : decode cX8_takeClause 35 = .ok (.iload_n 1, 1) := by decide +kernel
theorem dX8_takeClause_36 : decode cX8_takeClause 36 = .ok (.bipush 103, 2) := by decide +kernel
theorem dX8_takeClause_38 : decode cX8_takeClause 38 = .ok (.if_icmp .ne 7, 3) := by decide +kernel
theorem dX8_takeClause_41 : decode cX8_takeClause 41 = .ok (.iconst 3, 1) := by decide +kernel
theorem dX8_takeClause_42 : decode cX8_takeClause 42 = .ok (.goto 4, 3) := by decide +kernel
theorem dX8_takeClause_45 : decode cX8_takeClause 45 = .ok (.iconst (-1), 1) := by decide +kernel
theorem dX8_takeClause_46 : decode cX8_takeClause 46 = .ok (.istore_n 2, 1) := by decide +kernel
theorem dX8_takeClause_47 : decode cX8_takeClause 47 = .ok (.iload_n 2, 1) := by decide +kernel
theorem dX8_takeClause_48 : decode cX8_takeClause 48 = .ok (.ifCond .lt 16, 3) := by decide +kernel
theorem dX8_takeClause_51 : decode cX8_takeClause 51 = .ok (.iload_n 2, 1) := by decide +kernel
theorem dX8_takeClause_52 : decode cX8_takeClause 52 = .ok (.ifCond .le 22, 3) := by decide +kernel
theorem dX8_takeClause_55 : decode cX8_takeClause 55 = .ok (.aload_n 0, 1) := by decide +kernel
theorem dX8_takeClause_56 : decode cX8_takeClause 56 = .ok (.getfield 35, 3) := by decide +kernel
theorem dX8_takeClause_59 : decode cX8_takeClause 59 = .ok (.iconst 0, 1) := by decide +kernel
theorem dX8_takeClause_60 : decode cX8_takeClause 60 = .ok (.iaload, 1) := by decide +kernel
theorem dX8_takeClause_61 : decode cX8_takeClause 61 = .ok (.ifCond .ne 13, 3) := by decide +kernel
theorem dX8_takeClause_64 : decode cX8_takeClause 64 = .ok (.aload_n 0, 1) := by decide +kernel
theorem dX8_takeClause_65 : decode cX8_takeClause 65 = .ok (.iconst 1, 1) := by decide +kernel
theorem dX8_takeClause_66 : decode cX8_takeClause 66 = .ok (.aload_n 0, 1) := by decide +kernel
theorem dX8_takeClause_67 : decode cX8_takeClause 67 = .ok (.getfield 108, 3) := by decide +kernel
theorem dX8_takeClause_70 : decode cX8_takeClause 70 = .ok (.invokevirtual 119, 3) := by decide +kernel
theorem dX8_takeClause_73 : decode cX8_takeClause 73 = .ok (.ireturn, 1) := by decide +kernel
theorem dX8_takeClause_74 : decode cX8_takeClause 74 = .ok (.iload_n 2, 1) := by decide +kernel
theorem dX8_takeClause_75 : decode cX8_takeClause 75 = .ok (.ifCond .ne 20, 3) := by decide +kernel
theorem dX8_takeClause_78 : decode cX8_takeClause 78 = .ok (.aload_n 0, 1) := by decide +kernel
theorem dX8_takeClause_79 : decode cX8_takeClause 79 = .ok (.getfield 35, 3) := by decide +kernel
theorem dX8_takeClause_82 : decode cX8_takeClause 82 = .ok (.iconst 0, 1) := by decide +kernel
theorem dX8_takeClause_83 : decode cX8_takeClause 83 = .ok (.iaload, 1) := by decide +kernel
theorem dX8_takeClause_84 : decode cX8_takeClause 84 = .ok (.ifCond .le 7, 3) := by decide +kernel
theorem dX8_takeClause_87 : decode cX8_takeClause 87 = .ok (.iconst 1, 1) := by decide +kernel
theorem dX8_takeClause_88 : decode cX8_takeClause 88 = .ok (.goto 65, 3) := by decide +kernel
theorem dX8_takeClause_91 : decode cX8_takeClause 91 = .ok (.iconst 0, 1) := by decide +kernel
theorem dX8_takeClause_92 : decode cX8_takeClause 92 = .ok (.goto 61, 3) := by decide +kernel
theorem dX8_takeClause_95 : decode cX8_takeClause 95 = .ok (.iload_n 2, 1) := by decide +kernel
theorem dX8_takeClause_96 : decode cX8_takeClause 96 = .ok (.iconst 1, 1) := by decide +kernel
theorem dX8_takeClause_97 : decode cX8_takeClause 97 = .ok (.if_icmp .ne 20, 3) := by decide +kernel
theorem dX8_takeClause_100 : decode cX8_takeClause 100 = .ok (.aload_n 0, 1) := by decide +kernel
theorem dX8_takeClause_101 : decode cX8_takeClause 101 = .ok (.getfield 136, 3) := by decide +kernel
theorem dX8_takeClause_104 : decode cX8_takeClause 104 = .ok (.bipush 8, 2) := by decide +kernel
theorem dX8_takeClause_106 : decode cX8_takeClause 106 = .ok (.if_icmp .ne 7, 3) := by decide +kernel
theorem dX8_takeClause_109 : decode cX8_takeClause 109 = .ok (.iconst 1, 1) := by decide +kernel
theorem dX8_takeClause_110 : decode cX8_takeClause 110 = .ok (.goto 43, 3) := by decide +kernel
theorem dX8_takeClause_113 : decode cX8_takeClause 113 = .ok (.iconst 0, 1) := by decide +kernel
theorem dX8_takeClause_114 : decode cX8_takeClause 114 = .ok (.goto 39, 3) := by decide +kernel
theorem dX8_takeClause_117 : decode cX8_takeClause 117 = .ok (.iload_n 2, 1) := by decide +kernel
theorem dX8_takeClause_118 : decode cX8_takeClause 118 = .ok (.iconst 2, 1) := by decide +kernel
theorem dX8_takeClause_119 : decode cX8_takeClause 119 = .ok (.if_icmp .ne 20, 3) := by decide +kernel
theorem dX8_takeClause_122 : decode cX8_takeClause 122 = .ok (.aload_n 0, 1) := by decide +kernel
theorem dX8_takeClause_123 : decode cX8_takeClause 123 = .ok (.getfield 139, 3) := by decide +kernel
theorem dX8_takeClause_126 : decode cX8_takeClause 126 = .ok (.bipush 8, 2) := by decide +kernel
theorem dX8_takeClause_128 : decode cX8_takeClause 128 = .ok (.if_icmp .ne 7, 3) := by decide +kernel
theorem dX8_takeClause_131 : decode cX8_takeClause 131 = .ok (.iconst 1, 1) := by decide +kernel
theorem dX8_takeClause_132 : decode cX8_takeClause 132 = .ok (.goto 21, 3) := by decide +kernel
theorem dX8_takeClause_135 : decode cX8_takeClause 135 = .ok (.iconst 0, 1) := by decide +kernel
theorem dX8_takeClause_136 : decode cX8_takeClause 136 = .ok (.goto 17, 3) := by decide +kernel
theorem dX8_takeClause_139 : decode cX8_takeClause 139 = .ok (.aload_n 0, 1) := by decide +kernel
theorem dX8_takeClause_140 : decode cX8_takeClause 140 = .ok (.getfield 142, 3) := by decide +kernel
theorem dX8_takeClause_143 : decode cX8_takeClause 143 = .ok (.bipush 8, 2) := by decide +kernel
theorem dX8_takeClause_145 : decode cX8_takeClause 145 = .ok (.if_icmp .ne 7, 3) := by decide +kernel
theorem dX8_takeClause_148 : decode cX8_takeClause 148 = .ok (.iconst 1, 1) := by decide +kernel
theorem dX8_takeClause_149 : decode cX8_takeClause 149 = .ok (.goto 4, 3) := by decide +kernel
theorem dX8_takeClause_152 : decode cX8_takeClause 152 = .ok (.iconst 0, 1) := by decide +kernel
theorem dX8_takeClause_153 : decode cX8_takeClause 153 = .ok (.istore_n 3, 1) := by decide +kernel
theorem dX8_takeClause_154 : decode cX8_takeClause 154 = .ok (.iload_n 3, 1) := by decide +kernel
theorem dX8_takeClause_155 : decode cX8_takeClause 155 = .ok (.ifCond .eq 13, 3) := by decide +kernel
theorem dX8_takeClause_158 : decode cX8_takeClause 158 = .ok (.aload_n 0, 1) := by decide +kernel
theorem dX8_takeClause_159 : decode cX8_takeClause 159 = .ok (.iconst 3, 1) := by decide +kernel
theorem dX8_takeClause_160 : decode cX8_takeClause 160 = .ok (.aload_n 0, 1) := by decide +kernel
theorem dX8_takeClause_161 : decode cX8_takeClause 161 = .ok (.getfield 108, 3) := by decide +kernel
theorem dX8_takeClause_164 : decode cX8_takeClause 164 = .ok (.invokevirtual 119, 3) := by decide +kernel
theorem dX8_takeClause_167 : decode cX8_takeClause 167 = .ok (.ireturn, 1) := by decide +kernel
theorem dX8_takeClause_168 : decode cX8_takeClause 168 = .ok (.aload_n 0, 1) := by decide +kernel
theorem dX8_takeClause_169 : decode cX8_takeClause 169 = .ok (.dup, 1) := by decide +kernel
theorem dX8_takeClause_170 : decode cX8_takeClause 170 = .ok (.getfield 108, 3) := by decide +kernel
theorem dX8_takeClause_173 : decode cX8_takeClause 173 = .ok (.iconst 1, 1) := by decide +kernel
theorem dX8_takeClause_174 : decode cX8_takeClause 174 = .ok (.iadd, 1) := by decide +kernel
theorem dX8_takeClause_175 : decode cX8_takeClause 175 = .ok (.putfield 108, 3) := by decide +kernel
theorem dX8_takeClause_178 : decode cX8_takeClause 178 = .ok (.iload_n 2, 1) := by decide +kernel
theorem dX8_takeClause_179 : decode cX8_takeClause 179 = .ok (.ifCond .ne 10, 3) := by decide +kernel
theorem dX8_takeClause_182 : decode cX8_takeClause 182 = .ok (.aload_n 0, 1) := by decide +kernel
theorem dX8_takeClause_183 : decode cX8_takeClause 183 = .ok (.invokevirtual 145, 3) := by decide +kernel
theorem dX8_takeClause_186 : decode cX8_takeClause 186 = .ok (.goto 47, 3) := by decide +kernel
theorem dX8_takeClause_189 : decode cX8_takeClause 189 = .ok (.iload_n 2, 1) := by decide +kernel
theorem dX8_takeClause_190 : decode cX8_takeClause 190 = .ok (.iconst 1, 1) := by decide +kernel
theorem dX8_takeClause_191 : decode cX8_takeClause 191 = .ok (.if_icmp .ne 10, 3) := by decide +kernel
theorem dX8_takeClause_194 : decode cX8_takeClause 194 = .ok (.aload_n 0, 1) := by decide +kernel
theorem dX8_takeClause_195 : decode cX8_takeClause 195 = .ok (.invokevirtual 148, 3) := by decide +kernel
theorem dX8_takeClause_198 : decode cX8_takeClause 198 = .ok (.goto 35, 3) := by decide +kernel
theorem dX8_takeClause_201 : decode cX8_takeClause 201 = .ok (.iload_n 2, 1) := by decide +kernel
theorem dX8_takeClause_202 : decode cX8_takeClause 202 = .ok (.iconst 2, 1) := by decide +kernel
theorem dX8_takeClause_203 : decode cX8_takeClause 203 = .ok (.if_icmp .ne 18, 3) := by decide +kernel
theorem dX8_takeClause_206 : decode cX8_takeClause 206 = .ok (.aload_n 0, 1) := by decide +kernel
theorem dX8_takeClause_207 : decode cX8_takeClause 207 = .ok (.aload_n 0, 1) := by decide +kernel
theorem dX8_takeClause_208 : decode cX8_takeClause 208 = .ok (.getfield 50, 3) := by decide +kernel
theorem dX8_takeClause_211 : decode cX8_takeClause 211 = .ok (.aload_n 0, 1) := by decide +kernel
theorem dX8_takeClause_212 : decode cX8_takeClause 212 = .ok (.getfield 139, 3) := by decide +kernel
theorem dX8_takeClause_215 : decode cX8_takeClause 215 = .ok (.invokevirtual 151, 3) := by decide +kernel
theorem dX8_takeClause_218 : decode cX8_takeClause 218 = .ok (.goto 15, 3) := by decide +kernel
theorem dX8_takeClause_221 : decode cX8_takeClause 221 = .ok (.aload_n 0, 1) := by decide +kernel
theorem dX8_takeClause_222 : decode cX8_takeClause 222 = .ok (.aload_n 0, 1) := by decide +kernel
theorem dX8_takeClause_223 : decode cX8_takeClause 223 = .ok (.getfield 53, 3) := by decide +kernel
theorem dX8_takeClause_226 : decode cX8_takeClause 226 = .ok (.aload_n 0, 1) := by decide +kernel
theorem dX8_takeClause_227 : decode cX8_takeClause 227 = .ok (.getfield 142, 3) := by decide +kernel
theorem dX8_takeClause_230 : decode cX8_takeClause 230 = .ok (.invokevirtual 151, 3) := by decide +kernel
theorem dX8_takeClause_233 : decode cX8_takeClause 233 = .ok (.istore 4, 2) := by decide +kernel
theorem dX8_takeClause_235 : decode cX8_takeClause 235 = .ok (.aload_n 0, 1) := by decide +kernel
theorem dX8_takeClause_236 : decode cX8_takeClause 236 = .ok (.dup, 1) := by decide +kernel
theorem dX8_takeClause_237 : decode cX8_takeClause 237 = .ok (.getfield 139, 3) := by decide +kernel
theorem dX8_takeClause_240 : decode cX8_takeClause 240 = .ok (.iload_n 2, 1) := by decide +kernel
theorem dX8_takeClause_241 : decode cX8_takeClause 241 = .ok (.iconst 2, 1) := by decide +kernel
theorem dX8_takeClause_242 : decode cX8_takeClause 242 = .ok (.if_icmp .ne 7, 3) := by decide +kernel
theorem dX8_takeClause_245 : decode cX8_takeClause 245 = .ok (.iconst 1, 1) := by decide +kernel
theorem dX8_takeClause_246 : decode cX8_takeClause 246 = .ok (.goto 4, 3) := by decide +kernel
theorem dX8_takeClause_249 : decode cX8_takeClause 249 = .ok (.iconst 0, 1) := by decide +kernel
theorem dX8_takeClause_250 : decode cX8_takeClause 250 = .ok (.iadd, 1) := by decide +kernel
theorem dX8_takeClause_251 : decode cX8_takeClause 251 = .ok (.putfield 139, 3) := by decide +kernel
theorem dX8_takeClause_254 : decode cX8_takeClause 254 = .ok (.aload_n 0, 1) := by decide +kernel
theorem dX8_takeClause_255 : decode cX8_takeClause 255 = .ok (.dup, 1) := by decide +kernel
theorem dX8_takeClause_256 : decode cX8_takeClause 256 = .ok (.getfield 142, 3) := by decide +kernel
theorem dX8_takeClause_259 : decode cX8_takeClause 259 = .ok (.iload_n 2, 1) := by decide +kernel
theorem dX8_takeClause_260 : decode cX8_takeClause 260 = .ok (.iconst 3, 1) := by decide +kernel
theorem dX8_takeClause_261 : decode cX8_takeClause 261 = .ok (.if_icmp .ne 7, 3) := by decide +kernel
theorem dX8_takeClause_264 : decode cX8_takeClause 264 = .ok (.iconst 1, 1) := by decide +kernel
theorem dX8_takeClause_265 : decode cX8_takeClause 265 = .ok (.goto 4, 3) := by decide +kernel
theorem dX8_takeClause_268 : decode cX8_takeClause 268 = .ok (.iconst 0, 1) := by decide +kernel
theorem dX8_takeClause_269 : decode cX8_takeClause 269 = .ok (.iadd, 1) := by decide +kernel
theorem dX8_takeClause_270 : decode cX8_takeClause 270 = .ok (.putfield 142, 3) := by decide +kernel
theorem dX8_takeClause_273 : decode cX8_takeClause 273 = .ok (.iload 4, 2) := by decide +kernel
theorem dX8_takeClause_275 : decode cX8_takeClause 275 = .ok (.ifCond .ne 22, 3) := by decide +kernel
theorem dX8_takeClause_278 : decode cX8_takeClause 278 = .ok (.aload_n 0, 1) := by decide +kernel
theorem dX8_takeClause_279 : decode cX8_takeClause 279 = .ok (.invokevirtual 111, 3) := by decide +kernel
theorem dX8_takeClause_282 : decode cX8_takeClause 282 = .ok (.bipush 59, 2) := by decide +kernel
theorem dX8_takeClause_284 : decode cX8_takeClause 284 = .ok (.if_icmp .eq 13, 3) := by decide +kernel
theorem dX8_takeClause_287 : decode cX8_takeClause 287 = .ok (.aload_n 0, 1) := by decide +kernel
theorem dX8_takeClause_288 : decode cX8_takeClause 288 = .ok (.iconst 1, 1) := by decide +kernel
theorem dX8_takeClause_289 : decode cX8_takeClause 289 = .ok (.aload_n 0, 1) := by decide +kernel
theorem dX8_takeClause_290 : decode cX8_takeClause 290 = .ok (.getfield 108, 3) := by decide +kernel
theorem dX8_takeClause_293 : decode cX8_takeClause 293 = .ok (.invokevirtual 119, 3) := by decide +kernel
theorem dX8_takeClause_296 : decode cX8_takeClause 296 = .ok (.ireturn, 1) := by decide +kernel
theorem dX8_takeClause_297 : decode cX8_takeClause 297 = .ok (.aload_n 0, 1) := by decide +kernel
theorem dX8_takeClause_298 : decode cX8_takeClause 298 = .ok (.dup, 1) := by decide +kernel
theorem dX8_takeClause_299 : decode cX8_takeClause 299 = .ok (.getfield 108, 3) := by decide +kernel
theorem dX8_takeClause_302 : decode cX8_takeClause 302 = .ok (.iconst 1, 1) := by decide +kernel
theorem dX8_takeClause_303 : decode cX8_takeClause 303 = .ok (.iadd, 1) := by decide +kernel
theorem dX8_takeClause_304 : decode cX8_takeClause 304 = .ok (.putfield 108, 3) := by decide +kernel
theorem dX8_takeClause_307 : decode cX8_takeClause 307 = .ok (.iload 4, 2) := by decide +kernel
theorem dX8_takeClause_309 : decode cX8_takeClause 309 = .ok (.ireturn, 1) := by decide +kernel
theorem dX8_takeRead_0 : decode cX8_takeRead 0 = .ok (.aload_n 0, 1) := by decide +kernel
theorem dX8_takeRead_1 : decode cX8_takeRead 1 = .ok (.aload_n 0, 1) := by decide +kernel
theorem dX8_takeRead_2 : decode cX8_takeRead 2 = .ok (.getfield 35, 3) := by decide +kernel
theorem dX8_takeRead_5 : decode cX8_takeRead 5 = .ok (.iconst 0, 1) := by decide +kernel
theorem dX8_takeRead_6 : decode cX8_takeRead 6 = .ok (.iaload, 1) := by decide +kernel
theorem dX8_takeRead_7 : decode cX8_takeRead 7 = .ok (.putfield 155, 3) := by decide +kernel
theorem dX8_takeRead_10 : decode cX8_takeRead 10 = .ok (.aload_n 0, 1) := by decide +kernel
theorem dX8_takeRead_11 : decode cX8_takeRead 11 = .ok (.aload_n 0, 1) := by decide +kernel
theorem dX8_takeRead_12 : decode cX8_takeRead 12 = .ok (.getfield 35, 3) := by decide +kernel
theorem dX8_takeRead_15 : decode cX8_takeRead 15 = .ok (.iconst 1, 1) := by decide +kernel
theorem dX8_takeRead_16 : decode cX8_takeRead 16 = .ok (.iaload, 1) := by decide +kernel
theorem dX8_takeRead_17 : decode cX8_takeRead 17 = .ok (.putfield 158, 3) := by decide +kernel
theorem dX8_takeRead_20 : decode cX8_takeRead 20 = .ok (.aload_n 0, 1) := by decide +kernel
theorem dX8_takeRead_21 : decode cX8_takeRead 21 = .ok (.aload_n 0, 1) := by decide +kernel
theorem dX8_takeRead_22 : decode cX8_takeRead 22 = .ok (.getfield 35, 3) := by decide +kernel
theorem dX8_takeRead_25 : decode cX8_takeRead 25 = .ok (.iconst 2, 1) := by decide +kernel
theorem dX8_takeRead_26 : decode cX8_takeRead 26 = .ok (.iaload, 1) := by decide +kernel
theorem dX8_takeRead_27 : decode cX8_takeRead 27 = .ok (.putfield 161, 3) := by decide +kernel
theorem dX8_takeRead_30 : decode cX8_takeRead 30 = .ok (.aload_n 0, 1) := by decide +kernel
theorem dX8_takeRead_31 : decode cX8_takeRead 31 = .ok (.aload_n 0, 1) := by decide +kernel
theorem dX8_takeRead_32 : decode cX8_takeRead 32 = .ok (.getfield 136, 3) := by decide +kernel
theorem dX8_takeRead_35 : decode cX8_takeRead 35 = .ok (.putfield 94, 3) := by decide +kernel
theorem dX8_takeRead_38 : decode cX8_takeRead 38 = .ok (.aload_n 0, 1) := by decide +kernel
theorem dX8_takeRead_39 : decode cX8_takeRead 39 = .ok (.aload_n 0, 1) := by decide +kernel
theorem dX8_takeRead_40 : decode cX8_takeRead 40 = .ok (.getfield 139, 3) := by decide +kernel
theorem dX8_takeRead_43 : decode cX8_takeRead 43 = .ok (.putfield 164, 3) := by decide +kernel
theorem dX8_takeRead_46 : decode cX8_takeRead 46 = .ok (.aload_n 0, 1) := by decide +kernel
theorem dX8_takeRead_47 : decode cX8_takeRead 47 = .ok (.aload_n 0, 1) := by decide +kernel
theorem dX8_takeRead_48 : decode cX8_takeRead 48 = .ok (.getfield 142, 3) := by decide +kernel
theorem dX8_takeRead_51 : decode cX8_takeRead 51 = .ok (.putfield 167, 3) := by decide +kernel
theorem dX8_takeRead_54 : decode cX8_takeRead 54 = .ok (.iconst 0, 1) := by decide +kernel
theorem dX8_takeRead_55 : decode cX8_takeRead 55 = .ok (.istore_n 1, 1) := by decide +kernel
theorem dX8_takeRead_56 : decode cX8_takeRead 56 = .ok (.iload_n 1, 1) := by decide +kernel
theorem dX8_takeRead_57 : decode cX8_takeRead 57 = .ok (.bipush 103, 2) := by decide +kernel
theorem dX8_takeRead_59 : decode cX8_takeRead 59 = .ok (.if_icmp .ge 26, 3) := by decide +kernel
theorem dX8_takeRead_62 : decode cX8_takeRead 62 = .ok (.aload_n 0, 1) := by decide +kernel
theorem dX8_takeRead_63 : decode cX8_takeRead 63 = .ok (.getfield 25, 3) := by decide +kernel
theorem dX8_takeRead_66 : decode cX8_takeRead 66 = .ok (.iload_n 1, 1) := by decide +kernel
theorem dX8_takeRead_67 : decode cX8_takeRead 67 = .ok (.iload_n 1, 1) := by decide +kernel
theorem dX8_takeRead_68 : decode cX8_takeRead 68 = .ok (.bipush 18, 2) := by decide +kernel
theorem dX8_takeRead_70 : decode cX8_takeRead 70 = .ok (.if_icmp .ge 7, 3) := by decide +kernel
theorem dX8_takeRead_73 : decode cX8_takeRead 73 = .ok (.iconst 0, 1) := by decide +kernel
theorem dX8_takeRead_74 : decode cX8_takeRead 74 = .ok (.goto 4, 3) := by decide +kernel
theorem dX8_takeRead_77 : decode cX8_takeRead 77 = .ok (.iconst (-1), 1) := by decide +kernel
theorem dX8_takeRead_78 : decode cX8_takeRead 78 = .ok (.iastore, 1) := by decide +kernel
theorem dX8_takeRead_79 : decode cX8_takeRead 79 = .ok (.iinc 1 1, 3) := by decide +kernel
theorem dX8_takeRead_82 : decode cX8_takeRead 82 = .ok (.goto (-26), 3) := by decide +kernel
theorem dX8_takeRead_85 : decode cX8_takeRead 85 = .ok (.iconst 0, 1) := by decide +kernel
theorem dX8_takeRead_86 : decode cX8_takeRead 86 = .ok (.istore_n 1, 1) := by decide +kernel
theorem dX8_takeRead_87 : decode cX8_takeRead 87 = .ok (.iload_n 1, 1) := by decide +kernel
theorem dX8_takeRead_88 : decode cX8_takeRead 88 = .ok (.aload_n 0, 1) := by decide +kernel
theorem dX8_takeRead_89 : decode cX8_takeRead 89 = .ok (.getfield 94, 3) := by decide +kernel
theorem dX8_takeRead_92 : decode cX8_takeRead 92 = .ok (.if_icmp .ge 60, 3) := by decide +kernel
theorem dX8_takeRead_95 : decode cX8_takeRead 95 = .ok (.aload_n 0, 1) := by decide +kernel
theorem dX8_takeRead_96 : decode cX8_takeRead 96 = .ok (.getfield 7, 3) := by decide +kernel
theorem dX8_takeRead_99 : decode cX8_takeRead 99 = .ok (.iload_n 1, 1) := by decide +kernel
theorem dX8_takeRead_100 : decode cX8_takeRead 100 = .ok (.aload_n 0, 1) := by decide +kernel
theorem dX8_takeRead_101 : decode cX8_takeRead 101 = .ok (.getfield 38, 3) := by decide +kernel
theorem dX8_takeRead_104 : decode cX8_takeRead 104 = .ok (.iload_n 1, 1) := by decide +kernel
theorem dX8_takeRead_105 : decode cX8_takeRead 105 = .ok (.iaload, 1) := by decide +kernel
theorem dX8_takeRead_106 : decode cX8_takeRead 106 = .ok (.iastore, 1) := by decide +kernel
theorem dX8_takeRead_107 : decode cX8_takeRead 107 = .ok (.aload_n 0, 1) := by decide +kernel
theorem dX8_takeRead_108 : decode cX8_takeRead 108 = .ok (.getfield 13, 3) := by decide +kernel
theorem dX8_takeRead_111 : decode cX8_takeRead 111 = .ok (.iload_n 1, 1) := by decide +kernel
theorem dX8_takeRead_112 : decode cX8_takeRead 112 = .ok (.aload_n 0, 1) := by decide +kernel
theorem dX8_takeRead_113 : decode cX8_takeRead 113 = .ok (.getfield 41, 3) := by decide +kernel
theorem dX8_takeRead_116 : decode cX8_takeRead 116 = .ok (.iload_n 1, 1) := by decide +kernel
theorem dX8_takeRead_117 : decode cX8_takeRead 117 = .ok (.iaload, 1) := by decide +kernel
theorem dX8_takeRead_118 : decode cX8_takeRead 118 = .ok (.iastore, 1) := by decide +kernel
theorem dX8_takeRead_119 : decode cX8_takeRead 119 = .ok (.aload_n 0, 1) := by decide +kernel
theorem dX8_takeRead_120 : decode cX8_takeRead 120 = .ok (.getfield 16, 3) := by decide +kernel
theorem dX8_takeRead_123 : decode cX8_takeRead 123 = .ok (.iload_n 1, 1) := by decide +kernel
theorem dX8_takeRead_124 : decode cX8_takeRead 124 = .ok (.aload_n 0, 1) := by decide +kernel
theorem dX8_takeRead_125 : decode cX8_takeRead 125 = .ok (.getfield 47, 3) := by decide +kernel
theorem dX8_takeRead_128 : decode cX8_takeRead 128 = .ok (.iload_n 1, 1) := by decide +kernel
theorem dX8_takeRead_129 : decode cX8_takeRead 129 = .ok (.iaload, 1) := by decide +kernel
theorem dX8_takeRead_130 : decode cX8_takeRead 130 = .ok (.iastore, 1) := by decide +kernel
theorem dX8_takeRead_131 : decode cX8_takeRead 131 = .ok (.aload_n 0, 1) := by decide +kernel
theorem dX8_takeRead_132 : decode cX8_takeRead 132 = .ok (.getfield 25, 3) := by decide +kernel
theorem dX8_takeRead_135 : decode cX8_takeRead 135 = .ok (.bipush 10, 2) := by decide +kernel
theorem dX8_takeRead_137 : decode cX8_takeRead 137 = .ok (.iload_n 1, 1) := by decide +kernel
theorem dX8_takeRead_138 : decode cX8_takeRead 138 = .ok (.iadd, 1) := by decide +kernel
theorem dX8_takeRead_139 : decode cX8_takeRead 139 = .ok (.aload_n 0, 1) := by decide +kernel
theorem dX8_takeRead_140 : decode cX8_takeRead 140 = .ok (.getfield 44, 3) := by decide +kernel
theorem dX8_takeRead_143 : decode cX8_takeRead 143 = .ok (.iload_n 1, 1) := by decide +kernel
theorem dX8_takeRead_144 : decode cX8_takeRead 144 = .ok (.iaload, 1) := by decide +kernel
theorem dX8_takeRead_145 : decode cX8_takeRead 145 = .ok (.iastore, 1) := by decide +kernel
theorem dX8_takeRead_146 : decode cX8_takeRead 146 = .ok (.iinc 1 1, 3) := by decide +kernel
theorem dX8_takeRead_149 : decode cX8_takeRead 149 = .ok (.goto (-62), 3) := by decide +kernel
theorem dX8_takeRead_152 : decode cX8_takeRead 152 = .ok (.iconst 0, 1) := by decide +kernel
theorem dX8_takeRead_153 : decode cX8_takeRead 153 = .ok (.istore_n 1, 1) := by decide +kernel
theorem dX8_takeRead_154 : decode cX8_takeRead 154 = .ok (.iload_n 1, 1) := by decide +kernel
theorem dX8_takeRead_155 : decode cX8_takeRead 155 = .ok (.bipush 8, 2) := by decide +kernel
theorem dX8_takeRead_157 : decode cX8_takeRead 157 = .ok (.if_icmp .ge 33, 3) := by decide +kernel
theorem dX8_takeRead_160 : decode cX8_takeRead 160 = .ok (.aload_n 0, 1) := by decide +kernel
theorem dX8_takeRead_161 : decode cX8_takeRead 161 = .ok (.getfield 19, 3) := by decide +kernel
theorem dX8_takeRead_164 : decode cX8_takeRead 164 = .ok (.iload_n 1, 1) := by decide +kernel
theorem dX8_takeRead_165 : decode cX8_takeRead 165 = .ok (.aload_n 0, 1) := by decide +kernel
theorem dX8_takeRead_166 : decode cX8_takeRead 166 = .ok (.getfield 50, 3) := by decide +kernel
theorem dX8_takeRead_169 : decode cX8_takeRead 169 = .ok (.iload_n 1, 1) := by decide +kernel
theorem dX8_takeRead_170 : decode cX8_takeRead 170 = .ok (.iaload, 1) := by decide +kernel
theorem dX8_takeRead_171 : decode cX8_takeRead 171 = .ok (.iastore, 1) := by decide +kernel
theorem dX8_takeRead_172 : decode cX8_takeRead 172 = .ok (.aload_n 0, 1) := by decide +kernel
theorem dX8_takeRead_173 : decode cX8_takeRead 173 = .ok (.getfield 22, 3) := by decide +kernel
theorem dX8_takeRead_176 : decode cX8_takeRead 176 = .ok (.iload_n 1, 1) := by decide +kernel
theorem dX8_takeRead_177 : decode cX8_takeRead 177 = .ok (.aload_n 0, 1) := by decide +kernel
theorem dX8_takeRead_178 : decode cX8_takeRead 178 = .ok (.getfield 53, 3) := by decide +kernel
theorem dX8_takeRead_181 : decode cX8_takeRead 181 = .ok (.iload_n 1, 1) := by decide +kernel
theorem dX8_takeRead_182 : decode cX8_takeRead 182 = .ok (.iaload, 1) := by decide +kernel
theorem dX8_takeRead_183 : decode cX8_takeRead 183 = .ok (.iastore, 1) := by decide +kernel
theorem dX8_takeRead_184 : decode cX8_takeRead 184 = .ok (.iinc 1 1, 3) := by decide +kernel
theorem dX8_takeRead_187 : decode cX8_takeRead 187 = .ok (.goto (-33), 3) := by decide +kernel
theorem dX8_takeRead_190 : decode cX8_takeRead 190 = .ok (.return_, 1) := by decide +kernel
theorem dX8_rock_0 : decode cX8_rock 0 = .ok (.aload_n 0, 1) := by decide +kernel
theorem dX8_rock_1 : decode cX8_rock 1 = .ok (.iconst (-1), 1) := by decide +kernel
theorem dX8_rock_2 : decode cX8_rock 2 = .ok (.putfield 31, 3) := by decide +kernel
theorem dX8_rock_5 : decode cX8_rock 5 = .ok (.aload_n 0, 1) := by decide +kernel
theorem dX8_rock_6 : decode cX8_rock 6 = .ok (.iconst 0, 1) := by decide +kernel
theorem dX8_rock_7 : decode cX8_rock 7 = .ok (.putfield 108, 3) := by decide +kernel
theorem dX8_rock_10 : decode cX8_rock 10 = .ok (.iconst 0, 1) := by decide +kernel
theorem dX8_rock_11 : decode cX8_rock 11 = .ok (.istore_n 1, 1) := by decide +kernel
theorem dX8_rock_12 : decode cX8_rock 12 = .ok (.iload_n 1, 1) := by decide +kernel
theorem dX8_rock_13 : decode cX8_rock 13 = .ok (.iconst 3, 1) := by decide +kernel
theorem dX8_rock_14 : decode cX8_rock 14 = .ok (.if_icmp .ge 16, 3) := by decide +kernel
theorem dX8_rock_17 : decode cX8_rock 17 = .ok (.aload_n 0, 1) := by decide +kernel
theorem dX8_rock_18 : decode cX8_rock 18 = .ok (.getfield 35, 3) := by decide +kernel
theorem dX8_rock_21 : decode cX8_rock 21 = .ok (.iload_n 1, 1) := by decide +kernel
theorem dX8_rock_22 : decode cX8_rock 22 = .ok (.iconst 0, 1) := by decide +kernel
theorem dX8_rock_23 : decode cX8_rock 23 = .ok (.iastore, 1) := by decide +kernel
theorem dX8_rock_24 : decode cX8_rock 24 = .ok (.iinc 1 1, 3) := by decide +kernel
theorem dX8_rock_27 : decode cX8_rock 27 = .ok (.goto (-15), 3) := by decide +kernel
theorem dX8_rock_30 : decode cX8_rock 30 = .ok (.aload_n 0, 1) := by decide +kernel
theorem dX8_rock_31 : decode cX8_rock 31 = .ok (.iconst 0, 1) := by decide +kernel
theorem dX8_rock_32 : decode cX8_rock 32 = .ok (.putfield 136, 3) := by decide +kernel
theorem dX8_rock_35 : decode cX8_rock 35 = .ok (.aload_n 0, 1) := by decide +kernel
theorem dX8_rock_36 : decode cX8_rock 36 = .ok (.iconst 0, 1) := by decide +kernel
theorem dX8_rock_37 : decode cX8_rock 37 = .ok (.putfield 139, 3) := by decide +kernel
theorem dX8_rock_40 : decode cX8_rock 40 = .ok (.aload_n 0, 1) := by decide +kernel
theorem dX8_rock_41 : decode cX8_rock 41 = .ok (.iconst 0, 1) := by decide +kernel
theorem dX8_rock_42 : decode cX8_rock 42 = .ok (.putfield 142, 3) := by decide +kernel
theorem dX8_rock_45 : decode cX8_rock 45 = .ok (.iconst 0, 1) := by decide +kernel
theorem dX8_rock_46 : decode cX8_rock 46 = .ok (.istore_n 1, 1) := by decide +kernel
theorem dX8_rock_47 : decode cX8_rock 47 = .ok (.iload_n 1, 1) := by decide +kernel
theorem dX8_rock_48 : decode cX8_rock 48 = .ok (.ifCond .ne 18, 3) := by decide +kernel
theorem dX8_rock_51 : decode cX8_rock 51 = .ok (.aload_n 0, 1) := by decide +kernel
theorem dX8_rock_52 : decode cX8_rock 52 = .ok (.invokevirtual 111, 3) := by decide +kernel
theorem dX8_rock_55 : decode cX8_rock 55 = .ok (.ifCond .lt 11, 3) := by decide +kernel
theorem dX8_rock_58 : decode cX8_rock 58 = .ok (.aload_n 0, 1) := by decide +kernel
theorem dX8_rock_59 : decode cX8_rock 59 = .ok (.invokevirtual 170, 3) := by decide +kernel
theorem dX8_rock_62 : decode cX8_rock 62 = .ok (.istore_n 1, 1) := by decide +kernel
theorem dX8_rock_63 : decode cX8_rock 63 = .ok (.goto (-16), 3) := by decide +kernel
theorem dX8_rock_66 : decode cX8_rock 66 = .ok (.aload_n 0, 1) := by decide +kernel
theorem dX8_rock_67 : decode cX8_rock 67 = .ok (.iconst 0, 1) := by decide +kernel
theorem dX8_rock_68 : decode cX8_rock 68 = .ok (.putfield 104, 3) := by decide +kernel
theorem dX8_rock_71 : decode cX8_rock 71 = .ok (.iload_n 1, 1) := by decide +kernel
theorem dX8_rock_72 : decode cX8_rock 72 = .ok (.ifCond .le 8, 3) := by decide +kernel
theorem dX8_rock_75 : decode cX8_rock 75 = .ok (.bipush (-10), 2) := by decide +kernel
theorem dX8_rock_77 : decode cX8_rock 77 = .ok (.iload_n 1, 1) := by decide +kernel
theorem dX8_rock_78 : decode cX8_rock 78 = .ok (.isub, 1) := by decide +kernel
theorem dX8_rock_79 : decode cX8_rock 79 = .ok (.ireturn, 1) := by decide +kernel
theorem dX8_rock_80 : decode cX8_rock 80 = .ok (.aload_n 0, 1) := by decide +kernel
theorem dX8_rock_81 : decode cX8_rock 81 = .ok (.invokevirtual 173, 3) := by decide +kernel
theorem dX8_rock_84 : decode cX8_rock 84 = .ok (.aload_n 0, 1) := by decide +kernel
theorem dX8_rock_85 : decode cX8_rock 85 = .ok (.iconst 0, 1) := by decide +kernel
theorem dX8_rock_86 : decode cX8_rock 86 = .ok (.putfield 176, 3) := by decide +kernel
theorem dX8_rock_89 : decode cX8_rock 89 = .ok (.aload_n 0, 1) := by decide +kernel
theorem dX8_rock_90 : decode cX8_rock 90 = .ok (.iconst 0, 1) := by decide +kernel
theorem dX8_rock_91 : decode cX8_rock 91 = .ok (.putfield 179, 3) := by decide +kernel
theorem dX8_rock_94 : decode cX8_rock 94 = .ok (.aload_n 0, 1) := by decide +kernel
theorem dX8_rock_95 : decode cX8_rock 95 = .ok (.iconst 0, 1) := by decide +kernel
theorem dX8_rock_96 : decode cX8_rock 96 = .ok (.putfield 182, 3) := by decide +kernel
theorem dX8_rock_99 : decode cX8_rock 99 = .ok (.aload_n 0, 1) := by decide +kernel
theorem dX8_rock_100 : decode cX8_rock 100 = .ok (.getfield 90, 3) := by decide +kernel
theorem dX8_rock_103 : decode cX8_rock 103 = .ok (.iconst 0, 1) := by decide +kernel
theorem dX8_rock_104 : decode cX8_rock 104 = .ok (.iconst 0, 1) := by decide +kernel
theorem dX8_rock_105 : decode cX8_rock 105 = .ok (.bastore, 1) := by decide +kernel
theorem dX8_rock_106 : decode cX8_rock 106 = .ok (.aload_n 0, 1) := by decide +kernel
theorem dX8_rock_107 : decode cX8_rock 107 = .ok (.getfield 90, 3) := by decide +kernel
theorem dX8_rock_110 : decode cX8_rock 110 = .ok (.iconst 1, 1) := by decide +kernel
theorem dX8_rock_111 : decode cX8_rock 111 = .ok (.iconst 0, 1) := by decide +kernel
theorem dX8_rock_112 : decode cX8_rock 112 = .ok (.bastore, 1) := by decide +kernel
theorem dX8_rock_113 : decode cX8_rock 113 = .ok (.aload_n 0, 1) := by decide +kernel
theorem dX8_rock_114 : decode cX8_rock 114 = .ok (.getfield 94, 3) := by decide +kernel
theorem dX8_rock_117 : decode cX8_rock 117 = .ok (.ireturn, 1) := by decide +kernel
theorem dX8_fault_0 : decode cX8_fault 0 = .ok (.aload_n 0, 1) := by decide +kernel
theorem dX8_fault_1 : decode cX8_fault 1 = .ok (.getfield 31, 3) := by decide +kernel
theorem dX8_fault_4 : decode cX8_fault 4 = .ok (.ireturn, 1) := by decide +kernel
theorem dX8_told_0 : decode cX8_told 0 = .ok (.iload_n 1, 1) := by decide +kernel
theorem dX8_told_1 : decode cX8_told 1 = .ok (.tableswitch 207 0 18 #[91, 96, 101, 106, 111, 116, 121, 126, 133, 140, 147, 154, 161, 168, 176, 184, 192, 197, 202], 91) := by decide +kernel
theorem dX8_told_92 : decode cX8_told 92 = .ok (.aload_n 0, 1) := by decide +kernel
theorem dX8_told_93 : decode cX8_told 93 = .ok (.getfield 155, 3) := by decide +kernel
theorem dX8_told_96 : decode cX8_told 96 = .ok (.ireturn, 1) := by decide +kernel
theorem dX8_told_97 : decode cX8_told 97 = .ok (.aload_n 0, 1) := by decide +kernel
theorem dX8_told_98 : decode cX8_told 98 = .ok (.getfield 158, 3) := by decide +kernel
theorem dX8_told_101 : decode cX8_told 101 = .ok (.ireturn, 1) := by decide +kernel
theorem dX8_told_102 : decode cX8_told 102 = .ok (.aload_n 0, 1) := by decide +kernel
theorem dX8_told_103 : decode cX8_told 103 = .ok (.getfield 161, 3) := by decide +kernel
theorem dX8_told_106 : decode cX8_told 106 = .ok (.ireturn, 1) := by decide +kernel
theorem dX8_told_107 : decode cX8_told 107 = .ok (.aload_n 0, 1) := by decide +kernel
theorem dX8_told_108 : decode cX8_told 108 = .ok (.getfield 94, 3) := by decide +kernel
theorem dX8_told_111 : decode cX8_told 111 = .ok (.ireturn, 1) := by decide +kernel
theorem dX8_told_112 : decode cX8_told 112 = .ok (.aload_n 0, 1) := by decide +kernel
theorem dX8_told_113 : decode cX8_told 113 = .ok (.getfield 164, 3) := by decide +kernel
theorem dX8_told_116 : decode cX8_told 116 = .ok (.ireturn, 1) := by decide +kernel
theorem dX8_told_117 : decode cX8_told 117 = .ok (.aload_n 0, 1) := by decide +kernel
theorem dX8_told_118 : decode cX8_told 118 = .ok (.getfield 167, 3) := by decide +kernel
theorem dX8_told_121 : decode cX8_told 121 = .ok (.ireturn, 1) := by decide +kernel
theorem dX8_told_122 : decode cX8_told 122 = .ok (.aload_n 0, 1) := by decide +kernel
theorem dX8_told_123 : decode cX8_told 123 = .ok (.getfield 104, 3) := by decide +kernel
theorem dX8_told_126 : decode cX8_told 126 = .ok (.ireturn, 1) := by decide +kernel
theorem dX8_told_127 : decode cX8_told 127 = .ok (.aload_n 0, 1) := by decide +kernel
theorem dX8_told_128 : decode cX8_told 128 = .ok (.getfield 25, 3) := by decide +kernel
theorem dX8_told_131 : decode cX8_told 131 = .ok (.iconst 0, 1) := by decide +kernel
theorem dX8_told_132 : decode cX8_told 132 = .ok (.iaload, 1) := by decide +kernel
theorem dX8_told_133 : decode cX8_told 133 = .ok (.ireturn, 1) := by decide +kernel
theorem dX8_told_134 : decode cX8_told 134 = .ok (.aload_n 0, 1) := by decide +kernel
theorem dX8_told_135 : decode cX8_told 135 = .ok (.getfield 25, 3) := by decide +kernel
theorem dX8_told_138 : decode cX8_told 138 = .ok (.iconst 1, 1) := by decide +kernel
theorem dX8_told_139 : decode cX8_told 139 = .ok (.iaload, 1) := by decide +kernel
theorem dX8_told_140 : decode cX8_told 140 = .ok (.ireturn, 1) := by decide +kernel
theorem dX8_told_141 : decode cX8_told 141 = .ok (.aload_n 0, 1) := by decide +kernel
theorem dX8_told_142 : decode cX8_told 142 = .ok (.getfield 25, 3) := by decide +kernel
theorem dX8_told_145 : decode cX8_told 145 = .ok (.iconst 2, 1) := by decide +kernel
theorem dX8_told_146 : decode cX8_told 146 = .ok (.iaload, 1) := by decide +kernel
theorem dX8_told_147 : decode cX8_told 147 = .ok (.ireturn, 1) := by decide +kernel
theorem dX8_told_148 : decode cX8_told 148 = .ok (.aload_n 0, 1) := by decide +kernel
theorem dX8_told_149 : decode cX8_told 149 = .ok (.getfield 25, 3) := by decide +kernel
theorem dX8_told_152 : decode cX8_told 152 = .ok (.iconst 3, 1) := by decide +kernel
theorem dX8_told_153 : decode cX8_told 153 = .ok (.iaload, 1) := by decide +kernel
theorem dX8_told_154 : decode cX8_told 154 = .ok (.ireturn, 1) := by decide +kernel
theorem dX8_told_155 : decode cX8_told 155 = .ok (.aload_n 0, 1) := by decide +kernel
theorem dX8_told_156 : decode cX8_told 156 = .ok (.getfield 25, 3) := by decide +kernel
theorem dX8_told_159 : decode cX8_told 159 = .ok (.iconst 4, 1) := by decide +kernel
theorem dX8_told_160 : decode cX8_told 160 = .ok (.iaload, 1) := by decide +kernel
theorem dX8_told_161 : decode cX8_told 161 = .ok (.ireturn, 1) := by decide +kernel
theorem dX8_told_162 : decode cX8_told 162 = .ok (.aload_n 0, 1) := by decide +kernel
theorem dX8_told_163 : decode cX8_told 163 = .ok (.getfield 25, 3) := by decide +kernel
theorem dX8_told_166 : decode cX8_told 166 = .ok (.iconst 5, 1) := by decide +kernel
theorem dX8_told_167 : decode cX8_told 167 = .ok (.iaload, 1) := by decide +kernel
theorem dX8_told_168 : decode cX8_told 168 = .ok (.ireturn, 1) := by decide +kernel
theorem dX8_told_169 : decode cX8_told 169 = .ok (.aload_n 0, 1) := by decide +kernel
theorem dX8_told_170 : decode cX8_told 170 = .ok (.getfield 25, 3) := by decide +kernel
theorem dX8_told_173 : decode cX8_told 173 = .ok (.bipush 6, 2) := by decide +kernel
theorem dX8_told_175 : decode cX8_told 175 = .ok (.iaload, 1) := by decide +kernel
theorem dX8_told_176 : decode cX8_told 176 = .ok (.ireturn, 1) := by decide +kernel
theorem dX8_told_177 : decode cX8_told 177 = .ok (.aload_n 0, 1) := by decide +kernel
theorem dX8_told_178 : decode cX8_told 178 = .ok (.getfield 25, 3) := by decide +kernel
theorem dX8_told_181 : decode cX8_told 181 = .ok (.bipush 9, 2) := by decide +kernel
theorem dX8_told_183 : decode cX8_told 183 = .ok (.iaload, 1) := by decide +kernel
theorem dX8_told_184 : decode cX8_told 184 = .ok (.ireturn, 1) := by decide +kernel
theorem dX8_told_185 : decode cX8_told 185 = .ok (.aload_n 0, 1) := by decide +kernel
theorem dX8_told_186 : decode cX8_told 186 = .ok (.getfield 25, 3) := by decide +kernel
theorem dX8_told_189 : decode cX8_told 189 = .ok (.bipush 7, 2) := by decide +kernel
theorem dX8_told_191 : decode cX8_told 191 = .ok (.iaload, 1) := by decide +kernel
theorem dX8_told_192 : decode cX8_told 192 = .ok (.ireturn, 1) := by decide +kernel
theorem dX8_told_193 : decode cX8_told 193 = .ok (.aload_n 0, 1) := by decide +kernel
theorem dX8_told_194 : decode cX8_told 194 = .ok (.getfield 176, 3) := by decide +kernel
theorem dX8_told_197 : decode cX8_told 197 = .ok (.ireturn, 1) := by decide +kernel
theorem dX8_told_198 : decode cX8_told 198 = .ok (.aload_n 0, 1) := by decide +kernel
theorem dX8_told_199 : decode cX8_told 199 = .ok (.getfield 179, 3) := by decide +kernel
theorem dX8_told_202 : decode cX8_told 202 = .ok (.ireturn, 1) := by decide +kernel
theorem dX8_told_203 : decode cX8_told 203 = .ok (.aload_n 0, 1) := by decide +kernel
theorem dX8_told_204 : decode cX8_told 204 = .ok (.getfield 182, 3) := by decide +kernel
theorem dX8_told_207 : decode cX8_told 207 = .ok (.ireturn, 1) := by decide +kernel
theorem dX8_told_208 : decode cX8_told 208 = .ok (.ldc 103, 2) := by decide +kernel
theorem dX8_told_210 : decode cX8_told 210 = .ok (.ireturn, 1) := by decide +kernel
theorem dX8_village_0 : decode cX8_village 0 = .ok (.aload_n 0, 1) := by decide +kernel
theorem dX8_village_1 : decode cX8_village 1 = .ok (.iload_n 1, 1) := by decide +kernel
theorem dX8_village_2 : decode cX8_village 2 = .ok (.invokevirtual 185, 3) := by decide +kernel
theorem dX8_village_5 : decode cX8_village 5 = .ok (.ifCond .ne 6, 3) := by decide +kernel
theorem dX8_village_8 : decode cX8_village 8 = .ok (.ldc 189, 2) := by decide +kernel
theorem dX8_village_10 : decode cX8_village 10 = .ok (.ireturn, 1) := by decide +kernel
theorem dX8_village_11 : decode cX8_village 11 = .ok (.iload_n 2, 1) := by decide +kernel
theorem dX8_village_12 : decode cX8_village 12 = .ok (.tableswitch 93 0 5 #[40, 47, 54, 64, 71, 83], 40) := by decide +kernel
theorem dX8_village_52 : decode cX8_village 52 = .ok (.aload_n 0, 1) := by decide +kernel
theorem dX8_village_53 : decode cX8_village 53 = .ok (.getfield 7, 3) := by decide +kernel
theorem dX8_village_56 : decode cX8_village 56 = .ok (.iload_n 1, 1) := by decide +kernel
theorem dX8_village_57 : decode cX8_village 57 = .ok (.iaload, 1) := by decide +kernel
theorem dX8_village_58 : decode cX8_village 58 = .ok (.ireturn, 1) := by decide +kernel
theorem dX8_village_59 : decode cX8_village 59 = .ok (.aload_n 0, 1) := by decide +kernel
theorem dX8_village_60 : decode cX8_village 60 = .ok (.getfield 13, 3) := by decide +kernel
theorem dX8_village_63 : decode cX8_village 63 = .ok (.iload_n 1, 1) := by decide +kernel
theorem dX8_village_64 : decode cX8_village 64 = .ok (.iaload, 1) := by decide +kernel
theorem dX8_village_65 : decode cX8_village 65 = .ok (.ireturn, 1) := by decide +kernel
theorem dX8_village_66 : decode cX8_village 66 = .ok (.aload_n 0, 1) := by decide +kernel
theorem dX8_village_67 : decode cX8_village 67 = .ok (.getfield 25, 3) := by decide +kernel
theorem dX8_village_70 : decode cX8_village 70 = .ok (.bipush 10, 2) := by decide +kernel
theorem dX8_village_72 : decode cX8_village 72 = .ok (.iload_n 1, 1) := by decide +kernel
theorem dX8_village_73 : decode cX8_village 73 = .ok (.iadd, 1) := by decide +kernel
theorem dX8_village_74 : decode cX8_village 74 = .ok (.iaload, 1) := by decide +kernel
theorem dX8_village_75 : decode cX8_village 75 = .ok (.ireturn, 1) := by decide +kernel
theorem dX8_village_76 : decode cX8_village 76 = .ok (.aload_n 0, 1) := by decide +kernel
theorem dX8_village_77 : decode cX8_village 77 = .ok (.getfield 16, 3) := by decide +kernel
theorem dX8_village_80 : decode cX8_village 80 = .ok (.iload_n 1, 1) := by decide +kernel
theorem dX8_village_81 : decode cX8_village 81 = .ok (.iaload, 1) := by decide +kernel
theorem dX8_village_82 : decode cX8_village 82 = .ok (.ireturn, 1) := by decide +kernel
theorem dX8_village_83 : decode cX8_village 83 = .ok (.aload_n 0, 1) := by decide +kernel
theorem dX8_village_84 : decode cX8_village 84 = .ok (.getfield 25, 3) := by decide +kernel
theorem dX8_village_87 : decode cX8_village 87 = .ok (.bipush 8, 2) := by decide +kernel
theorem dX8_village_89 : decode cX8_village 89 = .ok (.iaload, 1) := by decide +kernel
theorem dX8_village_90 : decode cX8_village 90 = .ok (.iload_n 1, 1) := by decide +kernel
theorem dX8_village_91 : decode cX8_village 91 = .ok (.ishr, 1) := by decide +kernel
theorem dX8_village_92 : decode cX8_village 92 = .ok (.iconst 1, 1) := by decide +kernel
theorem dX8_village_93 : decode cX8_village 93 = .ok (.iand, 1) := by decide +kernel
theorem dX8_village_94 : decode cX8_village 94 = .ok (.ireturn, 1) := by decide +kernel
theorem dX8_village_95 : decode cX8_village 95 = .ok (.aload_n 0, 1) := by decide +kernel
theorem dX8_village_96 : decode cX8_village 96 = .ok (.getfield 25, 3) := by decide +kernel
theorem dX8_village_99 : decode cX8_village 99 = .ok (.bipush 18, 2) := by decide +kernel
theorem dX8_village_101 : decode cX8_village 101 = .ok (.iload_n 1, 1) := by decide +kernel
theorem dX8_village_102 : decode cX8_village 102 = .ok (.iadd, 1) := by decide +kernel
theorem dX8_village_103 : decode cX8_village 103 = .ok (.iaload, 1) := by decide +kernel
theorem dX8_village_104 : decode cX8_village 104 = .ok (.ireturn, 1) := by decide +kernel
theorem dX8_village_105 : decode cX8_village 105 = .ok (.ldc 103, 2) := by decide +kernel
theorem dX8_village_107 : decode cX8_village 107 = .ok (.ireturn, 1) := by decide +kernel
theorem dX8_isFeast_0 : decode cX8_isFeast 0 = .ok (.iconst 0, 1) := by decide +kernel
theorem dX8_isFeast_1 : decode cX8_isFeast 1 = .ok (.istore_n 2, 1) := by decide +kernel
theorem dX8_isFeast_2 : decode cX8_isFeast 2 = .ok (.iconst 0, 1) := by decide +kernel
theorem dX8_isFeast_3 : decode cX8_isFeast 3 = .ok (.istore_n 3, 1) := by decide +kernel
theorem dX8_isFeast_4 : decode cX8_isFeast 4 = .ok (.iload_n 3, 1) := by decide +kernel
theorem dX8_isFeast_5 : decode cX8_isFeast 5 = .ok (.aload_n 0, 1) := by decide +kernel
theorem dX8_isFeast_6 : decode cX8_isFeast 6 = .ok (.getfield 164, 3) := by decide +kernel
theorem dX8_isFeast_9 : decode cX8_isFeast 9 = .ok (.if_icmp .ge 29, 3) := by decide +kernel
theorem dX8_isFeast_12 : decode cX8_isFeast 12 = .ok (.iload_n 2, 1) := by decide +kernel
theorem dX8_isFeast_13 : decode cX8_isFeast 13 = .ok (.ifCond .ne 13, 3) := by decide +kernel
theorem dX8_isFeast_16 : decode cX8_isFeast 16 = .ok (.aload_n 0, 1) := by decide +kernel
theorem dX8_isFeast_17 : decode cX8_isFeast 17 = .ok (.getfield 19, 3) := by decide +kernel
theorem dX8_isFeast_20 : decode cX8_isFeast 20 = .ok (.iload_n 3, 1) := by decide +kernel
theorem dX8_isFeast_21 : decode cX8_isFeast 21 = .ok (.iaload, 1) := by decide +kernel
theorem dX8_isFeast_22 : decode cX8_isFeast 22 = .ok (.iload_n 1, 1) := by decide +kernel
theorem dX8_isFeast_23 : decode cX8_isFeast 23 = .ok (.if_icmp .ne 7, 3) := by decide +kernel
theorem dX8_isFeast_26 : decode cX8_isFeast 26 = .ok (.iconst 1, 1) := by decide +kernel
theorem dX8_isFeast_27 : decode cX8_isFeast 27 = .ok (.goto 4, 3) := by decide +kernel
theorem dX8_isFeast_30 : decode cX8_isFeast 30 = .ok (.iconst 0, 1) := by decide +kernel
theorem dX8_isFeast_31 : decode cX8_isFeast 31 = .ok (.istore_n 2, 1) := by decide +kernel
theorem dX8_isFeast_32 : decode cX8_isFeast 32 = .ok (.iinc 3 1, 3) := by decide +kernel
theorem dX8_isFeast_35 : decode cX8_isFeast 35 = .ok (.goto (-31), 3) := by decide +kernel
theorem dX8_isFeast_38 : decode cX8_isFeast 38 = .ok (.iload_n 2, 1) := by decide +kernel
theorem dX8_isFeast_39 : decode cX8_isFeast 39 = .ok (.ireturn, 1) := by decide +kernel
theorem dX8_isFog_0 : decode cX8_isFog 0 = .ok (.iconst 0, 1) := by decide +kernel
theorem dX8_isFog_1 : decode cX8_isFog 1 = .ok (.istore_n 2, 1) := by decide +kernel
theorem dX8_isFog_2 : decode cX8_isFog 2 = .ok (.iconst 0, 1) := by decide +kernel
theorem dX8_isFog_3 : decode cX8_isFog 3 = .ok (.istore_n 3, 1) := by decide +kernel
theorem dX8_isFog_4 : decode cX8_isFog 4 = .ok (.iload_n 3, 1) := by decide +kernel
theorem dX8_isFog_5 : decode cX8_isFog 5 = .ok (.aload_n 0, 1) := by decide +kernel
theorem dX8_isFog_6 : decode cX8_isFog 6 = .ok (.getfield 167, 3) := by decide +kernel
theorem dX8_isFog_9 : decode cX8_isFog 9 = .ok (.if_icmp .ge 29, 3) := by decide +kernel
theorem dX8_isFog_12 : decode cX8_isFog 12 = .ok (.iload_n 2, 1) := by decide +kernel
theorem dX8_isFog_13 : decode cX8_isFog 13 = .ok (.ifCond .ne 13, 3) := by decide +kernel
theorem dX8_isFog_16 : decode cX8_isFog 16 = .ok (.aload_n 0, 1) := by decide +kernel
theorem dX8_isFog_17 : decode cX8_isFog 17 = .ok (.getfield 22, 3) := by decide +kernel
theorem dX8_isFog_20 : decode cX8_isFog 20 = .ok (.iload_n 3, 1) := by decide +kernel
theorem dX8_isFog_21 : decode cX8_isFog 21 = .ok (.iaload, 1) := by decide +kernel
theorem dX8_isFog_22 : decode cX8_isFog 22 = .ok (.iload_n 1, 1) := by decide +kernel
theorem dX8_isFog_23 : decode cX8_isFog 23 = .ok (.if_icmp .ne 7, 3) := by decide +kernel
theorem dX8_isFog_26 : decode cX8_isFog 26 = .ok (.iconst 1, 1) := by decide +kernel
theorem dX8_isFog_27 : decode cX8_isFog 27 = .ok (.goto 4, 3) := by decide +kernel
theorem dX8_isFog_30 : decode cX8_isFog 30 = .ok (.iconst 0, 1) := by decide +kernel
theorem dX8_isFog_31 : decode cX8_isFog 31 = .ok (.istore_n 2, 1) := by decide +kernel
theorem dX8_isFog_32 : decode cX8_isFog 32 = .ok (.iinc 3 1, 3) := by decide +kernel
theorem dX8_isFog_35 : decode cX8_isFog 35 = .ok (.goto (-31), 3) := by decide +kernel
theorem dX8_isFog_38 : decode cX8_isFog 38 = .ok (.iload_n 2, 1) := by decide +kernel
theorem dX8_isFog_39 : decode cX8_isFog 39 = .ok (.ireturn, 1) := by decide +kernel
theorem dX8_goesBy_0 : decode cX8_goesBy 0 = .ok (.iload_n 2, 1) := by decide +kernel
theorem dX8_goesBy_1 : decode cX8_goesBy 1 = .ok (.aload_n 0, 1) := by decide +kernel
theorem dX8_goesBy_2 : decode cX8_goesBy 2 = .ok (.getfield 13, 3) := by decide +kernel
theorem dX8_goesBy_5 : decode cX8_goesBy 5 = .ok (.iload_n 1, 1) := by decide +kernel
theorem dX8_goesBy_6 : decode cX8_goesBy 6 = .ok (.iaload, 1) := by decide +kernel
theorem dX8_goesBy_7 : decode cX8_goesBy 7 = .ok (.irem, 1) := by decide +kernel
theorem dX8_goesBy_8 : decode cX8_goesBy 8 = .ok (.iload_n 3, 1) := by decide +kernel
theorem dX8_goesBy_9 : decode cX8_goesBy 9 = .ok (.if_icmp .eq 11, 3) := by decide +kernel
theorem dX8_goesBy_12 : decode cX8_goesBy 12 = .ok (.aload_n 0, 1) := by decide +kernel
theorem dX8_goesBy_13 : decode cX8_goesBy 13 = .ok (.iload_n 2, 1) := by decide +kernel
theorem dX8_goesBy_14 : decode cX8_goesBy 14 = .ok (.invokevirtual 190, 3) := by decide +kernel
theorem dX8_goesBy_17 : decode cX8_goesBy 17 = .ok (.ifCond .eq 7, 3) := by decide +kernel
theorem dX8_goesBy_20 : decode cX8_goesBy 20 = .ok (.iconst 1, 1) := by decide +kernel
theorem dX8_goesBy_21 : decode cX8_goesBy 21 = .ok (.goto 4, 3) := by decide +kernel
theorem dX8_goesBy_24 : decode cX8_goesBy 24 = .ok (.iconst 0, 1) := by decide +kernel
theorem dX8_goesBy_25 : decode cX8_goesBy 25 = .ok (.istore 4, 2) := by decide +kernel
theorem dX8_goesBy_27 : decode cX8_goesBy 27 = .ok (.iload 4, 2) := by decide +kernel
theorem dX8_goesBy_29 : decode cX8_goesBy 29 = .ok (.ifCond .eq 34, 3) := by decide +kernel
theorem dX8_goesBy_32 : decode cX8_goesBy 32 = .ok (.iload_n 2, 1) := by decide +kernel
theorem dX8_goesBy_33 : decode cX8_goesBy 33 = .ok (.aload_n 0, 1) := by decide +kernel
theorem dX8_goesBy_34 : decode cX8_goesBy 34 = .ok (.getfield 7, 3) := by decide +kernel
theorem dX8_goesBy_37 : decode cX8_goesBy 37 = .ok (.iload_n 1, 1) := by decide +kernel
theorem dX8_goesBy_38 : decode cX8_goesBy 38 = .ok (.iaload, 1) := by decide +kernel
theorem dX8_goesBy_39 : decode cX8_goesBy 39 = .ok (.if_icmp .lt 24, 3) := by decide +kernel
theorem dX8_goesBy_42 : decode cX8_goesBy 42 = .ok (.aload_n 0, 1) := by decide +kernel
theorem dX8_goesBy_43 : decode cX8_goesBy 43 = .ok (.getfield 7, 3) := by decide +kernel
theorem dX8_goesBy_46 : decode cX8_goesBy 46 = .ok (.iload_n 1, 1) := by decide +kernel
theorem dX8_goesBy_47 : decode cX8_goesBy 47 = .ok (.iaload, 1) := by decide +kernel
theorem dX8_goesBy_48 : decode cX8_goesBy 48 = .ok (.ifCond .eq 11, 3) := by decide +kernel
theorem dX8_goesBy_51 : decode cX8_goesBy 51 = .ok (.aload_n 0, 1) := by decide +kernel
theorem dX8_goesBy_52 : decode cX8_goesBy 52 = .ok (.iload_n 2, 1) := by decide +kernel
theorem dX8_goesBy_53 : decode cX8_goesBy 53 = .ok (.invokevirtual 193, 3) := by decide +kernel
theorem dX8_goesBy_56 : decode cX8_goesBy 56 = .ok (.ifCond .ne 7, 3) := by decide +kernel
theorem dX8_goesBy_59 : decode cX8_goesBy 59 = .ok (.iconst 1, 1) := by decide +kernel
theorem dX8_goesBy_60 : decode cX8_goesBy 60 = .ok (.goto 4, 3) := by decide +kernel
theorem dX8_goesBy_63 : decode cX8_goesBy 63 = .ok (.iconst 0, 1) := by decide +kernel
theorem dX8_goesBy_64 : decode cX8_goesBy 64 = .ok (.ireturn, 1) := by decide +kernel
theorem dX8_goers_0 : decode cX8_goers 0 = .ok (.iconst 0, 1) := by decide +kernel
theorem dX8_goers_1 : decode cX8_goers 1 = .ok (.istore_n 2, 1) := by decide +kernel
theorem dX8_goers_2 : decode cX8_goers 2 = .ok (.iconst 0, 1) := by decide +kernel
theorem dX8_goers_3 : decode cX8_goers 3 = .ok (.istore_n 3, 1) := by decide +kernel
theorem dX8_goers_4 : decode cX8_goers 4 = .ok (.iload_n 3, 1) := by decide +kernel
theorem dX8_goers_5 : decode cX8_goers 5 = .ok (.aload_n 0, 1) := by decide +kernel
theorem dX8_goers_6 : decode cX8_goers 6 = .ok (.getfield 94, 3) := by decide +kernel
theorem dX8_goers_9 : decode cX8_goers 9 = .ok (.if_icmp .ge 51, 3) := by decide +kernel
theorem dX8_goers_12 : decode cX8_goers 12 = .ok (.iload_n 2, 1) := by decide +kernel
theorem dX8_goers_13 : decode cX8_goers 13 = .ok (.aload_n 0, 1) := by decide +kernel
theorem dX8_goers_14 : decode cX8_goers 14 = .ok (.getfield 25, 3) := by decide +kernel
theorem dX8_goers_17 : decode cX8_goers 17 = .ok (.bipush 8, 2) := by decide +kernel
theorem dX8_goers_19 : decode cX8_goers 19 = .ok (.iaload, 1) := by decide +kernel
theorem dX8_goers_20 : decode cX8_goers 20 = .ok (.iload_n 3, 1) := by decide +kernel
theorem dX8_goers_21 : decode cX8_goers 21 = .ok (.invokestatic 196, 3) := by decide +kernel
theorem dX8_goers_24 : decode cX8_goers 24 = .ok (.ifCond .ne 27, 3) := by decide +kernel
theorem dX8_goers_27 : decode cX8_goers 27 = .ok (.aload_n 0, 1) := by decide +kernel
theorem dX8_goers_28 : decode cX8_goers 28 = .ok (.iload_n 3, 1) := by decide +kernel
theorem dX8_goers_29 : decode cX8_goers 29 = .ok (.iload_n 1, 1) := by decide +kernel
theorem dX8_goers_30 : decode cX8_goers 30 = .ok (.aload_n 0, 1) := by decide +kernel
theorem dX8_goers_31 : decode cX8_goers 31 = .ok (.getfield 25, 3) := by decide +kernel
theorem dX8_goers_34 : decode cX8_goers 34 = .ok (.bipush 10, 2) := by decide +kernel
theorem dX8_goers_36 : decode cX8_goers 36 = .ok (.iload_n 3, 1) := by decide +kernel
theorem dX8_goers_37 : decode cX8_goers 37 = .ok (.iadd, 1) := by decide +kernel
theorem dX8_goers_38 : decode cX8_goers 38 = .ok (.iaload, 1) := by decide +kernel
theorem dX8_goers_39 : decode cX8_goers 39 = .ok (.invokevirtual 200, 3) := by decide +kernel
theorem dX8_goers_42 : decode cX8_goers 42 = .ok (.ifCond .eq 9, 3) := by decide +kernel
theorem dX8_goers_45 : decode cX8_goers 45 = .ok (.iconst 1, 1) := by decide +kernel
theorem dX8_goers_46 : decode cX8_goers 46 = .ok (.iload_n 3, 1) := by decide +kernel
theorem dX8_goers_47 : decode cX8_goers 47 = .ok (.ishl, 1) := by decide +kernel
theorem dX8_goers_48 : decode cX8_goers 48 = .ok (.goto 4, 3) := by decide +kernel
theorem dX8_goers_51 : decode cX8_goers 51 = .ok (.iconst 0, 1) := by decide +kernel
theorem dX8_goers_52 : decode cX8_goers 52 = .ok (.ior, 1) := by decide +kernel
theorem dX8_goers_53 : decode cX8_goers 53 = .ok (.istore_n 2, 1) := by decide +kernel
theorem dX8_goers_54 : decode cX8_goers 54 = .ok (.iinc 3 1, 3) := by decide +kernel
theorem dX8_goers_57 : decode cX8_goers 57 = .ok (.goto (-53), 3) := by decide +kernel
theorem dX8_goers_60 : decode cX8_goers 60 = .ok (.iload_n 2, 1) := by decide +kernel
theorem dX8_goers_61 : decode cX8_goers 61 = .ok (.ireturn, 1) := by decide +kernel
theorem dX8_comers_0 : decode cX8_comers 0 = .ok (.aload_n 0, 1) := by decide +kernel
theorem dX8_comers_1 : decode cX8_comers 1 = .ok (.iload_n 1, 1) := by decide +kernel
theorem dX8_comers_2 : decode cX8_comers 2 = .ok (.invokevirtual 204, 3) := by decide +kernel
theorem dX8_comers_5 : decode cX8_comers 5 = .ok (.istore_n 2, 1) := by decide +kernel
theorem dX8_comers_6 : decode cX8_comers 6 = .ok (.iconst 0, 1) := by decide +kernel
theorem dX8_comers_7 : decode cX8_comers 7 = .ok (.istore_n 3, 1) := by decide +kernel
theorem dX8_comers_8 : decode cX8_comers 8 = .ok (.iload_n 3, 1) := by decide +kernel
theorem dX8_comers_9 : decode cX8_comers 9 = .ok (.aload_n 0, 1) := by decide +kernel
theorem dX8_comers_10 : decode cX8_comers 10 = .ok (.getfield 94, 3) := by decide +kernel
theorem dX8_comers_13 : decode cX8_comers 13 = .ok (.if_icmp .ge 54, 3) := by decide +kernel
theorem dX8_comers_16 : decode cX8_comers 16 = .ok (.aload_n 0, 1) := by decide +kernel
theorem dX8_comers_17 : decode cX8_comers 17 = .ok (.getfield 25, 3) := by decide +kernel
theorem dX8_comers_20 : decode cX8_comers 20 = .ok (.bipush 18, 2) := by decide +kernel
theorem dX8_comers_22 : decode cX8_comers 22 = .ok (.iload_n 3, 1) := by decide +kernel
theorem dX8_comers_23 : decode cX8_comers 23 = .ok (.iadd, 1) := by decide +kernel
theorem dX8_comers_24 : decode cX8_comers 24 = .ok (.iaload, 1) := by decide +kernel
theorem dX8_comers_25 : decode cX8_comers 25 = .ok (.istore 4, 2) := by decide +kernel
theorem dX8_comers_27 : decode cX8_comers 27 = .ok (.iload 4, 2) := by decide +kernel
theorem dX8_comers_29 : decode cX8_comers 29 = .ok (.ifCond .lt 30, 3) := by decide +kernel
theorem dX8_comers_32 : decode cX8_comers 32 = .ok (.iload_n 1, 1) := by decide +kernel
theorem dX8_comers_33 : decode cX8_comers 33 = .ok (.iload 4, 2) := by decide +kernel
theorem dX8_comers_35 : decode cX8_comers 35 = .ok (.if_icmp .le 24, 3) := by decide +kernel
theorem dX8_comers_38 : decode cX8_comers 38 = .ok (.iload_n 1, 1) := by decide +kernel
theorem dX8_comers_39 : decode cX8_comers 39 = .ok (.iload 4, 2) := by decide +kernel
theorem dX8_comers_41 : decode cX8_comers 41 = .ok (.aload_n 0, 1) := by decide +kernel
theorem dX8_comers_42 : decode cX8_comers 42 = .ok (.getfield 158, 3) := by decide +kernel
theorem dX8_comers_45 : decode cX8_comers 45 = .ok (.iadd, 1) := by decide +kernel
theorem dX8_comers_46 : decode cX8_comers 46 = .ok (.if_icmp .gt 13, 3) := by decide +kernel
theorem dX8_comers_49 : decode cX8_comers 49 = .ok (.iload_n 2, 1) := by decide +kernel
theorem dX8_comers_50 : decode cX8_comers 50 = .ok (.iconst 1, 1) := by decide +kernel
theorem dX8_comers_51 : decode cX8_comers 51 = .ok (.iload_n 3, 1) := by decide +kernel
theorem dX8_comers_52 : decode cX8_comers 52 = .ok (.ishl, 1) := by decide +kernel
theorem dX8_comers_53 : decode cX8_comers 53 = .ok (.iconst (-1), 1) := by decide +kernel
theorem dX8_comers_54 : decode cX8_comers 54 = .ok (.ixor, 1) := by decide +kernel
theorem dX8_comers_55 : decode cX8_comers 55 = .ok (.iand, 1) := by decide +kernel
theorem dX8_comers_56 : decode cX8_comers 56 = .ok (.goto 4, 3) := by decide +kernel
theorem dX8_comers_59 : decode cX8_comers 59 = .ok (.iload_n 2, 1) := by decide +kernel
theorem dX8_comers_60 : decode cX8_comers 60 = .ok (.istore_n 2, 1) := by decide +kernel
theorem dX8_comers_61 : decode cX8_comers 61 = .ok (.iinc 3 1, 3) := by decide +kernel
theorem dX8_comers_64 : decode cX8_comers 64 = .ok (.goto (-56), 3) := by decide +kernel
theorem dX8_comers_67 : decode cX8_comers 67 = .ok (.iload_n 2, 1) := by decide +kernel
theorem dX8_comers_68 : decode cX8_comers 68 = .ok (.ireturn, 1) := by decide +kernel
theorem dX8_comes_0 : decode cX8_comes 0 = .ok (.iload_n 1, 1) := by decide +kernel
theorem dX8_comes_1 : decode cX8_comes 1 = .ok (.i2l, 1) := by decide +kernel
theorem dX8_comes_2 : decode cX8_comes 2 = .ok (.lconst 0, 1) := by decide +kernel
theorem dX8_comes_3 : decode cX8_comes 3 = .ok (.ldc2_w 208, 3) := by decide +kernel
theorem dX8_comes_6 : decode cX8_comes 6 = .ok (.invokestatic 97, 3) := by decide +kernel
theorem dX8_comes_9 : decode cX8_comes 9 = .ok (.ifCond .eq 11, 3) := by decide +kernel
theorem dX8_comes_12 : decode cX8_comes 12 = .ok (.aload_n 0, 1) := by decide +kernel
theorem dX8_comes_13 : decode cX8_comes 13 = .ok (.iload_n 1, 1) := by decide +kernel
theorem dX8_comes_14 : decode cX8_comes 14 = .ok (.invokevirtual 210, 3) := by decide +kernel
theorem dX8_comes_17 : decode cX8_comes 17 = .ok (.goto 5, 3) := by decide +kernel
theorem dX8_comes_20 : decode cX8_comes 20 = .ok (.ldc 103, 2) := by decide +kernel
theorem dX8_comes_22 : decode cX8_comes 22 = .ok (.ireturn, 1) := by decide +kernel
theorem dX8_blessed_0 : decode cX8_blessed 0 = .ok (.iload_n 1, 1) := by decide +kernel
theorem dX8_blessed_1 : decode cX8_blessed 1 = .ok (.i2l, 1) := by decide +kernel
theorem dX8_blessed_2 : decode cX8_blessed 2 = .ok (.lconst 0, 1) := by decide +kernel
theorem dX8_blessed_3 : decode cX8_blessed 3 = .ok (.aload_n 0, 1) := by decide +kernel
theorem dX8_blessed_4 : decode cX8_blessed 4 = .ok (.getfield 25, 3) := by decide +kernel
theorem dX8_blessed_7 : decode cX8_blessed 7 = .ok (.iconst 0, 1) := by decide +kernel
theorem dX8_blessed_8 : decode cX8_blessed 8 = .ok (.iaload, 1) := by decide +kernel
theorem dX8_blessed_9 : decode cX8_blessed 9 = .ok (.iconst 1, 1) := by decide +kernel
theorem dX8_blessed_10 : decode cX8_blessed 10 = .ok (.isub, 1) := by decide +kernel
theorem dX8_blessed_11 : decode cX8_blessed 11 = .ok (.i2l, 1) := by decide +kernel
theorem dX8_blessed_12 : decode cX8_blessed 12 = .ok (.invokestatic 97, 3) := by decide +kernel
theorem dX8_blessed_15 : decode cX8_blessed 15 = .ok (.ifCond .eq 31, 3) := by decide +kernel
theorem dX8_blessed_18 : decode cX8_blessed 18 = .ok (.iload_n 1, 1) := by decide +kernel
theorem dX8_blessed_19 : decode cX8_blessed 19 = .ok (.aload_n 0, 1) := by decide +kernel
theorem dX8_blessed_20 : decode cX8_blessed 20 = .ok (.getfield 25, 3) := by decide +kernel
theorem dX8_blessed_23 : decode cX8_blessed 23 = .ok (.iconst 0, 1) := by decide +kernel
theorem dX8_blessed_24 : decode cX8_blessed 24 = .ok (.iaload, 1) := by decide +kernel
theorem dX8_blessed_25 : decode cX8_blessed 25 = .ok (.bipush 60, 2) := by decide +kernel
theorem dX8_blessed_27 : decode cX8_blessed 27 = .ok (.isub, 1) := by decide +kernel
theorem dX8_blessed_28 : decode cX8_blessed 28 = .ok (.if_icmp .lt 18, 3) := by decide +kernel
theorem dX8_blessed_31 : decode cX8_blessed 31 = .ok (.aload_n 0, 1) := by decide +kernel
theorem dX8_blessed_32 : decode cX8_blessed 32 = .ok (.getfield 25, 3) := by decide +kernel
theorem dX8_blessed_35 : decode cX8_blessed 35 = .ok (.bipush 43, 2) := by decide +kernel
end
section
theorem dX8_blessed_37 : decode cX8_blessed 37 = .ok (.iload_n 1, 1) := by decide +kernel
theorem dX8_blessed_38 : decode cX8_blessed 38 = .ok (.bipush 60, 2) := by decide +kernel
theorem dX8_blessed_40 : decode cX8_blessed 40 = .ok (.irem, 1) := by decide +kernel
theorem dX8_blessed_41 : decode cX8_blessed 41 = .ok (.iadd, 1) := by decide +kernel
theorem dX8_blessed_42 : decode cX8_blessed 42 = .ok (.iaload, 1) := by decide +kernel
theorem dX8_blessed_43 : decode cX8_blessed 43 = .ok (.goto 4, 3) := by decide +kernel
theorem dX8_blessed_46 : decode cX8_blessed 46 = .ok (.iconst (-1), 1) := by decide +kernel
theorem dX8_blessed_47 : decode cX8_blessed 47 = .ok (.ireturn, 1) := by decide +kernel
theorem dX8_least_0 : decode cX8_least 0 = .ok (.iconst 0, 1) := by decide +kernel
theorem dX8_least_1 : decode cX8_least 1 = .ok (.istore_n 2, 1) := by decide +kernel
theorem dX8_least_2 : decode cX8_least 2 = .ok (.iload_n 1, 1) := by decide +kernel
theorem dX8_least_3 : decode cX8_least 3 = .ok (.iload_n 2, 1) := by decide +kernel
theorem dX8_least_4 : decode cX8_least 4 = .ok (.invokestatic 196, 3) := by decide +kernel
theorem dX8_least_7 : decode cX8_least 7 = .ok (.ifCond .ne 9, 3) := by decide +kernel
theorem dX8_least_10 : decode cX8_least 10 = .ok (.iinc 2 1, 3) := by decide +kernel
theorem dX8_least_13 : decode cX8_least 13 = .ok (.goto (-11), 3) := by decide +kernel
theorem dX8_least_16 : decode cX8_least 16 = .ok (.iload_n 2, 1) := by decide +kernel
theorem dX8_least_17 : decode cX8_least 17 = .ok (.ireturn, 1) := by decide +kernel
theorem dX8_fromRow_0 : decode cX8_fromRow 0 = .ok (.iconst 0, 1) := by decide +kernel
theorem dX8_fromRow_1 : decode cX8_fromRow 1 = .ok (.istore_n 3, 1) := by decide +kernel
theorem dX8_fromRow_2 : decode cX8_fromRow 2 = .ok (.iload_n 3, 1) := by decide +kernel
theorem dX8_fromRow_3 : decode cX8_fromRow 3 = .ok (.aload_n 0, 1) := by decide +kernel
theorem dX8_fromRow_4 : decode cX8_fromRow 4 = .ok (.getfield 94, 3) := by decide +kernel
theorem dX8_fromRow_7 : decode cX8_fromRow 7 = .ok (.if_icmp .ge 44, 3) := by decide +kernel
theorem dX8_fromRow_10 : decode cX8_fromRow 10 = .ok (.iload_n 1, 1) := by decide +kernel
theorem dX8_fromRow_11 : decode cX8_fromRow 11 = .ok (.iload_n 3, 1) := by decide +kernel
theorem dX8_fromRow_12 : decode cX8_fromRow 12 = .ok (.invokestatic 196, 3) := by decide +kernel
theorem dX8_fromRow_15 : decode cX8_fromRow 15 = .ok (.ifCond .eq 30, 3) := by decide +kernel
theorem dX8_fromRow_18 : decode cX8_fromRow 18 = .ok (.aload_n 0, 1) := by decide +kernel
theorem dX8_fromRow_19 : decode cX8_fromRow 19 = .ok (.getfield 25, 3) := by decide +kernel
theorem dX8_fromRow_22 : decode cX8_fromRow 22 = .ok (.bipush 26, 2) := by decide +kernel
theorem dX8_fromRow_24 : decode cX8_fromRow 24 = .ok (.aload_n 0, 1) := by decide +kernel
theorem dX8_fromRow_25 : decode cX8_fromRow 25 = .ok (.getfield 25, 3) := by decide +kernel
theorem dX8_fromRow_28 : decode cX8_fromRow 28 = .ok (.bipush 9, 2) := by decide +kernel
theorem dX8_fromRow_30 : decode cX8_fromRow 30 = .ok (.iaload, 1) := by decide +kernel
theorem dX8_fromRow_31 : decode cX8_fromRow 31 = .ok (.iadd, 1) := by decide +kernel
theorem dX8_fromRow_32 : decode cX8_fromRow 32 = .ok (.iload_n 3, 1) := by decide +kernel
theorem dX8_fromRow_33 : decode cX8_fromRow 33 = .ok (.iastore, 1) := by decide +kernel
theorem dX8_fromRow_34 : decode cX8_fromRow 34 = .ok (.aload_n 0, 1) := by decide +kernel
theorem dX8_fromRow_35 : decode cX8_fromRow 35 = .ok (.getfield 25, 3) := by decide +kernel
theorem dX8_fromRow_38 : decode cX8_fromRow 38 = .ok (.bipush 9, 2) := by decide +kernel
theorem dX8_fromRow_40 : decode cX8_fromRow 40 = .ok (.dup2, 1) := by decide +kernel
theorem dX8_fromRow_41 : decode cX8_fromRow 41 = .ok (.iaload, 1) := by decide +kernel
theorem dX8_fromRow_42 : decode cX8_fromRow 42 = .ok (.iconst 1, 1) := by decide +kernel
theorem dX8_fromRow_43 : decode cX8_fromRow 43 = .ok (.iadd, 1) := by decide +kernel
theorem dX8_fromRow_44 : decode cX8_fromRow 44 = .ok (.iastore, 1) := by decide +kernel
theorem dX8_fromRow_45 : decode cX8_fromRow 45 = .ok (.iinc 3 1, 3) := by decide +kernel
theorem dX8_fromRow_48 : decode cX8_fromRow 48 = .ok (.goto (-46), 3) := by decide +kernel
theorem dX8_fromRow_51 : decode cX8_fromRow 51 = .ok (.aload_n 0, 1) := by decide +kernel
theorem dX8_fromRow_52 : decode cX8_fromRow 52 = .ok (.getfield 25, 3) := by decide +kernel
theorem dX8_fromRow_55 : decode cX8_fromRow 55 = .ok (.bipush 9, 2) := by decide +kernel
theorem dX8_fromRow_57 : decode cX8_fromRow 57 = .ok (.iaload, 1) := by decide +kernel
theorem dX8_fromRow_58 : decode cX8_fromRow 58 = .ok (.ifCond .ne 5, 3) := by decide +kernel
theorem dX8_fromRow_61 : decode cX8_fromRow 61 = .ok (.iconst (-1), 1) := by decide +kernel
theorem dX8_fromRow_62 : decode cX8_fromRow 62 = .ok (.ireturn, 1) := by decide +kernel
theorem dX8_fromRow_63 : decode cX8_fromRow 63 = .ok (.aload_n 0, 1) := by decide +kernel
theorem dX8_fromRow_64 : decode cX8_fromRow 64 = .ok (.getfield 25, 3) := by decide +kernel
theorem dX8_fromRow_67 : decode cX8_fromRow 67 = .ok (.bipush 26, 2) := by decide +kernel
theorem dX8_fromRow_69 : decode cX8_fromRow 69 = .ok (.iaload, 1) := by decide +kernel
theorem dX8_fromRow_70 : decode cX8_fromRow 70 = .ok (.istore_n 3, 1) := by decide +kernel
theorem dX8_fromRow_71 : decode cX8_fromRow 71 = .ok (.aload_n 0, 1) := by decide +kernel
theorem dX8_fromRow_72 : decode cX8_fromRow 72 = .ok (.getfield 25, 3) := by decide +kernel
theorem dX8_fromRow_75 : decode cX8_fromRow 75 = .ok (.bipush 9, 2) := by decide +kernel
theorem dX8_fromRow_77 : decode cX8_fromRow 77 = .ok (.dup2, 1) := by decide +kernel
theorem dX8_fromRow_78 : decode cX8_fromRow 78 = .ok (.iaload, 1) := by decide +kernel
theorem dX8_fromRow_79 : decode cX8_fromRow 79 = .ok (.iconst 1, 1) := by decide +kernel
theorem dX8_fromRow_80 : decode cX8_fromRow 80 = .ok (.isub, 1) := by decide +kernel
theorem dX8_fromRow_81 : decode cX8_fromRow 81 = .ok (.iastore, 1) := by decide +kernel
theorem dX8_fromRow_82 : decode cX8_fromRow 82 = .ok (.iconst 0, 1) := by decide +kernel
theorem dX8_fromRow_83 : decode cX8_fromRow 83 = .ok (.istore 4, 2) := by decide +kernel
theorem dX8_fromRow_85 : decode cX8_fromRow 85 = .ok (.iload 4, 2) := by decide +kernel
theorem dX8_fromRow_87 : decode cX8_fromRow 87 = .ok (.aload_n 0, 1) := by decide +kernel
theorem dX8_fromRow_88 : decode cX8_fromRow 88 = .ok (.getfield 25, 3) := by decide +kernel
theorem dX8_fromRow_91 : decode cX8_fromRow 91 = .ok (.bipush 9, 2) := by decide +kernel
theorem dX8_fromRow_93 : decode cX8_fromRow 93 = .ok (.iaload, 1) := by decide +kernel
theorem dX8_fromRow_94 : decode cX8_fromRow 94 = .ok (.if_icmp .ge 29, 3) := by decide +kernel
theorem dX8_fromRow_97 : decode cX8_fromRow 97 = .ok (.aload_n 0, 1) := by decide +kernel
theorem dX8_fromRow_98 : decode cX8_fromRow 98 = .ok (.getfield 25, 3) := by decide +kernel
theorem dX8_fromRow_101 : decode cX8_fromRow 101 = .ok (.bipush 26, 2) := by decide +kernel
theorem dX8_fromRow_103 : decode cX8_fromRow 103 = .ok (.iload 4, 2) := by decide +kernel
theorem dX8_fromRow_105 : decode cX8_fromRow 105 = .ok (.iadd, 1) := by decide +kernel
theorem dX8_fromRow_106 : decode cX8_fromRow 106 = .ok (.aload_n 0, 1) := by decide +kernel
theorem dX8_fromRow_107 : decode cX8_fromRow 107 = .ok (.getfield 25, 3) := by decide +kernel
theorem dX8_fromRow_110 : decode cX8_fromRow 110 = .ok (.bipush 27, 2) := by decide +kernel
theorem dX8_fromRow_112 : decode cX8_fromRow 112 = .ok (.iload 4, 2) := by decide +kernel
theorem dX8_fromRow_114 : decode cX8_fromRow 114 = .ok (.iadd, 1) := by decide +kernel
theorem dX8_fromRow_115 : decode cX8_fromRow 115 = .ok (.iaload, 1) := by decide +kernel
theorem dX8_fromRow_116 : decode cX8_fromRow 116 = .ok (.iastore, 1) := by decide +kernel
theorem dX8_fromRow_117 : decode cX8_fromRow 117 = .ok (.iinc 4 1, 3) := by decide +kernel
theorem dX8_fromRow_120 : decode cX8_fromRow 120 = .ok (.goto (-35), 3) := by decide +kernel
theorem dX8_fromRow_123 : decode cX8_fromRow 123 = .ok (.aload_n 0, 1) := by decide +kernel
theorem dX8_fromRow_124 : decode cX8_fromRow 124 = .ok (.getfield 25, 3) := by decide +kernel
theorem dX8_fromRow_127 : decode cX8_fromRow 127 = .ok (.bipush 9, 2) := by decide +kernel
theorem dX8_fromRow_129 : decode cX8_fromRow 129 = .ok (.iaload, 1) := by decide +kernel
theorem dX8_fromRow_130 : decode cX8_fromRow 130 = .ok (.iload_n 2, 1) := by decide +kernel
theorem dX8_fromRow_131 : decode cX8_fromRow 131 = .ok (.if_icmp .le 30, 3) := by decide +kernel
theorem dX8_fromRow_134 : decode cX8_fromRow 134 = .ok (.aload_n 0, 1) := by decide +kernel
theorem dX8_fromRow_135 : decode cX8_fromRow 135 = .ok (.getfield 25, 3) := by decide +kernel
theorem dX8_fromRow_138 : decode cX8_fromRow 138 = .ok (.bipush 7, 2) := by decide +kernel
theorem dX8_fromRow_140 : decode cX8_fromRow 140 = .ok (.dup2, 1) := by decide +kernel
theorem dX8_fromRow_141 : decode cX8_fromRow 141 = .ok (.iaload, 1) := by decide +kernel
theorem dX8_fromRow_142 : decode cX8_fromRow 142 = .ok (.aload_n 0, 1) := by decide +kernel
theorem dX8_fromRow_143 : decode cX8_fromRow 143 = .ok (.getfield 25, 3) := by decide +kernel
theorem dX8_fromRow_146 : decode cX8_fromRow 146 = .ok (.bipush 9, 2) := by decide +kernel
theorem dX8_fromRow_148 : decode cX8_fromRow 148 = .ok (.iaload, 1) := by decide +kernel
theorem dX8_fromRow_149 : decode cX8_fromRow 149 = .ok (.iload_n 2, 1) := by decide +kernel
theorem dX8_fromRow_150 : decode cX8_fromRow 150 = .ok (.isub, 1) := by decide +kernel
theorem dX8_fromRow_151 : decode cX8_fromRow 151 = .ok (.iadd, 1) := by decide +kernel
theorem dX8_fromRow_152 : decode cX8_fromRow 152 = .ok (.iastore, 1) := by decide +kernel
theorem dX8_fromRow_153 : decode cX8_fromRow 153 = .ok (.aload_n 0, 1) := by decide +kernel
theorem dX8_fromRow_154 : decode cX8_fromRow 154 = .ok (.getfield 25, 3) := by decide +kernel
theorem dX8_fromRow_157 : decode cX8_fromRow 157 = .ok (.bipush 9, 2) := by decide +kernel
theorem dX8_fromRow_159 : decode cX8_fromRow 159 = .ok (.iload_n 2, 1) := by decide +kernel
theorem dX8_fromRow_160 : decode cX8_fromRow 160 = .ok (.iastore, 1) := by decide +kernel
theorem dX8_fromRow_161 : decode cX8_fromRow 161 = .ok (.iload_n 3, 1) := by decide +kernel
theorem dX8_fromRow_162 : decode cX8_fromRow 162 = .ok (.ireturn, 1) := by decide +kernel
theorem dX8_pass_0 : decode cX8_pass 0 = .ok (.aload_n 0, 1) := by decide +kernel
theorem dX8_pass_1 : decode cX8_pass 1 = .ok (.getfield 25, 3) := by decide +kernel
theorem dX8_pass_4 : decode cX8_pass 4 = .ok (.iconst 0, 1) := by decide +kernel
theorem dX8_pass_5 : decode cX8_pass 5 = .ok (.iaload, 1) := by decide +kernel
theorem dX8_pass_6 : decode cX8_pass 6 = .ok (.istore_n 2, 1) := by decide +kernel
theorem dX8_pass_7 : decode cX8_pass 7 = .ok (.aload_n 0, 1) := by decide +kernel
theorem dX8_pass_8 : decode cX8_pass 8 = .ok (.iload_n 2, 1) := by decide +kernel
theorem dX8_pass_9 : decode cX8_pass 9 = .ok (.invokevirtual 210, 3) := by decide +kernel
theorem dX8_pass_12 : decode cX8_pass 12 = .ok (.istore_n 3, 1) := by decide +kernel
theorem dX8_pass_13 : decode cX8_pass 13 = .ok (.iconst 0, 1) := by decide +kernel
theorem dX8_pass_14 : decode cX8_pass 14 = .ok (.istore 4, 2) := by decide +kernel
theorem dX8_pass_16 : decode cX8_pass 16 = .ok (.iload 4, 2) := by decide +kernel
theorem dX8_pass_18 : decode cX8_pass 18 = .ok (.aload_n 0, 1) := by decide +kernel
theorem dX8_pass_19 : decode cX8_pass 19 = .ok (.getfield 94, 3) := by decide +kernel
theorem dX8_pass_22 : decode cX8_pass 22 = .ok (.if_icmp .ge 41, 3) := by decide +kernel
theorem dX8_pass_25 : decode cX8_pass 25 = .ok (.aload_n 0, 1) := by decide +kernel
theorem dX8_pass_26 : decode cX8_pass 26 = .ok (.getfield 25, 3) := by decide +kernel
theorem dX8_pass_29 : decode cX8_pass 29 = .ok (.bipush 6, 2) := by decide +kernel
theorem dX8_pass_31 : decode cX8_pass 31 = .ok (.dup2, 1) := by decide +kernel
theorem dX8_pass_32 : decode cX8_pass 32 = .ok (.iaload, 1) := by decide +kernel
theorem dX8_pass_33 : decode cX8_pass 33 = .ok (.iload_n 3, 1) := by decide +kernel
theorem dX8_pass_34 : decode cX8_pass 34 = .ok (.iload 4, 2) := by decide +kernel
theorem dX8_pass_36 : decode cX8_pass 36 = .ok (.invokestatic 196, 3) := by decide +kernel
theorem dX8_pass_39 : decode cX8_pass 39 = .ok (.ifCond .eq 15, 3) := by decide +kernel
theorem dX8_pass_42 : decode cX8_pass 42 = .ok (.iconst 2, 1) := by decide +kernel
theorem dX8_pass_43 : decode cX8_pass 43 = .ok (.aload_n 0, 1) := by decide +kernel
theorem dX8_pass_44 : decode cX8_pass 44 = .ok (.getfield 7, 3) := by decide +kernel
theorem dX8_pass_47 : decode cX8_pass 47 = .ok (.iload 4, 2) := by decide +kernel
theorem dX8_pass_49 : decode cX8_pass 49 = .ok (.iaload, 1) := by decide +kernel
theorem dX8_pass_50 : decode cX8_pass 50 = .ok (.imul, 1) := by decide +kernel
theorem dX8_pass_51 : decode cX8_pass 51 = .ok (.goto 4, 3) := by decide +kernel
theorem dX8_pass_54 : decode cX8_pass 54 = .ok (.iconst 0, 1) := by decide +kernel
theorem dX8_pass_55 : decode cX8_pass 55 = .ok (.iadd, 1) := by decide +kernel
theorem dX8_pass_56 : decode cX8_pass 56 = .ok (.iastore, 1) := by decide +kernel
theorem dX8_pass_57 : decode cX8_pass 57 = .ok (.iinc 4 1, 3) := by decide +kernel
theorem dX8_pass_60 : decode cX8_pass 60 = .ok (.goto (-44), 3) := by decide +kernel
theorem dX8_pass_63 : decode cX8_pass 63 = .ok (.iload_n 1, 1) := by decide +kernel
theorem dX8_pass_64 : decode cX8_pass 64 = .ok (.ifCond .le 12, 3) := by decide +kernel
theorem dX8_pass_67 : decode cX8_pass 67 = .ok (.aload_n 0, 1) := by decide +kernel
theorem dX8_pass_68 : decode cX8_pass 68 = .ok (.iload_n 3, 1) := by decide +kernel
theorem dX8_pass_69 : decode cX8_pass 69 = .ok (.iload_n 1, 1) := by decide +kernel
theorem dX8_pass_70 : decode cX8_pass 70 = .ok (.invokevirtual 213, 3) := by decide +kernel
theorem dX8_pass_73 : decode cX8_pass 73 = .ok (.goto 20, 3) := by decide +kernel
theorem dX8_pass_76 : decode cX8_pass 76 = .ok (.iload_n 3, 1) := by decide +kernel
theorem dX8_pass_77 : decode cX8_pass 77 = .ok (.invokestatic 216, 3) := by decide +kernel
theorem dX8_pass_80 : decode cX8_pass 80 = .ok (.iconst 1, 1) := by decide +kernel
theorem dX8_pass_81 : decode cX8_pass 81 = .ok (.if_icmp .ne 11, 3) := by decide +kernel
theorem dX8_pass_84 : decode cX8_pass 84 = .ok (.aload_n 0, 1) := by decide +kernel
theorem dX8_pass_85 : decode cX8_pass 85 = .ok (.iload_n 3, 1) := by decide +kernel
theorem dX8_pass_86 : decode cX8_pass 86 = .ok (.invokevirtual 219, 3) := by decide +kernel
theorem dX8_pass_89 : decode cX8_pass 89 = .ok (.goto 4, 3) := by decide +kernel
theorem dX8_pass_92 : decode cX8_pass 92 = .ok (.iconst (-1), 1) := by decide +kernel
theorem dX8_pass_93 : decode cX8_pass 93 = .ok (.istore 4, 2) := by decide +kernel
theorem dX8_pass_95 : decode cX8_pass 95 = .ok (.iload_n 1, 1) := by decide +kernel
theorem dX8_pass_96 : decode cX8_pass 96 = .ok (.ifCond .ne 15, 3) := by decide +kernel
theorem dX8_pass_99 : decode cX8_pass 99 = .ok (.iload_n 3, 1) := by decide +kernel
theorem dX8_pass_100 : decode cX8_pass 100 = .ok (.invokestatic 216, 3) := by decide +kernel
theorem dX8_pass_103 : decode cX8_pass 103 = .ok (.iconst 1, 1) := by decide +kernel
theorem dX8_pass_104 : decode cX8_pass 104 = .ok (.if_icmp .le 7, 3) := by decide +kernel
theorem dX8_pass_107 : decode cX8_pass 107 = .ok (.iconst 1, 1) := by decide +kernel
theorem dX8_pass_108 : decode cX8_pass 108 = .ok (.goto 4, 3) := by decide +kernel
theorem dX8_pass_111 : decode cX8_pass 111 = .ok (.iconst 0, 1) := by decide +kernel
theorem dX8_pass_112 : decode cX8_pass 112 = .ok (.istore 5, 2) := by decide +kernel
theorem dX8_pass_114 : decode cX8_pass 114 = .ok (.aload_n 0, 1) := by decide +kernel
theorem dX8_pass_115 : decode cX8_pass 115 = .ok (.getfield 25, 3) := by decide +kernel
theorem dX8_pass_118 : decode cX8_pass 118 = .ok (.bipush 43, 2) := by decide +kernel
theorem dX8_pass_120 : decode cX8_pass 120 = .ok (.iload_n 2, 1) := by decide +kernel
theorem dX8_pass_121 : decode cX8_pass 121 = .ok (.bipush 60, 2) := by decide +kernel
theorem dX8_pass_123 : decode cX8_pass 123 = .ok (.irem, 1) := by decide +kernel
theorem dX8_pass_124 : decode cX8_pass 124 = .ok (.iadd, 1) := by decide +kernel
theorem dX8_pass_125 : decode cX8_pass 125 = .ok (.iload 4, 2) := by decide +kernel
theorem dX8_pass_127 : decode cX8_pass 127 = .ok (.iastore, 1) := by decide +kernel
theorem dX8_pass_128 : decode cX8_pass 128 = .ok (.iload 4, 2) := by decide +kernel
theorem dX8_pass_130 : decode cX8_pass 130 = .ok (.ifCond .lt 24, 3) := by decide +kernel
theorem dX8_pass_133 : decode cX8_pass 133 = .ok (.aload_n 0, 1) := by decide +kernel
theorem dX8_pass_134 : decode cX8_pass 134 = .ok (.getfield 25, 3) := by decide +kernel
theorem dX8_pass_137 : decode cX8_pass 137 = .ok (.bipush 18, 2) := by decide +kernel
theorem dX8_pass_139 : decode cX8_pass 139 = .ok (.iload 4, 2) := by decide +kernel
theorem dX8_pass_141 : decode cX8_pass 141 = .ok (.iadd, 1) := by decide +kernel
theorem dX8_pass_142 : decode cX8_pass 142 = .ok (.iload_n 2, 1) := by decide +kernel
theorem dX8_pass_143 : decode cX8_pass 143 = .ok (.iastore, 1) := by decide +kernel
theorem dX8_pass_144 : decode cX8_pass 144 = .ok (.aload_n 0, 1) := by decide +kernel
theorem dX8_pass_145 : decode cX8_pass 145 = .ok (.getfield 25, 3) := by decide +kernel
theorem dX8_pass_148 : decode cX8_pass 148 = .ok (.iconst 3, 1) := by decide +kernel
theorem dX8_pass_149 : decode cX8_pass 149 = .ok (.dup2, 1) := by decide +kernel
theorem dX8_pass_150 : decode cX8_pass 150 = .ok (.iaload, 1) := by decide +kernel
theorem dX8_pass_151 : decode cX8_pass 151 = .ok (.iconst 1, 1) := by decide +kernel
theorem dX8_pass_152 : decode cX8_pass 152 = .ok (.iadd, 1) := by decide +kernel
theorem dX8_pass_153 : decode cX8_pass 153 = .ok (.iastore, 1) := by decide +kernel
theorem dX8_pass_154 : decode cX8_pass 154 = .ok (.aload_n 0, 1) := by decide +kernel
theorem dX8_pass_155 : decode cX8_pass 155 = .ok (.getfield 25, 3) := by decide +kernel
theorem dX8_pass_158 : decode cX8_pass 158 = .ok (.iconst 4, 1) := by decide +kernel
theorem dX8_pass_159 : decode cX8_pass 159 = .ok (.dup2, 1) := by decide +kernel
theorem dX8_pass_160 : decode cX8_pass 160 = .ok (.iaload, 1) := by decide +kernel
theorem dX8_pass_161 : decode cX8_pass 161 = .ok (.iload 5, 2) := by decide +kernel
theorem dX8_pass_163 : decode cX8_pass 163 = .ok (.ifCond .eq 7, 3) := by decide +kernel
theorem dX8_pass_166 : decode cX8_pass 166 = .ok (.iconst 1, 1) := by decide +kernel
theorem dX8_pass_167 : decode cX8_pass 167 = .ok (.goto 4, 3) := by decide +kernel
theorem dX8_pass_170 : decode cX8_pass 170 = .ok (.iconst 0, 1) := by decide +kernel
theorem dX8_pass_171 : decode cX8_pass 171 = .ok (.iadd, 1) := by decide +kernel
theorem dX8_pass_172 : decode cX8_pass 172 = .ok (.iastore, 1) := by decide +kernel
theorem dX8_pass_173 : decode cX8_pass 173 = .ok (.iload 4, 2) := by decide +kernel
theorem dX8_pass_175 : decode cX8_pass 175 = .ok (.ifCond .ge 12, 3) := by decide +kernel
theorem dX8_pass_178 : decode cX8_pass 178 = .ok (.iload 5, 2) := by decide +kernel
theorem dX8_pass_180 : decode cX8_pass 180 = .ok (.ifCond .ne 7, 3) := by decide +kernel
theorem dX8_pass_183 : decode cX8_pass 183 = .ok (.iconst 1, 1) := by decide +kernel
theorem dX8_pass_184 : decode cX8_pass 184 = .ok (.goto 4, 3) := by decide +kernel
theorem dX8_pass_187 : decode cX8_pass 187 = .ok (.iconst 0, 1) := by decide +kernel
theorem dX8_pass_188 : decode cX8_pass 188 = .ok (.istore 6, 2) := by decide +kernel
theorem dX8_pass_190 : decode cX8_pass 190 = .ok (.aload_n 0, 1) := by decide +kernel
theorem dX8_pass_191 : decode cX8_pass 191 = .ok (.getfield 25, 3) := by decide +kernel
theorem dX8_pass_194 : decode cX8_pass 194 = .ok (.iconst 5, 1) := by decide +kernel
theorem dX8_pass_195 : decode cX8_pass 195 = .ok (.dup2, 1) := by decide +kernel
theorem dX8_pass_196 : decode cX8_pass 196 = .ok (.iaload, 1) := by decide +kernel
theorem dX8_pass_197 : decode cX8_pass 197 = .ok (.iload 6, 2) := by decide +kernel
theorem dX8_pass_199 : decode cX8_pass 199 = .ok (.ifCond .eq 7, 3) := by decide +kernel
theorem dX8_pass_202 : decode cX8_pass 202 = .ok (.iconst 1, 1) := by decide +kernel
theorem dX8_pass_203 : decode cX8_pass 203 = .ok (.goto 4, 3) := by decide +kernel
theorem dX8_pass_206 : decode cX8_pass 206 = .ok (.iconst 0, 1) := by decide +kernel
theorem dX8_pass_207 : decode cX8_pass 207 = .ok (.iadd, 1) := by decide +kernel
theorem dX8_pass_208 : decode cX8_pass 208 = .ok (.iastore, 1) := by decide +kernel
theorem dX8_pass_209 : decode cX8_pass 209 = .ok (.aload_n 0, 1) := by decide +kernel
theorem dX8_pass_210 : decode cX8_pass 210 = .ok (.getfield 25, 3) := by decide +kernel
theorem dX8_pass_213 : decode cX8_pass 213 = .ok (.iconst 1, 1) := by decide +kernel
theorem dX8_pass_214 : decode cX8_pass 214 = .ok (.iload 6, 2) := by decide +kernel
theorem dX8_pass_216 : decode cX8_pass 216 = .ok (.ifCond .eq 14, 3) := by decide +kernel
theorem dX8_pass_219 : decode cX8_pass 219 = .ok (.aload_n 0, 1) := by decide +kernel
theorem dX8_pass_220 : decode cX8_pass 220 = .ok (.getfield 25, 3) := by decide +kernel
theorem dX8_pass_223 : decode cX8_pass 223 = .ok (.iconst 1, 1) := by decide +kernel
theorem dX8_pass_224 : decode cX8_pass 224 = .ok (.iaload, 1) := by decide +kernel
theorem dX8_pass_225 : decode cX8_pass 225 = .ok (.iconst 1, 1) := by decide +kernel
theorem dX8_pass_226 : decode cX8_pass 226 = .ok (.iadd, 1) := by decide +kernel
theorem dX8_pass_227 : decode cX8_pass 227 = .ok (.goto 4, 3) := by decide +kernel
theorem dX8_pass_230 : decode cX8_pass 230 = .ok (.iconst 0, 1) := by decide +kernel
theorem dX8_pass_231 : decode cX8_pass 231 = .ok (.iastore, 1) := by decide +kernel
theorem dX8_pass_232 : decode cX8_pass 232 = .ok (.aload_n 0, 1) := by decide +kernel
theorem dX8_pass_233 : decode cX8_pass 233 = .ok (.getfield 25, 3) := by decide +kernel
theorem dX8_pass_236 : decode cX8_pass 236 = .ok (.iconst 2, 1) := by decide +kernel
theorem dX8_pass_237 : decode cX8_pass 237 = .ok (.aload_n 0, 1) := by decide +kernel
theorem dX8_pass_238 : decode cX8_pass 238 = .ok (.getfield 25, 3) := by decide +kernel
theorem dX8_pass_241 : decode cX8_pass 241 = .ok (.iconst 1, 1) := by decide +kernel
theorem dX8_pass_242 : decode cX8_pass 242 = .ok (.iaload, 1) := by decide +kernel
theorem dX8_pass_243 : decode cX8_pass 243 = .ok (.aload_n 0, 1) := by decide +kernel
theorem dX8_pass_244 : decode cX8_pass 244 = .ok (.getfield 155, 3) := by decide +kernel
theorem dX8_pass_247 : decode cX8_pass 247 = .ok (.if_icmp .lt 7, 3) := by decide +kernel
theorem dX8_pass_250 : decode cX8_pass 250 = .ok (.iconst 1, 1) := by decide +kernel
theorem dX8_pass_251 : decode cX8_pass 251 = .ok (.goto 4, 3) := by decide +kernel
theorem dX8_pass_254 : decode cX8_pass 254 = .ok (.iconst 0, 1) := by decide +kernel
theorem dX8_pass_255 : decode cX8_pass 255 = .ok (.iastore, 1) := by decide +kernel
theorem dX8_pass_256 : decode cX8_pass 256 = .ok (.aload_n 0, 1) := by decide +kernel
theorem dX8_pass_257 : decode cX8_pass 257 = .ok (.getfield 25, 3) := by decide +kernel
theorem dX8_pass_260 : decode cX8_pass 260 = .ok (.iconst 0, 1) := by decide +kernel
theorem dX8_pass_261 : decode cX8_pass 261 = .ok (.dup2, 1) := by decide +kernel
theorem dX8_pass_262 : decode cX8_pass 262 = .ok (.iaload, 1) := by decide +kernel
theorem dX8_pass_263 : decode cX8_pass 263 = .ok (.iconst 1, 1) := by decide +kernel
theorem dX8_pass_264 : decode cX8_pass 264 = .ok (.iadd, 1) := by decide +kernel
theorem dX8_pass_265 : decode cX8_pass 265 = .ok (.iastore, 1) := by decide +kernel
theorem dX8_pass_266 : decode cX8_pass 266 = .ok (.return_, 1) := by decide +kernel
theorem dX8_remember_0 : decode cX8_remember 0 = .ok (.aload_n 0, 1) := by decide +kernel
theorem dX8_remember_1 : decode cX8_remember 1 = .ok (.getfield 182, 3) := by decide +kernel
theorem dX8_remember_4 : decode cX8_remember 4 = .ok (.bipush 20, 2) := by decide +kernel
theorem dX8_remember_6 : decode cX8_remember 6 = .ok (.if_icmp .ne 44, 3) := by decide +kernel
theorem dX8_remember_9 : decode cX8_remember 9 = .ok (.bipush 103, 2) := by decide +kernel
theorem dX8_remember_11 : decode cX8_remember 11 = .ok (.istore_n 1, 1) := by decide +kernel
theorem dX8_remember_12 : decode cX8_remember 12 = .ok (.iload_n 1, 1) := by decide +kernel
theorem dX8_remember_13 : decode cX8_remember 13 = .ok (.sipush 2060, 3) := by decide +kernel
theorem dX8_remember_16 : decode cX8_remember 16 = .ok (.if_icmp .ge 24, 3) := by decide +kernel
theorem dX8_remember_19 : decode cX8_remember 19 = .ok (.aload_n 0, 1) := by decide +kernel
theorem dX8_remember_20 : decode cX8_remember 20 = .ok (.getfield 56, 3) := by decide +kernel
theorem dX8_remember_23 : decode cX8_remember 23 = .ok (.iload_n 1, 1) := by decide +kernel
theorem dX8_remember_24 : decode cX8_remember 24 = .ok (.bipush 103, 2) := by decide +kernel
theorem dX8_remember_26 : decode cX8_remember 26 = .ok (.isub, 1) := by decide +kernel
theorem dX8_remember_27 : decode cX8_remember 27 = .ok (.aload_n 0, 1) := by decide +kernel
theorem dX8_remember_28 : decode cX8_remember 28 = .ok (.getfield 56, 3) := by decide +kernel
theorem dX8_remember_31 : decode cX8_remember 31 = .ok (.iload_n 1, 1) := by decide +kernel
theorem dX8_remember_32 : decode cX8_remember 32 = .ok (.iaload, 1) := by decide +kernel
theorem dX8_remember_33 : decode cX8_remember 33 = .ok (.iastore, 1) := by decide +kernel
theorem dX8_remember_34 : decode cX8_remember 34 = .ok (.iinc 1 1, 3) := by decide +kernel
theorem dX8_remember_37 : decode cX8_remember 37 = .ok (.goto (-25), 3) := by decide +kernel
theorem dX8_remember_40 : decode cX8_remember 40 = .ok (.aload_n 0, 1) := by decide +kernel
theorem dX8_remember_41 : decode cX8_remember 41 = .ok (.dup, 1) := by decide +kernel
theorem dX8_remember_42 : decode cX8_remember 42 = .ok (.getfield 182, 3) := by decide +kernel
theorem dX8_remember_45 : decode cX8_remember 45 = .ok (.iconst 1, 1) := by decide +kernel
theorem dX8_remember_46 : decode cX8_remember 46 = .ok (.isub, 1) := by decide +kernel
theorem dX8_remember_47 : decode cX8_remember 47 = .ok (.putfield 182, 3) := by decide +kernel
theorem dX8_remember_50 : decode cX8_remember 50 = .ok (.iconst 0, 1) := by decide +kernel
theorem dX8_remember_51 : decode cX8_remember 51 = .ok (.istore_n 1, 1) := by decide +kernel
theorem dX8_remember_52 : decode cX8_remember 52 = .ok (.iload_n 1, 1) := by decide +kernel
theorem dX8_remember_53 : decode cX8_remember 53 = .ok (.bipush 103, 2) := by decide +kernel
theorem dX8_remember_55 : decode cX8_remember 55 = .ok (.if_icmp .ge 29, 3) := by decide +kernel
theorem dX8_remember_58 : decode cX8_remember 58 = .ok (.aload_n 0, 1) := by decide +kernel
theorem dX8_remember_59 : decode cX8_remember 59 = .ok (.getfield 56, 3) := by decide +kernel
theorem dX8_remember_62 : decode cX8_remember 62 = .ok (.bipush 103, 2) := by decide +kernel
theorem dX8_remember_64 : decode cX8_remember 64 = .ok (.aload_n 0, 1) := by decide +kernel
theorem dX8_remember_65 : decode cX8_remember 65 = .ok (.getfield 182, 3) := by decide +kernel
theorem dX8_remember_68 : decode cX8_remember 68 = .ok (.imul, 1) := by decide +kernel
theorem dX8_remember_69 : decode cX8_remember 69 = .ok (.iload_n 1, 1) := by decide +kernel
theorem dX8_remember_70 : decode cX8_remember 70 = .ok (.iadd, 1) := by decide +kernel
theorem dX8_remember_71 : decode cX8_remember 71 = .ok (.aload_n 0, 1) := by decide +kernel
theorem dX8_remember_72 : decode cX8_remember 72 = .ok (.getfield 25, 3) := by decide +kernel
theorem dX8_remember_75 : decode cX8_remember 75 = .ok (.iload_n 1, 1) := by decide +kernel
theorem dX8_remember_76 : decode cX8_remember 76 = .ok (.iaload, 1) := by decide +kernel
theorem dX8_remember_77 : decode cX8_remember 77 = .ok (.iastore, 1) := by decide +kernel
theorem dX8_remember_78 : decode cX8_remember 78 = .ok (.iinc 1 1, 3) := by decide +kernel
theorem dX8_remember_81 : decode cX8_remember 81 = .ok (.goto (-29), 3) := by decide +kernel
theorem dX8_remember_84 : decode cX8_remember 84 = .ok (.aload_n 0, 1) := by decide +kernel
theorem dX8_remember_85 : decode cX8_remember 85 = .ok (.dup, 1) := by decide +kernel
theorem dX8_remember_86 : decode cX8_remember 86 = .ok (.getfield 182, 3) := by decide +kernel
theorem dX8_remember_89 : decode cX8_remember 89 = .ok (.iconst 1, 1) := by decide +kernel
theorem dX8_remember_90 : decode cX8_remember 90 = .ok (.iadd, 1) := by decide +kernel
theorem dX8_remember_91 : decode cX8_remember 91 = .ok (.putfield 182, 3) := by decide +kernel
theorem dX8_remember_94 : decode cX8_remember 94 = .ok (.return_, 1) := by decide +kernel
theorem dX8_daysRefused_0 : decode cX8_daysRefused 0 = .ok (.iload_n 1, 1) := by decide +kernel
theorem dX8_daysRefused_1 : decode cX8_daysRefused 1 = .ok (.i2l, 1) := by decide +kernel
theorem dX8_daysRefused_2 : decode cX8_daysRefused 2 = .ok (.lconst 1, 1) := by decide +kernel
theorem dX8_daysRefused_3 : decode cX8_daysRefused 3 = .ok (.ldc2_w 222, 3) := by decide +kernel
theorem dX8_daysRefused_6 : decode cX8_daysRefused 6 = .ok (.invokestatic 97, 3) := by decide +kernel
theorem dX8_daysRefused_9 : decode cX8_daysRefused 9 = .ok (.ifCond .ne 6, 3) := by decide +kernel
theorem dX8_daysRefused_12 : decode cX8_daysRefused 12 = .ok (.ldc 103, 2) := by decide +kernel
theorem dX8_daysRefused_14 : decode cX8_daysRefused 14 = .ok (.ireturn, 1) := by decide +kernel
theorem dX8_daysRefused_15 : decode cX8_daysRefused 15 = .ok (.aload_n 0, 1) := by decide +kernel
theorem dX8_daysRefused_16 : decode cX8_daysRefused 16 = .ok (.getfield 155, 3) := by decide +kernel
theorem dX8_daysRefused_19 : decode cX8_daysRefused 19 = .ok (.ifCond .eq 13, 3) := by decide +kernel
theorem dX8_daysRefused_22 : decode cX8_daysRefused 22 = .ok (.aload_n 0, 1) := by decide +kernel
theorem dX8_daysRefused_23 : decode cX8_daysRefused 23 = .ok (.getfield 25, 3) := by decide +kernel
theorem dX8_daysRefused_26 : decode cX8_daysRefused 26 = .ok (.iconst 2, 1) := by decide +kernel
theorem dX8_daysRefused_27 : decode cX8_daysRefused 27 = .ok (.iaload, 1) := by decide +kernel
theorem dX8_daysRefused_28 : decode cX8_daysRefused 28 = .ok (.iconst 1, 1) := by decide +kernel
theorem dX8_daysRefused_29 : decode cX8_daysRefused 29 = .ok (.if_icmp .ne 8, 3) := by decide +kernel
theorem dX8_daysRefused_32 : decode cX8_daysRefused 32 = .ok (.ldc 224, 2) := by decide +kernel
theorem dX8_daysRefused_34 : decode cX8_daysRefused 34 = .ok (.goto 21, 3) := by decide +kernel
theorem dX8_daysRefused_37 : decode cX8_daysRefused 37 = .ok (.aload_n 0, 1) := by decide +kernel
theorem dX8_daysRefused_38 : decode cX8_daysRefused 38 = .ok (.getfield 25, 3) := by decide +kernel
theorem dX8_daysRefused_41 : decode cX8_daysRefused 41 = .ok (.iconst 0, 1) := by decide +kernel
theorem dX8_daysRefused_42 : decode cX8_daysRefused 42 = .ok (.iaload, 1) := by decide +kernel
theorem dX8_daysRefused_43 : decode cX8_daysRefused 43 = .ok (.sipush 9000, 3) := by decide +kernel
theorem dX8_daysRefused_46 : decode cX8_daysRefused 46 = .ok (.if_icmp .le 8, 3) := by decide +kernel
theorem dX8_daysRefused_49 : decode cX8_daysRefused 49 = .ok (.ldc 107, 2) := by decide +kernel
theorem dX8_daysRefused_51 : decode cX8_daysRefused 51 = .ok (.goto 4, 3) := by decide +kernel
theorem dX8_daysRefused_54 : decode cX8_daysRefused 54 = .ok (.iconst 0, 1) := by decide +kernel
theorem dX8_daysRefused_55 : decode cX8_daysRefused 55 = .ok (.ireturn, 1) := by decide +kernel
theorem dX8_day_0 : decode cX8_day 0 = .ok (.aload_n 0, 1) := by decide +kernel
theorem dX8_day_1 : decode cX8_day 1 = .ok (.iload_n 1, 1) := by decide +kernel
theorem dX8_day_2 : decode cX8_day 2 = .ok (.invokevirtual 225, 3) := by decide +kernel
theorem dX8_day_5 : decode cX8_day 5 = .ok (.istore_n 2, 1) := by decide +kernel
theorem dX8_day_6 : decode cX8_day 6 = .ok (.iload_n 2, 1) := by decide +kernel
theorem dX8_day_7 : decode cX8_day 7 = .ok (.ifCond .eq 5, 3) := by decide +kernel
theorem dX8_day_10 : decode cX8_day 10 = .ok (.iload_n 2, 1) := by decide +kernel
theorem dX8_day_11 : decode cX8_day 11 = .ok (.ireturn, 1) := by decide +kernel
theorem dX8_day_12 : decode cX8_day 12 = .ok (.aload_n 0, 1) := by decide +kernel
theorem dX8_day_13 : decode cX8_day 13 = .ok (.invokevirtual 228, 3) := by decide +kernel
theorem dX8_day_16 : decode cX8_day 16 = .ok (.iconst 0, 1) := by decide +kernel
theorem dX8_day_17 : decode cX8_day 17 = .ok (.istore_n 3, 1) := by decide +kernel
theorem dX8_day_18 : decode cX8_day 18 = .ok (.iload_n 3, 1) := by decide +kernel
theorem dX8_day_19 : decode cX8_day 19 = .ok (.iload_n 1, 1) := by decide +kernel
theorem dX8_day_20 : decode cX8_day 20 = .ok (.if_icmp .ge 26, 3) := by decide +kernel
theorem dX8_day_23 : decode cX8_day 23 = .ok (.aload_n 0, 1) := by decide +kernel
theorem dX8_day_24 : decode cX8_day 24 = .ok (.getfield 25, 3) := by decide +kernel
theorem dX8_day_27 : decode cX8_day 27 = .ok (.iconst 2, 1) := by decide +kernel
theorem dX8_day_28 : decode cX8_day 28 = .ok (.iaload, 1) := by decide +kernel
theorem dX8_day_29 : decode cX8_day 29 = .ok (.ifCond .ne 17, 3) := by decide +kernel
theorem dX8_day_32 : decode cX8_day 32 = .ok (.aload_n 0, 1) := by decide +kernel
theorem dX8_day_33 : decode cX8_day 33 = .ok (.aload_n 0, 1) := by decide +kernel
theorem dX8_day_34 : decode cX8_day 34 = .ok (.getfield 161, 3) := by decide +kernel
theorem dX8_day_37 : decode cX8_day 37 = .ok (.invokevirtual 231, 3) := by decide +kernel
theorem dX8_day_40 : decode cX8_day 40 = .ok (.iinc 3 1, 3) := by decide +kernel
theorem dX8_day_43 : decode cX8_day 43 = .ok (.goto (-25), 3) := by decide +kernel
theorem dX8_day_46 : decode cX8_day 46 = .ok (.aload_n 0, 1) := by decide +kernel
theorem dX8_day_47 : decode cX8_day 47 = .ok (.getfield 25, 3) := by decide +kernel
theorem dX8_day_50 : decode cX8_day 50 = .ok (.iconst 0, 1) := by decide +kernel
theorem dX8_day_51 : decode cX8_day 51 = .ok (.iaload, 1) := by decide +kernel
theorem dX8_day_52 : decode cX8_day 52 = .ok (.ireturn, 1) := by decide +kernel
theorem dX8_calendar_0 : decode cX8_calendar 0 = .ok (.aload_n 0, 1) := by decide +kernel
theorem dX8_calendar_1 : decode cX8_calendar 1 = .ok (.iload_n 1, 1) := by decide +kernel
theorem dX8_calendar_2 : decode cX8_calendar 2 = .ok (.invokevirtual 185, 3) := by decide +kernel
theorem dX8_calendar_5 : decode cX8_calendar 5 = .ok (.ifCond .ne 6, 3) := by decide +kernel
theorem dX8_calendar_8 : decode cX8_calendar 8 = .ok (.ldc 189, 2) := by decide +kernel
theorem dX8_calendar_10 : decode cX8_calendar 10 = .ok (.ireturn, 1) := by decide +kernel
theorem dX8_calendar_11 : decode cX8_calendar 11 = .ok (.iload_n 2, 1) := by decide +kernel
theorem dX8_calendar_12 : decode cX8_calendar 12 = .ok (.i2l, 1) := by decide +kernel
theorem dX8_calendar_13 : decode cX8_calendar 13 = .ok (.ldc2_w 235, 3) := by decide +kernel
theorem dX8_calendar_16 : decode cX8_calendar 16 = .ok (.aload_n 0, 1) := by decide +kernel
theorem dX8_calendar_17 : decode cX8_calendar 17 = .ok (.getfield 13, 3) := by decide +kernel
theorem dX8_calendar_20 : decode cX8_calendar 20 = .ok (.iload_n 1, 1) := by decide +kernel
theorem dX8_calendar_21 : decode cX8_calendar 21 = .ok (.iaload, 1) := by decide +kernel
theorem dX8_calendar_22 : decode cX8_calendar 22 = .ok (.iconst 1, 1) := by decide +kernel
theorem dX8_calendar_23 : decode cX8_calendar 23 = .ok (.isub, 1) := by decide +kernel
theorem dX8_calendar_24 : decode cX8_calendar 24 = .ok (.i2l, 1) := by decide +kernel
theorem dX8_calendar_25 : decode cX8_calendar 25 = .ok (.invokestatic 97, 3) := by decide +kernel
theorem dX8_calendar_28 : decode cX8_calendar 28 = .ok (.ifCond .ne 6, 3) := by decide +kernel
theorem dX8_calendar_31 : decode cX8_calendar 31 = .ok (.ldc 103, 2) := by decide +kernel
theorem dX8_calendar_33 : decode cX8_calendar 33 = .ok (.ireturn, 1) := by decide +kernel
theorem dX8_calendar_34 : decode cX8_calendar 34 = .ok (.aload_n 0, 1) := by decide +kernel
theorem dX8_calendar_35 : decode cX8_calendar 35 = .ok (.invokevirtual 228, 3) := by decide +kernel
theorem dX8_calendar_38 : decode cX8_calendar 38 = .ok (.aload_n 0, 1) := by decide +kernel
theorem dX8_calendar_39 : decode cX8_calendar 39 = .ok (.getfield 25, 3) := by decide +kernel
theorem dX8_calendar_42 : decode cX8_calendar 42 = .ok (.bipush 8, 2) := by decide +kernel
theorem dX8_calendar_44 : decode cX8_calendar 44 = .ok (.iaload, 1) := by decide +kernel
theorem dX8_calendar_45 : decode cX8_calendar 45 = .ok (.iload_n 1, 1) := by decide +kernel
theorem dX8_calendar_46 : decode cX8_calendar 46 = .ok (.invokestatic 196, 3) := by decide +kernel
theorem dX8_calendar_49 : decode cX8_calendar 49 = .ok (.ifCond .eq 7, 3) := by decide +kernel
theorem dX8_calendar_52 : decode cX8_calendar 52 = .ok (.iconst (-1), 1) := by decide +kernel
theorem dX8_calendar_53 : decode cX8_calendar 53 = .ok (.goto 12, 3) := by decide +kernel
theorem dX8_calendar_56 : decode cX8_calendar 56 = .ok (.aload_n 0, 1) := by decide +kernel
theorem dX8_calendar_57 : decode cX8_calendar 57 = .ok (.getfield 25, 3) := by decide +kernel
theorem dX8_calendar_60 : decode cX8_calendar 60 = .ok (.bipush 10, 2) := by decide +kernel
theorem dX8_calendar_62 : decode cX8_calendar 62 = .ok (.iload_n 1, 1) := by decide +kernel
theorem dX8_calendar_63 : decode cX8_calendar 63 = .ok (.iadd, 1) := by decide +kernel
theorem dX8_calendar_64 : decode cX8_calendar 64 = .ok (.iaload, 1) := by decide +kernel
theorem dX8_calendar_65 : decode cX8_calendar 65 = .ok (.istore_n 3, 1) := by decide +kernel
theorem dX8_calendar_66 : decode cX8_calendar 66 = .ok (.aload_n 0, 1) := by decide +kernel
theorem dX8_calendar_67 : decode cX8_calendar 67 = .ok (.getfield 25, 3) := by decide +kernel
theorem dX8_calendar_70 : decode cX8_calendar 70 = .ok (.bipush 8, 2) := by decide +kernel
theorem dX8_calendar_72 : decode cX8_calendar 72 = .ok (.iload_n 2, 1) := by decide +kernel
theorem dX8_calendar_73 : decode cX8_calendar 73 = .ok (.ifCond .ge 17, 3) := by decide +kernel
theorem dX8_calendar_76 : decode cX8_calendar 76 = .ok (.aload_n 0, 1) := by decide +kernel
theorem dX8_calendar_77 : decode cX8_calendar 77 = .ok (.getfield 25, 3) := by decide +kernel
theorem dX8_calendar_80 : decode cX8_calendar 80 = .ok (.bipush 8, 2) := by decide +kernel
theorem dX8_calendar_82 : decode cX8_calendar 82 = .ok (.iaload, 1) := by decide +kernel
theorem dX8_calendar_83 : decode cX8_calendar 83 = .ok (.iconst 1, 1) := by decide +kernel
theorem dX8_calendar_84 : decode cX8_calendar 84 = .ok (.iload_n 1, 1) := by decide +kernel
theorem dX8_calendar_85 : decode cX8_calendar 85 = .ok (.ishl, 1) := by decide +kernel
theorem dX8_calendar_86 : decode cX8_calendar 86 = .ok (.ior, 1) := by decide +kernel
theorem dX8_calendar_87 : decode cX8_calendar 87 = .ok (.goto 16, 3) := by decide +kernel
theorem dX8_calendar_90 : decode cX8_calendar 90 = .ok (.aload_n 0, 1) := by decide +kernel
theorem dX8_calendar_91 : decode cX8_calendar 91 = .ok (.getfield 25, 3) := by decide +kernel
theorem dX8_calendar_94 : decode cX8_calendar 94 = .ok (.bipush 8, 2) := by decide +kernel
theorem dX8_calendar_96 : decode cX8_calendar 96 = .ok (.iaload, 1) := by decide +kernel
theorem dX8_calendar_97 : decode cX8_calendar 97 = .ok (.iconst 1, 1) := by decide +kernel
theorem dX8_calendar_98 : decode cX8_calendar 98 = .ok (.iload_n 1, 1) := by decide +kernel
theorem dX8_calendar_99 : decode cX8_calendar 99 = .ok (.ishl, 1) := by decide +kernel
theorem dX8_calendar_100 : decode cX8_calendar 100 = .ok (.iconst (-1), 1) := by decide +kernel
theorem dX8_calendar_101 : decode cX8_calendar 101 = .ok (.ixor, 1) := by decide +kernel
theorem dX8_calendar_102 : decode cX8_calendar 102 = .ok (.iand, 1) := by decide +kernel
theorem dX8_calendar_103 : decode cX8_calendar 103 = .ok (.iastore, 1) := by decide +kernel
theorem dX8_calendar_104 : decode cX8_calendar 104 = .ok (.aload_n 0, 1) := by decide +kernel
theorem dX8_calendar_105 : decode cX8_calendar 105 = .ok (.getfield 25, 3) := by decide +kernel
theorem dX8_calendar_108 : decode cX8_calendar 108 = .ok (.bipush 10, 2) := by decide +kernel
theorem dX8_calendar_110 : decode cX8_calendar 110 = .ok (.iload_n 1, 1) := by decide +kernel
theorem dX8_calendar_111 : decode cX8_calendar 111 = .ok (.iadd, 1) := by decide +kernel
theorem dX8_calendar_112 : decode cX8_calendar 112 = .ok (.iload_n 2, 1) := by decide +kernel
theorem dX8_calendar_113 : decode cX8_calendar 113 = .ok (.ifCond .ge 15, 3) := by decide +kernel
theorem dX8_calendar_116 : decode cX8_calendar 116 = .ok (.aload_n 0, 1) := by decide +kernel
theorem dX8_calendar_117 : decode cX8_calendar 117 = .ok (.getfield 25, 3) := by decide +kernel
theorem dX8_calendar_120 : decode cX8_calendar 120 = .ok (.bipush 10, 2) := by decide +kernel
theorem dX8_calendar_122 : decode cX8_calendar 122 = .ok (.iload_n 1, 1) := by decide +kernel
theorem dX8_calendar_123 : decode cX8_calendar 123 = .ok (.iadd, 1) := by decide +kernel
theorem dX8_calendar_124 : decode cX8_calendar 124 = .ok (.iaload, 1) := by decide +kernel
theorem dX8_calendar_125 : decode cX8_calendar 125 = .ok (.goto 4, 3) := by decide +kernel
theorem dX8_calendar_128 : decode cX8_calendar 128 = .ok (.iload_n 2, 1) := by decide +kernel
theorem dX8_calendar_129 : decode cX8_calendar 129 = .ok (.iastore, 1) := by decide +kernel
theorem dX8_calendar_130 : decode cX8_calendar 130 = .ok (.iload_n 3, 1) := by decide +kernel
theorem dX8_calendar_131 : decode cX8_calendar 131 = .ok (.ireturn, 1) := by decide +kernel
theorem dX8_draw_0 : decode cX8_draw 0 = .ok (.aload_n 0, 1) := by decide +kernel
theorem dX8_draw_1 : decode cX8_draw 1 = .ok (.aload_n 0, 1) := by decide +kernel
theorem dX8_draw_2 : decode cX8_draw 2 = .ok (.getfield 237, 3) := by decide +kernel
theorem dX8_draw_5 : decode cX8_draw 5 = .ok (.i2l, 1) := by decide +kernel
theorem dX8_draw_6 : decode cX8_draw 6 = .ok (.ldc2_w 240, 3) := by decide +kernel
theorem dX8_draw_9 : decode cX8_draw 9 = .ok (.lmul, 1) := by decide +kernel
theorem dX8_draw_10 : decode cX8_draw 10 = .ok (.ldc2_w 242, 3) := by decide +kernel
theorem dX8_draw_13 : decode cX8_draw 13 = .ok (.ladd, 1) := by decide +kernel
theorem dX8_draw_14 : decode cX8_draw 14 = .ok (.ldc2_w 244, 3) := by decide +kernel
theorem dX8_draw_17 : decode cX8_draw 17 = .ok (.lrem, 1) := by decide +kernel
theorem dX8_draw_18 : decode cX8_draw 18 = .ok (.l2i, 1) := by decide +kernel
theorem dX8_draw_19 : decode cX8_draw 19 = .ok (.putfield 237, 3) := by decide +kernel
theorem dX8_draw_22 : decode cX8_draw 22 = .ok (.aload_n 0, 1) := by decide +kernel
theorem dX8_draw_23 : decode cX8_draw 23 = .ok (.getfield 237, 3) := by decide +kernel
theorem dX8_draw_26 : decode cX8_draw 26 = .ok (.ldc 246, 2) := by decide +kernel
theorem dX8_draw_28 : decode cX8_draw 28 = .ok (.idiv, 1) := by decide +kernel
theorem dX8_draw_29 : decode cX8_draw 29 = .ok (.iload_n 1, 1) := by decide +kernel
theorem dX8_draw_30 : decode cX8_draw 30 = .ok (.irem, 1) := by decide +kernel
theorem dX8_draw_31 : decode cX8_draw 31 = .ok (.ireturn, 1) := by decide +kernel
theorem dX8_drift_0 : decode cX8_drift 0 = .ok (.aload_n 0, 1) := by decide +kernel
theorem dX8_drift_1 : decode cX8_drift 1 = .ok (.iload_n 1, 1) := by decide +kernel
theorem dX8_drift_2 : decode cX8_drift 2 = .ok (.invokevirtual 225, 3) := by decide +kernel
theorem dX8_drift_5 : decode cX8_drift 5 = .ok (.istore_n 2, 1) := by decide +kernel
theorem dX8_drift_6 : decode cX8_drift 6 = .ok (.iload_n 2, 1) := by decide +kernel
theorem dX8_drift_7 : decode cX8_drift 7 = .ok (.ifCond .eq 5, 3) := by decide +kernel
theorem dX8_drift_10 : decode cX8_drift 10 = .ok (.iload_n 2, 1) := by decide +kernel
theorem dX8_drift_11 : decode cX8_drift 11 = .ok (.ireturn, 1) := by decide +kernel
theorem dX8_drift_12 : decode cX8_drift 12 = .ok (.aload_n 0, 1) := by decide +kernel
theorem dX8_drift_13 : decode cX8_drift 13 = .ok (.invokevirtual 228, 3) := by decide +kernel
theorem dX8_drift_16 : decode cX8_drift 16 = .ok (.iconst 0, 1) := by decide +kernel
theorem dX8_drift_17 : decode cX8_drift 17 = .ok (.istore_n 3, 1) := by decide +kernel
theorem dX8_drift_18 : decode cX8_drift 18 = .ok (.iload_n 3, 1) := by decide +kernel
theorem dX8_drift_19 : decode cX8_drift 19 = .ok (.iload_n 1, 1) := by decide +kernel
theorem dX8_drift_20 : decode cX8_drift 20 = .ok (.if_icmp .ge 72, 3) := by decide +kernel
theorem dX8_drift_23 : decode cX8_drift 23 = .ok (.aload_n 0, 1) := by decide +kernel
theorem dX8_drift_24 : decode cX8_drift 24 = .ok (.getfield 25, 3) := by decide +kernel
theorem dX8_drift_27 : decode cX8_drift 27 = .ok (.iconst 2, 1) := by decide +kernel
theorem dX8_drift_28 : decode cX8_drift 28 = .ok (.iaload, 1) := by decide +kernel
theorem dX8_drift_29 : decode cX8_drift 29 = .ok (.ifCond .ne 63, 3) := by decide +kernel
theorem dX8_drift_32 : decode cX8_drift 32 = .ok (.aload_n 0, 1) := by decide +kernel
theorem dX8_drift_33 : decode cX8_drift 33 = .ok (.iconst 4, 1) := by decide +kernel
theorem dX8_drift_34 : decode cX8_drift 34 = .ok (.invokevirtual 247, 3) := by decide +kernel
theorem dX8_drift_37 : decode cX8_drift 37 = .ok (.ifCond .ne 41, 3) := by decide +kernel
theorem dX8_drift_40 : decode cX8_drift 40 = .ok (.aload_n 0, 1) := by decide +kernel
theorem dX8_drift_41 : decode cX8_drift 41 = .ok (.getfield 94, 3) := by decide +kernel
theorem dX8_drift_44 : decode cX8_drift 44 = .ok (.ifCond .le 34, 3) := by decide +kernel
theorem dX8_drift_47 : decode cX8_drift 47 = .ok (.aload_n 0, 1) := by decide +kernel
theorem dX8_drift_48 : decode cX8_drift 48 = .ok (.aload_n 0, 1) := by decide +kernel
theorem dX8_drift_49 : decode cX8_drift 49 = .ok (.getfield 94, 3) := by decide +kernel
theorem dX8_drift_52 : decode cX8_drift 52 = .ok (.invokevirtual 247, 3) := by decide +kernel
theorem dX8_drift_55 : decode cX8_drift 55 = .ok (.istore 4, 2) := by decide +kernel
theorem dX8_drift_57 : decode cX8_drift 57 = .ok (.aload_n 0, 1) := by decide +kernel
theorem dX8_drift_58 : decode cX8_drift 58 = .ok (.getfield 25, 3) := by decide +kernel
theorem dX8_drift_61 : decode cX8_drift 61 = .ok (.bipush 10, 2) := by decide +kernel
theorem dX8_drift_63 : decode cX8_drift 63 = .ok (.iload 4, 2) := by decide +kernel
theorem dX8_drift_65 : decode cX8_drift 65 = .ok (.iadd, 1) := by decide +kernel
theorem dX8_drift_66 : decode cX8_drift 66 = .ok (.aload_n 0, 1) := by decide +kernel
theorem dX8_drift_67 : decode cX8_drift 67 = .ok (.aload_n 0, 1) := by decide +kernel
theorem dX8_drift_68 : decode cX8_drift 68 = .ok (.getfield 13, 3) := by decide +kernel
theorem dX8_drift_71 : decode cX8_drift 71 = .ok (.iload 4, 2) := by decide +kernel
theorem dX8_drift_73 : decode cX8_drift 73 = .ok (.iaload, 1) := by decide +kernel
theorem dX8_drift_74 : decode cX8_drift 74 = .ok (.invokevirtual 247, 3) := by decide +kernel
theorem dX8_drift_77 : decode cX8_drift 77 = .ok (.iastore, 1) := by decide +kernel
theorem dX8_drift_78 : decode cX8_drift 78 = .ok (.aload_n 0, 1) := by decide +kernel
theorem dX8_drift_79 : decode cX8_drift 79 = .ok (.aload_n 0, 1) := by decide +kernel
theorem dX8_drift_80 : decode cX8_drift 80 = .ok (.getfield 161, 3) := by decide +kernel
theorem dX8_drift_83 : decode cX8_drift 83 = .ok (.invokevirtual 231, 3) := by decide +kernel
theorem dX8_drift_86 : decode cX8_drift 86 = .ok (.iinc 3 1, 3) := by decide +kernel
theorem dX8_drift_89 : decode cX8_drift 89 = .ok (.goto (-71), 3) := by decide +kernel
theorem dX8_drift_92 : decode cX8_drift 92 = .ok (.aload_n 0, 1) := by decide +kernel
theorem dX8_drift_93 : decode cX8_drift 93 = .ok (.getfield 25, 3) := by decide +kernel
theorem dX8_drift_96 : decode cX8_drift 96 = .ok (.iconst 0, 1) := by decide +kernel
theorem dX8_drift_97 : decode cX8_drift 97 = .ok (.iaload, 1) := by decide +kernel
theorem dX8_drift_98 : decode cX8_drift 98 = .ok (.ireturn, 1) := by decide +kernel
theorem dX8_undo_0 : decode cX8_undo 0 = .ok (.aload_n 0, 1) := by decide +kernel
theorem dX8_undo_1 : decode cX8_undo 1 = .ok (.getfield 182, 3) := by decide +kernel
theorem dX8_undo_4 : decode cX8_undo 4 = .ok (.ifCond .ne 6, 3) := by decide +kernel
theorem dX8_undo_7 : decode cX8_undo 7 = .ok (.ldc 224, 2) := by decide +kernel
theorem dX8_undo_9 : decode cX8_undo 9 = .ok (.ireturn, 1) := by decide +kernel
theorem dX8_undo_10 : decode cX8_undo 10 = .ok (.aload_n 0, 1) := by decide +kernel
theorem dX8_undo_11 : decode cX8_undo 11 = .ok (.dup, 1) := by decide +kernel
theorem dX8_undo_12 : decode cX8_undo 12 = .ok (.getfield 182, 3) := by decide +kernel
theorem dX8_undo_15 : decode cX8_undo 15 = .ok (.iconst 1, 1) := by decide +kernel
theorem dX8_undo_16 : decode cX8_undo 16 = .ok (.isub, 1) := by decide +kernel
theorem dX8_undo_17 : decode cX8_undo 17 = .ok (.putfield 182, 3) := by decide +kernel
theorem dX8_undo_20 : decode cX8_undo 20 = .ok (.iconst 0, 1) := by decide +kernel
theorem dX8_undo_21 : decode cX8_undo 21 = .ok (.istore_n 1, 1) := by decide +kernel
theorem dX8_undo_22 : decode cX8_undo 22 = .ok (.iload_n 1, 1) := by decide +kernel
theorem dX8_undo_23 : decode cX8_undo 23 = .ok (.bipush 103, 2) := by decide +kernel
theorem dX8_undo_25 : decode cX8_undo 25 = .ok (.if_icmp .ge 29, 3) := by decide +kernel
theorem dX8_undo_28 : decode cX8_undo 28 = .ok (.aload_n 0, 1) := by decide +kernel
theorem dX8_undo_29 : decode cX8_undo 29 = .ok (.getfield 25, 3) := by decide +kernel
theorem dX8_undo_32 : decode cX8_undo 32 = .ok (.iload_n 1, 1) := by decide +kernel
theorem dX8_undo_33 : decode cX8_undo 33 = .ok (.aload_n 0, 1) := by decide +kernel
theorem dX8_undo_34 : decode cX8_undo 34 = .ok (.getfield 56, 3) := by decide +kernel
theorem dX8_undo_37 : decode cX8_undo 37 = .ok (.bipush 103, 2) := by decide +kernel
theorem dX8_undo_39 : decode cX8_undo 39 = .ok (.aload_n 0, 1) := by decide +kernel
theorem dX8_undo_40 : decode cX8_undo 40 = .ok (.getfield 182, 3) := by decide +kernel
theorem dX8_undo_43 : decode cX8_undo 43 = .ok (.imul, 1) := by decide +kernel
theorem dX8_undo_44 : decode cX8_undo 44 = .ok (.iload_n 1, 1) := by decide +kernel
theorem dX8_undo_45 : decode cX8_undo 45 = .ok (.iadd, 1) := by decide +kernel
theorem dX8_undo_46 : decode cX8_undo 46 = .ok (.iaload, 1) := by decide +kernel
theorem dX8_undo_47 : decode cX8_undo 47 = .ok (.iastore, 1) := by decide +kernel
theorem dX8_undo_48 : decode cX8_undo 48 = .ok (.iinc 1 1, 3) := by decide +kernel
theorem dX8_undo_51 : decode cX8_undo 51 = .ok (.goto (-29), 3) := by decide +kernel
theorem dX8_undo_54 : decode cX8_undo 54 = .ok (.aload_n 0, 1) := by decide +kernel
theorem dX8_undo_55 : decode cX8_undo 55 = .ok (.getfield 182, 3) := by decide +kernel
theorem dX8_undo_58 : decode cX8_undo 58 = .ok (.ireturn, 1) := by decide +kernel
theorem dX8_save_0 : decode cX8_save 0 = .ok (.iconst 0, 1) := by decide +kernel
theorem dX8_save_1 : decode cX8_save 1 = .ok (.istore_n 1, 1) := by decide +kernel
theorem dX8_save_2 : decode cX8_save 2 = .ok (.iload_n 1, 1) := by decide +kernel
theorem dX8_save_3 : decode cX8_save 3 = .ok (.bipush 103, 2) := by decide +kernel
theorem dX8_save_5 : decode cX8_save 5 = .ok (.if_icmp .ge 21, 3) := by decide +kernel
theorem dX8_save_8 : decode cX8_save 8 = .ok (.aload_n 0, 1) := by decide +kernel
theorem dX8_save_9 : decode cX8_save 9 = .ok (.getfield 59, 3) := by decide +kernel
theorem dX8_save_12 : decode cX8_save 12 = .ok (.iload_n 1, 1) := by decide +kernel
theorem dX8_save_13 : decode cX8_save 13 = .ok (.aload_n 0, 1) := by decide +kernel
theorem dX8_save_14 : decode cX8_save 14 = .ok (.getfield 25, 3) := by decide +kernel
theorem dX8_save_17 : decode cX8_save 17 = .ok (.iload_n 1, 1) := by decide +kernel
theorem dX8_save_18 : decode cX8_save 18 = .ok (.iaload, 1) := by decide +kernel
theorem dX8_save_19 : decode cX8_save 19 = .ok (.iastore, 1) := by decide +kernel
theorem dX8_save_20 : decode cX8_save 20 = .ok (.iinc 1 1, 3) := by decide +kernel
theorem dX8_save_23 : decode cX8_save 23 = .ok (.goto (-21), 3) := by decide +kernel
theorem dX8_save_26 : decode cX8_save 26 = .ok (.return_, 1) := by decide +kernel
theorem dX8_putBack_0 : decode cX8_putBack 0 = .ok (.iconst 0, 1) := by decide +kernel
theorem dX8_putBack_1 : decode cX8_putBack 1 = .ok (.istore_n 1, 1) := by decide +kernel
theorem dX8_putBack_2 : decode cX8_putBack 2 = .ok (.iload_n 1, 1) := by decide +kernel
theorem dX8_putBack_3 : decode cX8_putBack 3 = .ok (.bipush 103, 2) := by decide +kernel
theorem dX8_putBack_5 : decode cX8_putBack 5 = .ok (.if_icmp .ge 21, 3) := by decide +kernel
theorem dX8_putBack_8 : decode cX8_putBack 8 = .ok (.aload_n 0, 1) := by decide +kernel
theorem dX8_putBack_9 : decode cX8_putBack 9 = .ok (.getfield 25, 3) := by decide +kernel
theorem dX8_putBack_12 : decode cX8_putBack 12 = .ok (.iload_n 1, 1) := by decide +kernel
theorem dX8_putBack_13 : decode cX8_putBack 13 = .ok (.aload_n 0, 1) := by decide +kernel
theorem dX8_putBack_14 : decode cX8_putBack 14 = .ok (.getfield 59, 3) := by decide +kernel
theorem dX8_putBack_17 : decode cX8_putBack 17 = .ok (.iload_n 1, 1) := by decide +kernel
theorem dX8_putBack_18 : decode cX8_putBack 18 = .ok (.iaload, 1) := by decide +kernel
theorem dX8_putBack_19 : decode cX8_putBack 19 = .ok (.iastore, 1) := by decide +kernel
theorem dX8_putBack_20 : decode cX8_putBack 20 = .ok (.iinc 1 1, 3) := by decide +kernel
theorem dX8_putBack_23 : decode cX8_putBack 23 = .ok (.goto (-21), 3) := by decide +kernel
theorem dX8_putBack_26 : decode cX8_putBack 26 = .ok (.return_, 1) := by decide +kernel
theorem dX8_whenDown_0 : decode cX8_whenDown 0 = .ok (.aload_n 0, 1) := by decide +kernel
theorem dX8_whenDown_1 : decode cX8_whenDown 1 = .ok (.getfield 155, 3) := by decide +kernel
theorem dX8_whenDown_4 : decode cX8_whenDown 4 = .ok (.ifCond .eq 13, 3) := by decide +kernel
theorem dX8_whenDown_7 : decode cX8_whenDown 7 = .ok (.aload_n 0, 1) := by decide +kernel
theorem dX8_whenDown_8 : decode cX8_whenDown 8 = .ok (.getfield 25, 3) := by decide +kernel
theorem dX8_whenDown_11 : decode cX8_whenDown 11 = .ok (.iconst 2, 1) := by decide +kernel
theorem dX8_whenDown_12 : decode cX8_whenDown 12 = .ok (.iaload, 1) := by decide +kernel
theorem dX8_whenDown_13 : decode cX8_whenDown 13 = .ok (.iconst 1, 1) := by decide +kernel
theorem dX8_whenDown_14 : decode cX8_whenDown 14 = .ok (.if_icmp .ne 6, 3) := by decide +kernel
theorem dX8_whenDown_17 : decode cX8_whenDown 17 = .ok (.ldc 224, 2) := by decide +kernel
theorem dX8_whenDown_19 : decode cX8_whenDown 19 = .ok (.ireturn, 1) := by decide +kernel
theorem dX8_whenDown_20 : decode cX8_whenDown 20 = .ok (.aload_n 0, 1) := by decide +kernel
theorem dX8_whenDown_21 : decode cX8_whenDown 21 = .ok (.invokevirtual 250, 3) := by decide +kernel
theorem dX8_whenDown_24 : decode cX8_whenDown 24 = .ok (.iconst 0, 1) := by decide +kernel
theorem dX8_whenDown_25 : decode cX8_whenDown 25 = .ok (.istore_n 1, 1) := by decide +kernel
theorem dX8_whenDown_26 : decode cX8_whenDown 26 = .ok (.iload_n 1, 1) := by decide +kernel
theorem dX8_whenDown_27 : decode cX8_whenDown 27 = .ok (.sipush 999, 3) := by decide +kernel
theorem dX8_whenDown_30 : decode cX8_whenDown 30 = .ok (.if_icmp .ge 26, 3) := by decide +kernel
theorem dX8_whenDown_33 : decode cX8_whenDown 33 = .ok (.aload_n 0, 1) := by decide +kernel
theorem dX8_whenDown_34 : decode cX8_whenDown 34 = .ok (.getfield 25, 3) := by decide +kernel
theorem dX8_whenDown_37 : decode cX8_whenDown 37 = .ok (.iconst 2, 1) := by decide +kernel
theorem dX8_whenDown_38 : decode cX8_whenDown 38 = .ok (.iaload, 1) := by decide +kernel
theorem dX8_whenDown_39 : decode cX8_whenDown 39 = .ok (.ifCond .ne 17, 3) := by decide +kernel
theorem dX8_whenDown_42 : decode cX8_whenDown 42 = .ok (.aload_n 0, 1) := by decide +kernel
theorem dX8_whenDown_43 : decode cX8_whenDown 43 = .ok (.aload_n 0, 1) := by decide +kernel
theorem dX8_whenDown_44 : decode cX8_whenDown 44 = .ok (.getfield 161, 3) := by decide +kernel
theorem dX8_whenDown_47 : decode cX8_whenDown 47 = .ok (.invokevirtual 231, 3) := by decide +kernel
theorem dX8_whenDown_50 : decode cX8_whenDown 50 = .ok (.iinc 1 1, 3) := by decide +kernel
theorem dX8_whenDown_53 : decode cX8_whenDown 53 = .ok (.goto (-27), 3) := by decide +kernel
theorem dX8_whenDown_56 : decode cX8_whenDown 56 = .ok (.aload_n 0, 1) := by decide +kernel
theorem dX8_whenDown_57 : decode cX8_whenDown 57 = .ok (.getfield 25, 3) := by decide +kernel
theorem dX8_whenDown_60 : decode cX8_whenDown 60 = .ok (.iconst 2, 1) := by decide +kernel
theorem dX8_whenDown_61 : decode cX8_whenDown 61 = .ok (.iaload, 1) := by decide +kernel
theorem dX8_whenDown_62 : decode cX8_whenDown 62 = .ok (.iconst 1, 1) := by decide +kernel
theorem dX8_whenDown_63 : decode cX8_whenDown 63 = .ok (.if_icmp .ne 14, 3) := by decide +kernel
theorem dX8_whenDown_66 : decode cX8_whenDown 66 = .ok (.aload_n 0, 1) := by decide +kernel
theorem dX8_whenDown_67 : decode cX8_whenDown 67 = .ok (.getfield 25, 3) := by decide +kernel
theorem dX8_whenDown_70 : decode cX8_whenDown 70 = .ok (.iconst 0, 1) := by decide +kernel
theorem dX8_whenDown_71 : decode cX8_whenDown 71 = .ok (.iaload, 1) := by decide +kernel
theorem dX8_whenDown_72 : decode cX8_whenDown 72 = .ok (.iconst 1, 1) := by decide +kernel
theorem dX8_whenDown_73 : decode cX8_whenDown 73 = .ok (.isub, 1) := by decide +kernel
theorem dX8_whenDown_74 : decode cX8_whenDown 74 = .ok (.goto 4, 3) := by decide +kernel
theorem dX8_whenDown_77 : decode cX8_whenDown 77 = .ok (.iconst (-1), 1) := by decide +kernel
theorem dX8_whenDown_78 : decode cX8_whenDown 78 = .ok (.istore_n 1, 1) := by decide +kernel
theorem dX8_whenDown_79 : decode cX8_whenDown 79 = .ok (.aload_n 0, 1) := by decide +kernel
theorem dX8_whenDown_80 : decode cX8_whenDown 80 = .ok (.invokevirtual 253, 3) := by decide +kernel
theorem dX8_whenDown_83 : decode cX8_whenDown 83 = .ok (.iload_n 1, 1) := by decide +kernel
theorem dX8_whenDown_84 : decode cX8_whenDown 84 = .ok (.ireturn, 1) := by decide +kernel
theorem dX8_ahead_0 : decode cX8_ahead 0 = .ok (.iload_n 1, 1) := by decide +kernel
theorem dX8_ahead_1 : decode cX8_ahead 1 = .ok (.i2l, 1) := by decide +kernel
theorem dX8_ahead_2 : decode cX8_ahead 2 = .ok (.lconst 0, 1) := by decide +kernel
theorem dX8_ahead_3 : decode cX8_ahead 3 = .ok (.ldc2_w 256, 3) := by decide +kernel
theorem dX8_ahead_6 : decode cX8_ahead 6 = .ok (.invokestatic 97, 3) := by decide +kernel
theorem dX8_ahead_9 : decode cX8_ahead 9 = .ok (.ifCond .eq 13, 3) := by decide +kernel
theorem dX8_ahead_12 : decode cX8_ahead 12 = .ok (.iload_n 2, 1) := by decide +kernel
theorem dX8_ahead_13 : decode cX8_ahead 13 = .ok (.i2l, 1) := by decide +kernel
theorem dX8_ahead_14 : decode cX8_ahead 14 = .ok (.lconst 0, 1) := by decide +kernel
theorem dX8_ahead_15 : decode cX8_ahead 15 = .ok (.lconst 1, 1) := by decide +kernel
theorem dX8_ahead_16 : decode cX8_ahead 16 = .ok (.invokestatic 97, 3) := by decide +kernel
theorem dX8_ahead_19 : decode cX8_ahead 19 = .ok (.ifCond .ne 6, 3) := by decide +kernel
theorem dX8_ahead_22 : decode cX8_ahead 22 = .ok (.ldc 103, 2) := by decide +kernel
theorem dX8_ahead_24 : decode cX8_ahead 24 = .ok (.ireturn, 1) := by decide +kernel
theorem dX8_ahead_25 : decode cX8_ahead 25 = .ok (.aload_n 0, 1) := by decide +kernel
theorem dX8_ahead_26 : decode cX8_ahead 26 = .ok (.getfield 155, 3) := by decide +kernel
theorem dX8_ahead_29 : decode cX8_ahead 29 = .ok (.ifCond .ne 6, 3) := by decide +kernel
theorem dX8_ahead_32 : decode cX8_ahead 32 = .ok (.ldc 224, 2) := by decide +kernel
theorem dX8_ahead_34 : decode cX8_ahead 34 = .ok (.ireturn, 1) := by decide +kernel
theorem dX8_ahead_35 : decode cX8_ahead 35 = .ok (.aload_n 0, 1) := by decide +kernel
theorem dX8_ahead_36 : decode cX8_ahead 36 = .ok (.invokevirtual 250, 3) := by decide +kernel
theorem dX8_ahead_39 : decode cX8_ahead 39 = .ok (.iconst 0, 1) := by decide +kernel
theorem dX8_ahead_40 : decode cX8_ahead 40 = .ok (.istore_n 3, 1) := by decide +kernel
theorem dX8_ahead_41 : decode cX8_ahead 41 = .ok (.iload_n 3, 1) := by decide +kernel
theorem dX8_ahead_42 : decode cX8_ahead 42 = .ok (.iload_n 1, 1) := by decide +kernel
theorem dX8_ahead_43 : decode cX8_ahead 43 = .ok (.if_icmp .ge 26, 3) := by decide +kernel
theorem dX8_ahead_46 : decode cX8_ahead 46 = .ok (.aload_n 0, 1) := by decide +kernel
theorem dX8_ahead_47 : decode cX8_ahead 47 = .ok (.getfield 25, 3) := by decide +kernel
theorem dX8_ahead_50 : decode cX8_ahead 50 = .ok (.iconst 2, 1) := by decide +kernel
theorem dX8_ahead_51 : decode cX8_ahead 51 = .ok (.iaload, 1) := by decide +kernel
theorem dX8_ahead_52 : decode cX8_ahead 52 = .ok (.ifCond .ne 17, 3) := by decide +kernel
theorem dX8_ahead_55 : decode cX8_ahead 55 = .ok (.aload_n 0, 1) := by decide +kernel
theorem dX8_ahead_56 : decode cX8_ahead 56 = .ok (.aload_n 0, 1) := by decide +kernel
theorem dX8_ahead_57 : decode cX8_ahead 57 = .ok (.getfield 161, 3) := by decide +kernel
theorem dX8_ahead_60 : decode cX8_ahead 60 = .ok (.invokevirtual 231, 3) := by decide +kernel
theorem dX8_ahead_63 : decode cX8_ahead 63 = .ok (.iinc 3 1, 3) := by decide +kernel
theorem dX8_ahead_66 : decode cX8_ahead 66 = .ok (.goto (-25), 3) := by decide +kernel
theorem dX8_ahead_69 : decode cX8_ahead 69 = .ok (.iload_n 2, 1) := by decide +kernel
theorem dX8_ahead_70 : decode cX8_ahead 70 = .ok (.ifCond .ne 19, 3) := by decide +kernel
theorem dX8_ahead_73 : decode cX8_ahead 73 = .ok (.aload_n 0, 1) := by decide +kernel
theorem dX8_ahead_74 : decode cX8_ahead 74 = .ok (.getfield 25, 3) := by decide +kernel
theorem dX8_ahead_77 : decode cX8_ahead 77 = .ok (.iconst 5, 1) := by decide +kernel
theorem dX8_ahead_78 : decode cX8_ahead 78 = .ok (.iaload, 1) := by decide +kernel
theorem dX8_ahead_79 : decode cX8_ahead 79 = .ok (.aload_n 0, 1) := by decide +kernel
theorem dX8_ahead_80 : decode cX8_ahead 80 = .ok (.getfield 59, 3) := by decide +kernel
theorem dX8_ahead_83 : decode cX8_ahead 83 = .ok (.iconst 5, 1) := by decide +kernel
theorem dX8_ahead_84 : decode cX8_ahead 84 = .ok (.iaload, 1) := by decide +kernel
theorem dX8_ahead_85 : decode cX8_ahead 85 = .ok (.isub, 1) := by decide +kernel
theorem dX8_ahead_86 : decode cX8_ahead 86 = .ok (.goto 16, 3) := by decide +kernel
theorem dX8_ahead_89 : decode cX8_ahead 89 = .ok (.aload_n 0, 1) := by decide +kernel
theorem dX8_ahead_90 : decode cX8_ahead 90 = .ok (.getfield 25, 3) := by decide +kernel
theorem dX8_ahead_93 : decode cX8_ahead 93 = .ok (.iconst 4, 1) := by decide +kernel
theorem dX8_ahead_94 : decode cX8_ahead 94 = .ok (.iaload, 1) := by decide +kernel
theorem dX8_ahead_95 : decode cX8_ahead 95 = .ok (.aload_n 0, 1) := by decide +kernel
theorem dX8_ahead_96 : decode cX8_ahead 96 = .ok (.getfield 59, 3) := by decide +kernel
theorem dX8_ahead_99 : decode cX8_ahead 99 = .ok (.iconst 4, 1) := by decide +kernel
theorem dX8_ahead_100 : decode cX8_ahead 100 = .ok (.iaload, 1) := by decide +kernel
theorem dX8_ahead_101 : decode cX8_ahead 101 = .ok (.isub, 1) := by decide +kernel
theorem dX8_ahead_102 : decode cX8_ahead 102 = .ok (.istore_n 3, 1) := by decide +kernel
theorem dX8_ahead_103 : decode cX8_ahead 103 = .ok (.aload_n 0, 1) := by decide +kernel
theorem dX8_ahead_104 : decode cX8_ahead 104 = .ok (.invokevirtual 253, 3) := by decide +kernel
theorem dX8_ahead_107 : decode cX8_ahead 107 = .ok (.iload_n 3, 1) := by decide +kernel
theorem dX8_ahead_108 : decode cX8_ahead 108 = .ok (.ireturn, 1) := by decide +kernel
theorem dX8_common_0 : decode cX8_common 0 = .ok (.iload_n 0, 1) := by decide +kernel
theorem dX8_common_1 : decode cX8_common 1 = .ok (.istore_n 2, 1) := by decide +kernel
theorem dX8_common_2 : decode cX8_common 2 = .ok (.iload_n 1, 1) := by decide +kernel
theorem dX8_common_3 : decode cX8_common 3 = .ok (.istore_n 3, 1) := by decide +kernel
theorem dX8_common_4 : decode cX8_common 4 = .ok (.iload_n 3, 1) := by decide +kernel
theorem dX8_common_5 : decode cX8_common 5 = .ok (.ifCond .le 16, 3) := by decide +kernel
theorem dX8_common_8 : decode cX8_common 8 = .ok (.iload_n 2, 1) := by decide +kernel
theorem dX8_common_9 : decode cX8_common 9 = .ok (.iload_n 3, 1) := by decide +kernel
theorem dX8_common_10 : decode cX8_common 10 = .ok (.irem, 1) := by decide +kernel
theorem dX8_common_11 : decode cX8_common 11 = .ok (.istore 4, 2) := by decide +kernel
theorem dX8_common_13 : decode cX8_common 13 = .ok (.iload_n 3, 1) := by decide +kernel
theorem dX8_common_14 : decode cX8_common 14 = .ok (.istore_n 2, 1) := by decide +kernel
theorem dX8_common_15 : decode cX8_common 15 = .ok (.iload 4, 2) := by decide +kernel
theorem dX8_common_17 : decode cX8_common 17 = .ok (.istore_n 3, 1) := by decide +kernel
theorem dX8_common_18 : decode cX8_common 18 = .ok (.goto (-14), 3) := by decide +kernel
theorem dX8_common_21 : decode cX8_common 21 = .ok (.iload_n 2, 1) := by decide +kernel
theorem dX8_common_22 : decode cX8_common 22 = .ok (.ireturn, 1) := by decide +kernel
theorem dX8_isFree_0 : decode cX8_isFree 0 = .ok (.iconst 1, 1) := by decide +kernel
theorem dX8_isFree_1 : decode cX8_isFree 1 = .ok (.istore_n 3, 1) := by decide +kernel
theorem dX8_isFree_2 : decode cX8_isFree 2 = .ok (.iconst 0, 1) := by decide +kernel
theorem dX8_isFree_3 : decode cX8_isFree 3 = .ok (.istore 4, 2) := by decide +kernel
theorem dX8_isFree_5 : decode cX8_isFree 5 = .ok (.iload 4, 2) := by decide +kernel
theorem dX8_isFree_7 : decode cX8_isFree 7 = .ok (.iload_n 1, 1) := by decide +kernel
theorem dX8_isFree_8 : decode cX8_isFree 8 = .ok (.if_icmp .ge 68, 3) := by decide +kernel
theorem dX8_isFree_11 : decode cX8_isFree 11 = .ok (.aload_n 0, 1) := by decide +kernel
theorem dX8_isFree_12 : decode cX8_isFree 12 = .ok (.getfield 13, 3) := by decide +kernel
theorem dX8_isFree_15 : decode cX8_isFree 15 = .ok (.iload_n 1, 1) := by decide +kernel
theorem dX8_isFree_16 : decode cX8_isFree 16 = .ok (.iaload, 1) := by decide +kernel
theorem dX8_isFree_17 : decode cX8_isFree 17 = .ok (.aload_n 0, 1) := by decide +kernel
theorem dX8_isFree_18 : decode cX8_isFree 18 = .ok (.getfield 13, 3) := by decide +kernel
theorem dX8_isFree_21 : decode cX8_isFree 21 = .ok (.iload 4, 2) := by decide +kernel
theorem dX8_isFree_23 : decode cX8_isFree 23 = .ok (.iaload, 1) := by decide +kernel
theorem dX8_isFree_24 : decode cX8_isFree 24 = .ok (.invokestatic 258, 3) := by decide +kernel
theorem dX8_isFree_27 : decode cX8_isFree 27 = .ok (.istore 5, 2) := by decide +kernel
theorem dX8_isFree_29 : decode cX8_isFree 29 = .ok (.iload_n 3, 1) := by decide +kernel
theorem dX8_isFree_30 : decode cX8_isFree 30 = .ok (.ifCond .eq 38, 3) := by decide +kernel
theorem dX8_isFree_33 : decode cX8_isFree 33 = .ok (.iload_n 2, 1) := by decide +kernel
theorem dX8_isFree_34 : decode cX8_isFree 34 = .ok (.iload 4, 2) := by decide +kernel
theorem dX8_isFree_36 : decode cX8_isFree 36 = .ok (.invokestatic 196, 3) := by decide +kernel
theorem dX8_isFree_39 : decode cX8_isFree 39 = .ok (.ifCond .eq 25, 3) := by decide +kernel
theorem dX8_isFree_42 : decode cX8_isFree 42 = .ok (.aload_n 0, 1) := by decide +kernel
theorem dX8_isFree_43 : decode cX8_isFree 43 = .ok (.getfield 62, 3) := by decide +kernel
theorem dX8_isFree_46 : decode cX8_isFree 46 = .ok (.iload 4, 2) := by decide +kernel
theorem dX8_isFree_48 : decode cX8_isFree 48 = .ok (.iaload, 1) := by decide +kernel
theorem dX8_isFree_49 : decode cX8_isFree 49 = .ok (.iload 5, 2) := by decide +kernel
theorem dX8_isFree_51 : decode cX8_isFree 51 = .ok (.irem, 1) := by decide +kernel
theorem dX8_isFree_52 : decode cX8_isFree 52 = .ok (.aload_n 0, 1) := by decide +kernel
theorem dX8_isFree_53 : decode cX8_isFree 53 = .ok (.getfield 62, 3) := by decide +kernel
theorem dX8_isFree_56 : decode cX8_isFree 56 = .ok (.iload_n 1, 1) := by decide +kernel
theorem dX8_isFree_57 : decode cX8_isFree 57 = .ok (.iaload, 1) := by decide +kernel
theorem dX8_isFree_58 : decode cX8_isFree 58 = .ok (.iload 5, 2) := by decide +kernel
theorem dX8_isFree_60 : decode cX8_isFree 60 = .ok (.irem, 1) := by decide +kernel
theorem dX8_isFree_61 : decode cX8_isFree 61 = .ok (.if_icmp .eq 7, 3) := by decide +kernel
theorem dX8_isFree_64 : decode cX8_isFree 64 = .ok (.iconst 1, 1) := by decide +kernel
theorem dX8_isFree_65 : decode cX8_isFree 65 = .ok (.goto 4, 3) := by decide +kernel
theorem dX8_isFree_68 : decode cX8_isFree 68 = .ok (.iconst 0, 1) := by decide +kernel
theorem dX8_isFree_69 : decode cX8_isFree 69 = .ok (.istore_n 3, 1) := by decide +kernel
theorem dX8_isFree_70 : decode cX8_isFree 70 = .ok (.iinc 4 1, 3) := by decide +kernel
theorem dX8_isFree_73 : decode cX8_isFree 73 = .ok (.goto (-68), 3) := by decide +kernel
theorem dX8_isFree_76 : decode cX8_isFree 76 = .ok (.iload_n 3, 1) := by decide +kernel
theorem dX8_isFree_77 : decode cX8_isFree 77 = .ok (.ireturn, 1) := by decide +kernel
theorem dX8_next_0 : decode cX8_next 0 = .ok (.iload_n 2, 1) := by decide +kernel
theorem dX8_next_1 : decode cX8_next 1 = .ok (.iconst 1, 1) := by decide +kernel
theorem dX8_next_2 : decode cX8_next 2 = .ok (.iadd, 1) := by decide +kernel
theorem dX8_next_3 : decode cX8_next 3 = .ok (.istore_n 3, 1) := by decide +kernel
theorem dX8_next_4 : decode cX8_next 4 = .ok (.iload_n 3, 1) := by decide +kernel
theorem dX8_next_5 : decode cX8_next 5 = .ok (.aload_n 0, 1) := by decide +kernel
theorem dX8_next_6 : decode cX8_next 6 = .ok (.getfield 94, 3) := by decide +kernel
theorem dX8_next_9 : decode cX8_next 9 = .ok (.if_icmp .ge 17, 3) := by decide +kernel
theorem dX8_next_12 : decode cX8_next 12 = .ok (.iload_n 1, 1) := by decide +kernel
theorem dX8_next_13 : decode cX8_next 13 = .ok (.iload_n 3, 1) := by decide +kernel
theorem dX8_next_14 : decode cX8_next 14 = .ok (.invokestatic 196, 3) := by decide +kernel
theorem dX8_next_17 : decode cX8_next 17 = .ok (.ifCond .ne 9, 3) := by decide +kernel
theorem dX8_next_20 : decode cX8_next 20 = .ok (.iinc 3 1, 3) := by decide +kernel
theorem dX8_next_23 : decode cX8_next 23 = .ok (.goto (-19), 3) := by decide +kernel
theorem dX8_next_26 : decode cX8_next 26 = .ok (.iload_n 3, 1) := by decide +kernel
theorem dX8_next_27 : decode cX8_next 27 = .ok (.ireturn, 1) := by decide +kernel
theorem dX8_before_0 : decode cX8_before 0 = .ok (.iload_n 2, 1) := by decide +kernel
theorem dX8_before_1 : decode cX8_before 1 = .ok (.iconst 1, 1) := by decide +kernel
theorem dX8_before_2 : decode cX8_before 2 = .ok (.isub, 1) := by decide +kernel
theorem dX8_before_3 : decode cX8_before 3 = .ok (.istore_n 3, 1) := by decide +kernel
theorem dX8_before_4 : decode cX8_before 4 = .ok (.iload_n 3, 1) := by decide +kernel
theorem dX8_before_5 : decode cX8_before 5 = .ok (.ifCond .lt 17, 3) := by decide +kernel
theorem dX8_before_8 : decode cX8_before 8 = .ok (.iload_n 1, 1) := by decide +kernel
theorem dX8_before_9 : decode cX8_before 9 = .ok (.iload_n 3, 1) := by decide +kernel
theorem dX8_before_10 : decode cX8_before 10 = .ok (.invokestatic 196, 3) := by decide +kernel
theorem dX8_before_13 : decode cX8_before 13 = .ok (.ifCond .ne 9, 3) := by decide +kernel
theorem dX8_before_16 : decode cX8_before 16 = .ok (.iinc 3 (-1), 3) := by decide +kernel
theorem dX8_before_19 : decode cX8_before 19 = .ok (.goto (-15), 3) := by decide +kernel
theorem dX8_before_22 : decode cX8_before 22 = .ok (.iload_n 3, 1) := by decide +kernel
theorem dX8_before_23 : decode cX8_before 23 = .ok (.ireturn, 1) := by decide +kernel
theorem dX8_findCertain_0 : decode cX8_findCertain 0 = .ok (.iconst 0, 1) := by decide +kernel
theorem dX8_findCertain_1 : decode cX8_findCertain 1 = .ok (.istore_n 2, 1) := by decide +kernel
theorem dX8_findCertain_2 : decode cX8_findCertain 2 = .ok (.iconst 0, 1) := by decide +kernel
theorem dX8_findCertain_3 : decode cX8_findCertain 3 = .ok (.istore_n 3, 1) := by decide +kernel
theorem dX8_findCertain_4 : decode cX8_findCertain 4 = .ok (.iload_n 3, 1) := by decide +kernel
theorem dX8_findCertain_5 : decode cX8_findCertain 5 = .ok (.aload_n 0, 1) := by decide +kernel
theorem dX8_findCertain_6 : decode cX8_findCertain 6 = .ok (.getfield 94, 3) := by decide +kernel
theorem dX8_findCertain_9 : decode cX8_findCertain 9 = .ok (.if_icmp .ge 41, 3) := by decide +kernel
theorem dX8_findCertain_12 : decode cX8_findCertain 12 = .ok (.iload_n 2, 1) := by decide +kernel
theorem dX8_findCertain_13 : decode cX8_findCertain 13 = .ok (.iload_n 1, 1) := by decide +kernel
theorem dX8_findCertain_14 : decode cX8_findCertain 14 = .ok (.iload_n 3, 1) := by decide +kernel
theorem dX8_findCertain_15 : decode cX8_findCertain 15 = .ok (.invokestatic 196, 3) := by decide +kernel
theorem dX8_findCertain_18 : decode cX8_findCertain 18 = .ok (.ifCond .eq 16, 3) := by decide +kernel
theorem dX8_findCertain_21 : decode cX8_findCertain 21 = .ok (.sipush 2520, 3) := by decide +kernel
theorem dX8_findCertain_24 : decode cX8_findCertain 24 = .ok (.aload_n 0, 1) := by decide +kernel
theorem dX8_findCertain_25 : decode cX8_findCertain 25 = .ok (.getfield 13, 3) := by decide +kernel
theorem dX8_findCertain_28 : decode cX8_findCertain 28 = .ok (.iload_n 3, 1) := by decide +kernel
theorem dX8_findCertain_29 : decode cX8_findCertain 29 = .ok (.iaload, 1) := by decide +kernel
theorem dX8_findCertain_30 : decode cX8_findCertain 30 = .ok (.idiv, 1) := by decide +kernel
theorem dX8_findCertain_31 : decode cX8_findCertain 31 = .ok (.goto 4, 3) := by decide +kernel
theorem dX8_findCertain_34 : decode cX8_findCertain 34 = .ok (.iconst 0, 1) := by decide +kernel
theorem dX8_findCertain_35 : decode cX8_findCertain 35 = .ok (.iadd, 1) := by decide +kernel
theorem dX8_findCertain_36 : decode cX8_findCertain 36 = .ok (.istore_n 2, 1) := by decide +kernel
theorem dX8_findCertain_37 : decode cX8_findCertain 37 = .ok (.aload_n 0, 1) := by decide +kernel
theorem dX8_findCertain_38 : decode cX8_findCertain 38 = .ok (.getfield 62, 3) := by decide +kernel
theorem dX8_findCertain_41 : decode cX8_findCertain 41 = .ok (.iload_n 3, 1) := by decide +kernel
theorem dX8_findCertain_42 : decode cX8_findCertain 42 = .ok (.iconst (-1), 1) := by decide +kernel
theorem dX8_findCertain_43 : decode cX8_findCertain 43 = .ok (.iastore, 1) := by decide +kernel
theorem dX8_findCertain_44 : decode cX8_findCertain 44 = .ok (.iinc 3 1, 3) := by decide +kernel
theorem dX8_findCertain_47 : decode cX8_findCertain 47 = .ok (.goto (-43), 3) := by decide +kernel
theorem dX8_findCertain_50 : decode cX8_findCertain 50 = .ok (.iload_n 2, 1) := by decide +kernel
theorem dX8_findCertain_51 : decode cX8_findCertain 51 = .ok (.sipush 2520, 3) := by decide +kernel
theorem dX8_findCertain_54 : decode cX8_findCertain 54 = .ok (.if_icmp .eq 5, 3) := by decide +kernel
theorem dX8_findCertain_57 : decode cX8_findCertain 57 = .ok (.iconst 0, 1) := by decide +kernel
theorem dX8_findCertain_58 : decode cX8_findCertain 58 = .ok (.ireturn, 1) := by decide +kernel
theorem dX8_findCertain_59 : decode cX8_findCertain 59 = .ok (.aload_n 0, 1) := by decide +kernel
theorem dX8_findCertain_60 : decode cX8_findCertain 60 = .ok (.iload_n 1, 1) := by decide +kernel
theorem dX8_findCertain_61 : decode cX8_findCertain 61 = .ok (.iconst (-1), 1) := by decide +kernel
theorem dX8_findCertain_62 : decode cX8_findCertain 62 = .ok (.invokevirtual 261, 3) := by decide +kernel
theorem dX8_findCertain_65 : decode cX8_findCertain 65 = .ok (.istore_n 3, 1) := by decide +kernel
theorem dX8_findCertain_66 : decode cX8_findCertain 66 = .ok (.iload_n 3, 1) := by decide +kernel
theorem dX8_findCertain_67 : decode cX8_findCertain 67 = .ok (.i2l, 1) := by decide +kernel
theorem dX8_findCertain_68 : decode cX8_findCertain 68 = .ok (.lconst 0, 1) := by decide +kernel
theorem dX8_findCertain_69 : decode cX8_findCertain 69 = .ok (.aload_n 0, 1) := by decide +kernel
theorem dX8_findCertain_70 : decode cX8_findCertain 70 = .ok (.getfield 94, 3) := by decide +kernel
theorem dX8_findCertain_73 : decode cX8_findCertain 73 = .ok (.iconst 1, 1) := by decide +kernel
theorem dX8_findCertain_74 : decode cX8_findCertain 74 = .ok (.isub, 1) := by decide +kernel
theorem dX8_findCertain_75 : decode cX8_findCertain 75 = .ok (.i2l, 1) := by decide +kernel
theorem dX8_findCertain_76 : decode cX8_findCertain 76 = .ok (.invokestatic 97, 3) := by decide +kernel
theorem dX8_findCertain_79 : decode cX8_findCertain 79 = .ok (.ifCond .eq 64, 3) := by decide +kernel
theorem dX8_findCertain_82 : decode cX8_findCertain 82 = .ok (.aload_n 0, 1) := by decide +kernel
theorem dX8_findCertain_83 : decode cX8_findCertain 83 = .ok (.getfield 62, 3) := by decide +kernel
theorem dX8_findCertain_86 : decode cX8_findCertain 86 = .ok (.iload_n 3, 1) := by decide +kernel
theorem dX8_findCertain_87 : decode cX8_findCertain 87 = .ok (.dup2, 1) := by decide +kernel
theorem dX8_findCertain_88 : decode cX8_findCertain 88 = .ok (.iaload, 1) := by decide +kernel
theorem dX8_findCertain_89 : decode cX8_findCertain 89 = .ok (.iconst 1, 1) := by decide +kernel
theorem dX8_findCertain_90 : decode cX8_findCertain 90 = .ok (.iadd, 1) := by decide +kernel
theorem dX8_findCertain_91 : decode cX8_findCertain 91 = .ok (.iastore, 1) := by decide +kernel
theorem dX8_findCertain_92 : decode cX8_findCertain 92 = .ok (.aload_n 0, 1) := by decide +kernel
theorem dX8_findCertain_93 : decode cX8_findCertain 93 = .ok (.getfield 62, 3) := by decide +kernel
theorem dX8_findCertain_96 : decode cX8_findCertain 96 = .ok (.iload_n 3, 1) := by decide +kernel
theorem dX8_findCertain_97 : decode cX8_findCertain 97 = .ok (.iaload, 1) := by decide +kernel
theorem dX8_findCertain_98 : decode cX8_findCertain 98 = .ok (.aload_n 0, 1) := by decide +kernel
theorem dX8_findCertain_99 : decode cX8_findCertain 99 = .ok (.getfield 13, 3) := by decide +kernel
theorem dX8_findCertain_102 : decode cX8_findCertain 102 = .ok (.iload_n 3, 1) := by decide +kernel
theorem dX8_findCertain_103 : decode cX8_findCertain 103 = .ok (.iaload, 1) := by decide +kernel
theorem dX8_findCertain_104 : decode cX8_findCertain 104 = .ok (.if_icmp .ne 20, 3) := by decide +kernel
theorem dX8_findCertain_107 : decode cX8_findCertain 107 = .ok (.aload_n 0, 1) := by decide +kernel
theorem dX8_findCertain_108 : decode cX8_findCertain 108 = .ok (.getfield 62, 3) := by decide +kernel
theorem dX8_findCertain_111 : decode cX8_findCertain 111 = .ok (.iload_n 3, 1) := by decide +kernel
theorem dX8_findCertain_112 : decode cX8_findCertain 112 = .ok (.iconst (-1), 1) := by decide +kernel
theorem dX8_findCertain_113 : decode cX8_findCertain 113 = .ok (.iastore, 1) := by decide +kernel
theorem dX8_findCertain_114 : decode cX8_findCertain 114 = .ok (.aload_n 0, 1) := by decide +kernel
theorem dX8_findCertain_115 : decode cX8_findCertain 115 = .ok (.iload_n 1, 1) := by decide +kernel
theorem dX8_findCertain_116 : decode cX8_findCertain 116 = .ok (.iload_n 3, 1) := by decide +kernel
theorem dX8_findCertain_117 : decode cX8_findCertain 117 = .ok (.invokevirtual 264, 3) := by decide +kernel
theorem dX8_findCertain_120 : decode cX8_findCertain 120 = .ok (.istore_n 3, 1) := by decide +kernel
theorem dX8_findCertain_121 : decode cX8_findCertain 121 = .ok (.goto (-55), 3) := by decide +kernel
theorem dX8_findCertain_124 : decode cX8_findCertain 124 = .ok (.aload_n 0, 1) := by decide +kernel
theorem dX8_findCertain_125 : decode cX8_findCertain 125 = .ok (.iload_n 3, 1) := by decide +kernel
theorem dX8_findCertain_126 : decode cX8_findCertain 126 = .ok (.iload_n 1, 1) := by decide +kernel
theorem dX8_findCertain_127 : decode cX8_findCertain 127 = .ok (.invokevirtual 267, 3) := by decide +kernel
theorem dX8_findCertain_130 : decode cX8_findCertain 130 = .ok (.ifCond .eq (-64), 3) := by decide +kernel
theorem dX8_findCertain_133 : decode cX8_findCertain 133 = .ok (.aload_n 0, 1) := by decide +kernel
theorem dX8_findCertain_134 : decode cX8_findCertain 134 = .ok (.iload_n 1, 1) := by decide +kernel
theorem dX8_findCertain_135 : decode cX8_findCertain 135 = .ok (.iload_n 3, 1) := by decide +kernel
theorem dX8_findCertain_136 : decode cX8_findCertain 136 = .ok (.invokevirtual 261, 3) := by decide +kernel
theorem dX8_findCertain_139 : decode cX8_findCertain 139 = .ok (.istore_n 3, 1) := by decide +kernel
theorem dX8_findCertain_140 : decode cX8_findCertain 140 = .ok (.goto (-74), 3) := by decide +kernel
end
section
theorem dX8_findCertain_143 : decode cX8_findCertain 143 = .ok (.iload_n 3, 1) := by decide +kernel
theorem dX8_findCertain_144 : decode cX8_findCertain 144 = .ok (.aload_n 0, 1) := by decide +kernel
theorem dX8_findCertain_145 : decode cX8_findCertain 145 = .ok (.getfield 94, 3) := by decide +kernel
theorem dX8_findCertain_148 : decode cX8_findCertain 148 = .ok (.if_icmp .lt 7, 3) := by decide +kernel
theorem dX8_findCertain_151 : decode cX8_findCertain 151 = .ok (.iconst 1, 1) := by decide +kernel
theorem dX8_findCertain_152 : decode cX8_findCertain 152 = .ok (.goto 4, 3) := by decide +kernel
theorem dX8_findCertain_155 : decode cX8_findCertain 155 = .ok (.iconst 0, 1) := by decide +kernel
theorem dX8_findCertain_156 : decode cX8_findCertain 156 = .ok (.ireturn, 1) := by decide +kernel
theorem dX8_certain_0 : decode cX8_certain 0 = .ok (.iload_n 1, 1) := by decide +kernel
theorem dX8_certain_1 : decode cX8_certain 1 = .ok (.i2l, 1) := by decide +kernel
theorem dX8_certain_2 : decode cX8_certain 2 = .ok (.lconst 0, 1) := by decide +kernel
theorem dX8_certain_3 : decode cX8_certain 3 = .ok (.iconst 1, 1) := by decide +kernel
theorem dX8_certain_4 : decode cX8_certain 4 = .ok (.aload_n 0, 1) := by decide +kernel
theorem dX8_certain_5 : decode cX8_certain 5 = .ok (.getfield 94, 3) := by decide +kernel
theorem dX8_certain_8 : decode cX8_certain 8 = .ok (.ishl, 1) := by decide +kernel
theorem dX8_certain_9 : decode cX8_certain 9 = .ok (.iconst 1, 1) := by decide +kernel
theorem dX8_certain_10 : decode cX8_certain 10 = .ok (.isub, 1) := by decide +kernel
theorem dX8_certain_11 : decode cX8_certain 11 = .ok (.i2l, 1) := by decide +kernel
theorem dX8_certain_12 : decode cX8_certain 12 = .ok (.invokestatic 97, 3) := by decide +kernel
theorem dX8_certain_15 : decode cX8_certain 15 = .ok (.ifCond .eq 11, 3) := by decide +kernel
theorem dX8_certain_18 : decode cX8_certain 18 = .ok (.aload_n 0, 1) := by decide +kernel
theorem dX8_certain_19 : decode cX8_certain 19 = .ok (.iload_n 2, 1) := by decide +kernel
theorem dX8_certain_20 : decode cX8_certain 20 = .ok (.invokevirtual 185, 3) := by decide +kernel
theorem dX8_certain_23 : decode cX8_certain 23 = .ok (.ifCond .ne 6, 3) := by decide +kernel
theorem dX8_certain_26 : decode cX8_certain 26 = .ok (.ldc 189, 2) := by decide +kernel
theorem dX8_certain_28 : decode cX8_certain 28 = .ok (.ireturn, 1) := by decide +kernel
theorem dX8_certain_29 : decode cX8_certain 29 = .ok (.iload_n 1, 1) := by decide +kernel
theorem dX8_certain_30 : decode cX8_certain 30 = .ok (.iload_n 2, 1) := by decide +kernel
theorem dX8_certain_31 : decode cX8_certain 31 = .ok (.invokestatic 196, 3) := by decide +kernel
theorem dX8_certain_34 : decode cX8_certain 34 = .ok (.ifCond .eq 20, 3) := by decide +kernel
theorem dX8_certain_37 : decode cX8_certain 37 = .ok (.aload_n 0, 1) := by decide +kernel
theorem dX8_certain_38 : decode cX8_certain 38 = .ok (.iload_n 1, 1) := by decide +kernel
theorem dX8_certain_39 : decode cX8_certain 39 = .ok (.invokevirtual 270, 3) := by decide +kernel
theorem dX8_certain_42 : decode cX8_certain 42 = .ok (.ifCond .eq 12, 3) := by decide +kernel
theorem dX8_certain_45 : decode cX8_certain 45 = .ok (.aload_n 0, 1) := by decide +kernel
theorem dX8_certain_46 : decode cX8_certain 46 = .ok (.getfield 62, 3) := by decide +kernel
theorem dX8_certain_49 : decode cX8_certain 49 = .ok (.iload_n 2, 1) := by decide +kernel
theorem dX8_certain_50 : decode cX8_certain 50 = .ok (.iaload, 1) := by decide +kernel
theorem dX8_certain_51 : decode cX8_certain 51 = .ok (.goto 4, 3) := by decide +kernel
theorem dX8_certain_54 : decode cX8_certain 54 = .ok (.iconst (-1), 1) := by decide +kernel
theorem dX8_certain_55 : decode cX8_certain 55 = .ok (.ireturn, 1) := by decide +kernel
theorem dX8_away_0 : decode cX8_away 0 = .ok (.iload_n 1, 1) := by decide +kernel
theorem dX8_away_1 : decode cX8_away 1 = .ok (.i2l, 1) := by decide +kernel
theorem dX8_away_2 : decode cX8_away 2 = .ok (.lconst 1, 1) := by decide +kernel
theorem dX8_away_3 : decode cX8_away 3 = .ok (.ldc2_w 273, 3) := by decide +kernel
theorem dX8_away_6 : decode cX8_away 6 = .ok (.invokestatic 97, 3) := by decide +kernel
theorem dX8_away_9 : decode cX8_away 9 = .ok (.ifCond .ne 6, 3) := by decide +kernel
theorem dX8_away_12 : decode cX8_away 12 = .ok (.ldc 103, 2) := by decide +kernel
theorem dX8_away_14 : decode cX8_away 14 = .ok (.ireturn, 1) := by decide +kernel
theorem dX8_away_15 : decode cX8_away 15 = .ok (.aload_n 0, 1) := by decide +kernel
theorem dX8_away_16 : decode cX8_away 16 = .ok (.getfield 155, 3) := by decide +kernel
theorem dX8_away_19 : decode cX8_away 19 = .ok (.ifCond .ne 6, 3) := by decide +kernel
theorem dX8_away_22 : decode cX8_away 22 = .ok (.ldc 224, 2) := by decide +kernel
theorem dX8_away_24 : decode cX8_away 24 = .ok (.ireturn, 1) := by decide +kernel
theorem dX8_away_25 : decode cX8_away 25 = .ok (.aload_n 0, 1) := by decide +kernel
theorem dX8_away_26 : decode cX8_away 26 = .ok (.invokevirtual 250, 3) := by decide +kernel
theorem dX8_away_29 : decode cX8_away 29 = .ok (.iconst (-1), 1) := by decide +kernel
theorem dX8_away_30 : decode cX8_away 30 = .ok (.istore_n 2, 1) := by decide +kernel
theorem dX8_away_31 : decode cX8_away 31 = .ok (.iconst 0, 1) := by decide +kernel
theorem dX8_away_32 : decode cX8_away 32 = .ok (.istore_n 3, 1) := by decide +kernel
theorem dX8_away_33 : decode cX8_away 33 = .ok (.iload_n 3, 1) := by decide +kernel
theorem dX8_away_34 : decode cX8_away 34 = .ok (.iconst 1, 1) := by decide +kernel
theorem dX8_away_35 : decode cX8_away 35 = .ok (.aload_n 0, 1) := by decide +kernel
theorem dX8_away_36 : decode cX8_away 36 = .ok (.getfield 94, 3) := by decide +kernel
theorem dX8_away_39 : decode cX8_away 39 = .ok (.ishl, 1) := by decide +kernel
theorem dX8_away_40 : decode cX8_away 40 = .ok (.if_icmp .ge 126, 3) := by decide +kernel
theorem dX8_away_43 : decode cX8_away 43 = .ok (.iload_n 3, 1) := by decide +kernel
theorem dX8_away_44 : decode cX8_away 44 = .ok (.aload_n 0, 1) := by decide +kernel
theorem dX8_away_45 : decode cX8_away 45 = .ok (.getfield 59, 3) := by decide +kernel
theorem dX8_away_48 : decode cX8_away 48 = .ok (.bipush 8, 2) := by decide +kernel
theorem dX8_away_50 : decode cX8_away 50 = .ok (.iaload, 1) := by decide +kernel
theorem dX8_away_51 : decode cX8_away 51 = .ok (.iand, 1) := by decide +kernel
theorem dX8_away_52 : decode cX8_away 52 = .ok (.ifCond .ne 108, 3) := by decide +kernel
theorem dX8_away_55 : decode cX8_away 55 = .ok (.iload_n 2, 1) := by decide +kernel
theorem dX8_away_56 : decode cX8_away 56 = .ok (.ifCond .lt 14, 3) := by decide +kernel
theorem dX8_away_59 : decode cX8_away 59 = .ok (.iload_n 3, 1) := by decide +kernel
theorem dX8_away_60 : decode cX8_away 60 = .ok (.invokestatic 216, 3) := by decide +kernel
theorem dX8_away_63 : decode cX8_away 63 = .ok (.iload_n 2, 1) := by decide +kernel
theorem dX8_away_64 : decode cX8_away 64 = .ok (.invokestatic 216, 3) := by decide +kernel
theorem dX8_away_67 : decode cX8_away 67 = .ok (.if_icmp .ge 93, 3) := by decide +kernel
theorem dX8_away_70 : decode cX8_away 70 = .ok (.aload_n 0, 1) := by decide +kernel
theorem dX8_away_71 : decode cX8_away 71 = .ok (.getfield 25, 3) := by decide +kernel
theorem dX8_away_74 : decode cX8_away 74 = .ok (.bipush 8, 2) := by decide +kernel
theorem dX8_away_76 : decode cX8_away 76 = .ok (.aload_n 0, 1) := by decide +kernel
theorem dX8_away_77 : decode cX8_away 77 = .ok (.getfield 59, 3) := by decide +kernel
theorem dX8_away_80 : decode cX8_away 80 = .ok (.bipush 8, 2) := by decide +kernel
theorem dX8_away_82 : decode cX8_away 82 = .ok (.iaload, 1) := by decide +kernel
theorem dX8_away_83 : decode cX8_away 83 = .ok (.iload_n 3, 1) := by decide +kernel
theorem dX8_away_84 : decode cX8_away 84 = .ok (.ior, 1) := by decide +kernel
theorem dX8_away_85 : decode cX8_away 85 = .ok (.iastore, 1) := by decide +kernel
theorem dX8_away_86 : decode cX8_away 86 = .ok (.iconst 0, 1) := by decide +kernel
theorem dX8_away_87 : decode cX8_away 87 = .ok (.istore 4, 2) := by decide +kernel
theorem dX8_away_89 : decode cX8_away 89 = .ok (.iload 4, 2) := by decide +kernel
theorem dX8_away_91 : decode cX8_away 91 = .ok (.iload_n 1, 1) := by decide +kernel
theorem dX8_away_92 : decode cX8_away 92 = .ok (.if_icmp .ge 26, 3) := by decide +kernel
theorem dX8_away_95 : decode cX8_away 95 = .ok (.aload_n 0, 1) := by decide +kernel
theorem dX8_away_96 : decode cX8_away 96 = .ok (.getfield 25, 3) := by decide +kernel
theorem dX8_away_99 : decode cX8_away 99 = .ok (.iconst 2, 1) := by decide +kernel
theorem dX8_away_100 : decode cX8_away 100 = .ok (.iaload, 1) := by decide +kernel
theorem dX8_away_101 : decode cX8_away 101 = .ok (.ifCond .ne 17, 3) := by decide +kernel
theorem dX8_away_104 : decode cX8_away 104 = .ok (.aload_n 0, 1) := by decide +kernel
theorem dX8_away_105 : decode cX8_away 105 = .ok (.aload_n 0, 1) := by decide +kernel
theorem dX8_away_106 : decode cX8_away 106 = .ok (.getfield 161, 3) := by decide +kernel
theorem dX8_away_109 : decode cX8_away 109 = .ok (.invokevirtual 231, 3) := by decide +kernel
theorem dX8_away_112 : decode cX8_away 112 = .ok (.iinc 4 1, 3) := by decide +kernel
theorem dX8_away_115 : decode cX8_away 115 = .ok (.goto (-26), 3) := by decide +kernel
theorem dX8_away_118 : decode cX8_away 118 = .ok (.aload_n 0, 1) := by decide +kernel
theorem dX8_away_119 : decode cX8_away 119 = .ok (.getfield 25, 3) := by decide +kernel
theorem dX8_away_122 : decode cX8_away 122 = .ok (.iconst 4, 1) := by decide +kernel
theorem dX8_away_123 : decode cX8_away 123 = .ok (.iaload, 1) := by decide +kernel
theorem dX8_away_124 : decode cX8_away 124 = .ok (.aload_n 0, 1) := by decide +kernel
theorem dX8_away_125 : decode cX8_away 125 = .ok (.getfield 59, 3) := by decide +kernel
theorem dX8_away_128 : decode cX8_away 128 = .ok (.iconst 4, 1) := by decide +kernel
theorem dX8_away_129 : decode cX8_away 129 = .ok (.iaload, 1) := by decide +kernel
theorem dX8_away_130 : decode cX8_away 130 = .ok (.if_icmp .ne 24, 3) := by decide +kernel
theorem dX8_away_133 : decode cX8_away 133 = .ok (.aload_n 0, 1) := by decide +kernel
theorem dX8_away_134 : decode cX8_away 134 = .ok (.getfield 25, 3) := by decide +kernel
theorem dX8_away_137 : decode cX8_away 137 = .ok (.bipush 7, 2) := by decide +kernel
theorem dX8_away_139 : decode cX8_away 139 = .ok (.iaload, 1) := by decide +kernel
theorem dX8_away_140 : decode cX8_away 140 = .ok (.aload_n 0, 1) := by decide +kernel
theorem dX8_away_141 : decode cX8_away 141 = .ok (.getfield 59, 3) := by decide +kernel
theorem dX8_away_144 : decode cX8_away 144 = .ok (.bipush 7, 2) := by decide +kernel
theorem dX8_away_146 : decode cX8_away 146 = .ok (.iaload, 1) := by decide +kernel
theorem dX8_away_147 : decode cX8_away 147 = .ok (.if_icmp .ne 7, 3) := by decide +kernel
theorem dX8_away_150 : decode cX8_away 150 = .ok (.iload_n 3, 1) := by decide +kernel
theorem dX8_away_151 : decode cX8_away 151 = .ok (.goto 4, 3) := by decide +kernel
theorem dX8_away_154 : decode cX8_away 154 = .ok (.iload_n 2, 1) := by decide +kernel
theorem dX8_away_155 : decode cX8_away 155 = .ok (.istore_n 2, 1) := by decide +kernel
theorem dX8_away_156 : decode cX8_away 156 = .ok (.aload_n 0, 1) := by decide +kernel
theorem dX8_away_157 : decode cX8_away 157 = .ok (.invokevirtual 253, 3) := by decide +kernel
theorem dX8_away_160 : decode cX8_away 160 = .ok (.iinc 3 1, 3) := by decide +kernel
theorem dX8_away_163 : decode cX8_away 163 = .ok (.goto (-130), 3) := by decide +kernel
theorem dX8_away_166 : decode cX8_away 166 = .ok (.iload_n 2, 1) := by decide +kernel
theorem dX8_away_167 : decode cX8_away 167 = .ok (.ireturn, 1) := by decide +kernel
theorem dX8_smoke_0 : decode cX8_smoke 0 = .ok (.aload_n 0, 1) := by decide +kernel
theorem dX8_smoke_1 : decode cX8_smoke 1 = .ok (.iload_n 1, 1) := by decide +kernel
theorem dX8_smoke_2 : decode cX8_smoke 2 = .ok (.invokevirtual 185, 3) := by decide +kernel
theorem dX8_smoke_5 : decode cX8_smoke 5 = .ok (.ifCond .ne 6, 3) := by decide +kernel
theorem dX8_smoke_8 : decode cX8_smoke 8 = .ok (.ldc 189, 2) := by decide +kernel
theorem dX8_smoke_10 : decode cX8_smoke 10 = .ok (.ireturn, 1) := by decide +kernel
theorem dX8_smoke_11 : decode cX8_smoke 11 = .ok (.iload_n 2, 1) := by decide +kernel
theorem dX8_smoke_12 : decode cX8_smoke 12 = .ok (.i2l, 1) := by decide +kernel
theorem dX8_smoke_13 : decode cX8_smoke 13 = .ok (.lconst 0, 1) := by decide +kernel
theorem dX8_smoke_14 : decode cX8_smoke 14 = .ok (.ldc2_w 275, 3) := by decide +kernel
theorem dX8_smoke_17 : decode cX8_smoke 17 = .ok (.invokestatic 97, 3) := by decide +kernel
theorem dX8_smoke_20 : decode cX8_smoke 20 = .ok (.ifCond .ne 6, 3) := by decide +kernel
theorem dX8_smoke_23 : decode cX8_smoke 23 = .ok (.ldc 103, 2) := by decide +kernel
theorem dX8_smoke_25 : decode cX8_smoke 25 = .ok (.ireturn, 1) := by decide +kernel
theorem dX8_smoke_26 : decode cX8_smoke 26 = .ok (.aload_n 0, 1) := by decide +kernel
theorem dX8_smoke_27 : decode cX8_smoke 27 = .ok (.iload_n 2, 1) := by decide +kernel
theorem dX8_smoke_28 : decode cX8_smoke 28 = .ok (.invokevirtual 204, 3) := by decide +kernel
theorem dX8_smoke_31 : decode cX8_smoke 31 = .ok (.iconst 1, 1) := by decide +kernel
theorem dX8_smoke_32 : decode cX8_smoke 32 = .ok (.iload_n 1, 1) := by decide +kernel
theorem dX8_smoke_33 : decode cX8_smoke 33 = .ok (.ishl, 1) := by decide +kernel
theorem dX8_smoke_34 : decode cX8_smoke 34 = .ok (.iconst (-1), 1) := by decide +kernel
theorem dX8_smoke_35 : decode cX8_smoke 35 = .ok (.ixor, 1) := by decide +kernel
theorem dX8_smoke_36 : decode cX8_smoke 36 = .ok (.iand, 1) := by decide +kernel
theorem dX8_smoke_37 : decode cX8_smoke 37 = .ok (.ifCond .ne 7, 3) := by decide +kernel
theorem dX8_smoke_40 : decode cX8_smoke 40 = .ok (.iconst 1, 1) := by decide +kernel
theorem dX8_smoke_41 : decode cX8_smoke 41 = .ok (.goto 4, 3) := by decide +kernel
theorem dX8_smoke_44 : decode cX8_smoke 44 = .ok (.iconst 0, 1) := by decide +kernel
theorem dX8_smoke_45 : decode cX8_smoke 45 = .ok (.ireturn, 1) := by decide +kernel
theorem dX8_inn_0 : decode cX8_inn 0 = .ok (.iload_n 1, 1) := by decide +kernel
theorem dX8_inn_1 : decode cX8_inn 1 = .ok (.i2l, 1) := by decide +kernel
theorem dX8_inn_2 : decode cX8_inn 2 = .ok (.lconst 1, 1) := by decide +kernel
theorem dX8_inn_3 : decode cX8_inn 3 = .ok (.ldc2_w 256, 3) := by decide +kernel
theorem dX8_inn_6 : decode cX8_inn 6 = .ok (.invokestatic 97, 3) := by decide +kernel
theorem dX8_inn_9 : decode cX8_inn 9 = .ok (.ifCond .ne 6, 3) := by decide +kernel
theorem dX8_inn_12 : decode cX8_inn 12 = .ok (.ldc 103, 2) := by decide +kernel
theorem dX8_inn_14 : decode cX8_inn 14 = .ok (.ireturn, 1) := by decide +kernel
theorem dX8_inn_15 : decode cX8_inn 15 = .ok (.aload_n 0, 1) := by decide +kernel
theorem dX8_inn_16 : decode cX8_inn 16 = .ok (.getfield 155, 3) := by decide +kernel
theorem dX8_inn_19 : decode cX8_inn 19 = .ok (.ifCond .ne 6, 3) := by decide +kernel
theorem dX8_inn_22 : decode cX8_inn 22 = .ok (.ldc 224, 2) := by decide +kernel
theorem dX8_inn_24 : decode cX8_inn 24 = .ok (.ireturn, 1) := by decide +kernel
theorem dX8_inn_25 : decode cX8_inn 25 = .ok (.aload_n 0, 1) := by decide +kernel
theorem dX8_inn_26 : decode cX8_inn 26 = .ok (.invokevirtual 250, 3) := by decide +kernel
theorem dX8_inn_29 : decode cX8_inn 29 = .ok (.iconst (-1), 1) := by decide +kernel
theorem dX8_inn_30 : decode cX8_inn 30 = .ok (.istore_n 2, 1) := by decide +kernel
theorem dX8_inn_31 : decode cX8_inn 31 = .ok (.bipush 9, 2) := by decide +kernel
theorem dX8_inn_33 : decode cX8_inn 33 = .ok (.istore_n 3, 1) := by decide +kernel
theorem dX8_inn_34 : decode cX8_inn 34 = .ok (.iload_n 3, 1) := by decide +kernel
theorem dX8_inn_35 : decode cX8_inn 35 = .ok (.ifCond .lt 95, 3) := by decide +kernel
theorem dX8_inn_38 : decode cX8_inn 38 = .ok (.iconst 0, 1) := by decide +kernel
theorem dX8_inn_39 : decode cX8_inn 39 = .ok (.istore 4, 2) := by decide +kernel
theorem dX8_inn_41 : decode cX8_inn 41 = .ok (.iload 4, 2) := by decide +kernel
theorem dX8_inn_43 : decode cX8_inn 43 = .ok (.iload_n 1, 1) := by decide +kernel
theorem dX8_inn_44 : decode cX8_inn 44 = .ok (.if_icmp .ge 23, 3) := by decide +kernel
theorem dX8_inn_47 : decode cX8_inn 47 = .ok (.aload_n 0, 1) := by decide +kernel
theorem dX8_inn_48 : decode cX8_inn 48 = .ok (.getfield 25, 3) := by decide +kernel
theorem dX8_inn_51 : decode cX8_inn 51 = .ok (.iconst 2, 1) := by decide +kernel
theorem dX8_inn_52 : decode cX8_inn 52 = .ok (.iaload, 1) := by decide +kernel
theorem dX8_inn_53 : decode cX8_inn 53 = .ok (.ifCond .ne 14, 3) := by decide +kernel
theorem dX8_inn_56 : decode cX8_inn 56 = .ok (.aload_n 0, 1) := by decide +kernel
theorem dX8_inn_57 : decode cX8_inn 57 = .ok (.iload_n 3, 1) := by decide +kernel
theorem dX8_inn_58 : decode cX8_inn 58 = .ok (.invokevirtual 231, 3) := by decide +kernel
theorem dX8_inn_61 : decode cX8_inn 61 = .ok (.iinc 4 1, 3) := by decide +kernel
theorem dX8_inn_64 : decode cX8_inn 64 = .ok (.goto (-23), 3) := by decide +kernel
theorem dX8_inn_67 : decode cX8_inn 67 = .ok (.aload_n 0, 1) := by decide +kernel
theorem dX8_inn_68 : decode cX8_inn 68 = .ok (.getfield 25, 3) := by decide +kernel
theorem dX8_inn_71 : decode cX8_inn 71 = .ok (.iconst 4, 1) := by decide +kernel
theorem dX8_inn_72 : decode cX8_inn 72 = .ok (.iaload, 1) := by decide +kernel
theorem dX8_inn_73 : decode cX8_inn 73 = .ok (.aload_n 0, 1) := by decide +kernel
theorem dX8_inn_74 : decode cX8_inn 74 = .ok (.getfield 59, 3) := by decide +kernel
theorem dX8_inn_77 : decode cX8_inn 77 = .ok (.iconst 4, 1) := by decide +kernel
theorem dX8_inn_78 : decode cX8_inn 78 = .ok (.iaload, 1) := by decide +kernel
theorem dX8_inn_79 : decode cX8_inn 79 = .ok (.if_icmp .ne 39, 3) := by decide +kernel
theorem dX8_inn_82 : decode cX8_inn 82 = .ok (.aload_n 0, 1) := by decide +kernel
theorem dX8_inn_83 : decode cX8_inn 83 = .ok (.getfield 25, 3) := by decide +kernel
theorem dX8_inn_86 : decode cX8_inn 86 = .ok (.iconst 5, 1) := by decide +kernel
theorem dX8_inn_87 : decode cX8_inn 87 = .ok (.iaload, 1) := by decide +kernel
theorem dX8_inn_88 : decode cX8_inn 88 = .ok (.aload_n 0, 1) := by decide +kernel
theorem dX8_inn_89 : decode cX8_inn 89 = .ok (.getfield 59, 3) := by decide +kernel
theorem dX8_inn_92 : decode cX8_inn 92 = .ok (.iconst 5, 1) := by decide +kernel
theorem dX8_inn_93 : decode cX8_inn 93 = .ok (.iaload, 1) := by decide +kernel
theorem dX8_inn_94 : decode cX8_inn 94 = .ok (.if_icmp .ne 24, 3) := by decide +kernel
theorem dX8_inn_97 : decode cX8_inn 97 = .ok (.aload_n 0, 1) := by decide +kernel
theorem dX8_inn_98 : decode cX8_inn 98 = .ok (.getfield 25, 3) := by decide +kernel
theorem dX8_inn_101 : decode cX8_inn 101 = .ok (.bipush 7, 2) := by decide +kernel
theorem dX8_inn_103 : decode cX8_inn 103 = .ok (.iaload, 1) := by decide +kernel
theorem dX8_inn_104 : decode cX8_inn 104 = .ok (.aload_n 0, 1) := by decide +kernel
theorem dX8_inn_105 : decode cX8_inn 105 = .ok (.getfield 59, 3) := by decide +kernel
theorem dX8_inn_108 : decode cX8_inn 108 = .ok (.bipush 7, 2) := by decide +kernel
theorem dX8_inn_110 : decode cX8_inn 110 = .ok (.iaload, 1) := by decide +kernel
theorem dX8_inn_111 : decode cX8_inn 111 = .ok (.if_icmp .ne 7, 3) := by decide +kernel
theorem dX8_inn_114 : decode cX8_inn 114 = .ok (.iload_n 3, 1) := by decide +kernel
theorem dX8_inn_115 : decode cX8_inn 115 = .ok (.goto 4, 3) := by decide +kernel
theorem dX8_inn_118 : decode cX8_inn 118 = .ok (.iload_n 2, 1) := by decide +kernel
theorem dX8_inn_119 : decode cX8_inn 119 = .ok (.istore_n 2, 1) := by decide +kernel
theorem dX8_inn_120 : decode cX8_inn 120 = .ok (.aload_n 0, 1) := by decide +kernel
theorem dX8_inn_121 : decode cX8_inn 121 = .ok (.invokevirtual 253, 3) := by decide +kernel
theorem dX8_inn_124 : decode cX8_inn 124 = .ok (.iinc 3 (-1), 3) := by decide +kernel
theorem dX8_inn_127 : decode cX8_inn 127 = .ok (.goto (-93), 3) := by decide +kernel
theorem dX8_inn_130 : decode cX8_inn 130 = .ok (.iload_n 2, 1) := by decide +kernel
theorem dX8_inn_131 : decode cX8_inn 131 = .ok (.ireturn, 1) := by decide +kernel
theorem dX8_mayGo_0 : decode cX8_mayGo 0 = .ok (.aload_n 0, 1) := by decide +kernel
theorem dX8_mayGo_1 : decode cX8_mayGo 1 = .ok (.getfield 7, 3) := by decide +kernel
theorem dX8_mayGo_4 : decode cX8_mayGo 4 = .ok (.iload_n 1, 1) := by decide +kernel
theorem dX8_mayGo_5 : decode cX8_mayGo 5 = .ok (.iaload, 1) := by decide +kernel
theorem dX8_mayGo_6 : decode cX8_mayGo 6 = .ok (.ifCond .eq 11, 3) := by decide +kernel
theorem dX8_mayGo_9 : decode cX8_mayGo 9 = .ok (.aload_n 0, 1) := by decide +kernel
theorem dX8_mayGo_10 : decode cX8_mayGo 10 = .ok (.iload_n 2, 1) := by decide +kernel
theorem dX8_mayGo_11 : decode cX8_mayGo 11 = .ok (.invokevirtual 193, 3) := by decide +kernel
theorem dX8_mayGo_14 : decode cX8_mayGo 14 = .ok (.ifCond .ne 7, 3) := by decide +kernel
theorem dX8_mayGo_17 : decode cX8_mayGo 17 = .ok (.iconst 1, 1) := by decide +kernel
theorem dX8_mayGo_18 : decode cX8_mayGo 18 = .ok (.goto 4, 3) := by decide +kernel
theorem dX8_mayGo_21 : decode cX8_mayGo 21 = .ok (.iconst 0, 1) := by decide +kernel
theorem dX8_mayGo_22 : decode cX8_mayGo 22 = .ok (.ireturn, 1) := by decide +kernel
theorem dX8_findLow_0 : decode cX8_findLow 0 = .ok (.iconst 0, 1) := by decide +kernel
theorem dX8_findLow_1 : decode cX8_findLow 1 = .ok (.istore_n 2, 1) := by decide +kernel
theorem dX8_findLow_2 : decode cX8_findLow 2 = .ok (.iload_n 2, 1) := by decide +kernel
theorem dX8_findLow_3 : decode cX8_findLow 3 = .ok (.sipush 6561, 3) := by decide +kernel
theorem dX8_findLow_6 : decode cX8_findLow 6 = .ok (.if_icmp .ge 22, 3) := by decide +kernel
theorem dX8_findLow_9 : decode cX8_findLow 9 = .ok (.aload_n 0, 1) := by decide +kernel
theorem dX8_findLow_10 : decode cX8_findLow 10 = .ok (.getfield 66, 3) := by decide +kernel
theorem dX8_findLow_13 : decode cX8_findLow 13 = .ok (.sipush 6561, 3) := by decide +kernel
theorem dX8_findLow_16 : decode cX8_findLow 16 = .ok (.iload_n 1, 1) := by decide +kernel
theorem dX8_findLow_17 : decode cX8_findLow 17 = .ok (.imul, 1) := by decide +kernel
theorem dX8_findLow_18 : decode cX8_findLow 18 = .ok (.iload_n 2, 1) := by decide +kernel
theorem dX8_findLow_19 : decode cX8_findLow 19 = .ok (.iadd, 1) := by decide +kernel
theorem dX8_findLow_20 : decode cX8_findLow 20 = .ok (.iconst 0, 1) := by decide +kernel
theorem dX8_findLow_21 : decode cX8_findLow 21 = .ok (.iastore, 1) := by decide +kernel
theorem dX8_findLow_22 : decode cX8_findLow 22 = .ok (.iinc 2 1, 3) := by decide +kernel
theorem dX8_findLow_25 : decode cX8_findLow 25 = .ok (.goto (-23), 3) := by decide +kernel
theorem dX8_findLow_28 : decode cX8_findLow 28 = .ok (.iload_n 1, 1) := by decide +kernel
theorem dX8_findLow_29 : decode cX8_findLow 29 = .ok (.iconst 1, 1) := by decide +kernel
theorem dX8_findLow_30 : decode cX8_findLow 30 = .ok (.isub, 1) := by decide +kernel
theorem dX8_findLow_31 : decode cX8_findLow 31 = .ok (.istore_n 2, 1) := by decide +kernel
theorem dX8_findLow_32 : decode cX8_findLow 32 = .ok (.iload_n 2, 1) := by decide +kernel
theorem dX8_findLow_33 : decode cX8_findLow 33 = .ok (.ifCond .lt 230, 3) := by decide +kernel
theorem dX8_findLow_36 : decode cX8_findLow 36 = .ok (.iconst 0, 1) := by decide +kernel
theorem dX8_findLow_37 : decode cX8_findLow 37 = .ok (.istore_n 3, 1) := by decide +kernel
theorem dX8_findLow_38 : decode cX8_findLow 38 = .ok (.iload_n 3, 1) := by decide +kernel
theorem dX8_findLow_39 : decode cX8_findLow 39 = .ok (.sipush 6561, 3) := by decide +kernel
theorem dX8_findLow_42 : decode cX8_findLow 42 = .ok (.if_icmp .ge 215, 3) := by decide +kernel
theorem dX8_findLow_45 : decode cX8_findLow 45 = .ok (.ldc_w 277, 3) := by decide +kernel
theorem dX8_findLow_48 : decode cX8_findLow 48 = .ok (.istore 4, 2) := by decide +kernel
theorem dX8_findLow_50 : decode cX8_findLow 50 = .ok (.iconst 0, 1) := by decide +kernel
theorem dX8_findLow_51 : decode cX8_findLow 51 = .ok (.istore 5, 2) := by decide +kernel
theorem dX8_findLow_53 : decode cX8_findLow 53 = .ok (.iload 5, 2) := by decide +kernel
theorem dX8_findLow_55 : decode cX8_findLow 55 = .ok (.aload_n 0, 1) := by decide +kernel
theorem dX8_findLow_56 : decode cX8_findLow 56 = .ok (.getfield 94, 3) := by decide +kernel
theorem dX8_findLow_59 : decode cX8_findLow 59 = .ok (.if_icmp .ge 164, 3) := by decide +kernel
theorem dX8_findLow_62 : decode cX8_findLow 62 = .ok (.aload_n 0, 1) := by decide +kernel
theorem dX8_findLow_63 : decode cX8_findLow 63 = .ok (.getfield 158, 3) := by decide +kernel
theorem dX8_findLow_66 : decode cX8_findLow 66 = .ok (.ifCond .le 12, 3) := by decide +kernel
theorem dX8_findLow_69 : decode cX8_findLow 69 = .ok (.iload_n 3, 1) := by decide +kernel
theorem dX8_findLow_70 : decode cX8_findLow 70 = .ok (.bipush 9, 2) := by decide +kernel
theorem dX8_findLow_72 : decode cX8_findLow 72 = .ok (.irem, 1) := by decide +kernel
theorem dX8_findLow_73 : decode cX8_findLow 73 = .ok (.iload 5, 2) := by decide +kernel
theorem dX8_findLow_75 : decode cX8_findLow 75 = .ok (.if_icmp .eq 61, 3) := by decide +kernel
theorem dX8_findLow_78 : decode cX8_findLow 78 = .ok (.aload_n 0, 1) := by decide +kernel
theorem dX8_findLow_79 : decode cX8_findLow 79 = .ok (.getfield 158, 3) := by decide +kernel
theorem dX8_findLow_82 : decode cX8_findLow 82 = .ok (.iconst 1, 1) := by decide +kernel
theorem dX8_findLow_83 : decode cX8_findLow 83 = .ok (.if_icmp .le 15, 3) := by decide +kernel
theorem dX8_findLow_86 : decode cX8_findLow 86 = .ok (.iload_n 3, 1) := by decide +kernel
theorem dX8_findLow_87 : decode cX8_findLow 87 = .ok (.bipush 9, 2) := by decide +kernel
theorem dX8_findLow_89 : decode cX8_findLow 89 = .ok (.idiv, 1) := by decide +kernel
theorem dX8_findLow_90 : decode cX8_findLow 90 = .ok (.bipush 9, 2) := by decide +kernel
theorem dX8_findLow_92 : decode cX8_findLow 92 = .ok (.irem, 1) := by decide +kernel
theorem dX8_findLow_93 : decode cX8_findLow 93 = .ok (.iload 5, 2) := by decide +kernel
theorem dX8_findLow_95 : decode cX8_findLow 95 = .ok (.if_icmp .eq 41, 3) := by decide +kernel
theorem dX8_findLow_98 : decode cX8_findLow 98 = .ok (.aload_n 0, 1) := by decide +kernel
theorem dX8_findLow_99 : decode cX8_findLow 99 = .ok (.getfield 158, 3) := by decide +kernel
theorem dX8_findLow_102 : decode cX8_findLow 102 = .ok (.iconst 2, 1) := by decide +kernel
theorem dX8_findLow_103 : decode cX8_findLow 103 = .ok (.if_icmp .le 15, 3) := by decide +kernel
theorem dX8_findLow_106 : decode cX8_findLow 106 = .ok (.iload_n 3, 1) := by decide +kernel
theorem dX8_findLow_107 : decode cX8_findLow 107 = .ok (.bipush 81, 2) := by decide +kernel
theorem dX8_findLow_109 : decode cX8_findLow 109 = .ok (.idiv, 1) := by decide +kernel
theorem dX8_findLow_110 : decode cX8_findLow 110 = .ok (.bipush 9, 2) := by decide +kernel
theorem dX8_findLow_112 : decode cX8_findLow 112 = .ok (.irem, 1) := by decide +kernel
theorem dX8_findLow_113 : decode cX8_findLow 113 = .ok (.iload 5, 2) := by decide +kernel
theorem dX8_findLow_115 : decode cX8_findLow 115 = .ok (.if_icmp .eq 21, 3) := by decide +kernel
theorem dX8_findLow_118 : decode cX8_findLow 118 = .ok (.aload_n 0, 1) := by decide +kernel
theorem dX8_findLow_119 : decode cX8_findLow 119 = .ok (.getfield 158, 3) := by decide +kernel
theorem dX8_findLow_122 : decode cX8_findLow 122 = .ok (.iconst 3, 1) := by decide +kernel
theorem dX8_findLow_123 : decode cX8_findLow 123 = .ok (.if_icmp .le 17, 3) := by decide +kernel
theorem dX8_findLow_126 : decode cX8_findLow 126 = .ok (.iload_n 3, 1) := by decide +kernel
theorem dX8_findLow_127 : decode cX8_findLow 127 = .ok (.sipush 729, 3) := by decide +kernel
theorem dX8_findLow_130 : decode cX8_findLow 130 = .ok (.idiv, 1) := by decide +kernel
theorem dX8_findLow_131 : decode cX8_findLow 131 = .ok (.iload 5, 2) := by decide +kernel
theorem dX8_findLow_133 : decode cX8_findLow 133 = .ok (.if_icmp .ne 7, 3) := by decide +kernel
theorem dX8_findLow_136 : decode cX8_findLow 136 = .ok (.iconst 1, 1) := by decide +kernel
theorem dX8_findLow_137 : decode cX8_findLow 137 = .ok (.goto 4, 3) := by decide +kernel
theorem dX8_findLow_140 : decode cX8_findLow 140 = .ok (.iconst 0, 1) := by decide +kernel
theorem dX8_findLow_141 : decode cX8_findLow 141 = .ok (.istore 6, 2) := by decide +kernel
theorem dX8_findLow_143 : decode cX8_findLow 143 = .ok (.iconst 2, 1) := by decide +kernel
theorem dX8_findLow_144 : decode cX8_findLow 144 = .ok (.aload_n 0, 1) := by decide +kernel
theorem dX8_findLow_145 : decode cX8_findLow 145 = .ok (.getfield 7, 3) := by decide +kernel
theorem dX8_findLow_148 : decode cX8_findLow 148 = .ok (.iload 5, 2) := by decide +kernel
theorem dX8_findLow_150 : decode cX8_findLow 150 = .ok (.iaload, 1) := by decide +kernel
theorem dX8_findLow_151 : decode cX8_findLow 151 = .ok (.imul, 1) := by decide +kernel
theorem dX8_findLow_152 : decode cX8_findLow 152 = .ok (.aload_n 0, 1) := by decide +kernel
theorem dX8_findLow_153 : decode cX8_findLow 153 = .ok (.getfield 66, 3) := by decide +kernel
theorem dX8_findLow_156 : decode cX8_findLow 156 = .ok (.sipush 6561, 3) := by decide +kernel
theorem dX8_findLow_159 : decode cX8_findLow 159 = .ok (.iload_n 2, 1) := by decide +kernel
theorem dX8_findLow_160 : decode cX8_findLow 160 = .ok (.iconst 1, 1) := by decide +kernel
theorem dX8_findLow_161 : decode cX8_findLow 161 = .ok (.iadd, 1) := by decide +kernel
theorem dX8_findLow_162 : decode cX8_findLow 162 = .ok (.imul, 1) := by decide +kernel
theorem dX8_findLow_163 : decode cX8_findLow 163 = .ok (.iload_n 3, 1) := by decide +kernel
theorem dX8_findLow_164 : decode cX8_findLow 164 = .ok (.sipush 729, 3) := by decide +kernel
theorem dX8_findLow_167 : decode cX8_findLow 167 = .ok (.irem, 1) := by decide +kernel
theorem dX8_findLow_168 : decode cX8_findLow 168 = .ok (.bipush 9, 2) := by decide +kernel
theorem dX8_findLow_170 : decode cX8_findLow 170 = .ok (.imul, 1) := by decide +kernel
theorem dX8_findLow_171 : decode cX8_findLow 171 = .ok (.iadd, 1) := by decide +kernel
theorem dX8_findLow_172 : decode cX8_findLow 172 = .ok (.iload 5, 2) := by decide +kernel
theorem dX8_findLow_174 : decode cX8_findLow 174 = .ok (.iadd, 1) := by decide +kernel
theorem dX8_findLow_175 : decode cX8_findLow 175 = .ok (.iaload, 1) := by decide +kernel
theorem dX8_findLow_176 : decode cX8_findLow 176 = .ok (.iadd, 1) := by decide +kernel
theorem dX8_findLow_177 : decode cX8_findLow 177 = .ok (.istore 7, 2) := by decide +kernel
theorem dX8_findLow_179 : decode cX8_findLow 179 = .ok (.iload 6, 2) := by decide +kernel
theorem dX8_findLow_181 : decode cX8_findLow 181 = .ok (.ifCond .ne 32, 3) := by decide +kernel
theorem dX8_findLow_184 : decode cX8_findLow 184 = .ok (.aload_n 0, 1) := by decide +kernel
theorem dX8_findLow_185 : decode cX8_findLow 185 = .ok (.iload 5, 2) := by decide +kernel
theorem dX8_findLow_187 : decode cX8_findLow 187 = .ok (.aload_n 0, 1) := by decide +kernel
theorem dX8_findLow_188 : decode cX8_findLow 188 = .ok (.getfield 25, 3) := by decide +kernel
theorem dX8_findLow_191 : decode cX8_findLow 191 = .ok (.iconst 0, 1) := by decide +kernel
theorem dX8_findLow_192 : decode cX8_findLow 192 = .ok (.iaload, 1) := by decide +kernel
theorem dX8_findLow_193 : decode cX8_findLow 193 = .ok (.iload_n 2, 1) := by decide +kernel
theorem dX8_findLow_194 : decode cX8_findLow 194 = .ok (.iadd, 1) := by decide +kernel
theorem dX8_findLow_195 : decode cX8_findLow 195 = .ok (.invokevirtual 278, 3) := by decide +kernel
theorem dX8_findLow_198 : decode cX8_findLow 198 = .ok (.ifCond .eq 15, 3) := by decide +kernel
theorem dX8_findLow_201 : decode cX8_findLow 201 = .ok (.iload 7, 2) := by decide +kernel
theorem dX8_findLow_203 : decode cX8_findLow 203 = .ok (.iload 4, 2) := by decide +kernel
theorem dX8_findLow_205 : decode cX8_findLow 205 = .ok (.if_icmp .ge 8, 3) := by decide +kernel
theorem dX8_findLow_208 : decode cX8_findLow 208 = .ok (.iload 7, 2) := by decide +kernel
theorem dX8_findLow_210 : decode cX8_findLow 210 = .ok (.goto 5, 3) := by decide +kernel
theorem dX8_findLow_213 : decode cX8_findLow 213 = .ok (.iload 4, 2) := by decide +kernel
theorem dX8_findLow_215 : decode cX8_findLow 215 = .ok (.istore 4, 2) := by decide +kernel
theorem dX8_findLow_217 : decode cX8_findLow 217 = .ok (.iinc 5 1, 3) := by decide +kernel
theorem dX8_findLow_220 : decode cX8_findLow 220 = .ok (.goto (-167), 3) := by decide +kernel
theorem dX8_findLow_223 : decode cX8_findLow 223 = .ok (.aload_n 0, 1) := by decide +kernel
theorem dX8_findLow_224 : decode cX8_findLow 224 = .ok (.getfield 66, 3) := by decide +kernel
theorem dX8_findLow_227 : decode cX8_findLow 227 = .ok (.sipush 6561, 3) := by decide +kernel
theorem dX8_findLow_230 : decode cX8_findLow 230 = .ok (.iload_n 2, 1) := by decide +kernel
theorem dX8_findLow_231 : decode cX8_findLow 231 = .ok (.imul, 1) := by decide +kernel
theorem dX8_findLow_232 : decode cX8_findLow 232 = .ok (.iload_n 3, 1) := by decide +kernel
theorem dX8_findLow_233 : decode cX8_findLow 233 = .ok (.iadd, 1) := by decide +kernel
theorem dX8_findLow_234 : decode cX8_findLow 234 = .ok (.iload 4, 2) := by decide +kernel
theorem dX8_findLow_236 : decode cX8_findLow 236 = .ok (.ldc_w 277, 3) := by decide +kernel
theorem dX8_findLow_239 : decode cX8_findLow 239 = .ok (.if_icmp .ge 8, 3) := by decide +kernel
theorem dX8_findLow_242 : decode cX8_findLow 242 = .ok (.iload 4, 2) := by decide +kernel
theorem dX8_findLow_244 : decode cX8_findLow 244 = .ok (.goto 6, 3) := by decide +kernel
theorem dX8_findLow_247 : decode cX8_findLow 247 = .ok (.ldc_w 277, 3) := by decide +kernel
theorem dX8_findLow_250 : decode cX8_findLow 250 = .ok (.iastore, 1) := by decide +kernel
theorem dX8_findLow_251 : decode cX8_findLow 251 = .ok (.iinc 3 1, 3) := by decide +kernel
theorem dX8_findLow_254 : decode cX8_findLow 254 = .ok (.goto (-216), 3) := by decide +kernel
theorem dX8_findLow_257 : decode cX8_findLow 257 = .ok (.iinc 2 (-1), 3) := by decide +kernel
theorem dX8_findLow_260 : decode cX8_findLow 260 = .ok (.goto (-228), 3) := by decide +kernel
theorem dX8_findLow_263 : decode cX8_findLow 263 = .ok (.return_, 1) := by decide +kernel
theorem dX8_wasChosen_0 : decode cX8_wasChosen 0 = .ok (.iconst 0, 1) := by decide +kernel
theorem dX8_wasChosen_1 : decode cX8_wasChosen 1 = .ok (.istore_n 3, 1) := by decide +kernel
theorem dX8_wasChosen_2 : decode cX8_wasChosen 2 = .ok (.iload_n 2, 1) := by decide +kernel
theorem dX8_wasChosen_3 : decode cX8_wasChosen 3 = .ok (.aload_n 0, 1) := by decide +kernel
theorem dX8_wasChosen_4 : decode cX8_wasChosen 4 = .ok (.getfield 158, 3) := by decide +kernel
theorem dX8_wasChosen_7 : decode cX8_wasChosen 7 = .ok (.if_icmp .le 12, 3) := by decide +kernel
theorem dX8_wasChosen_10 : decode cX8_wasChosen 10 = .ok (.iload_n 2, 1) := by decide +kernel
theorem dX8_wasChosen_11 : decode cX8_wasChosen 11 = .ok (.aload_n 0, 1) := by decide +kernel
theorem dX8_wasChosen_12 : decode cX8_wasChosen 12 = .ok (.getfield 158, 3) := by decide +kernel
theorem dX8_wasChosen_15 : decode cX8_wasChosen 15 = .ok (.isub, 1) := by decide +kernel
theorem dX8_wasChosen_16 : decode cX8_wasChosen 16 = .ok (.goto 4, 3) := by decide +kernel
theorem dX8_wasChosen_19 : decode cX8_wasChosen 19 = .ok (.iconst 0, 1) := by decide +kernel
theorem dX8_wasChosen_20 : decode cX8_wasChosen 20 = .ok (.istore 4, 2) := by decide +kernel
theorem dX8_wasChosen_22 : decode cX8_wasChosen 22 = .ok (.iload 4, 2) := by decide +kernel
theorem dX8_wasChosen_24 : decode cX8_wasChosen 24 = .ok (.iload_n 2, 1) := by decide +kernel
theorem dX8_wasChosen_25 : decode cX8_wasChosen 25 = .ok (.if_icmp .ge 30, 3) := by decide +kernel
theorem dX8_wasChosen_28 : decode cX8_wasChosen 28 = .ok (.iload_n 3, 1) := by decide +kernel
theorem dX8_wasChosen_29 : decode cX8_wasChosen 29 = .ok (.ifCond .ne 14, 3) := by decide +kernel
theorem dX8_wasChosen_32 : decode cX8_wasChosen 32 = .ok (.aload_n 0, 1) := by decide +kernel
theorem dX8_wasChosen_33 : decode cX8_wasChosen 33 = .ok (.getfield 69, 3) := by decide +kernel
theorem dX8_wasChosen_36 : decode cX8_wasChosen 36 = .ok (.iload 4, 2) := by decide +kernel
theorem dX8_wasChosen_38 : decode cX8_wasChosen 38 = .ok (.iaload, 1) := by decide +kernel
theorem dX8_wasChosen_39 : decode cX8_wasChosen 39 = .ok (.iload_n 1, 1) := by decide +kernel
theorem dX8_wasChosen_40 : decode cX8_wasChosen 40 = .ok (.if_icmp .ne 7, 3) := by decide +kernel
theorem dX8_wasChosen_43 : decode cX8_wasChosen 43 = .ok (.iconst 1, 1) := by decide +kernel
theorem dX8_wasChosen_44 : decode cX8_wasChosen 44 = .ok (.goto 4, 3) := by decide +kernel
theorem dX8_wasChosen_47 : decode cX8_wasChosen 47 = .ok (.iconst 0, 1) := by decide +kernel
theorem dX8_wasChosen_48 : decode cX8_wasChosen 48 = .ok (.istore_n 3, 1) := by decide +kernel
theorem dX8_wasChosen_49 : decode cX8_wasChosen 49 = .ok (.iinc 4 1, 3) := by decide +kernel
theorem dX8_wasChosen_52 : decode cX8_wasChosen 52 = .ok (.goto (-30), 3) := by decide +kernel
theorem dX8_wasChosen_55 : decode cX8_wasChosen 55 = .ok (.iload_n 3, 1) := by decide +kernel
theorem dX8_wasChosen_56 : decode cX8_wasChosen 56 = .ok (.ireturn, 1) := by decide +kernel
theorem dX8_latest_0 : decode cX8_latest 0 = .ok (.iload_n 1, 1) := by decide +kernel
theorem dX8_latest_1 : decode cX8_latest 1 = .ok (.ifCond .le 14, 3) := by decide +kernel
theorem dX8_latest_4 : decode cX8_latest 4 = .ok (.aload_n 0, 1) := by decide +kernel
theorem dX8_latest_5 : decode cX8_latest 5 = .ok (.getfield 69, 3) := by decide +kernel
theorem dX8_latest_8 : decode cX8_latest 8 = .ok (.iload_n 1, 1) := by decide +kernel
theorem dX8_latest_9 : decode cX8_latest 9 = .ok (.iconst 1, 1) := by decide +kernel
theorem dX8_latest_10 : decode cX8_latest 10 = .ok (.isub, 1) := by decide +kernel
theorem dX8_latest_11 : decode cX8_latest 11 = .ok (.iaload, 1) := by decide +kernel
theorem dX8_latest_12 : decode cX8_latest 12 = .ok (.goto 5, 3) := by decide +kernel
theorem dX8_latest_15 : decode cX8_latest 15 = .ok (.bipush 8, 2) := by decide +kernel
theorem dX8_latest_17 : decode cX8_latest 17 = .ok (.istore_n 2, 1) := by decide +kernel
theorem dX8_latest_18 : decode cX8_latest 18 = .ok (.iload_n 1, 1) := by decide +kernel
theorem dX8_latest_19 : decode cX8_latest 19 = .ok (.iconst 1, 1) := by decide +kernel
theorem dX8_latest_20 : decode cX8_latest 20 = .ok (.if_icmp .le 14, 3) := by decide +kernel
theorem dX8_latest_23 : decode cX8_latest 23 = .ok (.aload_n 0, 1) := by decide +kernel
theorem dX8_latest_24 : decode cX8_latest 24 = .ok (.getfield 69, 3) := by decide +kernel
theorem dX8_latest_27 : decode cX8_latest 27 = .ok (.iload_n 1, 1) := by decide +kernel
theorem dX8_latest_28 : decode cX8_latest 28 = .ok (.iconst 2, 1) := by decide +kernel
theorem dX8_latest_29 : decode cX8_latest 29 = .ok (.isub, 1) := by decide +kernel
theorem dX8_latest_30 : decode cX8_latest 30 = .ok (.iaload, 1) := by decide +kernel
theorem dX8_latest_31 : decode cX8_latest 31 = .ok (.goto 5, 3) := by decide +kernel
theorem dX8_latest_34 : decode cX8_latest 34 = .ok (.bipush 8, 2) := by decide +kernel
theorem dX8_latest_36 : decode cX8_latest 36 = .ok (.istore_n 3, 1) := by decide +kernel
theorem dX8_latest_37 : decode cX8_latest 37 = .ok (.iload_n 1, 1) := by decide +kernel
theorem dX8_latest_38 : decode cX8_latest 38 = .ok (.iconst 2, 1) := by decide +kernel
theorem dX8_latest_39 : decode cX8_latest 39 = .ok (.if_icmp .le 14, 3) := by decide +kernel
theorem dX8_latest_42 : decode cX8_latest 42 = .ok (.aload_n 0, 1) := by decide +kernel
theorem dX8_latest_43 : decode cX8_latest 43 = .ok (.getfield 69, 3) := by decide +kernel
theorem dX8_latest_46 : decode cX8_latest 46 = .ok (.iload_n 1, 1) := by decide +kernel
theorem dX8_latest_47 : decode cX8_latest 47 = .ok (.iconst 3, 1) := by decide +kernel
theorem dX8_latest_48 : decode cX8_latest 48 = .ok (.isub, 1) := by decide +kernel
theorem dX8_latest_49 : decode cX8_latest 49 = .ok (.iaload, 1) := by decide +kernel
theorem dX8_latest_50 : decode cX8_latest 50 = .ok (.goto 5, 3) := by decide +kernel
theorem dX8_latest_53 : decode cX8_latest 53 = .ok (.bipush 8, 2) := by decide +kernel
theorem dX8_latest_55 : decode cX8_latest 55 = .ok (.istore 4, 2) := by decide +kernel
theorem dX8_latest_57 : decode cX8_latest 57 = .ok (.iload_n 1, 1) := by decide +kernel
theorem dX8_latest_58 : decode cX8_latest 58 = .ok (.iconst 3, 1) := by decide +kernel
theorem dX8_latest_59 : decode cX8_latest 59 = .ok (.if_icmp .le 14, 3) := by decide +kernel
theorem dX8_latest_62 : decode cX8_latest 62 = .ok (.aload_n 0, 1) := by decide +kernel
theorem dX8_latest_63 : decode cX8_latest 63 = .ok (.getfield 69, 3) := by decide +kernel
theorem dX8_latest_66 : decode cX8_latest 66 = .ok (.iload_n 1, 1) := by decide +kernel
theorem dX8_latest_67 : decode cX8_latest 67 = .ok (.iconst 4, 1) := by decide +kernel
theorem dX8_latest_68 : decode cX8_latest 68 = .ok (.isub, 1) := by decide +kernel
theorem dX8_latest_69 : decode cX8_latest 69 = .ok (.iaload, 1) := by decide +kernel
theorem dX8_latest_70 : decode cX8_latest 70 = .ok (.goto 5, 3) := by decide +kernel
theorem dX8_latest_73 : decode cX8_latest 73 = .ok (.bipush 8, 2) := by decide +kernel
theorem dX8_latest_75 : decode cX8_latest 75 = .ok (.istore 5, 2) := by decide +kernel
theorem dX8_latest_77 : decode cX8_latest 77 = .ok (.sipush 729, 3) := by decide +kernel
theorem dX8_latest_80 : decode cX8_latest 80 = .ok (.iload 5, 2) := by decide +kernel
theorem dX8_latest_82 : decode cX8_latest 82 = .ok (.imul, 1) := by decide +kernel
theorem dX8_latest_83 : decode cX8_latest 83 = .ok (.bipush 81, 2) := by decide +kernel
theorem dX8_latest_85 : decode cX8_latest 85 = .ok (.iload 4, 2) := by decide +kernel
theorem dX8_latest_87 : decode cX8_latest 87 = .ok (.imul, 1) := by decide +kernel
theorem dX8_latest_88 : decode cX8_latest 88 = .ok (.iadd, 1) := by decide +kernel
theorem dX8_latest_89 : decode cX8_latest 89 = .ok (.bipush 9, 2) := by decide +kernel
theorem dX8_latest_91 : decode cX8_latest 91 = .ok (.iload_n 3, 1) := by decide +kernel
theorem dX8_latest_92 : decode cX8_latest 92 = .ok (.imul, 1) := by decide +kernel
theorem dX8_latest_93 : decode cX8_latest 93 = .ok (.iadd, 1) := by decide +kernel
theorem dX8_latest_94 : decode cX8_latest 94 = .ok (.iload_n 2, 1) := by decide +kernel
theorem dX8_latest_95 : decode cX8_latest 95 = .ok (.iadd, 1) := by decide +kernel
theorem dX8_latest_96 : decode cX8_latest 96 = .ok (.ireturn, 1) := by decide +kernel
theorem dX8_spent_0 : decode cX8_spent 0 = .ok (.iconst 0, 1) := by decide +kernel
theorem dX8_spent_1 : decode cX8_spent 1 = .ok (.istore_n 2, 1) := by decide +kernel
theorem dX8_spent_2 : decode cX8_spent 2 = .ok (.iconst 0, 1) := by decide +kernel
theorem dX8_spent_3 : decode cX8_spent 3 = .ok (.istore_n 3, 1) := by decide +kernel
theorem dX8_spent_4 : decode cX8_spent 4 = .ok (.iload_n 3, 1) := by decide +kernel
theorem dX8_spent_5 : decode cX8_spent 5 = .ok (.iload_n 1, 1) := by decide +kernel
theorem dX8_spent_6 : decode cX8_spent 6 = .ok (.if_icmp .ge 25, 3) := by decide +kernel
theorem dX8_spent_9 : decode cX8_spent 9 = .ok (.iload_n 2, 1) := by decide +kernel
theorem dX8_spent_10 : decode cX8_spent 10 = .ok (.iconst 2, 1) := by decide +kernel
theorem dX8_spent_11 : decode cX8_spent 11 = .ok (.aload_n 0, 1) := by decide +kernel
theorem dX8_spent_12 : decode cX8_spent 12 = .ok (.getfield 7, 3) := by decide +kernel
theorem dX8_spent_15 : decode cX8_spent 15 = .ok (.aload_n 0, 1) := by decide +kernel
theorem dX8_spent_16 : decode cX8_spent 16 = .ok (.getfield 69, 3) := by decide +kernel
theorem dX8_spent_19 : decode cX8_spent 19 = .ok (.iload_n 3, 1) := by decide +kernel
theorem dX8_spent_20 : decode cX8_spent 20 = .ok (.iaload, 1) := by decide +kernel
theorem dX8_spent_21 : decode cX8_spent 21 = .ok (.iaload, 1) := by decide +kernel
theorem dX8_spent_22 : decode cX8_spent 22 = .ok (.imul, 1) := by decide +kernel
theorem dX8_spent_23 : decode cX8_spent 23 = .ok (.iadd, 1) := by decide +kernel
theorem dX8_spent_24 : decode cX8_spent 24 = .ok (.istore_n 2, 1) := by decide +kernel
theorem dX8_spent_25 : decode cX8_spent 25 = .ok (.iinc 3 1, 3) := by decide +kernel
theorem dX8_spent_28 : decode cX8_spent 28 = .ok (.goto (-24), 3) := by decide +kernel
theorem dX8_spent_31 : decode cX8_spent 31 = .ok (.iload_n 2, 1) := by decide +kernel
theorem dX8_spent_32 : decode cX8_spent 32 = .ok (.ireturn, 1) := by decide +kernel
theorem dX8_findFeet_0 : decode cX8_findFeet 0 = .ok (.aload_n 0, 1) := by decide +kernel
theorem dX8_findFeet_1 : decode cX8_findFeet 1 = .ok (.iload_n 1, 1) := by decide +kernel
theorem dX8_findFeet_2 : decode cX8_findFeet 2 = .ok (.invokevirtual 281, 3) := by decide +kernel
theorem dX8_findFeet_5 : decode cX8_findFeet 5 = .ok (.aload_n 0, 1) := by decide +kernel
theorem dX8_findFeet_6 : decode cX8_findFeet 6 = .ok (.ldc_w 277, 3) := by decide +kernel
theorem dX8_findFeet_9 : decode cX8_findFeet 9 = .ok (.putfield 284, 3) := by decide +kernel
theorem dX8_findFeet_12 : decode cX8_findFeet 12 = .ok (.iconst 0, 1) := by decide +kernel
theorem dX8_findFeet_13 : decode cX8_findFeet 13 = .ok (.istore_n 2, 1) := by decide +kernel
theorem dX8_findFeet_14 : decode cX8_findFeet 14 = .ok (.aload_n 0, 1) := by decide +kernel
theorem dX8_findFeet_15 : decode cX8_findFeet 15 = .ok (.getfield 69, 3) := by decide +kernel
theorem dX8_findFeet_18 : decode cX8_findFeet 18 = .ok (.iconst 0, 1) := by decide +kernel
theorem dX8_findFeet_19 : decode cX8_findFeet 19 = .ok (.iconst (-1), 1) := by decide +kernel
theorem dX8_findFeet_20 : decode cX8_findFeet 20 = .ok (.iastore, 1) := by decide +kernel
theorem dX8_findFeet_21 : decode cX8_findFeet 21 = .ok (.iload_n 2, 1) := by decide +kernel
theorem dX8_findFeet_22 : decode cX8_findFeet 22 = .ok (.ifCond .lt 155, 3) := by decide +kernel
theorem dX8_findFeet_25 : decode cX8_findFeet 25 = .ok (.aload_n 0, 1) := by decide +kernel
theorem dX8_findFeet_26 : decode cX8_findFeet 26 = .ok (.getfield 69, 3) := by decide +kernel
theorem dX8_findFeet_29 : decode cX8_findFeet 29 = .ok (.iload_n 2, 1) := by decide +kernel
theorem dX8_findFeet_30 : decode cX8_findFeet 30 = .ok (.dup2, 1) := by decide +kernel
theorem dX8_findFeet_31 : decode cX8_findFeet 31 = .ok (.iaload, 1) := by decide +kernel
theorem dX8_findFeet_32 : decode cX8_findFeet 32 = .ok (.iconst 1, 1) := by decide +kernel
theorem dX8_findFeet_33 : decode cX8_findFeet 33 = .ok (.iadd, 1) := by decide +kernel
theorem dX8_findFeet_34 : decode cX8_findFeet 34 = .ok (.iastore, 1) := by decide +kernel
theorem dX8_findFeet_35 : decode cX8_findFeet 35 = .ok (.aload_n 0, 1) := by decide +kernel
theorem dX8_findFeet_36 : decode cX8_findFeet 36 = .ok (.getfield 69, 3) := by decide +kernel
theorem dX8_findFeet_39 : decode cX8_findFeet 39 = .ok (.iload_n 2, 1) := by decide +kernel
theorem dX8_findFeet_40 : decode cX8_findFeet 40 = .ok (.iaload, 1) := by decide +kernel
theorem dX8_findFeet_41 : decode cX8_findFeet 41 = .ok (.istore_n 3, 1) := by decide +kernel
theorem dX8_findFeet_42 : decode cX8_findFeet 42 = .ok (.iload_n 3, 1) := by decide +kernel
theorem dX8_findFeet_43 : decode cX8_findFeet 43 = .ok (.aload_n 0, 1) := by decide +kernel
theorem dX8_findFeet_44 : decode cX8_findFeet 44 = .ok (.getfield 94, 3) := by decide +kernel
theorem dX8_findFeet_47 : decode cX8_findFeet 47 = .ok (.if_icmp .lt 9, 3) := by decide +kernel
theorem dX8_findFeet_50 : decode cX8_findFeet 50 = .ok (.iinc 2 (-1), 3) := by decide +kernel
theorem dX8_findFeet_53 : decode cX8_findFeet 53 = .ok (.goto 121, 3) := by decide +kernel
theorem dX8_findFeet_56 : decode cX8_findFeet 56 = .ok (.aload_n 0, 1) := by decide +kernel
theorem dX8_findFeet_57 : decode cX8_findFeet 57 = .ok (.iload_n 3, 1) := by decide +kernel
theorem dX8_findFeet_58 : decode cX8_findFeet 58 = .ok (.iload_n 2, 1) := by decide +kernel
theorem dX8_findFeet_59 : decode cX8_findFeet 59 = .ok (.invokevirtual 287, 3) := by decide +kernel
theorem dX8_findFeet_62 : decode cX8_findFeet 62 = .ok (.ifCond .ne 112, 3) := by decide +kernel
theorem dX8_findFeet_65 : decode cX8_findFeet 65 = .ok (.aload_n 0, 1) := by decide +kernel
theorem dX8_findFeet_66 : decode cX8_findFeet 66 = .ok (.iload_n 3, 1) := by decide +kernel
theorem dX8_findFeet_67 : decode cX8_findFeet 67 = .ok (.aload_n 0, 1) := by decide +kernel
theorem dX8_findFeet_68 : decode cX8_findFeet 68 = .ok (.getfield 25, 3) := by decide +kernel
theorem dX8_findFeet_71 : decode cX8_findFeet 71 = .ok (.iconst 0, 1) := by decide +kernel
theorem dX8_findFeet_72 : decode cX8_findFeet 72 = .ok (.iaload, 1) := by decide +kernel
theorem dX8_findFeet_73 : decode cX8_findFeet 73 = .ok (.iload_n 2, 1) := by decide +kernel
theorem dX8_findFeet_74 : decode cX8_findFeet 74 = .ok (.iadd, 1) := by decide +kernel
theorem dX8_findFeet_75 : decode cX8_findFeet 75 = .ok (.invokevirtual 278, 3) := by decide +kernel
theorem dX8_findFeet_78 : decode cX8_findFeet 78 = .ok (.ifCond .eq 96, 3) := by decide +kernel
theorem dX8_findFeet_81 : decode cX8_findFeet 81 = .ok (.aload_n 0, 1) := by decide +kernel
theorem dX8_findFeet_82 : decode cX8_findFeet 82 = .ok (.iload_n 2, 1) := by decide +kernel
theorem dX8_findFeet_83 : decode cX8_findFeet 83 = .ok (.iconst 1, 1) := by decide +kernel
theorem dX8_findFeet_84 : decode cX8_findFeet 84 = .ok (.iadd, 1) := by decide +kernel
theorem dX8_findFeet_85 : decode cX8_findFeet 85 = .ok (.invokevirtual 290, 3) := by decide +kernel
theorem dX8_findFeet_88 : decode cX8_findFeet 88 = .ok (.aload_n 0, 1) := by decide +kernel
theorem dX8_findFeet_89 : decode cX8_findFeet 89 = .ok (.getfield 66, 3) := by decide +kernel
theorem dX8_findFeet_92 : decode cX8_findFeet 92 = .ok (.sipush 6561, 3) := by decide +kernel
theorem dX8_findFeet_95 : decode cX8_findFeet 95 = .ok (.iload_n 2, 1) := by decide +kernel
theorem dX8_findFeet_96 : decode cX8_findFeet 96 = .ok (.iconst 1, 1) := by decide +kernel
theorem dX8_findFeet_97 : decode cX8_findFeet 97 = .ok (.iadd, 1) := by decide +kernel
theorem dX8_findFeet_98 : decode cX8_findFeet 98 = .ok (.imul, 1) := by decide +kernel
theorem dX8_findFeet_99 : decode cX8_findFeet 99 = .ok (.aload_n 0, 1) := by decide +kernel
theorem dX8_findFeet_100 : decode cX8_findFeet 100 = .ok (.iload_n 2, 1) := by decide +kernel
theorem dX8_findFeet_101 : decode cX8_findFeet 101 = .ok (.iconst 1, 1) := by decide +kernel
theorem dX8_findFeet_102 : decode cX8_findFeet 102 = .ok (.iadd, 1) := by decide +kernel
theorem dX8_findFeet_103 : decode cX8_findFeet 103 = .ok (.invokevirtual 293, 3) := by decide +kernel
theorem dX8_findFeet_106 : decode cX8_findFeet 106 = .ok (.iadd, 1) := by decide +kernel
theorem dX8_findFeet_107 : decode cX8_findFeet 107 = .ok (.iaload, 1) := by decide +kernel
theorem dX8_findFeet_108 : decode cX8_findFeet 108 = .ok (.iadd, 1) := by decide +kernel
theorem dX8_findFeet_109 : decode cX8_findFeet 109 = .ok (.aload_n 0, 1) := by decide +kernel
theorem dX8_findFeet_110 : decode cX8_findFeet 110 = .ok (.getfield 284, 3) := by decide +kernel
theorem dX8_findFeet_113 : decode cX8_findFeet 113 = .ok (.if_icmp .ge 61, 3) := by decide +kernel
theorem dX8_findFeet_116 : decode cX8_findFeet 116 = .ok (.iload_n 2, 1) := by decide +kernel
theorem dX8_findFeet_117 : decode cX8_findFeet 117 = .ok (.iload_n 1, 1) := by decide +kernel
theorem dX8_findFeet_118 : decode cX8_findFeet 118 = .ok (.iconst 1, 1) := by decide +kernel
theorem dX8_findFeet_119 : decode cX8_findFeet 119 = .ok (.isub, 1) := by decide +kernel
theorem dX8_findFeet_120 : decode cX8_findFeet 120 = .ok (.if_icmp .ne 44, 3) := by decide +kernel
theorem dX8_findFeet_123 : decode cX8_findFeet 123 = .ok (.aload_n 0, 1) := by decide +kernel
theorem dX8_findFeet_124 : decode cX8_findFeet 124 = .ok (.aload_n 0, 1) := by decide +kernel
theorem dX8_findFeet_125 : decode cX8_findFeet 125 = .ok (.iload_n 1, 1) := by decide +kernel
theorem dX8_findFeet_126 : decode cX8_findFeet 126 = .ok (.invokevirtual 290, 3) := by decide +kernel
theorem dX8_findFeet_129 : decode cX8_findFeet 129 = .ok (.putfield 284, 3) := by decide +kernel
theorem dX8_findFeet_132 : decode cX8_findFeet 132 = .ok (.iconst 0, 1) := by decide +kernel
theorem dX8_findFeet_133 : decode cX8_findFeet 133 = .ok (.istore 4, 2) := by decide +kernel
theorem dX8_findFeet_135 : decode cX8_findFeet 135 = .ok (.iload 4, 2) := by decide +kernel
theorem dX8_findFeet_137 : decode cX8_findFeet 137 = .ok (.iload_n 1, 1) := by decide +kernel
theorem dX8_findFeet_138 : decode cX8_findFeet 138 = .ok (.if_icmp .ge 23, 3) := by decide +kernel
theorem dX8_findFeet_141 : decode cX8_findFeet 141 = .ok (.aload_n 0, 1) := by decide +kernel
theorem dX8_findFeet_142 : decode cX8_findFeet 142 = .ok (.getfield 72, 3) := by decide +kernel
theorem dX8_findFeet_145 : decode cX8_findFeet 145 = .ok (.iload 4, 2) := by decide +kernel
theorem dX8_findFeet_147 : decode cX8_findFeet 147 = .ok (.aload_n 0, 1) := by decide +kernel
theorem dX8_findFeet_148 : decode cX8_findFeet 148 = .ok (.getfield 69, 3) := by decide +kernel
theorem dX8_findFeet_151 : decode cX8_findFeet 151 = .ok (.iload 4, 2) := by decide +kernel
theorem dX8_findFeet_153 : decode cX8_findFeet 153 = .ok (.iaload, 1) := by decide +kernel
theorem dX8_findFeet_154 : decode cX8_findFeet 154 = .ok (.iastore, 1) := by decide +kernel
theorem dX8_findFeet_155 : decode cX8_findFeet 155 = .ok (.iinc 4 1, 3) := by decide +kernel
theorem dX8_findFeet_158 : decode cX8_findFeet 158 = .ok (.goto (-23), 3) := by decide +kernel
theorem dX8_findFeet_161 : decode cX8_findFeet 161 = .ok (.goto 13, 3) := by decide +kernel
theorem dX8_findFeet_164 : decode cX8_findFeet 164 = .ok (.iinc 2 1, 3) := by decide +kernel
theorem dX8_findFeet_167 : decode cX8_findFeet 167 = .ok (.aload_n 0, 1) := by decide +kernel
theorem dX8_findFeet_168 : decode cX8_findFeet 168 = .ok (.getfield 69, 3) := by decide +kernel
theorem dX8_findFeet_171 : decode cX8_findFeet 171 = .ok (.iload_n 2, 1) := by decide +kernel
theorem dX8_findFeet_172 : decode cX8_findFeet 172 = .ok (.iconst (-1), 1) := by decide +kernel
theorem dX8_findFeet_173 : decode cX8_findFeet 173 = .ok (.iastore, 1) := by decide +kernel
theorem dX8_findFeet_174 : decode cX8_findFeet 174 = .ok (.goto (-153), 3) := by decide +kernel
theorem dX8_findFeet_177 : decode cX8_findFeet 177 = .ok (.return_, 1) := by decide +kernel
theorem dX8_feet_0 : decode cX8_feet 0 = .ok (.iload_n 1, 1) := by decide +kernel
theorem dX8_feet_1 : decode cX8_feet 1 = .ok (.i2l, 1) := by decide +kernel
theorem dX8_feet_2 : decode cX8_feet 2 = .ok (.lconst 1, 1) := by decide +kernel
theorem dX8_feet_3 : decode cX8_feet 3 = .ok (.ldc2_w 296, 3) := by decide +kernel
theorem dX8_feet_6 : decode cX8_feet 6 = .ok (.invokestatic 97, 3) := by decide +kernel
theorem dX8_feet_9 : decode cX8_feet 9 = .ok (.ifCond .ne 6, 3) := by decide +kernel
theorem dX8_feet_12 : decode cX8_feet 12 = .ok (.ldc 103, 2) := by decide +kernel
theorem dX8_feet_14 : decode cX8_feet 14 = .ok (.ireturn, 1) := by decide +kernel
theorem dX8_feet_15 : decode cX8_feet 15 = .ok (.aload_n 0, 1) := by decide +kernel
theorem dX8_feet_16 : decode cX8_feet 16 = .ok (.getfield 155, 3) := by decide +kernel
theorem dX8_feet_19 : decode cX8_feet 19 = .ok (.ifCond .ne 6, 3) := by decide +kernel
theorem dX8_feet_22 : decode cX8_feet 22 = .ok (.ldc 224, 2) := by decide +kernel
theorem dX8_feet_24 : decode cX8_feet 24 = .ok (.ireturn, 1) := by decide +kernel
theorem dX8_feet_25 : decode cX8_feet 25 = .ok (.aload_n 0, 1) := by decide +kernel
theorem dX8_feet_26 : decode cX8_feet 26 = .ok (.iload_n 1, 1) := by decide +kernel
theorem dX8_feet_27 : decode cX8_feet 27 = .ok (.invokevirtual 298, 3) := by decide +kernel
theorem dX8_feet_30 : decode cX8_feet 30 = .ok (.aload_n 0, 1) := by decide +kernel
theorem dX8_feet_31 : decode cX8_feet 31 = .ok (.getfield 284, 3) := by decide +kernel
theorem dX8_feet_34 : decode cX8_feet 34 = .ok (.ldc_w 277, 3) := by decide +kernel
theorem dX8_feet_37 : decode cX8_feet 37 = .ok (.if_icmp .ne 5, 3) := by decide +kernel
theorem dX8_feet_40 : decode cX8_feet 40 = .ok (.iconst (-1), 1) := by decide +kernel
theorem dX8_feet_41 : decode cX8_feet 41 = .ok (.ireturn, 1) := by decide +kernel
theorem dX8_feet_42 : decode cX8_feet 42 = .ok (.iload_n 2, 1) := by decide +kernel
theorem dX8_feet_43 : decode cX8_feet 43 = .ok (.iconst (-1), 1) := by decide +kernel
theorem dX8_feet_44 : decode cX8_feet 44 = .ok (.if_icmp .ne 10, 3) := by decide +kernel
theorem dX8_feet_47 : decode cX8_feet 47 = .ok (.aload_n 0, 1) := by decide +kernel
theorem dX8_feet_48 : decode cX8_feet 48 = .ok (.getfield 284, 3) := by decide +kernel
theorem dX8_feet_51 : decode cX8_feet 51 = .ok (.goto 26, 3) := by decide +kernel
theorem dX8_feet_54 : decode cX8_feet 54 = .ok (.iload_n 2, 1) := by decide +kernel
theorem dX8_feet_55 : decode cX8_feet 55 = .ok (.i2l, 1) := by decide +kernel
theorem dX8_feet_56 : decode cX8_feet 56 = .ok (.lconst 0, 1) := by decide +kernel
theorem dX8_feet_57 : decode cX8_feet 57 = .ok (.iload_n 1, 1) := by decide +kernel
theorem dX8_feet_58 : decode cX8_feet 58 = .ok (.iconst 1, 1) := by decide +kernel
theorem dX8_feet_59 : decode cX8_feet 59 = .ok (.isub, 1) := by decide +kernel
theorem dX8_feet_60 : decode cX8_feet 60 = .ok (.i2l, 1) := by decide +kernel
theorem dX8_feet_61 : decode cX8_feet 61 = .ok (.invokestatic 97, 3) := by decide +kernel
theorem dX8_feet_64 : decode cX8_feet 64 = .ok (.ifCond .eq 12, 3) := by decide +kernel
theorem dX8_feet_67 : decode cX8_feet 67 = .ok (.aload_n 0, 1) := by decide +kernel
theorem dX8_feet_68 : decode cX8_feet 68 = .ok (.getfield 72, 3) := by decide +kernel
theorem dX8_feet_71 : decode cX8_feet 71 = .ok (.iload_n 2, 1) := by decide +kernel
theorem dX8_feet_72 : decode cX8_feet 72 = .ok (.iaload, 1) := by decide +kernel
theorem dX8_feet_73 : decode cX8_feet 73 = .ok (.goto 4, 3) := by decide +kernel
theorem dX8_feet_76 : decode cX8_feet 76 = .ok (.iconst (-1), 1) := by decide +kernel
theorem dX8_feet_77 : decode cX8_feet 77 = .ok (.ireturn, 1) := by decide +kernel
theorem dX8_odds_0 : decode cX8_odds 0 = .ok (.iload_n 1, 1) := by decide +kernel
theorem dX8_odds_1 : decode cX8_odds 1 = .ok (.i2l, 1) := by decide +kernel
theorem dX8_odds_2 : decode cX8_odds 2 = .ok (.lconst 0, 1) := by decide +kernel
theorem dX8_odds_3 : decode cX8_odds 3 = .ok (.ldc2_w 275, 3) := by decide +kernel
theorem dX8_odds_6 : decode cX8_odds 6 = .ok (.invokestatic 97, 3) := by decide +kernel
theorem dX8_odds_9 : decode cX8_odds 9 = .ok (.ifCond .ne 6, 3) := by decide +kernel
theorem dX8_odds_12 : decode cX8_odds 12 = .ok (.ldc 103, 2) := by decide +kernel
theorem dX8_odds_14 : decode cX8_odds 14 = .ok (.ireturn, 1) := by decide +kernel
theorem dX8_odds_15 : decode cX8_odds 15 = .ok (.ldc_w 277, 3) := by decide +kernel
theorem dX8_odds_18 : decode cX8_odds 18 = .ok (.istore_n 2, 1) := by decide +kernel
theorem dX8_odds_19 : decode cX8_odds 19 = .ok (.iconst 0, 1) := by decide +kernel
theorem dX8_odds_20 : decode cX8_odds 20 = .ok (.istore_n 3, 1) := by decide +kernel
theorem dX8_odds_21 : decode cX8_odds 21 = .ok (.aload_n 0, 1) := by decide +kernel
theorem dX8_odds_22 : decode cX8_odds 22 = .ok (.iload_n 1, 1) := by decide +kernel
theorem dX8_odds_23 : decode cX8_odds 23 = .ok (.invokevirtual 204, 3) := by decide +kernel
theorem dX8_odds_26 : decode cX8_odds 26 = .ok (.istore 4, 2) := by decide +kernel
theorem dX8_odds_28 : decode cX8_odds 28 = .ok (.iconst 0, 1) := by decide +kernel
theorem dX8_odds_29 : decode cX8_odds 29 = .ok (.istore 5, 2) := by decide +kernel
theorem dX8_odds_31 : decode cX8_odds 31 = .ok (.iload 5, 2) := by decide +kernel
theorem dX8_odds_33 : decode cX8_odds 33 = .ok (.aload_n 0, 1) := by decide +kernel
theorem dX8_odds_34 : decode cX8_odds 34 = .ok (.getfield 94, 3) := by decide +kernel
theorem dX8_odds_37 : decode cX8_odds 37 = .ok (.if_icmp .ge 61, 3) := by decide +kernel
theorem dX8_odds_40 : decode cX8_odds 40 = .ok (.iload 4, 2) := by decide +kernel
theorem dX8_odds_42 : decode cX8_odds 42 = .ok (.iload 5, 2) := by decide +kernel
theorem dX8_odds_44 : decode cX8_odds 44 = .ok (.invokestatic 196, 3) := by decide +kernel
theorem dX8_odds_47 : decode cX8_odds 47 = .ok (.ifCond .eq 45, 3) := by decide +kernel
theorem dX8_odds_50 : decode cX8_odds 50 = .ok (.iload_n 3, 1) := by decide +kernel
theorem dX8_odds_51 : decode cX8_odds 51 = .ok (.aload_n 0, 1) := by decide +kernel
theorem dX8_odds_52 : decode cX8_odds 52 = .ok (.getfield 16, 3) := by decide +kernel
theorem dX8_odds_55 : decode cX8_odds 55 = .ok (.iload 5, 2) := by decide +kernel
theorem dX8_odds_57 : decode cX8_odds 57 = .ok (.iaload, 1) := by decide +kernel
theorem dX8_odds_58 : decode cX8_odds 58 = .ok (.imul, 1) := by decide +kernel
theorem dX8_odds_59 : decode cX8_odds 59 = .ok (.bipush 100, 2) := by decide +kernel
theorem dX8_odds_61 : decode cX8_odds 61 = .ok (.idiv, 1) := by decide +kernel
theorem dX8_odds_62 : decode cX8_odds 62 = .ok (.iload_n 2, 1) := by decide +kernel
theorem dX8_odds_63 : decode cX8_odds 63 = .ok (.bipush 100, 2) := by decide +kernel
theorem dX8_odds_65 : decode cX8_odds 65 = .ok (.aload_n 0, 1) := by decide +kernel
theorem dX8_odds_66 : decode cX8_odds 66 = .ok (.getfield 16, 3) := by decide +kernel
theorem dX8_odds_69 : decode cX8_odds 69 = .ok (.iload 5, 2) := by decide +kernel
theorem dX8_odds_71 : decode cX8_odds 71 = .ok (.iaload, 1) := by decide +kernel
theorem dX8_odds_72 : decode cX8_odds 72 = .ok (.isub, 1) := by decide +kernel
theorem dX8_odds_73 : decode cX8_odds 73 = .ok (.imul, 1) := by decide +kernel
theorem dX8_odds_74 : decode cX8_odds 74 = .ok (.bipush 100, 2) := by decide +kernel
theorem dX8_odds_76 : decode cX8_odds 76 = .ok (.idiv, 1) := by decide +kernel
theorem dX8_odds_77 : decode cX8_odds 77 = .ok (.iadd, 1) := by decide +kernel
theorem dX8_odds_78 : decode cX8_odds 78 = .ok (.istore_n 3, 1) := by decide +kernel
theorem dX8_odds_79 : decode cX8_odds 79 = .ok (.iload_n 2, 1) := by decide +kernel
theorem dX8_odds_80 : decode cX8_odds 80 = .ok (.aload_n 0, 1) := by decide +kernel
theorem dX8_odds_81 : decode cX8_odds 81 = .ok (.getfield 16, 3) := by decide +kernel
theorem dX8_odds_84 : decode cX8_odds 84 = .ok (.iload 5, 2) := by decide +kernel
theorem dX8_odds_86 : decode cX8_odds 86 = .ok (.iaload, 1) := by decide +kernel
theorem dX8_odds_87 : decode cX8_odds 87 = .ok (.imul, 1) := by decide +kernel
theorem dX8_odds_88 : decode cX8_odds 88 = .ok (.bipush 100, 2) := by decide +kernel
theorem dX8_odds_90 : decode cX8_odds 90 = .ok (.idiv, 1) := by decide +kernel
theorem dX8_odds_91 : decode cX8_odds 91 = .ok (.istore_n 2, 1) := by decide +kernel
theorem dX8_odds_92 : decode cX8_odds 92 = .ok (.iinc 5 1, 3) := by decide +kernel
theorem dX8_odds_95 : decode cX8_odds 95 = .ok (.goto (-64), 3) := by decide +kernel
theorem dX8_odds_98 : decode cX8_odds 98 = .ok (.iload_n 3, 1) := by decide +kernel
theorem dX8_odds_99 : decode cX8_odds 99 = .ok (.ireturn, 1) := by decide +kernel
theorem dX8_see_0 : decode cX8_see 0 = .ok (.iload_n 1, 1) := by decide +kernel
theorem dX8_see_1 : decode cX8_see 1 = .ok (.i2l, 1) := by decide +kernel
theorem dX8_see_2 : decode cX8_see 2 = .ok (.lconst 0, 1) := by decide +kernel
theorem dX8_see_3 : decode cX8_see 3 = .ok (.ldc2_w 222, 3) := by decide +kernel
theorem dX8_see_6 : decode cX8_see 6 = .ok (.invokestatic 97, 3) := by decide +kernel
theorem dX8_see_9 : decode cX8_see 9 = .ok (.ifCond .eq 15, 3) := by decide +kernel
theorem dX8_see_12 : decode cX8_see 12 = .ok (.iload_n 2, 1) := by decide +kernel
theorem dX8_see_13 : decode cX8_see 13 = .ok (.i2l, 1) := by decide +kernel
theorem dX8_see_14 : decode cX8_see 14 = .ok (.lconst 0, 1) := by decide +kernel
theorem dX8_see_15 : decode cX8_see 15 = .ok (.ldc2_w 301, 3) := by decide +kernel
theorem dX8_see_18 : decode cX8_see 18 = .ok (.invokestatic 97, 3) := by decide +kernel
theorem dX8_see_21 : decode cX8_see 21 = .ok (.ifCond .ne 6, 3) := by decide +kernel
theorem dX8_see_24 : decode cX8_see 24 = .ok (.ldc 103, 2) := by decide +kernel
theorem dX8_see_26 : decode cX8_see 26 = .ok (.ireturn, 1) := by decide +kernel
theorem dX8_see_27 : decode cX8_see 27 = .ok (.aload_n 0, 1) := by decide +kernel
theorem dX8_see_28 : decode cX8_see 28 = .ok (.getfield 176, 3) := by decide +kernel
theorem dX8_see_31 : decode cX8_see 31 = .ok (.bipush 10, 2) := by decide +kernel
theorem dX8_see_33 : decode cX8_see 33 = .ok (.if_icmp .ne 6, 3) := by decide +kernel
theorem dX8_see_36 : decode cX8_see 36 = .ok (.ldc 107, 2) := by decide +kernel
theorem dX8_see_38 : decode cX8_see 38 = .ok (.ireturn, 1) := by decide +kernel
theorem dX8_see_39 : decode cX8_see 39 = .ok (.aload_n 0, 1) := by decide +kernel
theorem dX8_see_40 : decode cX8_see 40 = .ok (.getfield 75, 3) := by decide +kernel
theorem dX8_see_43 : decode cX8_see 43 = .ok (.aload_n 0, 1) := by decide +kernel
theorem dX8_see_44 : decode cX8_see 44 = .ok (.getfield 176, 3) := by decide +kernel
theorem dX8_see_47 : decode cX8_see 47 = .ok (.iload_n 1, 1) := by decide +kernel
theorem dX8_see_48 : decode cX8_see 48 = .ok (.iastore, 1) := by decide +kernel
theorem dX8_see_49 : decode cX8_see 49 = .ok (.aload_n 0, 1) := by decide +kernel
theorem dX8_see_50 : decode cX8_see 50 = .ok (.getfield 78, 3) := by decide +kernel
theorem dX8_see_53 : decode cX8_see 53 = .ok (.aload_n 0, 1) := by decide +kernel
theorem dX8_see_54 : decode cX8_see 54 = .ok (.getfield 176, 3) := by decide +kernel
theorem dX8_see_57 : decode cX8_see 57 = .ok (.iload_n 2, 1) := by decide +kernel
theorem dX8_see_58 : decode cX8_see 58 = .ok (.iastore, 1) := by decide +kernel
theorem dX8_see_59 : decode cX8_see 59 = .ok (.aload_n 0, 1) := by decide +kernel
theorem dX8_see_60 : decode cX8_see 60 = .ok (.dup, 1) := by decide +kernel
theorem dX8_see_61 : decode cX8_see 61 = .ok (.getfield 176, 3) := by decide +kernel
theorem dX8_see_64 : decode cX8_see 64 = .ok (.iconst 1, 1) := by decide +kernel
theorem dX8_see_65 : decode cX8_see 65 = .ok (.iadd, 1) := by decide +kernel
theorem dX8_see_66 : decode cX8_see 66 = .ok (.putfield 176, 3) := by decide +kernel
theorem dX8_see_69 : decode cX8_see 69 = .ok (.aload_n 0, 1) := by decide +kernel
theorem dX8_see_70 : decode cX8_see 70 = .ok (.getfield 176, 3) := by decide +kernel
theorem dX8_see_73 : decode cX8_see 73 = .ok (.ireturn, 1) := by decide +kernel
theorem dX8_howBy_0 : decode cX8_howBy 0 = .ok (.aload_n 0, 1) := by decide +kernel
theorem dX8_howBy_1 : decode cX8_howBy 1 = .ok (.iload_n 3, 1) := by decide +kernel
theorem dX8_howBy_2 : decode cX8_howBy 2 = .ok (.invokevirtual 204, 3) := by decide +kernel
theorem dX8_howBy_5 : decode cX8_howBy 5 = .ok (.iconst 1, 1) := by decide +kernel
theorem dX8_howBy_6 : decode cX8_howBy 6 = .ok (.iload_n 1, 1) := by decide +kernel
theorem dX8_howBy_7 : decode cX8_howBy 7 = .ok (.ishl, 1) := by decide +kernel
theorem dX8_howBy_8 : decode cX8_howBy 8 = .ok (.iconst (-1), 1) := by decide +kernel
theorem dX8_howBy_9 : decode cX8_howBy 9 = .ok (.ixor, 1) := by decide +kernel
theorem dX8_howBy_10 : decode cX8_howBy 10 = .ok (.iand, 1) := by decide +kernel
theorem dX8_howBy_11 : decode cX8_howBy 11 = .ok (.invokestatic 216, 3) := by decide +kernel
theorem dX8_howBy_14 : decode cX8_howBy 14 = .ok (.aload_n 0, 1) := by decide +kernel
theorem dX8_howBy_15 : decode cX8_howBy 15 = .ok (.iload_n 1, 1) := by decide +kernel
theorem dX8_howBy_16 : decode cX8_howBy 16 = .ok (.iload_n 3, 1) := by decide +kernel
theorem dX8_howBy_17 : decode cX8_howBy 17 = .ok (.iload_n 2, 1) := by decide +kernel
theorem dX8_howBy_18 : decode cX8_howBy 18 = .ok (.invokevirtual 200, 3) := by decide +kernel
theorem dX8_howBy_21 : decode cX8_howBy 21 = .ok (.ifCond .eq 7, 3) := by decide +kernel
theorem dX8_howBy_24 : decode cX8_howBy 24 = .ok (.iconst 1, 1) := by decide +kernel
theorem dX8_howBy_25 : decode cX8_howBy 25 = .ok (.goto 4, 3) := by decide +kernel
theorem dX8_howBy_28 : decode cX8_howBy 28 = .ok (.iconst 0, 1) := by decide +kernel
theorem dX8_howBy_29 : decode cX8_howBy 29 = .ok (.iadd, 1) := by decide +kernel
theorem dX8_howBy_30 : decode cX8_howBy 30 = .ok (.istore 4, 2) := by decide +kernel
theorem dX8_howBy_32 : decode cX8_howBy 32 = .ok (.iload 4, 2) := by decide +kernel
theorem dX8_howBy_34 : decode cX8_howBy 34 = .ok (.iconst 1, 1) := by decide +kernel
theorem dX8_howBy_35 : decode cX8_howBy 35 = .ok (.if_icmp .le 7, 3) := by decide +kernel
theorem dX8_howBy_38 : decode cX8_howBy 38 = .ok (.iconst 2, 1) := by decide +kernel
theorem dX8_howBy_39 : decode cX8_howBy 39 = .ok (.goto 5, 3) := by decide +kernel
theorem dX8_howBy_42 : decode cX8_howBy 42 = .ok (.iload 4, 2) := by decide +kernel
theorem dX8_howBy_44 : decode cX8_howBy 44 = .ok (.ireturn, 1) := by decide +kernel
theorem dX8_offsetsOf_0 : decode cX8_offsetsOf 0 = .ok (.iconst 0, 1) := by decide +kernel
theorem dX8_offsetsOf_1 : decode cX8_offsetsOf 1 = .ok (.istore_n 2, 1) := by decide +kernel
theorem dX8_offsetsOf_2 : decode cX8_offsetsOf 2 = .ok (.iconst 0, 1) := by decide +kernel
theorem dX8_offsetsOf_3 : decode cX8_offsetsOf 3 = .ok (.istore_n 3, 1) := by decide +kernel
theorem dX8_offsetsOf_4 : decode cX8_offsetsOf 4 = .ok (.iload_n 3, 1) := by decide +kernel
theorem dX8_offsetsOf_5 : decode cX8_offsetsOf 5 = .ok (.aload_n 0, 1) := by decide +kernel
theorem dX8_offsetsOf_6 : decode cX8_offsetsOf 6 = .ok (.getfield 13, 3) := by decide +kernel
theorem dX8_offsetsOf_9 : decode cX8_offsetsOf 9 = .ok (.iload_n 1, 1) := by decide +kernel
theorem dX8_offsetsOf_10 : decode cX8_offsetsOf 10 = .ok (.iaload, 1) := by decide +kernel
theorem dX8_offsetsOf_11 : decode cX8_offsetsOf 11 = .ok (.if_icmp .ge 80, 3) := by decide +kernel
theorem dX8_offsetsOf_14 : decode cX8_offsetsOf 14 = .ok (.iconst 1, 1) := by decide +kernel
theorem dX8_offsetsOf_15 : decode cX8_offsetsOf 15 = .ok (.istore 4, 2) := by decide +kernel
theorem dX8_offsetsOf_17 : decode cX8_offsetsOf 17 = .ok (.iconst 0, 1) := by decide +kernel
theorem dX8_offsetsOf_18 : decode cX8_offsetsOf 18 = .ok (.istore 5, 2) := by decide +kernel
theorem dX8_offsetsOf_20 : decode cX8_offsetsOf 20 = .ok (.iload 5, 2) := by decide +kernel
theorem dX8_offsetsOf_22 : decode cX8_offsetsOf 22 = .ok (.aload_n 0, 1) := by decide +kernel
theorem dX8_offsetsOf_23 : decode cX8_offsetsOf 23 = .ok (.getfield 176, 3) := by decide +kernel
theorem dX8_offsetsOf_26 : decode cX8_offsetsOf 26 = .ok (.if_icmp .ge 44, 3) := by decide +kernel
theorem dX8_offsetsOf_29 : decode cX8_offsetsOf 29 = .ok (.iload 4, 2) := by decide +kernel
theorem dX8_offsetsOf_31 : decode cX8_offsetsOf 31 = .ok (.ifCond .eq 30, 3) := by decide +kernel
theorem dX8_offsetsOf_34 : decode cX8_offsetsOf 34 = .ok (.aload_n 0, 1) := by decide +kernel
theorem dX8_offsetsOf_35 : decode cX8_offsetsOf 35 = .ok (.iload_n 1, 1) := by decide +kernel
theorem dX8_offsetsOf_36 : decode cX8_offsetsOf 36 = .ok (.iload_n 3, 1) := by decide +kernel
theorem dX8_offsetsOf_37 : decode cX8_offsetsOf 37 = .ok (.aload_n 0, 1) := by decide +kernel
theorem dX8_offsetsOf_38 : decode cX8_offsetsOf 38 = .ok (.getfield 75, 3) := by decide +kernel
theorem dX8_offsetsOf_41 : decode cX8_offsetsOf 41 = .ok (.iload 5, 2) := by decide +kernel
theorem dX8_offsetsOf_43 : decode cX8_offsetsOf 43 = .ok (.iaload, 1) := by decide +kernel
theorem dX8_offsetsOf_44 : decode cX8_offsetsOf 44 = .ok (.invokevirtual 303, 3) := by decide +kernel
theorem dX8_offsetsOf_47 : decode cX8_offsetsOf 47 = .ok (.aload_n 0, 1) := by decide +kernel
theorem dX8_offsetsOf_48 : decode cX8_offsetsOf 48 = .ok (.getfield 78, 3) := by decide +kernel
theorem dX8_offsetsOf_51 : decode cX8_offsetsOf 51 = .ok (.iload 5, 2) := by decide +kernel
theorem dX8_offsetsOf_53 : decode cX8_offsetsOf 53 = .ok (.iaload, 1) := by decide +kernel
theorem dX8_offsetsOf_54 : decode cX8_offsetsOf 54 = .ok (.if_icmp .ne 7, 3) := by decide +kernel
theorem dX8_offsetsOf_57 : decode cX8_offsetsOf 57 = .ok (.iconst 1, 1) := by decide +kernel
theorem dX8_offsetsOf_58 : decode cX8_offsetsOf 58 = .ok (.goto 4, 3) := by decide +kernel
theorem dX8_offsetsOf_61 : decode cX8_offsetsOf 61 = .ok (.iconst 0, 1) := by decide +kernel
theorem dX8_offsetsOf_62 : decode cX8_offsetsOf 62 = .ok (.istore 4, 2) := by decide +kernel
theorem dX8_offsetsOf_64 : decode cX8_offsetsOf 64 = .ok (.iinc 5 1, 3) := by decide +kernel
theorem dX8_offsetsOf_67 : decode cX8_offsetsOf 67 = .ok (.goto (-47), 3) := by decide +kernel
theorem dX8_offsetsOf_70 : decode cX8_offsetsOf 70 = .ok (.iload_n 2, 1) := by decide +kernel
theorem dX8_offsetsOf_71 : decode cX8_offsetsOf 71 = .ok (.iload 4, 2) := by decide +kernel
theorem dX8_offsetsOf_73 : decode cX8_offsetsOf 73 = .ok (.ifCond .eq 9, 3) := by decide +kernel
theorem dX8_offsetsOf_76 : decode cX8_offsetsOf 76 = .ok (.iconst 1, 1) := by decide +kernel
theorem dX8_offsetsOf_77 : decode cX8_offsetsOf 77 = .ok (.iload_n 3, 1) := by decide +kernel
theorem dX8_offsetsOf_78 : decode cX8_offsetsOf 78 = .ok (.ishl, 1) := by decide +kernel
theorem dX8_offsetsOf_79 : decode cX8_offsetsOf 79 = .ok (.goto 4, 3) := by decide +kernel
theorem dX8_offsetsOf_82 : decode cX8_offsetsOf 82 = .ok (.iconst 0, 1) := by decide +kernel
theorem dX8_offsetsOf_83 : decode cX8_offsetsOf 83 = .ok (.ior, 1) := by decide +kernel
theorem dX8_offsetsOf_84 : decode cX8_offsetsOf 84 = .ok (.istore_n 2, 1) := by decide +kernel
theorem dX8_offsetsOf_85 : decode cX8_offsetsOf 85 = .ok (.iinc 3 1, 3) := by decide +kernel
theorem dX8_offsetsOf_88 : decode cX8_offsetsOf 88 = .ok (.goto (-84), 3) := by decide +kernel
theorem dX8_offsetsOf_91 : decode cX8_offsetsOf 91 = .ok (.iload_n 2, 1) := by decide +kernel
theorem dX8_offsetsOf_92 : decode cX8_offsetsOf 92 = .ok (.ireturn, 1) := by decide +kernel
theorem dX8_went_0 : decode cX8_went 0 = .ok (.aload_n 0, 1) := by decide +kernel
theorem dX8_went_1 : decode cX8_went 1 = .ok (.iload_n 1, 1) := by decide +kernel
theorem dX8_went_2 : decode cX8_went 2 = .ok (.invokevirtual 185, 3) := by decide +kernel
theorem dX8_went_5 : decode cX8_went 5 = .ok (.ifCond .ne 6, 3) := by decide +kernel
theorem dX8_went_8 : decode cX8_went 8 = .ok (.ldc 189, 2) := by decide +kernel
theorem dX8_went_10 : decode cX8_went 10 = .ok (.ireturn, 1) := by decide +kernel
theorem dX8_went_11 : decode cX8_went 11 = .ok (.iload_n 2, 1) := by decide +kernel
theorem dX8_went_12 : decode cX8_went 12 = .ok (.i2l, 1) := by decide +kernel
theorem dX8_went_13 : decode cX8_went 13 = .ok (.lconst 0, 1) := by decide +kernel
theorem dX8_went_14 : decode cX8_went 14 = .ok (.lconst 1, 1) := by decide +kernel
theorem dX8_went_15 : decode cX8_went 15 = .ok (.invokestatic 97, 3) := by decide +kernel
theorem dX8_went_18 : decode cX8_went 18 = .ok (.ifCond .ne 6, 3) := by decide +kernel
theorem dX8_went_21 : decode cX8_went 21 = .ok (.ldc 103, 2) := by decide +kernel
theorem dX8_went_23 : decode cX8_went 23 = .ok (.ireturn, 1) := by decide +kernel
theorem dX8_went_24 : decode cX8_went 24 = .ok (.aload_n 0, 1) := by decide +kernel
theorem dX8_went_25 : decode cX8_went 25 = .ok (.iload_n 1, 1) := by decide +kernel
theorem dX8_went_26 : decode cX8_went 26 = .ok (.invokevirtual 307, 3) := by decide +kernel
theorem dX8_went_29 : decode cX8_went 29 = .ok (.istore_n 3, 1) := by decide +kernel
theorem dX8_went_30 : decode cX8_went 30 = .ok (.iload_n 2, 1) := by decide +kernel
theorem dX8_went_31 : decode cX8_went 31 = .ok (.ifCond .ne 5, 3) := by decide +kernel
theorem dX8_went_34 : decode cX8_went 34 = .ok (.iload_n 3, 1) := by decide +kernel
theorem dX8_went_35 : decode cX8_went 35 = .ok (.ireturn, 1) := by decide +kernel
theorem dX8_went_36 : decode cX8_went 36 = .ok (.iconst 0, 1) := by decide +kernel
theorem dX8_went_37 : decode cX8_went 37 = .ok (.istore 4, 2) := by decide +kernel
theorem dX8_went_39 : decode cX8_went 39 = .ok (.iload 4, 2) := by decide +kernel
theorem dX8_went_41 : decode cX8_went 41 = .ok (.bipush 100, 2) := by decide +kernel
theorem dX8_went_43 : decode cX8_went 43 = .ok (.if_icmp .ge 73, 3) := by decide +kernel
theorem dX8_went_46 : decode cX8_went 46 = .ok (.iconst 0, 1) := by decide +kernel
theorem dX8_went_47 : decode cX8_went 47 = .ok (.istore 5, 2) := by decide +kernel
theorem dX8_went_49 : decode cX8_went 49 = .ok (.iconst 0, 1) := by decide +kernel
theorem dX8_went_50 : decode cX8_went 50 = .ok (.istore 6, 2) := by decide +kernel
theorem dX8_went_52 : decode cX8_went 52 = .ok (.iload 6, 2) := by decide +kernel
theorem dX8_went_54 : decode cX8_went 54 = .ok (.aload_n 0, 1) := by decide +kernel
theorem dX8_went_55 : decode cX8_went 55 = .ok (.getfield 13, 3) := by decide +kernel
theorem dX8_went_58 : decode cX8_went 58 = .ok (.iload_n 1, 1) := by decide +kernel
theorem dX8_went_59 : decode cX8_went 59 = .ok (.iaload, 1) := by decide +kernel
theorem dX8_went_60 : decode cX8_went 60 = .ok (.if_icmp .ge 38, 3) := by decide +kernel
theorem dX8_went_63 : decode cX8_went 63 = .ok (.iload 5, 2) := by decide +kernel
theorem dX8_went_65 : decode cX8_went 65 = .ok (.iload_n 3, 1) := by decide +kernel
theorem dX8_went_66 : decode cX8_went 66 = .ok (.iload 6, 2) := by decide +kernel
theorem dX8_went_68 : decode cX8_went 68 = .ok (.invokestatic 196, 3) := by decide +kernel
theorem dX8_went_71 : decode cX8_went 71 = .ok (.ifCond .eq 17, 3) := by decide +kernel
theorem dX8_went_74 : decode cX8_went 74 = .ok (.iconst 1, 1) := by decide +kernel
theorem dX8_went_75 : decode cX8_went 75 = .ok (.aload_n 0, 1) := by decide +kernel
theorem dX8_went_76 : decode cX8_went 76 = .ok (.iload_n 1, 1) := by decide +kernel
theorem dX8_went_77 : decode cX8_went 77 = .ok (.iload 6, 2) := by decide +kernel
theorem dX8_went_79 : decode cX8_went 79 = .ok (.iload 4, 2) := by decide +kernel
theorem dX8_went_81 : decode cX8_went 81 = .ok (.invokevirtual 303, 3) := by decide +kernel
theorem dX8_went_84 : decode cX8_went 84 = .ok (.ishl, 1) := by decide +kernel
theorem dX8_went_85 : decode cX8_went 85 = .ok (.goto 4, 3) := by decide +kernel
theorem dX8_went_88 : decode cX8_went 88 = .ok (.iconst 0, 1) := by decide +kernel
theorem dX8_went_89 : decode cX8_went 89 = .ok (.ior, 1) := by decide +kernel
theorem dX8_went_90 : decode cX8_went 90 = .ok (.istore 5, 2) := by decide +kernel
theorem dX8_went_92 : decode cX8_went 92 = .ok (.iinc 6 1, 3) := by decide +kernel
theorem dX8_went_95 : decode cX8_went 95 = .ok (.goto (-43), 3) := by decide +kernel
theorem dX8_went_98 : decode cX8_went 98 = .ok (.iload 5, 2) := by decide +kernel
theorem dX8_went_100 : decode cX8_went 100 = .ok (.invokestatic 216, 3) := by decide +kernel
theorem dX8_went_103 : decode cX8_went 103 = .ok (.iconst 1, 1) := by decide +kernel
theorem dX8_went_104 : decode cX8_went 104 = .ok (.if_icmp .le 6, 3) := by decide +kernel
theorem dX8_went_107 : decode cX8_went 107 = .ok (.iload 4, 2) := by decide +kernel
theorem dX8_went_109 : decode cX8_went 109 = .ok (.ireturn, 1) := by decide +kernel
theorem dX8_went_110 : decode cX8_went 110 = .ok (.iinc 4 1, 3) := by decide +kernel
theorem dX8_went_113 : decode cX8_went 113 = .ok (.goto (-74), 3) := by decide +kernel
end
section
theorem dX8_went_116 : decode cX8_went 116 = .ok (.iconst (-1), 1) := by decide +kernel
theorem dX8_went_117 : decode cX8_went 117 = .ok (.ireturn, 1) := by decide +kernel
theorem dX8_write_0 : decode cX8_write 0 = .ok (.iload_n 2, 1) := by decide +kernel
theorem dX8_write_1 : decode cX8_write 1 = .ok (.iconst (-1), 1) := by decide +kernel
theorem dX8_write_2 : decode cX8_write 2 = .ok (.if_icmp .eq 14, 3) := by decide +kernel
theorem dX8_write_5 : decode cX8_write 5 = .ok (.aload_n 0, 1) := by decide +kernel
theorem dX8_write_6 : decode cX8_write 6 = .ok (.iload_n 2, 1) := by decide +kernel
theorem dX8_write_7 : decode cX8_write 7 = .ok (.invokevirtual 185, 3) := by decide +kernel
theorem dX8_write_10 : decode cX8_write 10 = .ok (.ifCond .ne 6, 3) := by decide +kernel
theorem dX8_write_13 : decode cX8_write 13 = .ok (.ldc 189, 2) := by decide +kernel
theorem dX8_write_15 : decode cX8_write 15 = .ok (.ireturn, 1) := by decide +kernel
theorem dX8_write_16 : decode cX8_write 16 = .ok (.iload_n 1, 1) := by decide +kernel
theorem dX8_write_17 : decode cX8_write 17 = .ok (.i2l, 1) := by decide +kernel
theorem dX8_write_18 : decode cX8_write 18 = .ok (.lconst 0, 1) := by decide +kernel
theorem dX8_write_19 : decode cX8_write 19 = .ok (.ldc2_w 208, 3) := by decide +kernel
theorem dX8_write_22 : decode cX8_write 22 = .ok (.invokestatic 97, 3) := by decide +kernel
theorem dX8_write_25 : decode cX8_write 25 = .ok (.ifCond .ne 6, 3) := by decide +kernel
theorem dX8_write_28 : decode cX8_write 28 = .ok (.ldc 103, 2) := by decide +kernel
theorem dX8_write_30 : decode cX8_write 30 = .ok (.ireturn, 1) := by decide +kernel
theorem dX8_write_31 : decode cX8_write 31 = .ok (.aload_n 0, 1) := by decide +kernel
theorem dX8_write_32 : decode cX8_write 32 = .ok (.getfield 179, 3) := by decide +kernel
theorem dX8_write_35 : decode cX8_write 35 = .ok (.bipush 15, 2) := by decide +kernel
theorem dX8_write_37 : decode cX8_write 37 = .ok (.if_icmp .ne 6, 3) := by decide +kernel
theorem dX8_write_40 : decode cX8_write 40 = .ok (.ldc 107, 2) := by decide +kernel
theorem dX8_write_42 : decode cX8_write 42 = .ok (.ireturn, 1) := by decide +kernel
theorem dX8_write_43 : decode cX8_write 43 = .ok (.aload_n 0, 1) := by decide +kernel
theorem dX8_write_44 : decode cX8_write 44 = .ok (.getfield 81, 3) := by decide +kernel
theorem dX8_write_47 : decode cX8_write 47 = .ok (.aload_n 0, 1) := by decide +kernel
theorem dX8_write_48 : decode cX8_write 48 = .ok (.getfield 179, 3) := by decide +kernel
theorem dX8_write_51 : decode cX8_write 51 = .ok (.iload_n 1, 1) := by decide +kernel
theorem dX8_write_52 : decode cX8_write 52 = .ok (.iastore, 1) := by decide +kernel
theorem dX8_write_53 : decode cX8_write 53 = .ok (.aload_n 0, 1) := by decide +kernel
theorem dX8_write_54 : decode cX8_write 54 = .ok (.getfield 84, 3) := by decide +kernel
theorem dX8_write_57 : decode cX8_write 57 = .ok (.aload_n 0, 1) := by decide +kernel
theorem dX8_write_58 : decode cX8_write 58 = .ok (.getfield 179, 3) := by decide +kernel
theorem dX8_write_61 : decode cX8_write 61 = .ok (.iload_n 2, 1) := by decide +kernel
theorem dX8_write_62 : decode cX8_write 62 = .ok (.iastore, 1) := by decide +kernel
theorem dX8_write_63 : decode cX8_write 63 = .ok (.aload_n 0, 1) := by decide +kernel
theorem dX8_write_64 : decode cX8_write 64 = .ok (.dup, 1) := by decide +kernel
theorem dX8_write_65 : decode cX8_write 65 = .ok (.getfield 179, 3) := by decide +kernel
theorem dX8_write_68 : decode cX8_write 68 = .ok (.iconst 1, 1) := by decide +kernel
theorem dX8_write_69 : decode cX8_write 69 = .ok (.iadd, 1) := by decide +kernel
theorem dX8_write_70 : decode cX8_write 70 = .ok (.putfield 179, 3) := by decide +kernel
theorem dX8_write_73 : decode cX8_write 73 = .ok (.aload_n 0, 1) := by decide +kernel
theorem dX8_write_74 : decode cX8_write 74 = .ok (.getfield 179, 3) := by decide +kernel
theorem dX8_write_77 : decode cX8_write 77 = .ok (.ireturn, 1) := by decide +kernel
theorem dX8_tear_0 : decode cX8_tear 0 = .ok (.aload_n 0, 1) := by decide +kernel
theorem dX8_tear_1 : decode cX8_tear 1 = .ok (.getfield 176, 3) := by decide +kernel
theorem dX8_tear_4 : decode cX8_tear 4 = .ok (.aload_n 0, 1) := by decide +kernel
theorem dX8_tear_5 : decode cX8_tear 5 = .ok (.getfield 179, 3) := by decide +kernel
theorem dX8_tear_8 : decode cX8_tear 8 = .ok (.iadd, 1) := by decide +kernel
theorem dX8_tear_9 : decode cX8_tear 9 = .ok (.istore_n 1, 1) := by decide +kernel
theorem dX8_tear_10 : decode cX8_tear 10 = .ok (.aload_n 0, 1) := by decide +kernel
theorem dX8_tear_11 : decode cX8_tear 11 = .ok (.iconst 0, 1) := by decide +kernel
theorem dX8_tear_12 : decode cX8_tear 12 = .ok (.putfield 176, 3) := by decide +kernel
theorem dX8_tear_15 : decode cX8_tear 15 = .ok (.aload_n 0, 1) := by decide +kernel
theorem dX8_tear_16 : decode cX8_tear 16 = .ok (.iconst 0, 1) := by decide +kernel
theorem dX8_tear_17 : decode cX8_tear 17 = .ok (.putfield 179, 3) := by decide +kernel
theorem dX8_tear_20 : decode cX8_tear 20 = .ok (.iload_n 1, 1) := by decide +kernel
theorem dX8_tear_21 : decode cX8_tear 21 = .ok (.ireturn, 1) := by decide +kernel
theorem dX8_judge_0 : decode cX8_judge 0 = .ok (.iconst 0, 1) := by decide +kernel
theorem dX8_judge_1 : decode cX8_judge 1 = .ok (.istore_n 1, 1) := by decide +kernel
theorem dX8_judge_2 : decode cX8_judge 2 = .ok (.iload_n 1, 1) := by decide +kernel
theorem dX8_judge_3 : decode cX8_judge 3 = .ok (.aload_n 0, 1) := by decide +kernel
theorem dX8_judge_4 : decode cX8_judge 4 = .ok (.getfield 179, 3) := by decide +kernel
theorem dX8_judge_7 : decode cX8_judge 7 = .ok (.if_icmp .ge 73, 3) := by decide +kernel
theorem dX8_judge_10 : decode cX8_judge 10 = .ok (.aload_n 0, 1) := by decide +kernel
theorem dX8_judge_11 : decode cX8_judge 11 = .ok (.getfield 81, 3) := by decide +kernel
theorem dX8_judge_14 : decode cX8_judge 14 = .ok (.iload_n 1, 1) := by decide +kernel
theorem dX8_judge_15 : decode cX8_judge 15 = .ok (.iaload, 1) := by decide +kernel
theorem dX8_judge_16 : decode cX8_judge 16 = .ok (.aload_n 0, 1) := by decide +kernel
theorem dX8_judge_17 : decode cX8_judge 17 = .ok (.getfield 25, 3) := by decide +kernel
theorem dX8_judge_20 : decode cX8_judge 20 = .ok (.iconst 0, 1) := by decide +kernel
theorem dX8_judge_21 : decode cX8_judge 21 = .ok (.iaload, 1) := by decide +kernel
theorem dX8_judge_22 : decode cX8_judge 22 = .ok (.if_icmp .ge 25, 3) := by decide +kernel
theorem dX8_judge_25 : decode cX8_judge 25 = .ok (.aload_n 0, 1) := by decide +kernel
theorem dX8_judge_26 : decode cX8_judge 26 = .ok (.getfield 81, 3) := by decide +kernel
theorem dX8_judge_29 : decode cX8_judge 29 = .ok (.iload_n 1, 1) := by decide +kernel
theorem dX8_judge_30 : decode cX8_judge 30 = .ok (.iaload, 1) := by decide +kernel
theorem dX8_judge_31 : decode cX8_judge 31 = .ok (.aload_n 0, 1) := by decide +kernel
theorem dX8_judge_32 : decode cX8_judge 32 = .ok (.getfield 25, 3) := by decide +kernel
theorem dX8_judge_35 : decode cX8_judge 35 = .ok (.iconst 0, 1) := by decide +kernel
theorem dX8_judge_36 : decode cX8_judge 36 = .ok (.iaload, 1) := by decide +kernel
theorem dX8_judge_37 : decode cX8_judge 37 = .ok (.bipush 60, 2) := by decide +kernel
theorem dX8_judge_39 : decode cX8_judge 39 = .ok (.isub, 1) := by decide +kernel
theorem dX8_judge_40 : decode cX8_judge 40 = .ok (.if_icmp .lt 7, 3) := by decide +kernel
theorem dX8_judge_43 : decode cX8_judge 43 = .ok (.iconst 1, 1) := by decide +kernel
theorem dX8_judge_44 : decode cX8_judge 44 = .ok (.goto 4, 3) := by decide +kernel
theorem dX8_judge_47 : decode cX8_judge 47 = .ok (.iconst 0, 1) := by decide +kernel
theorem dX8_judge_48 : decode cX8_judge 48 = .ok (.istore_n 2, 1) := by decide +kernel
theorem dX8_judge_49 : decode cX8_judge 49 = .ok (.iload_n 2, 1) := by decide +kernel
theorem dX8_judge_50 : decode cX8_judge 50 = .ok (.ifCond .eq 22, 3) := by decide +kernel
theorem dX8_judge_53 : decode cX8_judge 53 = .ok (.aload_n 0, 1) := by decide +kernel
theorem dX8_judge_54 : decode cX8_judge 54 = .ok (.aload_n 0, 1) := by decide +kernel
theorem dX8_judge_55 : decode cX8_judge 55 = .ok (.getfield 81, 3) := by decide +kernel
theorem dX8_judge_58 : decode cX8_judge 58 = .ok (.iload_n 1, 1) := by decide +kernel
theorem dX8_judge_59 : decode cX8_judge 59 = .ok (.iaload, 1) := by decide +kernel
theorem dX8_judge_60 : decode cX8_judge 60 = .ok (.invokevirtual 310, 3) := by decide +kernel
theorem dX8_judge_63 : decode cX8_judge 63 = .ok (.aload_n 0, 1) := by decide +kernel
theorem dX8_judge_64 : decode cX8_judge 64 = .ok (.getfield 84, 3) := by decide +kernel
theorem dX8_judge_67 : decode cX8_judge 67 = .ok (.iload_n 1, 1) := by decide +kernel
theorem dX8_judge_68 : decode cX8_judge 68 = .ok (.iaload, 1) := by decide +kernel
theorem dX8_judge_69 : decode cX8_judge 69 = .ok (.if_icmp .eq 5, 3) := by decide +kernel
theorem dX8_judge_72 : decode cX8_judge 72 = .ok (.iload_n 1, 1) := by decide +kernel
theorem dX8_judge_73 : decode cX8_judge 73 = .ok (.ireturn, 1) := by decide +kernel
theorem dX8_judge_74 : decode cX8_judge 74 = .ok (.iinc 1 1, 3) := by decide +kernel
theorem dX8_judge_77 : decode cX8_judge 77 = .ok (.goto (-75), 3) := by decide +kernel
theorem dX8_judge_80 : decode cX8_judge 80 = .ok (.iconst (-1), 1) := by decide +kernel
theorem dX8_judge_81 : decode cX8_judge 81 = .ok (.ireturn, 1) := by decide +kernel
theorem dX8_seed_0 : decode cX8_seed 0 = .ok (.iload_n 1, 1) := by decide +kernel
theorem dX8_seed_1 : decode cX8_seed 1 = .ok (.ifCond .ge 6, 3) := by decide +kernel
theorem dX8_seed_4 : decode cX8_seed 4 = .ok (.ldc 103, 2) := by decide +kernel
theorem dX8_seed_6 : decode cX8_seed 6 = .ok (.ireturn, 1) := by decide +kernel
theorem dX8_seed_7 : decode cX8_seed 7 = .ok (.aload_n 0, 1) := by decide +kernel
theorem dX8_seed_8 : decode cX8_seed 8 = .ok (.getfield 237, 3) := by decide +kernel
theorem dX8_seed_11 : decode cX8_seed 11 = .ok (.istore_n 2, 1) := by decide +kernel
theorem dX8_seed_12 : decode cX8_seed 12 = .ok (.aload_n 0, 1) := by decide +kernel
theorem dX8_seed_13 : decode cX8_seed 13 = .ok (.iload_n 1, 1) := by decide +kernel
theorem dX8_seed_14 : decode cX8_seed 14 = .ok (.putfield 237, 3) := by decide +kernel
theorem dX8_seed_17 : decode cX8_seed 17 = .ok (.iload_n 2, 1) := by decide +kernel
theorem dX8_seed_18 : decode cX8_seed 18 = .ok (.ireturn, 1) := by decide +kernel
theorem dX8_keep_0 : decode cX8_keep 0 = .ok (.iload_n 1, 1) := by decide +kernel
theorem dX8_keep_1 : decode cX8_keep 1 = .ok (.i2l, 1) := by decide +kernel
theorem dX8_keep_2 : decode cX8_keep 2 = .ok (.lconst 0, 1) := by decide +kernel
theorem dX8_keep_3 : decode cX8_keep 3 = .ok (.lconst 1, 1) := by decide +kernel
theorem dX8_keep_4 : decode cX8_keep 4 = .ok (.invokestatic 97, 3) := by decide +kernel
theorem dX8_keep_7 : decode cX8_keep 7 = .ok (.ifCond .ne 6, 3) := by decide +kernel
theorem dX8_keep_10 : decode cX8_keep 10 = .ok (.ldc 189, 2) := by decide +kernel
theorem dX8_keep_12 : decode cX8_keep 12 = .ok (.ireturn, 1) := by decide +kernel
theorem dX8_keep_13 : decode cX8_keep 13 = .ok (.iconst 0, 1) := by decide +kernel
theorem dX8_keep_14 : decode cX8_keep 14 = .ok (.istore_n 2, 1) := by decide +kernel
theorem dX8_keep_15 : decode cX8_keep 15 = .ok (.iload_n 2, 1) := by decide +kernel
theorem dX8_keep_16 : decode cX8_keep 16 = .ok (.bipush 103, 2) := by decide +kernel
theorem dX8_keep_18 : decode cX8_keep 18 = .ok (.if_icmp .ge 26, 3) := by decide +kernel
theorem dX8_keep_21 : decode cX8_keep 21 = .ok (.aload_n 0, 1) := by decide +kernel
theorem dX8_keep_22 : decode cX8_keep 22 = .ok (.getfield 87, 3) := by decide +kernel
theorem dX8_keep_25 : decode cX8_keep 25 = .ok (.bipush 104, 2) := by decide +kernel
theorem dX8_keep_27 : decode cX8_keep 27 = .ok (.iload_n 1, 1) := by decide +kernel
theorem dX8_keep_28 : decode cX8_keep 28 = .ok (.imul, 1) := by decide +kernel
theorem dX8_keep_29 : decode cX8_keep 29 = .ok (.iload_n 2, 1) := by decide +kernel
theorem dX8_keep_30 : decode cX8_keep 30 = .ok (.iadd, 1) := by decide +kernel
theorem dX8_keep_31 : decode cX8_keep 31 = .ok (.aload_n 0, 1) := by decide +kernel
theorem dX8_keep_32 : decode cX8_keep 32 = .ok (.getfield 25, 3) := by decide +kernel
theorem dX8_keep_35 : decode cX8_keep 35 = .ok (.iload_n 2, 1) := by decide +kernel
theorem dX8_keep_36 : decode cX8_keep 36 = .ok (.iaload, 1) := by decide +kernel
theorem dX8_keep_37 : decode cX8_keep 37 = .ok (.iastore, 1) := by decide +kernel
theorem dX8_keep_38 : decode cX8_keep 38 = .ok (.iinc 2 1, 3) := by decide +kernel
theorem dX8_keep_41 : decode cX8_keep 41 = .ok (.goto (-26), 3) := by decide +kernel
theorem dX8_keep_44 : decode cX8_keep 44 = .ok (.aload_n 0, 1) := by decide +kernel
theorem dX8_keep_45 : decode cX8_keep 45 = .ok (.getfield 87, 3) := by decide +kernel
theorem dX8_keep_48 : decode cX8_keep 48 = .ok (.bipush 104, 2) := by decide +kernel
theorem dX8_keep_50 : decode cX8_keep 50 = .ok (.iload_n 1, 1) := by decide +kernel
theorem dX8_keep_51 : decode cX8_keep 51 = .ok (.imul, 1) := by decide +kernel
theorem dX8_keep_52 : decode cX8_keep 52 = .ok (.bipush 103, 2) := by decide +kernel
theorem dX8_keep_54 : decode cX8_keep 54 = .ok (.iadd, 1) := by decide +kernel
theorem dX8_keep_55 : decode cX8_keep 55 = .ok (.aload_n 0, 1) := by decide +kernel
theorem dX8_keep_56 : decode cX8_keep 56 = .ok (.getfield 237, 3) := by decide +kernel
theorem dX8_keep_59 : decode cX8_keep 59 = .ok (.iastore, 1) := by decide +kernel
theorem dX8_keep_60 : decode cX8_keep 60 = .ok (.aload_n 0, 1) := by decide +kernel
theorem dX8_keep_61 : decode cX8_keep 61 = .ok (.getfield 90, 3) := by decide +kernel
theorem dX8_keep_64 : decode cX8_keep 64 = .ok (.iload_n 1, 1) := by decide +kernel
theorem dX8_keep_65 : decode cX8_keep 65 = .ok (.iconst 1, 1) := by decide +kernel
theorem dX8_keep_66 : decode cX8_keep 66 = .ok (.bastore, 1) := by decide +kernel
theorem dX8_keep_67 : decode cX8_keep 67 = .ok (.aload_n 0, 1) := by decide +kernel
theorem dX8_keep_68 : decode cX8_keep 68 = .ok (.iconst 0, 1) := by decide +kernel
theorem dX8_keep_69 : decode cX8_keep 69 = .ok (.putfield 182, 3) := by decide +kernel
theorem dX8_keep_72 : decode cX8_keep 72 = .ok (.iconst 1, 1) := by decide +kernel
theorem dX8_keep_73 : decode cX8_keep 73 = .ok (.ireturn, 1) := by decide +kernel
theorem dX8_goBack_0 : decode cX8_goBack 0 = .ok (.iload_n 1, 1) := by decide +kernel
theorem dX8_goBack_1 : decode cX8_goBack 1 = .ok (.i2l, 1) := by decide +kernel
theorem dX8_goBack_2 : decode cX8_goBack 2 = .ok (.lconst 0, 1) := by decide +kernel
theorem dX8_goBack_3 : decode cX8_goBack 3 = .ok (.lconst 1, 1) := by decide +kernel
theorem dX8_goBack_4 : decode cX8_goBack 4 = .ok (.invokestatic 97, 3) := by decide +kernel
theorem dX8_goBack_7 : decode cX8_goBack 7 = .ok (.ifCond .ne 6, 3) := by decide +kernel
theorem dX8_goBack_10 : decode cX8_goBack 10 = .ok (.ldc 189, 2) := by decide +kernel
theorem dX8_goBack_12 : decode cX8_goBack 12 = .ok (.ireturn, 1) := by decide +kernel
theorem dX8_goBack_13 : decode cX8_goBack 13 = .ok (.aload_n 0, 1) := by decide +kernel
theorem dX8_goBack_14 : decode cX8_goBack 14 = .ok (.getfield 90, 3) := by decide +kernel
theorem dX8_goBack_17 : decode cX8_goBack 17 = .ok (.iload_n 1, 1) := by decide +kernel
theorem dX8_goBack_18 : decode cX8_goBack 18 = .ok (.baload, 1) := by decide +kernel
theorem dX8_goBack_19 : decode cX8_goBack 19 = .ok (.ifCond .ne 6, 3) := by decide +kernel
theorem dX8_goBack_22 : decode cX8_goBack 22 = .ok (.ldc 224, 2) := by decide +kernel
theorem dX8_goBack_24 : decode cX8_goBack 24 = .ok (.ireturn, 1) := by decide +kernel
theorem dX8_goBack_25 : decode cX8_goBack 25 = .ok (.iconst 0, 1) := by decide +kernel
theorem dX8_goBack_26 : decode cX8_goBack 26 = .ok (.istore_n 2, 1) := by decide +kernel
theorem dX8_goBack_27 : decode cX8_goBack 27 = .ok (.iload_n 2, 1) := by decide +kernel
theorem dX8_goBack_28 : decode cX8_goBack 28 = .ok (.bipush 103, 2) := by decide +kernel
theorem dX8_goBack_30 : decode cX8_goBack 30 = .ok (.if_icmp .ge 26, 3) := by decide +kernel
theorem dX8_goBack_33 : decode cX8_goBack 33 = .ok (.aload_n 0, 1) := by decide +kernel
theorem dX8_goBack_34 : decode cX8_goBack 34 = .ok (.getfield 25, 3) := by decide +kernel
theorem dX8_goBack_37 : decode cX8_goBack 37 = .ok (.iload_n 2, 1) := by decide +kernel
theorem dX8_goBack_38 : decode cX8_goBack 38 = .ok (.aload_n 0, 1) := by decide +kernel
theorem dX8_goBack_39 : decode cX8_goBack 39 = .ok (.getfield 87, 3) := by decide +kernel
theorem dX8_goBack_42 : decode cX8_goBack 42 = .ok (.bipush 104, 2) := by decide +kernel
theorem dX8_goBack_44 : decode cX8_goBack 44 = .ok (.iload_n 1, 1) := by decide +kernel
theorem dX8_goBack_45 : decode cX8_goBack 45 = .ok (.imul, 1) := by decide +kernel
theorem dX8_goBack_46 : decode cX8_goBack 46 = .ok (.iload_n 2, 1) := by decide +kernel
theorem dX8_goBack_47 : decode cX8_goBack 47 = .ok (.iadd, 1) := by decide +kernel
theorem dX8_goBack_48 : decode cX8_goBack 48 = .ok (.iaload, 1) := by decide +kernel
theorem dX8_goBack_49 : decode cX8_goBack 49 = .ok (.iastore, 1) := by decide +kernel
theorem dX8_goBack_50 : decode cX8_goBack 50 = .ok (.iinc 2 1, 3) := by decide +kernel
theorem dX8_goBack_53 : decode cX8_goBack 53 = .ok (.goto (-26), 3) := by decide +kernel
theorem dX8_goBack_56 : decode cX8_goBack 56 = .ok (.aload_n 0, 1) := by decide +kernel
theorem dX8_goBack_57 : decode cX8_goBack 57 = .ok (.aload_n 0, 1) := by decide +kernel
theorem dX8_goBack_58 : decode cX8_goBack 58 = .ok (.getfield 87, 3) := by decide +kernel
theorem dX8_goBack_61 : decode cX8_goBack 61 = .ok (.bipush 104, 2) := by decide +kernel
theorem dX8_goBack_63 : decode cX8_goBack 63 = .ok (.iload_n 1, 1) := by decide +kernel
theorem dX8_goBack_64 : decode cX8_goBack 64 = .ok (.imul, 1) := by decide +kernel
theorem dX8_goBack_65 : decode cX8_goBack 65 = .ok (.bipush 103, 2) := by decide +kernel
theorem dX8_goBack_67 : decode cX8_goBack 67 = .ok (.iadd, 1) := by decide +kernel
theorem dX8_goBack_68 : decode cX8_goBack 68 = .ok (.iaload, 1) := by decide +kernel
theorem dX8_goBack_69 : decode cX8_goBack 69 = .ok (.putfield 237, 3) := by decide +kernel
theorem dX8_goBack_72 : decode cX8_goBack 72 = .ok (.aload_n 0, 1) := by decide +kernel
theorem dX8_goBack_73 : decode cX8_goBack 73 = .ok (.iconst 0, 1) := by decide +kernel
theorem dX8_goBack_74 : decode cX8_goBack 74 = .ok (.putfield 182, 3) := by decide +kernel
theorem dX8_goBack_77 : decode cX8_goBack 77 = .ok (.iconst 1, 1) := by decide +kernel
theorem dX8_goBack_78 : decode cX8_goBack 78 = .ok (.ireturn, 1) := by decide +kernel
theorem dJ6_bitCount_0f7a4_0 : decode cJ6_bitCount_0f7a4 0 = .ok (.iload_n 0, 1) := by decide +kernel
theorem dJ6_bitCount_0f7a4_1 : decode cJ6_bitCount_0f7a4 1 = .ok (.iload_n 0, 1) := by decide +kernel
theorem dJ6_bitCount_0f7a4_2 : decode cJ6_bitCount_0f7a4 2 = .ok (.iconst 1, 1) := by decide +kernel
theorem dJ6_bitCount_0f7a4_3 : decode cJ6_bitCount_0f7a4 3 = .ok (.iushr, 1) := by decide +kernel
theorem dJ6_bitCount_0f7a4_4 : decode cJ6_bitCount_0f7a4 4 = .ok (.ldc_w 265, 3) := by decide +kernel
theorem dJ6_bitCount_0f7a4_7 : decode cJ6_bitCount_0f7a4 7 = .ok (.iand, 1) := by decide +kernel
theorem dJ6_bitCount_0f7a4_8 : decode cJ6_bitCount_0f7a4 8 = .ok (.isub, 1) := by decide +kernel
theorem dJ6_bitCount_0f7a4_9 : decode cJ6_bitCount_0f7a4 9 = .ok (.istore_n 0, 1) := by decide +kernel
theorem dJ6_bitCount_0f7a4_10 : decode cJ6_bitCount_0f7a4 10 = .ok (.iload_n 0, 1) := by decide +kernel
theorem dJ6_bitCount_0f7a4_11 : decode cJ6_bitCount_0f7a4 11 = .ok (.ldc_w 266, 3) := by decide +kernel
theorem dJ6_bitCount_0f7a4_14 : decode cJ6_bitCount_0f7a4 14 = .ok (.iand, 1) := by decide +kernel
theorem dJ6_bitCount_0f7a4_15 : decode cJ6_bitCount_0f7a4 15 = .ok (.iload_n 0, 1) := by decide +kernel
theorem dJ6_bitCount_0f7a4_16 : decode cJ6_bitCount_0f7a4 16 = .ok (.iconst 2, 1) := by decide +kernel
theorem dJ6_bitCount_0f7a4_17 : decode cJ6_bitCount_0f7a4 17 = .ok (.iushr, 1) := by decide +kernel
theorem dJ6_bitCount_0f7a4_18 : decode cJ6_bitCount_0f7a4 18 = .ok (.ldc_w 266, 3) := by decide +kernel
theorem dJ6_bitCount_0f7a4_21 : decode cJ6_bitCount_0f7a4 21 = .ok (.iand, 1) := by decide +kernel
theorem dJ6_bitCount_0f7a4_22 : decode cJ6_bitCount_0f7a4 22 = .ok (.iadd, 1) := by decide +kernel
theorem dJ6_bitCount_0f7a4_23 : decode cJ6_bitCount_0f7a4 23 = .ok (.istore_n 0, 1) := by decide +kernel
theorem dJ6_bitCount_0f7a4_24 : decode cJ6_bitCount_0f7a4 24 = .ok (.iload_n 0, 1) := by decide +kernel
theorem dJ6_bitCount_0f7a4_25 : decode cJ6_bitCount_0f7a4 25 = .ok (.iload_n 0, 1) := by decide +kernel
theorem dJ6_bitCount_0f7a4_26 : decode cJ6_bitCount_0f7a4 26 = .ok (.iconst 4, 1) := by decide +kernel
theorem dJ6_bitCount_0f7a4_27 : decode cJ6_bitCount_0f7a4 27 = .ok (.iushr, 1) := by decide +kernel
theorem dJ6_bitCount_0f7a4_28 : decode cJ6_bitCount_0f7a4 28 = .ok (.iadd, 1) := by decide +kernel
theorem dJ6_bitCount_0f7a4_29 : decode cJ6_bitCount_0f7a4 29 = .ok (.ldc_w 267, 3) := by decide +kernel
theorem dJ6_bitCount_0f7a4_32 : decode cJ6_bitCount_0f7a4 32 = .ok (.iand, 1) := by decide +kernel
theorem dJ6_bitCount_0f7a4_33 : decode cJ6_bitCount_0f7a4 33 = .ok (.istore_n 0, 1) := by decide +kernel
theorem dJ6_bitCount_0f7a4_34 : decode cJ6_bitCount_0f7a4 34 = .ok (.iload_n 0, 1) := by decide +kernel
theorem dJ6_bitCount_0f7a4_35 : decode cJ6_bitCount_0f7a4 35 = .ok (.iload_n 0, 1) := by decide +kernel
theorem dJ6_bitCount_0f7a4_36 : decode cJ6_bitCount_0f7a4 36 = .ok (.bipush 8, 2) := by decide +kernel
theorem dJ6_bitCount_0f7a4_38 : decode cJ6_bitCount_0f7a4 38 = .ok (.iushr, 1) := by decide +kernel
theorem dJ6_bitCount_0f7a4_39 : decode cJ6_bitCount_0f7a4 39 = .ok (.iadd, 1) := by decide +kernel
theorem dJ6_bitCount_0f7a4_40 : decode cJ6_bitCount_0f7a4 40 = .ok (.istore_n 0, 1) := by decide +kernel
theorem dJ6_bitCount_0f7a4_41 : decode cJ6_bitCount_0f7a4 41 = .ok (.iload_n 0, 1) := by decide +kernel
theorem dJ6_bitCount_0f7a4_42 : decode cJ6_bitCount_0f7a4 42 = .ok (.iload_n 0, 1) := by decide +kernel
theorem dJ6_bitCount_0f7a4_43 : decode cJ6_bitCount_0f7a4 43 = .ok (.bipush 16, 2) := by decide +kernel
theorem dJ6_bitCount_0f7a4_45 : decode cJ6_bitCount_0f7a4 45 = .ok (.iushr, 1) := by decide +kernel
theorem dJ6_bitCount_0f7a4_46 : decode cJ6_bitCount_0f7a4 46 = .ok (.iadd, 1) := by decide +kernel
theorem dJ6_bitCount_0f7a4_47 : decode cJ6_bitCount_0f7a4 47 = .ok (.istore_n 0, 1) := by decide +kernel
theorem dJ6_bitCount_0f7a4_48 : decode cJ6_bitCount_0f7a4 48 = .ok (.iload_n 0, 1) := by decide +kernel
theorem dJ6_bitCount_0f7a4_49 : decode cJ6_bitCount_0f7a4 49 = .ok (.bipush 63, 2) := by decide +kernel
theorem dJ6_bitCount_0f7a4_51 : decode cJ6_bitCount_0f7a4 51 = .ok (.iand, 1) := by decide +kernel
theorem dJ6_bitCount_0f7a4_52 : decode cJ6_bitCount_0f7a4 52 = .ok (.ireturn, 1) := by decide +kernel
theorem dJ9_max_7cf53_0 : decode cJ9_max_7cf53 0 = .ok (.iload_n 0, 1) := by decide +kernel
theorem dJ9_max_7cf53_1 : decode cJ9_max_7cf53 1 = .ok (.iload_n 1, 1) := by decide +kernel
theorem dJ9_max_7cf53_2 : decode cJ9_max_7cf53 2 = .ok (.if_icmp .lt 7, 3) := by decide +kernel
theorem dJ9_max_7cf53_5 : decode cJ9_max_7cf53 5 = .ok (.iload_n 0, 1) := by decide +kernel
theorem dJ9_max_7cf53_6 : decode cJ9_max_7cf53 6 = .ok (.goto 4, 3) := by decide +kernel
theorem dJ9_max_7cf53_9 : decode cJ9_max_7cf53 9 = .ok (.iload_n 1, 1) := by decide +kernel
theorem dJ9_max_7cf53_10 : decode cJ9_max_7cf53 10 = .ok (.ireturn, 1) := by decide +kernel
theorem dJ9_min_7cf53_0 : decode cJ9_min_7cf53 0 = .ok (.iload_n 0, 1) := by decide +kernel
theorem dJ9_min_7cf53_1 : decode cJ9_min_7cf53 1 = .ok (.iload_n 1, 1) := by decide +kernel
theorem dJ9_min_7cf53_2 : decode cJ9_min_7cf53 2 = .ok (.if_icmp .gt 7, 3) := by decide +kernel
theorem dJ9_min_7cf53_5 : decode cJ9_min_7cf53 5 = .ok (.iload_n 0, 1) := by decide +kernel
theorem dJ9_min_7cf53_6 : decode cJ9_min_7cf53 6 = .ok (.goto 4, 3) := by decide +kernel
theorem dJ9_min_7cf53_9 : decode cJ9_min_7cf53 9 = .ok (.iload_n 1, 1) := by decide +kernel
theorem dJ9_min_7cf53_10 : decode cJ9_min_7cf53 10 = .ok (.ireturn, 1) := by decide +kernel
theorem dJ7_fill_d0a16_0 : decode cJ7_fill_d0a16 0 = .ok (.iconst 0, 1) := by decide +kernel
theorem dJ7_fill_d0a16_1 : decode cJ7_fill_d0a16 1 = .ok (.istore_n 3, 1) := by decide +kernel
theorem dJ7_fill_d0a16_2 : decode cJ7_fill_d0a16 2 = .ok (.aload_n 0, 1) := by decide +kernel
theorem dJ7_fill_d0a16_3 : decode cJ7_fill_d0a16 3 = .ok (.arraylength, 1) := by decide +kernel
theorem dJ7_fill_d0a16_4 : decode cJ7_fill_d0a16 4 = .ok (.istore 4, 2) := by decide +kernel
theorem dJ7_fill_d0a16_6 : decode cJ7_fill_d0a16 6 = .ok (.iload_n 3, 1) := by decide +kernel
theorem dJ7_fill_d0a16_7 : decode cJ7_fill_d0a16 7 = .ok (.iload 4, 2) := by decide +kernel
theorem dJ7_fill_d0a16_9 : decode cJ7_fill_d0a16 9 = .ok (.if_icmp .ge 13, 3) := by decide +kernel
theorem dJ7_fill_d0a16_12 : decode cJ7_fill_d0a16 12 = .ok (.aload_n 0, 1) := by decide +kernel
theorem dJ7_fill_d0a16_13 : decode cJ7_fill_d0a16 13 = .ok (.iload_n 3, 1) := by decide +kernel
theorem dJ7_fill_d0a16_14 : decode cJ7_fill_d0a16 14 = .ok (.lload_n 1, 1) := by decide +kernel
theorem dJ7_fill_d0a16_15 : decode cJ7_fill_d0a16 15 = .ok (.lastore, 1) := by decide +kernel
theorem dJ7_fill_d0a16_16 : decode cJ7_fill_d0a16 16 = .ok (.iinc 3 1, 3) := by decide +kernel
theorem dJ7_fill_d0a16_19 : decode cJ7_fill_d0a16 19 = .ok (.goto (-13), 3) := by decide +kernel
theorem dJ7_fill_d0a16_22 : decode cJ7_fill_d0a16 22 = .ok (.return_, 1) := by decide +kernel
theorem dJ7_fill_53178_0 : decode cJ7_fill_53178 0 = .ok (.iconst 0, 1) := by decide +kernel
theorem dJ7_fill_53178_1 : decode cJ7_fill_53178 1 = .ok (.istore_n 2, 1) := by decide +kernel
theorem dJ7_fill_53178_2 : decode cJ7_fill_53178 2 = .ok (.aload_n 0, 1) := by decide +kernel
theorem dJ7_fill_53178_3 : decode cJ7_fill_53178 3 = .ok (.arraylength, 1) := by decide +kernel
theorem dJ7_fill_53178_4 : decode cJ7_fill_53178 4 = .ok (.istore_n 3, 1) := by decide +kernel
theorem dJ7_fill_53178_5 : decode cJ7_fill_53178 5 = .ok (.iload_n 2, 1) := by decide +kernel
theorem dJ7_fill_53178_6 : decode cJ7_fill_53178 6 = .ok (.iload_n 3, 1) := by decide +kernel
theorem dJ7_fill_53178_7 : decode cJ7_fill_53178 7 = .ok (.if_icmp .ge 13, 3) := by decide +kernel
theorem dJ7_fill_53178_10 : decode cJ7_fill_53178 10 = .ok (.aload_n 0, 1) := by decide +kernel
theorem dJ7_fill_53178_11 : decode cJ7_fill_53178 11 = .ok (.iload_n 2, 1) := by decide +kernel
theorem dJ7_fill_53178_12 : decode cJ7_fill_53178 12 = .ok (.iload_n 1, 1) := by decide +kernel
theorem dJ7_fill_53178_13 : decode cJ7_fill_53178 13 = .ok (.iastore, 1) := by decide +kernel
theorem dJ7_fill_53178_14 : decode cJ7_fill_53178 14 = .ok (.iinc 2 1, 3) := by decide +kernel
theorem dJ7_fill_53178_17 : decode cJ7_fill_53178 17 = .ok (.goto (-12), 3) := by decide +kernel
theorem dJ7_fill_53178_20 : decode cJ7_fill_53178 20 = .ok (.return_, 1) := by decide +kernel
theorem dL_law_0 : decode cL_law 0 = .ok (.new 7, 3) := by decide +kernel
theorem dL_law_3 : decode cL_law 3 = .ok (.dup, 1) := by decide +kernel
theorem dL_law_4 : decode cL_law 4 = .ok (.invokespecial 9, 3) := by decide +kernel
theorem dL_law_7 : decode cL_law 7 = .ok (.astore_n 1, 1) := by decide +kernel
theorem dL_law_8 : decode cL_law 8 = .ok (.new 10, 3) := by decide +kernel
theorem dL_law_11 : decode cL_law 11 = .ok (.dup, 1) := by decide +kernel
theorem dL_law_12 : decode cL_law 12 = .ok (.invokespecial 12, 3) := by decide +kernel
theorem dL_law_15 : decode cL_law 15 = .ok (.astore_n 2, 1) := by decide +kernel
theorem dL_law_16 : decode cL_law 16 = .ok (.iconst 0, 1) := by decide +kernel
theorem dL_law_17 : decode cL_law 17 = .ok (.istore_n 3, 1) := by decide +kernel
theorem dL_law_18 : decode cL_law 18 = .ok (.iload_n 3, 1) := by decide +kernel
theorem dL_law_19 : decode cL_law 19 = .ok (.aload_n 0, 1) := by decide +kernel
theorem dL_law_20 : decode cL_law 20 = .ok (.arraylength, 1) := by decide +kernel
theorem dL_law_21 : decode cL_law 21 = .ok (.iconst 3, 1) := by decide +kernel
theorem dL_law_22 : decode cL_law 22 = .ok (.isub, 1) := by decide +kernel
theorem dL_law_23 : decode cL_law 23 = .ok (.if_icmp .gt 790, 3) := by decide +kernel
theorem dL_law_26 : decode cL_law 26 = .ok (.aload_n 0, 1) := by decide +kernel
theorem dL_law_27 : decode cL_law 27 = .ok (.iload_n 3, 1) := by decide +kernel
theorem dL_law_28 : decode cL_law 28 = .ok (.iaload, 1) := by decide +kernel
theorem dL_law_29 : decode cL_law 29 = .ok (.bipush 31, 2) := by decide +kernel
theorem dL_law_31 : decode cL_law 31 = .ok (.iand, 1) := by decide +kernel
theorem dL_law_32 : decode cL_law 32 = .ok (.tableswitch 775 0 26 #[124, 147, 160, 173, 196, 229, 252, 275, 298, 331, 354, 367, 380, 413, 446, 469, 502, 525, 558, 581, 614, 647, 680, 693, 706, 729, 752], 124) := by decide +kernel
theorem dL_law_156 : decode cL_law 156 = .ok (.aload_n 1, 1) := by decide +kernel
theorem dL_law_157 : decode cL_law 157 = .ok (.aload_n 0, 1) := by decide +kernel
theorem dL_law_158 : decode cL_law 158 = .ok (.iload_n 3, 1) := by decide +kernel
theorem dL_law_159 : decode cL_law 159 = .ok (.iconst 1, 1) := by decide +kernel
theorem dL_law_160 : decode cL_law 160 = .ok (.iadd, 1) := by decide +kernel
theorem dL_law_161 : decode cL_law 161 = .ok (.iaload, 1) := by decide +kernel
theorem dL_law_162 : decode cL_law 162 = .ok (.invokevirtual 13, 3) := by decide +kernel
theorem dL_law_165 : decode cL_law 165 = .ok (.aload_n 2, 1) := by decide +kernel
theorem dL_law_166 : decode cL_law 166 = .ok (.aload_n 0, 1) := by decide +kernel
theorem dL_law_167 : decode cL_law 167 = .ok (.iload_n 3, 1) := by decide +kernel
theorem dL_law_168 : decode cL_law 168 = .ok (.iconst 1, 1) := by decide +kernel
theorem dL_law_169 : decode cL_law 169 = .ok (.iadd, 1) := by decide +kernel
theorem dL_law_170 : decode cL_law 170 = .ok (.iaload, 1) := by decide +kernel
theorem dL_law_171 : decode cL_law 171 = .ok (.invokevirtual 17, 3) := by decide +kernel
theorem dL_law_174 : decode cL_law 174 = .ok (.if_icmp .eq 633, 3) := by decide +kernel
theorem dL_law_177 : decode cL_law 177 = .ok (.iconst 0, 1) := by decide +kernel
theorem dL_law_178 : decode cL_law 178 = .ok (.ireturn, 1) := by decide +kernel
theorem dL_law_179 : decode cL_law 179 = .ok (.aload_n 1, 1) := by decide +kernel
theorem dL_law_180 : decode cL_law 180 = .ok (.invokevirtual 18, 3) := by decide +kernel
theorem dL_law_183 : decode cL_law 183 = .ok (.aload_n 2, 1) := by decide +kernel
theorem dL_law_184 : decode cL_law 184 = .ok (.invokevirtual 22, 3) := by decide +kernel
theorem dL_law_187 : decode cL_law 187 = .ok (.if_icmp .eq 620, 3) := by decide +kernel
theorem dL_law_190 : decode cL_law 190 = .ok (.iconst 0, 1) := by decide +kernel
theorem dL_law_191 : decode cL_law 191 = .ok (.ireturn, 1) := by decide +kernel
theorem dL_law_192 : decode cL_law 192 = .ok (.aload_n 1, 1) := by decide +kernel
theorem dL_law_193 : decode cL_law 193 = .ok (.invokevirtual 23, 3) := by decide +kernel
theorem dL_law_196 : decode cL_law 196 = .ok (.aload_n 2, 1) := by decide +kernel
theorem dL_law_197 : decode cL_law 197 = .ok (.invokevirtual 26, 3) := by decide +kernel
theorem dL_law_200 : decode cL_law 200 = .ok (.if_icmp .eq 607, 3) := by decide +kernel
theorem dL_law_203 : decode cL_law 203 = .ok (.iconst 0, 1) := by decide +kernel
theorem dL_law_204 : decode cL_law 204 = .ok (.ireturn, 1) := by decide +kernel
theorem dL_law_205 : decode cL_law 205 = .ok (.aload_n 1, 1) := by decide +kernel
theorem dL_law_206 : decode cL_law 206 = .ok (.aload_n 0, 1) := by decide +kernel
theorem dL_law_207 : decode cL_law 207 = .ok (.iload_n 3, 1) := by decide +kernel
theorem dL_law_208 : decode cL_law 208 = .ok (.iconst 1, 1) := by decide +kernel
theorem dL_law_209 : decode cL_law 209 = .ok (.iadd, 1) := by decide +kernel
theorem dL_law_210 : decode cL_law 210 = .ok (.iaload, 1) := by decide +kernel
theorem dL_law_211 : decode cL_law 211 = .ok (.invokevirtual 27, 3) := by decide +kernel
theorem dL_law_214 : decode cL_law 214 = .ok (.aload_n 2, 1) := by decide +kernel
theorem dL_law_215 : decode cL_law 215 = .ok (.aload_n 0, 1) := by decide +kernel
theorem dL_law_216 : decode cL_law 216 = .ok (.iload_n 3, 1) := by decide +kernel
theorem dL_law_217 : decode cL_law 217 = .ok (.iconst 1, 1) := by decide +kernel
theorem dL_law_218 : decode cL_law 218 = .ok (.iadd, 1) := by decide +kernel
theorem dL_law_219 : decode cL_law 219 = .ok (.iaload, 1) := by decide +kernel
theorem dL_law_220 : decode cL_law 220 = .ok (.invokevirtual 30, 3) := by decide +kernel
theorem dL_law_223 : decode cL_law 223 = .ok (.if_icmp .eq 584, 3) := by decide +kernel
theorem dL_law_226 : decode cL_law 226 = .ok (.iconst 0, 1) := by decide +kernel
theorem dL_law_227 : decode cL_law 227 = .ok (.ireturn, 1) := by decide +kernel
theorem dL_law_228 : decode cL_law 228 = .ok (.aload_n 1, 1) := by decide +kernel
theorem dL_law_229 : decode cL_law 229 = .ok (.aload_n 0, 1) := by decide +kernel
theorem dL_law_230 : decode cL_law 230 = .ok (.iload_n 3, 1) := by decide +kernel
theorem dL_law_231 : decode cL_law 231 = .ok (.iconst 1, 1) := by decide +kernel
theorem dL_law_232 : decode cL_law 232 = .ok (.iadd, 1) := by decide +kernel
theorem dL_law_233 : decode cL_law 233 = .ok (.iaload, 1) := by decide +kernel
theorem dL_law_234 : decode cL_law 234 = .ok (.aload_n 0, 1) := by decide +kernel
theorem dL_law_235 : decode cL_law 235 = .ok (.iload_n 3, 1) := by decide +kernel
theorem dL_law_236 : decode cL_law 236 = .ok (.iconst 2, 1) := by decide +kernel
theorem dL_law_237 : decode cL_law 237 = .ok (.iadd, 1) := by decide +kernel
theorem dL_law_238 : decode cL_law 238 = .ok (.iaload, 1) := by decide +kernel
theorem dL_law_239 : decode cL_law 239 = .ok (.invokevirtual 31, 3) := by decide +kernel
theorem dL_law_242 : decode cL_law 242 = .ok (.aload_n 2, 1) := by decide +kernel
theorem dL_law_243 : decode cL_law 243 = .ok (.aload_n 0, 1) := by decide +kernel
theorem dL_law_244 : decode cL_law 244 = .ok (.iload_n 3, 1) := by decide +kernel
theorem dL_law_245 : decode cL_law 245 = .ok (.iconst 1, 1) := by decide +kernel
theorem dL_law_246 : decode cL_law 246 = .ok (.iadd, 1) := by decide +kernel
theorem dL_law_247 : decode cL_law 247 = .ok (.iaload, 1) := by decide +kernel
theorem dL_law_248 : decode cL_law 248 = .ok (.aload_n 0, 1) := by decide +kernel
theorem dL_law_249 : decode cL_law 249 = .ok (.iload_n 3, 1) := by decide +kernel
theorem dL_law_250 : decode cL_law 250 = .ok (.iconst 2, 1) := by decide +kernel
theorem dL_law_251 : decode cL_law 251 = .ok (.iadd, 1) := by decide +kernel
theorem dL_law_252 : decode cL_law 252 = .ok (.iaload, 1) := by decide +kernel
theorem dL_law_253 : decode cL_law 253 = .ok (.invokevirtual 35, 3) := by decide +kernel
theorem dL_law_256 : decode cL_law 256 = .ok (.if_icmp .eq 551, 3) := by decide +kernel
theorem dL_law_259 : decode cL_law 259 = .ok (.iconst 0, 1) := by decide +kernel
theorem dL_law_260 : decode cL_law 260 = .ok (.ireturn, 1) := by decide +kernel
theorem dL_law_261 : decode cL_law 261 = .ok (.aload_n 1, 1) := by decide +kernel
theorem dL_law_262 : decode cL_law 262 = .ok (.aload_n 0, 1) := by decide +kernel
theorem dL_law_263 : decode cL_law 263 = .ok (.iload_n 3, 1) := by decide +kernel
theorem dL_law_264 : decode cL_law 264 = .ok (.iconst 1, 1) := by decide +kernel
theorem dL_law_265 : decode cL_law 265 = .ok (.iadd, 1) := by decide +kernel
theorem dL_law_266 : decode cL_law 266 = .ok (.iaload, 1) := by decide +kernel
theorem dL_law_267 : decode cL_law 267 = .ok (.invokevirtual 36, 3) := by decide +kernel
theorem dL_law_270 : decode cL_law 270 = .ok (.aload_n 2, 1) := by decide +kernel
theorem dL_law_271 : decode cL_law 271 = .ok (.aload_n 0, 1) := by decide +kernel
theorem dL_law_272 : decode cL_law 272 = .ok (.iload_n 3, 1) := by decide +kernel
theorem dL_law_273 : decode cL_law 273 = .ok (.iconst 1, 1) := by decide +kernel
theorem dL_law_274 : decode cL_law 274 = .ok (.iadd, 1) := by decide +kernel
theorem dL_law_275 : decode cL_law 275 = .ok (.iaload, 1) := by decide +kernel
theorem dL_law_276 : decode cL_law 276 = .ok (.invokevirtual 39, 3) := by decide +kernel
theorem dL_law_279 : decode cL_law 279 = .ok (.if_icmp .eq 528, 3) := by decide +kernel
theorem dL_law_282 : decode cL_law 282 = .ok (.iconst 0, 1) := by decide +kernel
theorem dL_law_283 : decode cL_law 283 = .ok (.ireturn, 1) := by decide +kernel
theorem dL_law_284 : decode cL_law 284 = .ok (.aload_n 1, 1) := by decide +kernel
theorem dL_law_285 : decode cL_law 285 = .ok (.aload_n 0, 1) := by decide +kernel
theorem dL_law_286 : decode cL_law 286 = .ok (.iload_n 3, 1) := by decide +kernel
theorem dL_law_287 : decode cL_law 287 = .ok (.iconst 1, 1) := by decide +kernel
theorem dL_law_288 : decode cL_law 288 = .ok (.iadd, 1) := by decide +kernel
theorem dL_law_289 : decode cL_law 289 = .ok (.iaload, 1) := by decide +kernel
theorem dL_law_290 : decode cL_law 290 = .ok (.invokevirtual 40, 3) := by decide +kernel
theorem dL_law_293 : decode cL_law 293 = .ok (.aload_n 2, 1) := by decide +kernel
theorem dL_law_294 : decode cL_law 294 = .ok (.aload_n 0, 1) := by decide +kernel
theorem dL_law_295 : decode cL_law 295 = .ok (.iload_n 3, 1) := by decide +kernel
theorem dL_law_296 : decode cL_law 296 = .ok (.iconst 1, 1) := by decide +kernel
theorem dL_law_297 : decode cL_law 297 = .ok (.iadd, 1) := by decide +kernel
theorem dL_law_298 : decode cL_law 298 = .ok (.iaload, 1) := by decide +kernel
theorem dL_law_299 : decode cL_law 299 = .ok (.invokevirtual 43, 3) := by decide +kernel
theorem dL_law_302 : decode cL_law 302 = .ok (.if_icmp .eq 505, 3) := by decide +kernel
theorem dL_law_305 : decode cL_law 305 = .ok (.iconst 0, 1) := by decide +kernel
theorem dL_law_306 : decode cL_law 306 = .ok (.ireturn, 1) := by decide +kernel
theorem dL_law_307 : decode cL_law 307 = .ok (.aload_n 1, 1) := by decide +kernel
theorem dL_law_308 : decode cL_law 308 = .ok (.aload_n 0, 1) := by decide +kernel
theorem dL_law_309 : decode cL_law 309 = .ok (.iload_n 3, 1) := by decide +kernel
theorem dL_law_310 : decode cL_law 310 = .ok (.iconst 1, 1) := by decide +kernel
theorem dL_law_311 : decode cL_law 311 = .ok (.iadd, 1) := by decide +kernel
theorem dL_law_312 : decode cL_law 312 = .ok (.iaload, 1) := by decide +kernel
theorem dL_law_313 : decode cL_law 313 = .ok (.invokevirtual 44, 3) := by decide +kernel
theorem dL_law_316 : decode cL_law 316 = .ok (.aload_n 2, 1) := by decide +kernel
theorem dL_law_317 : decode cL_law 317 = .ok (.aload_n 0, 1) := by decide +kernel
theorem dL_law_318 : decode cL_law 318 = .ok (.iload_n 3, 1) := by decide +kernel
theorem dL_law_319 : decode cL_law 319 = .ok (.iconst 1, 1) := by decide +kernel
theorem dL_law_320 : decode cL_law 320 = .ok (.iadd, 1) := by decide +kernel
theorem dL_law_321 : decode cL_law 321 = .ok (.iaload, 1) := by decide +kernel
theorem dL_law_322 : decode cL_law 322 = .ok (.invokevirtual 47, 3) := by decide +kernel
theorem dL_law_325 : decode cL_law 325 = .ok (.if_icmp .eq 482, 3) := by decide +kernel
theorem dL_law_328 : decode cL_law 328 = .ok (.iconst 0, 1) := by decide +kernel
theorem dL_law_329 : decode cL_law 329 = .ok (.ireturn, 1) := by decide +kernel
theorem dL_law_330 : decode cL_law 330 = .ok (.aload_n 1, 1) := by decide +kernel
theorem dL_law_331 : decode cL_law 331 = .ok (.aload_n 0, 1) := by decide +kernel
theorem dL_law_332 : decode cL_law 332 = .ok (.iload_n 3, 1) := by decide +kernel
theorem dL_law_333 : decode cL_law 333 = .ok (.iconst 1, 1) := by decide +kernel
theorem dL_law_334 : decode cL_law 334 = .ok (.iadd, 1) := by decide +kernel
theorem dL_law_335 : decode cL_law 335 = .ok (.iaload, 1) := by decide +kernel
theorem dL_law_336 : decode cL_law 336 = .ok (.aload_n 0, 1) := by decide +kernel
theorem dL_law_337 : decode cL_law 337 = .ok (.iload_n 3, 1) := by decide +kernel
theorem dL_law_338 : decode cL_law 338 = .ok (.iconst 2, 1) := by decide +kernel
theorem dL_law_339 : decode cL_law 339 = .ok (.iadd, 1) := by decide +kernel
theorem dL_law_340 : decode cL_law 340 = .ok (.iaload, 1) := by decide +kernel
theorem dL_law_341 : decode cL_law 341 = .ok (.invokevirtual 48, 3) := by decide +kernel
theorem dL_law_344 : decode cL_law 344 = .ok (.aload_n 2, 1) := by decide +kernel
theorem dL_law_345 : decode cL_law 345 = .ok (.aload_n 0, 1) := by decide +kernel
theorem dL_law_346 : decode cL_law 346 = .ok (.iload_n 3, 1) := by decide +kernel
theorem dL_law_347 : decode cL_law 347 = .ok (.iconst 1, 1) := by decide +kernel
theorem dL_law_348 : decode cL_law 348 = .ok (.iadd, 1) := by decide +kernel
theorem dL_law_349 : decode cL_law 349 = .ok (.iaload, 1) := by decide +kernel
theorem dL_law_350 : decode cL_law 350 = .ok (.aload_n 0, 1) := by decide +kernel
theorem dL_law_351 : decode cL_law 351 = .ok (.iload_n 3, 1) := by decide +kernel
theorem dL_law_352 : decode cL_law 352 = .ok (.iconst 2, 1) := by decide +kernel
theorem dL_law_353 : decode cL_law 353 = .ok (.iadd, 1) := by decide +kernel
theorem dL_law_354 : decode cL_law 354 = .ok (.iaload, 1) := by decide +kernel
theorem dL_law_355 : decode cL_law 355 = .ok (.invokevirtual 51, 3) := by decide +kernel
theorem dL_law_358 : decode cL_law 358 = .ok (.if_icmp .eq 449, 3) := by decide +kernel
theorem dL_law_361 : decode cL_law 361 = .ok (.iconst 0, 1) := by decide +kernel
theorem dL_law_362 : decode cL_law 362 = .ok (.ireturn, 1) := by decide +kernel
theorem dL_law_363 : decode cL_law 363 = .ok (.aload_n 1, 1) := by decide +kernel
theorem dL_law_364 : decode cL_law 364 = .ok (.aload_n 0, 1) := by decide +kernel
theorem dL_law_365 : decode cL_law 365 = .ok (.iload_n 3, 1) := by decide +kernel
theorem dL_law_366 : decode cL_law 366 = .ok (.iconst 1, 1) := by decide +kernel
theorem dL_law_367 : decode cL_law 367 = .ok (.iadd, 1) := by decide +kernel
theorem dL_law_368 : decode cL_law 368 = .ok (.iaload, 1) := by decide +kernel
theorem dL_law_369 : decode cL_law 369 = .ok (.invokevirtual 52, 3) := by decide +kernel
theorem dL_law_372 : decode cL_law 372 = .ok (.aload_n 2, 1) := by decide +kernel
theorem dL_law_373 : decode cL_law 373 = .ok (.aload_n 0, 1) := by decide +kernel
theorem dL_law_374 : decode cL_law 374 = .ok (.iload_n 3, 1) := by decide +kernel
theorem dL_law_375 : decode cL_law 375 = .ok (.iconst 1, 1) := by decide +kernel
theorem dL_law_376 : decode cL_law 376 = .ok (.iadd, 1) := by decide +kernel
theorem dL_law_377 : decode cL_law 377 = .ok (.iaload, 1) := by decide +kernel
theorem dL_law_378 : decode cL_law 378 = .ok (.invokevirtual 55, 3) := by decide +kernel
theorem dL_law_381 : decode cL_law 381 = .ok (.if_icmp .eq 426, 3) := by decide +kernel
theorem dL_law_384 : decode cL_law 384 = .ok (.iconst 0, 1) := by decide +kernel
theorem dL_law_385 : decode cL_law 385 = .ok (.ireturn, 1) := by decide +kernel
theorem dL_law_386 : decode cL_law 386 = .ok (.aload_n 1, 1) := by decide +kernel
theorem dL_law_387 : decode cL_law 387 = .ok (.invokevirtual 56, 3) := by decide +kernel
theorem dL_law_390 : decode cL_law 390 = .ok (.aload_n 2, 1) := by decide +kernel
theorem dL_law_391 : decode cL_law 391 = .ok (.invokevirtual 59, 3) := by decide +kernel
theorem dL_law_394 : decode cL_law 394 = .ok (.if_icmp .eq 413, 3) := by decide +kernel
theorem dL_law_397 : decode cL_law 397 = .ok (.iconst 0, 1) := by decide +kernel
theorem dL_law_398 : decode cL_law 398 = .ok (.ireturn, 1) := by decide +kernel
theorem dL_law_399 : decode cL_law 399 = .ok (.aload_n 1, 1) := by decide +kernel
theorem dL_law_400 : decode cL_law 400 = .ok (.invokevirtual 60, 3) := by decide +kernel
theorem dL_law_403 : decode cL_law 403 = .ok (.aload_n 2, 1) := by decide +kernel
theorem dL_law_404 : decode cL_law 404 = .ok (.invokevirtual 63, 3) := by decide +kernel
theorem dL_law_407 : decode cL_law 407 = .ok (.if_icmp .eq 400, 3) := by decide +kernel
theorem dL_law_410 : decode cL_law 410 = .ok (.iconst 0, 1) := by decide +kernel
theorem dL_law_411 : decode cL_law 411 = .ok (.ireturn, 1) := by decide +kernel
theorem dL_law_412 : decode cL_law 412 = .ok (.aload_n 1, 1) := by decide +kernel
theorem dL_law_413 : decode cL_law 413 = .ok (.aload_n 0, 1) := by decide +kernel
theorem dL_law_414 : decode cL_law 414 = .ok (.iload_n 3, 1) := by decide +kernel
theorem dL_law_415 : decode cL_law 415 = .ok (.iconst 1, 1) := by decide +kernel
theorem dL_law_416 : decode cL_law 416 = .ok (.iadd, 1) := by decide +kernel
theorem dL_law_417 : decode cL_law 417 = .ok (.iaload, 1) := by decide +kernel
theorem dL_law_418 : decode cL_law 418 = .ok (.aload_n 0, 1) := by decide +kernel
theorem dL_law_419 : decode cL_law 419 = .ok (.iload_n 3, 1) := by decide +kernel
theorem dL_law_420 : decode cL_law 420 = .ok (.iconst 2, 1) := by decide +kernel
theorem dL_law_421 : decode cL_law 421 = .ok (.iadd, 1) := by decide +kernel
theorem dL_law_422 : decode cL_law 422 = .ok (.iaload, 1) := by decide +kernel
theorem dL_law_423 : decode cL_law 423 = .ok (.invokevirtual 64, 3) := by decide +kernel
theorem dL_law_426 : decode cL_law 426 = .ok (.aload_n 2, 1) := by decide +kernel
theorem dL_law_427 : decode cL_law 427 = .ok (.aload_n 0, 1) := by decide +kernel
theorem dL_law_428 : decode cL_law 428 = .ok (.iload_n 3, 1) := by decide +kernel
theorem dL_law_429 : decode cL_law 429 = .ok (.iconst 1, 1) := by decide +kernel
theorem dL_law_430 : decode cL_law 430 = .ok (.iadd, 1) := by decide +kernel
theorem dL_law_431 : decode cL_law 431 = .ok (.iaload, 1) := by decide +kernel
theorem dL_law_432 : decode cL_law 432 = .ok (.aload_n 0, 1) := by decide +kernel
theorem dL_law_433 : decode cL_law 433 = .ok (.iload_n 3, 1) := by decide +kernel
theorem dL_law_434 : decode cL_law 434 = .ok (.iconst 2, 1) := by decide +kernel
theorem dL_law_435 : decode cL_law 435 = .ok (.iadd, 1) := by decide +kernel
theorem dL_law_436 : decode cL_law 436 = .ok (.iaload, 1) := by decide +kernel
theorem dL_law_437 : decode cL_law 437 = .ok (.invokevirtual 67, 3) := by decide +kernel
theorem dL_law_440 : decode cL_law 440 = .ok (.if_icmp .eq 367, 3) := by decide +kernel
theorem dL_law_443 : decode cL_law 443 = .ok (.iconst 0, 1) := by decide +kernel
theorem dL_law_444 : decode cL_law 444 = .ok (.ireturn, 1) := by decide +kernel
theorem dL_law_445 : decode cL_law 445 = .ok (.aload_n 1, 1) := by decide +kernel
theorem dL_law_446 : decode cL_law 446 = .ok (.aload_n 0, 1) := by decide +kernel
theorem dL_law_447 : decode cL_law 447 = .ok (.iload_n 3, 1) := by decide +kernel
theorem dL_law_448 : decode cL_law 448 = .ok (.iconst 1, 1) := by decide +kernel
theorem dL_law_449 : decode cL_law 449 = .ok (.iadd, 1) := by decide +kernel
theorem dL_law_450 : decode cL_law 450 = .ok (.iaload, 1) := by decide +kernel
theorem dL_law_451 : decode cL_law 451 = .ok (.aload_n 0, 1) := by decide +kernel
theorem dL_law_452 : decode cL_law 452 = .ok (.iload_n 3, 1) := by decide +kernel
theorem dL_law_453 : decode cL_law 453 = .ok (.iconst 2, 1) := by decide +kernel
theorem dL_law_454 : decode cL_law 454 = .ok (.iadd, 1) := by decide +kernel
theorem dL_law_455 : decode cL_law 455 = .ok (.iaload, 1) := by decide +kernel
theorem dL_law_456 : decode cL_law 456 = .ok (.invokevirtual 68, 3) := by decide +kernel
theorem dL_law_459 : decode cL_law 459 = .ok (.aload_n 2, 1) := by decide +kernel
theorem dL_law_460 : decode cL_law 460 = .ok (.aload_n 0, 1) := by decide +kernel
theorem dL_law_461 : decode cL_law 461 = .ok (.iload_n 3, 1) := by decide +kernel
theorem dL_law_462 : decode cL_law 462 = .ok (.iconst 1, 1) := by decide +kernel
theorem dL_law_463 : decode cL_law 463 = .ok (.iadd, 1) := by decide +kernel
theorem dL_law_464 : decode cL_law 464 = .ok (.iaload, 1) := by decide +kernel
theorem dL_law_465 : decode cL_law 465 = .ok (.aload_n 0, 1) := by decide +kernel
theorem dL_law_466 : decode cL_law 466 = .ok (.iload_n 3, 1) := by decide +kernel
theorem dL_law_467 : decode cL_law 467 = .ok (.iconst 2, 1) := by decide +kernel
theorem dL_law_468 : decode cL_law 468 = .ok (.iadd, 1) := by decide +kernel
theorem dL_law_469 : decode cL_law 469 = .ok (.iaload, 1) := by decide +kernel
theorem dL_law_470 : decode cL_law 470 = .ok (.invokevirtual 71, 3) := by decide +kernel
theorem dL_law_473 : decode cL_law 473 = .ok (.if_icmp .eq 334, 3) := by decide +kernel
theorem dL_law_476 : decode cL_law 476 = .ok (.iconst 0, 1) := by decide +kernel
theorem dL_law_477 : decode cL_law 477 = .ok (.ireturn, 1) := by decide +kernel
theorem dL_law_478 : decode cL_law 478 = .ok (.aload_n 1, 1) := by decide +kernel
theorem dL_law_479 : decode cL_law 479 = .ok (.aload_n 0, 1) := by decide +kernel
theorem dL_law_480 : decode cL_law 480 = .ok (.iload_n 3, 1) := by decide +kernel
theorem dL_law_481 : decode cL_law 481 = .ok (.iconst 1, 1) := by decide +kernel
theorem dL_law_482 : decode cL_law 482 = .ok (.iadd, 1) := by decide +kernel
theorem dL_law_483 : decode cL_law 483 = .ok (.iaload, 1) := by decide +kernel
theorem dL_law_484 : decode cL_law 484 = .ok (.invokevirtual 72, 3) := by decide +kernel
theorem dL_law_487 : decode cL_law 487 = .ok (.aload_n 2, 1) := by decide +kernel
theorem dL_law_488 : decode cL_law 488 = .ok (.aload_n 0, 1) := by decide +kernel
theorem dL_law_489 : decode cL_law 489 = .ok (.iload_n 3, 1) := by decide +kernel
theorem dL_law_490 : decode cL_law 490 = .ok (.iconst 1, 1) := by decide +kernel
theorem dL_law_491 : decode cL_law 491 = .ok (.iadd, 1) := by decide +kernel
theorem dL_law_492 : decode cL_law 492 = .ok (.iaload, 1) := by decide +kernel
theorem dL_law_493 : decode cL_law 493 = .ok (.invokevirtual 75, 3) := by decide +kernel
theorem dL_law_496 : decode cL_law 496 = .ok (.if_icmp .eq 311, 3) := by decide +kernel
theorem dL_law_499 : decode cL_law 499 = .ok (.iconst 0, 1) := by decide +kernel
theorem dL_law_500 : decode cL_law 500 = .ok (.ireturn, 1) := by decide +kernel
theorem dL_law_501 : decode cL_law 501 = .ok (.aload_n 1, 1) := by decide +kernel
theorem dL_law_502 : decode cL_law 502 = .ok (.aload_n 0, 1) := by decide +kernel
theorem dL_law_503 : decode cL_law 503 = .ok (.iload_n 3, 1) := by decide +kernel
theorem dL_law_504 : decode cL_law 504 = .ok (.iconst 1, 1) := by decide +kernel
theorem dL_law_505 : decode cL_law 505 = .ok (.iadd, 1) := by decide +kernel
theorem dL_law_506 : decode cL_law 506 = .ok (.iaload, 1) := by decide +kernel
theorem dL_law_507 : decode cL_law 507 = .ok (.aload_n 0, 1) := by decide +kernel
theorem dL_law_508 : decode cL_law 508 = .ok (.iload_n 3, 1) := by decide +kernel
theorem dL_law_509 : decode cL_law 509 = .ok (.iconst 2, 1) := by decide +kernel
theorem dL_law_510 : decode cL_law 510 = .ok (.iadd, 1) := by decide +kernel
theorem dL_law_511 : decode cL_law 511 = .ok (.iaload, 1) := by decide +kernel
theorem dL_law_512 : decode cL_law 512 = .ok (.invokevirtual 76, 3) := by decide +kernel
theorem dL_law_515 : decode cL_law 515 = .ok (.aload_n 2, 1) := by decide +kernel
theorem dL_law_516 : decode cL_law 516 = .ok (.aload_n 0, 1) := by decide +kernel
theorem dL_law_517 : decode cL_law 517 = .ok (.iload_n 3, 1) := by decide +kernel
theorem dL_law_518 : decode cL_law 518 = .ok (.iconst 1, 1) := by decide +kernel
theorem dL_law_519 : decode cL_law 519 = .ok (.iadd, 1) := by decide +kernel
theorem dL_law_520 : decode cL_law 520 = .ok (.iaload, 1) := by decide +kernel
theorem dL_law_521 : decode cL_law 521 = .ok (.aload_n 0, 1) := by decide +kernel
theorem dL_law_522 : decode cL_law 522 = .ok (.iload_n 3, 1) := by decide +kernel
theorem dL_law_523 : decode cL_law 523 = .ok (.iconst 2, 1) := by decide +kernel
theorem dL_law_524 : decode cL_law 524 = .ok (.iadd, 1) := by decide +kernel
theorem dL_law_525 : decode cL_law 525 = .ok (.iaload, 1) := by decide +kernel
theorem dL_law_526 : decode cL_law 526 = .ok (.invokevirtual 79, 3) := by decide +kernel
theorem dL_law_529 : decode cL_law 529 = .ok (.if_icmp .eq 278, 3) := by decide +kernel
theorem dL_law_532 : decode cL_law 532 = .ok (.iconst 0, 1) := by decide +kernel
theorem dL_law_533 : decode cL_law 533 = .ok (.ireturn, 1) := by decide +kernel
theorem dL_law_534 : decode cL_law 534 = .ok (.aload_n 1, 1) := by decide +kernel
theorem dL_law_535 : decode cL_law 535 = .ok (.aload_n 0, 1) := by decide +kernel
theorem dL_law_536 : decode cL_law 536 = .ok (.iload_n 3, 1) := by decide +kernel
theorem dL_law_537 : decode cL_law 537 = .ok (.iconst 1, 1) := by decide +kernel
theorem dL_law_538 : decode cL_law 538 = .ok (.iadd, 1) := by decide +kernel
theorem dL_law_539 : decode cL_law 539 = .ok (.iaload, 1) := by decide +kernel
theorem dL_law_540 : decode cL_law 540 = .ok (.invokevirtual 80, 3) := by decide +kernel
theorem dL_law_543 : decode cL_law 543 = .ok (.aload_n 2, 1) := by decide +kernel
theorem dL_law_544 : decode cL_law 544 = .ok (.aload_n 0, 1) := by decide +kernel
theorem dL_law_545 : decode cL_law 545 = .ok (.iload_n 3, 1) := by decide +kernel
theorem dL_law_546 : decode cL_law 546 = .ok (.iconst 1, 1) := by decide +kernel
theorem dL_law_547 : decode cL_law 547 = .ok (.iadd, 1) := by decide +kernel
theorem dL_law_548 : decode cL_law 548 = .ok (.iaload, 1) := by decide +kernel
theorem dL_law_549 : decode cL_law 549 = .ok (.invokevirtual 83, 3) := by decide +kernel
theorem dL_law_552 : decode cL_law 552 = .ok (.if_icmp .eq 255, 3) := by decide +kernel
theorem dL_law_555 : decode cL_law 555 = .ok (.iconst 0, 1) := by decide +kernel
theorem dL_law_556 : decode cL_law 556 = .ok (.ireturn, 1) := by decide +kernel
theorem dL_law_557 : decode cL_law 557 = .ok (.aload_n 1, 1) := by decide +kernel
theorem dL_law_558 : decode cL_law 558 = .ok (.aload_n 0, 1) := by decide +kernel
theorem dL_law_559 : decode cL_law 559 = .ok (.iload_n 3, 1) := by decide +kernel
theorem dL_law_560 : decode cL_law 560 = .ok (.iconst 1, 1) := by decide +kernel
theorem dL_law_561 : decode cL_law 561 = .ok (.iadd, 1) := by decide +kernel
theorem dL_law_562 : decode cL_law 562 = .ok (.iaload, 1) := by decide +kernel
theorem dL_law_563 : decode cL_law 563 = .ok (.aload_n 0, 1) := by decide +kernel
theorem dL_law_564 : decode cL_law 564 = .ok (.iload_n 3, 1) := by decide +kernel
theorem dL_law_565 : decode cL_law 565 = .ok (.iconst 2, 1) := by decide +kernel
theorem dL_law_566 : decode cL_law 566 = .ok (.iadd, 1) := by decide +kernel
theorem dL_law_567 : decode cL_law 567 = .ok (.iaload, 1) := by decide +kernel
theorem dL_law_568 : decode cL_law 568 = .ok (.invokevirtual 84, 3) := by decide +kernel
theorem dL_law_571 : decode cL_law 571 = .ok (.aload_n 2, 1) := by decide +kernel
theorem dL_law_572 : decode cL_law 572 = .ok (.aload_n 0, 1) := by decide +kernel
theorem dL_law_573 : decode cL_law 573 = .ok (.iload_n 3, 1) := by decide +kernel
theorem dL_law_574 : decode cL_law 574 = .ok (.iconst 1, 1) := by decide +kernel
theorem dL_law_575 : decode cL_law 575 = .ok (.iadd, 1) := by decide +kernel
theorem dL_law_576 : decode cL_law 576 = .ok (.iaload, 1) := by decide +kernel
theorem dL_law_577 : decode cL_law 577 = .ok (.aload_n 0, 1) := by decide +kernel
theorem dL_law_578 : decode cL_law 578 = .ok (.iload_n 3, 1) := by decide +kernel
theorem dL_law_579 : decode cL_law 579 = .ok (.iconst 2, 1) := by decide +kernel
theorem dL_law_580 : decode cL_law 580 = .ok (.iadd, 1) := by decide +kernel
theorem dL_law_581 : decode cL_law 581 = .ok (.iaload, 1) := by decide +kernel
theorem dL_law_582 : decode cL_law 582 = .ok (.invokevirtual 87, 3) := by decide +kernel
theorem dL_law_585 : decode cL_law 585 = .ok (.if_icmp .eq 222, 3) := by decide +kernel
theorem dL_law_588 : decode cL_law 588 = .ok (.iconst 0, 1) := by decide +kernel
theorem dL_law_589 : decode cL_law 589 = .ok (.ireturn, 1) := by decide +kernel
theorem dL_law_590 : decode cL_law 590 = .ok (.aload_n 1, 1) := by decide +kernel
theorem dL_law_591 : decode cL_law 591 = .ok (.aload_n 0, 1) := by decide +kernel
theorem dL_law_592 : decode cL_law 592 = .ok (.iload_n 3, 1) := by decide +kernel
theorem dL_law_593 : decode cL_law 593 = .ok (.iconst 1, 1) := by decide +kernel
theorem dL_law_594 : decode cL_law 594 = .ok (.iadd, 1) := by decide +kernel
theorem dL_law_595 : decode cL_law 595 = .ok (.iaload, 1) := by decide +kernel
theorem dL_law_596 : decode cL_law 596 = .ok (.invokevirtual 88, 3) := by decide +kernel
theorem dL_law_599 : decode cL_law 599 = .ok (.aload_n 2, 1) := by decide +kernel
theorem dL_law_600 : decode cL_law 600 = .ok (.aload_n 0, 1) := by decide +kernel
theorem dL_law_601 : decode cL_law 601 = .ok (.iload_n 3, 1) := by decide +kernel
theorem dL_law_602 : decode cL_law 602 = .ok (.iconst 1, 1) := by decide +kernel
theorem dL_law_603 : decode cL_law 603 = .ok (.iadd, 1) := by decide +kernel
theorem dL_law_604 : decode cL_law 604 = .ok (.iaload, 1) := by decide +kernel
theorem dL_law_605 : decode cL_law 605 = .ok (.invokevirtual 91, 3) := by decide +kernel
theorem dL_law_608 : decode cL_law 608 = .ok (.if_icmp .eq 199, 3) := by decide +kernel
theorem dL_law_611 : decode cL_law 611 = .ok (.iconst 0, 1) := by decide +kernel
theorem dL_law_612 : decode cL_law 612 = .ok (.ireturn, 1) := by decide +kernel
theorem dL_law_613 : decode cL_law 613 = .ok (.aload_n 1, 1) := by decide +kernel
theorem dL_law_614 : decode cL_law 614 = .ok (.aload_n 0, 1) := by decide +kernel
theorem dL_law_615 : decode cL_law 615 = .ok (.iload_n 3, 1) := by decide +kernel
theorem dL_law_616 : decode cL_law 616 = .ok (.iconst 1, 1) := by decide +kernel
theorem dL_law_617 : decode cL_law 617 = .ok (.iadd, 1) := by decide +kernel
theorem dL_law_618 : decode cL_law 618 = .ok (.iaload, 1) := by decide +kernel
theorem dL_law_619 : decode cL_law 619 = .ok (.aload_n 0, 1) := by decide +kernel
theorem dL_law_620 : decode cL_law 620 = .ok (.iload_n 3, 1) := by decide +kernel
theorem dL_law_621 : decode cL_law 621 = .ok (.iconst 2, 1) := by decide +kernel
theorem dL_law_622 : decode cL_law 622 = .ok (.iadd, 1) := by decide +kernel
theorem dL_law_623 : decode cL_law 623 = .ok (.iaload, 1) := by decide +kernel
theorem dL_law_624 : decode cL_law 624 = .ok (.invokevirtual 92, 3) := by decide +kernel
theorem dL_law_627 : decode cL_law 627 = .ok (.aload_n 2, 1) := by decide +kernel
theorem dL_law_628 : decode cL_law 628 = .ok (.aload_n 0, 1) := by decide +kernel
theorem dL_law_629 : decode cL_law 629 = .ok (.iload_n 3, 1) := by decide +kernel
theorem dL_law_630 : decode cL_law 630 = .ok (.iconst 1, 1) := by decide +kernel
theorem dL_law_631 : decode cL_law 631 = .ok (.iadd, 1) := by decide +kernel
theorem dL_law_632 : decode cL_law 632 = .ok (.iaload, 1) := by decide +kernel
theorem dL_law_633 : decode cL_law 633 = .ok (.aload_n 0, 1) := by decide +kernel
theorem dL_law_634 : decode cL_law 634 = .ok (.iload_n 3, 1) := by decide +kernel
theorem dL_law_635 : decode cL_law 635 = .ok (.iconst 2, 1) := by decide +kernel
theorem dL_law_636 : decode cL_law 636 = .ok (.iadd, 1) := by decide +kernel
theorem dL_law_637 : decode cL_law 637 = .ok (.iaload, 1) := by decide +kernel
theorem dL_law_638 : decode cL_law 638 = .ok (.invokevirtual 95, 3) := by decide +kernel
theorem dL_law_641 : decode cL_law 641 = .ok (.if_icmp .eq 166, 3) := by decide +kernel
theorem dL_law_644 : decode cL_law 644 = .ok (.iconst 0, 1) := by decide +kernel
theorem dL_law_645 : decode cL_law 645 = .ok (.ireturn, 1) := by decide +kernel
theorem dL_law_646 : decode cL_law 646 = .ok (.aload_n 1, 1) := by decide +kernel
theorem dL_law_647 : decode cL_law 647 = .ok (.aload_n 0, 1) := by decide +kernel
theorem dL_law_648 : decode cL_law 648 = .ok (.iload_n 3, 1) := by decide +kernel
theorem dL_law_649 : decode cL_law 649 = .ok (.iconst 1, 1) := by decide +kernel
theorem dL_law_650 : decode cL_law 650 = .ok (.iadd, 1) := by decide +kernel
theorem dL_law_651 : decode cL_law 651 = .ok (.iaload, 1) := by decide +kernel
theorem dL_law_652 : decode cL_law 652 = .ok (.aload_n 0, 1) := by decide +kernel
theorem dL_law_653 : decode cL_law 653 = .ok (.iload_n 3, 1) := by decide +kernel
theorem dL_law_654 : decode cL_law 654 = .ok (.iconst 2, 1) := by decide +kernel
theorem dL_law_655 : decode cL_law 655 = .ok (.iadd, 1) := by decide +kernel
theorem dL_law_656 : decode cL_law 656 = .ok (.iaload, 1) := by decide +kernel
theorem dL_law_657 : decode cL_law 657 = .ok (.invokevirtual 96, 3) := by decide +kernel
theorem dL_law_660 : decode cL_law 660 = .ok (.aload_n 2, 1) := by decide +kernel
theorem dL_law_661 : decode cL_law 661 = .ok (.aload_n 0, 1) := by decide +kernel
theorem dL_law_662 : decode cL_law 662 = .ok (.iload_n 3, 1) := by decide +kernel
theorem dL_law_663 : decode cL_law 663 = .ok (.iconst 1, 1) := by decide +kernel
theorem dL_law_664 : decode cL_law 664 = .ok (.iadd, 1) := by decide +kernel
theorem dL_law_665 : decode cL_law 665 = .ok (.iaload, 1) := by decide +kernel
theorem dL_law_666 : decode cL_law 666 = .ok (.aload_n 0, 1) := by decide +kernel
theorem dL_law_667 : decode cL_law 667 = .ok (.iload_n 3, 1) := by decide +kernel
theorem dL_law_668 : decode cL_law 668 = .ok (.iconst 2, 1) := by decide +kernel
theorem dL_law_669 : decode cL_law 669 = .ok (.iadd, 1) := by decide +kernel
theorem dL_law_670 : decode cL_law 670 = .ok (.iaload, 1) := by decide +kernel
theorem dL_law_671 : decode cL_law 671 = .ok (.invokevirtual 99, 3) := by decide +kernel
theorem dL_law_674 : decode cL_law 674 = .ok (.if_icmp .eq 133, 3) := by decide +kernel
theorem dL_law_677 : decode cL_law 677 = .ok (.iconst 0, 1) := by decide +kernel
theorem dL_law_678 : decode cL_law 678 = .ok (.ireturn, 1) := by decide +kernel
theorem dL_law_679 : decode cL_law 679 = .ok (.aload_n 1, 1) := by decide +kernel
theorem dL_law_680 : decode cL_law 680 = .ok (.aload_n 0, 1) := by decide +kernel
theorem dL_law_681 : decode cL_law 681 = .ok (.iload_n 3, 1) := by decide +kernel
theorem dL_law_682 : decode cL_law 682 = .ok (.iconst 1, 1) := by decide +kernel
theorem dL_law_683 : decode cL_law 683 = .ok (.iadd, 1) := by decide +kernel
theorem dL_law_684 : decode cL_law 684 = .ok (.iaload, 1) := by decide +kernel
theorem dL_law_685 : decode cL_law 685 = .ok (.aload_n 0, 1) := by decide +kernel
theorem dL_law_686 : decode cL_law 686 = .ok (.iload_n 3, 1) := by decide +kernel
theorem dL_law_687 : decode cL_law 687 = .ok (.iconst 2, 1) := by decide +kernel
theorem dL_law_688 : decode cL_law 688 = .ok (.iadd, 1) := by decide +kernel
theorem dL_law_689 : decode cL_law 689 = .ok (.iaload, 1) := by decide +kernel
theorem dL_law_690 : decode cL_law 690 = .ok (.invokevirtual 100, 3) := by decide +kernel
theorem dL_law_693 : decode cL_law 693 = .ok (.aload_n 2, 1) := by decide +kernel
theorem dL_law_694 : decode cL_law 694 = .ok (.aload_n 0, 1) := by decide +kernel
theorem dL_law_695 : decode cL_law 695 = .ok (.iload_n 3, 1) := by decide +kernel
theorem dL_law_696 : decode cL_law 696 = .ok (.iconst 1, 1) := by decide +kernel
theorem dL_law_697 : decode cL_law 697 = .ok (.iadd, 1) := by decide +kernel
theorem dL_law_698 : decode cL_law 698 = .ok (.iaload, 1) := by decide +kernel
theorem dL_law_699 : decode cL_law 699 = .ok (.aload_n 0, 1) := by decide +kernel
theorem dL_law_700 : decode cL_law 700 = .ok (.iload_n 3, 1) := by decide +kernel
theorem dL_law_701 : decode cL_law 701 = .ok (.iconst 2, 1) := by decide +kernel
theorem dL_law_702 : decode cL_law 702 = .ok (.iadd, 1) := by decide +kernel
theorem dL_law_703 : decode cL_law 703 = .ok (.iaload, 1) := by decide +kernel
theorem dL_law_704 : decode cL_law 704 = .ok (.invokevirtual 103, 3) := by decide +kernel
theorem dL_law_707 : decode cL_law 707 = .ok (.if_icmp .eq 100, 3) := by decide +kernel
theorem dL_law_710 : decode cL_law 710 = .ok (.iconst 0, 1) := by decide +kernel
theorem dL_law_711 : decode cL_law 711 = .ok (.ireturn, 1) := by decide +kernel
theorem dL_law_712 : decode cL_law 712 = .ok (.aload_n 1, 1) := by decide +kernel
theorem dL_law_713 : decode cL_law 713 = .ok (.invokevirtual 104, 3) := by decide +kernel
theorem dL_law_716 : decode cL_law 716 = .ok (.aload_n 2, 1) := by decide +kernel
theorem dL_law_717 : decode cL_law 717 = .ok (.invokevirtual 107, 3) := by decide +kernel
theorem dL_law_720 : decode cL_law 720 = .ok (.if_icmp .eq 87, 3) := by decide +kernel
theorem dL_law_723 : decode cL_law 723 = .ok (.iconst 0, 1) := by decide +kernel
theorem dL_law_724 : decode cL_law 724 = .ok (.ireturn, 1) := by decide +kernel
theorem dL_law_725 : decode cL_law 725 = .ok (.aload_n 1, 1) := by decide +kernel
theorem dL_law_726 : decode cL_law 726 = .ok (.invokevirtual 108, 3) := by decide +kernel
theorem dL_law_729 : decode cL_law 729 = .ok (.aload_n 2, 1) := by decide +kernel
theorem dL_law_730 : decode cL_law 730 = .ok (.invokevirtual 111, 3) := by decide +kernel
theorem dL_law_733 : decode cL_law 733 = .ok (.if_icmp .eq 74, 3) := by decide +kernel
theorem dL_law_736 : decode cL_law 736 = .ok (.iconst 0, 1) := by decide +kernel
theorem dL_law_737 : decode cL_law 737 = .ok (.ireturn, 1) := by decide +kernel
theorem dL_law_738 : decode cL_law 738 = .ok (.aload_n 1, 1) := by decide +kernel
theorem dL_law_739 : decode cL_law 739 = .ok (.aload_n 0, 1) := by decide +kernel
theorem dL_law_740 : decode cL_law 740 = .ok (.iload_n 3, 1) := by decide +kernel
theorem dL_law_741 : decode cL_law 741 = .ok (.iconst 1, 1) := by decide +kernel
theorem dL_law_742 : decode cL_law 742 = .ok (.iadd, 1) := by decide +kernel
theorem dL_law_743 : decode cL_law 743 = .ok (.iaload, 1) := by decide +kernel
theorem dL_law_744 : decode cL_law 744 = .ok (.invokevirtual 112, 3) := by decide +kernel
theorem dL_law_747 : decode cL_law 747 = .ok (.aload_n 2, 1) := by decide +kernel
theorem dL_law_748 : decode cL_law 748 = .ok (.aload_n 0, 1) := by decide +kernel
theorem dL_law_749 : decode cL_law 749 = .ok (.iload_n 3, 1) := by decide +kernel
theorem dL_law_750 : decode cL_law 750 = .ok (.iconst 1, 1) := by decide +kernel
theorem dL_law_751 : decode cL_law 751 = .ok (.iadd, 1) := by decide +kernel
theorem dL_law_752 : decode cL_law 752 = .ok (.iaload, 1) := by decide +kernel
theorem dL_law_753 : decode cL_law 753 = .ok (.invokevirtual 115, 3) := by decide +kernel
theorem dL_law_756 : decode cL_law 756 = .ok (.if_icmp .eq 51, 3) := by decide +kernel
theorem dL_law_759 : decode cL_law 759 = .ok (.iconst 0, 1) := by decide +kernel
theorem dL_law_760 : decode cL_law 760 = .ok (.ireturn, 1) := by decide +kernel
theorem dL_law_761 : decode cL_law 761 = .ok (.aload_n 1, 1) := by decide +kernel
theorem dL_law_762 : decode cL_law 762 = .ok (.aload_n 0, 1) := by decide +kernel
theorem dL_law_763 : decode cL_law 763 = .ok (.iload_n 3, 1) := by decide +kernel
theorem dL_law_764 : decode cL_law 764 = .ok (.iconst 1, 1) := by decide +kernel
theorem dL_law_765 : decode cL_law 765 = .ok (.iadd, 1) := by decide +kernel
theorem dL_law_766 : decode cL_law 766 = .ok (.iaload, 1) := by decide +kernel
theorem dL_law_767 : decode cL_law 767 = .ok (.invokevirtual 116, 3) := by decide +kernel
theorem dL_law_770 : decode cL_law 770 = .ok (.aload_n 2, 1) := by decide +kernel
theorem dL_law_771 : decode cL_law 771 = .ok (.aload_n 0, 1) := by decide +kernel
theorem dL_law_772 : decode cL_law 772 = .ok (.iload_n 3, 1) := by decide +kernel
theorem dL_law_773 : decode cL_law 773 = .ok (.iconst 1, 1) := by decide +kernel
theorem dL_law_774 : decode cL_law 774 = .ok (.iadd, 1) := by decide +kernel
theorem dL_law_775 : decode cL_law 775 = .ok (.iaload, 1) := by decide +kernel
theorem dL_law_776 : decode cL_law 776 = .ok (.invokevirtual 119, 3) := by decide +kernel
theorem dL_law_779 : decode cL_law 779 = .ok (.if_icmp .eq 28, 3) := by decide +kernel
theorem dL_law_782 : decode cL_law 782 = .ok (.iconst 0, 1) := by decide +kernel
theorem dL_law_783 : decode cL_law 783 = .ok (.ireturn, 1) := by decide +kernel
theorem dL_law_784 : decode cL_law 784 = .ok (.aload_n 1, 1) := by decide +kernel
theorem dL_law_785 : decode cL_law 785 = .ok (.aload_n 0, 1) := by decide +kernel
theorem dL_law_786 : decode cL_law 786 = .ok (.iload_n 3, 1) := by decide +kernel
theorem dL_law_787 : decode cL_law 787 = .ok (.iconst 1, 1) := by decide +kernel
theorem dL_law_788 : decode cL_law 788 = .ok (.iadd, 1) := by decide +kernel
theorem dL_law_789 : decode cL_law 789 = .ok (.iaload, 1) := by decide +kernel
theorem dL_law_790 : decode cL_law 790 = .ok (.invokevirtual 120, 3) := by decide +kernel
theorem dL_law_793 : decode cL_law 793 = .ok (.aload_n 2, 1) := by decide +kernel
theorem dL_law_794 : decode cL_law 794 = .ok (.aload_n 0, 1) := by decide +kernel
theorem dL_law_795 : decode cL_law 795 = .ok (.iload_n 3, 1) := by decide +kernel
theorem dL_law_796 : decode cL_law 796 = .ok (.iconst 1, 1) := by decide +kernel
theorem dL_law_797 : decode cL_law 797 = .ok (.iadd, 1) := by decide +kernel
theorem dL_law_798 : decode cL_law 798 = .ok (.iaload, 1) := by decide +kernel
theorem dL_law_799 : decode cL_law 799 = .ok (.invokevirtual 123, 3) := by decide +kernel
theorem dL_law_802 : decode cL_law 802 = .ok (.if_icmp .eq 5, 3) := by decide +kernel
theorem dL_law_805 : decode cL_law 805 = .ok (.iconst 0, 1) := by decide +kernel
theorem dL_law_806 : decode cL_law 806 = .ok (.ireturn, 1) := by decide +kernel
theorem dL_law_807 : decode cL_law 807 = .ok (.iinc 3 3, 3) := by decide +kernel
theorem dL_law_810 : decode cL_law 810 = .ok (.goto (-792), 3) := by decide +kernel
theorem dL_law_813 : decode cL_law 813 = .ok (.iconst 1, 1) := by decide +kernel
theorem dL_law_814 : decode cL_law 814 = .ok (.ireturn, 1) := by decide +kernel
end
section
/-! values, memory, the layout of all cells -/
abbrev AV : Type := Int32 ⊕ Int64 ⊕ Option (Nat × Nat)
abbrev Mem : Type := (Nat → Nat → Nat → Int32) × (Nat → Nat → Nat → Int64) × (Nat → Nat → Nat × Nat)
abbrev vI (x : Int32) : AV := .inl x
abbrev vL (x : Int64) : AV := .inr (.inl x)
abbrev vN : AV := .inr (.inr none)
abbrev vR (d k : Nat) : AV := .inr (.inr (some (d, k)))
def cv (ad : Nat × Nat → Nat) (v : AV) : Value := match v with
  | .inl x => .int x
  | .inr (.inl x) => .long x
  | .inr (.inr none) => .null
  | .inr (.inr (some q)) => .ref (ad q)
def isL (v : AV) : Bool := match v with
  | .inr (.inl _) => true
  | _ => false
def lc (ad : Nat × Nat → Nat) (lv : List (Nat × AV)) : List (Nat × Value) := lv.map (fun q => (q.1, cv ad q.2))
/-- stores -/
def sI (w : Mem) (d k i : Nat) (x : Int32) : Mem := (fun a b c => if a = d ∧ b = k ∧ c = i then x else w.1 a b c, w.2)
def sL (w : Mem) (d k i : Nat) (x : Int64) : Mem := (w.1, fun a b c => if a = d ∧ b = k ∧ c = i then x else w.2.1 a b c, w.2.2)
def sR (w : Mem) (d k : Nat) (x : Nat × Nat) : Mem := (w.1, w.2.1, fun a b => if a = d ∧ b = k then x else w.2.2 a b)
def sA (w : Mem) (d k : Nat) (f : Nat → Int32) : Mem := (fun a b => if a = d ∧ b = k then f else w.1 a b, w.2)
def kc (d : Nat) : Nat := if d < 24 then 1 else if d < 26 then 6 else if d = 26 then 7 else if d = 27 then 5 else if d = 28 then 3 else if d = 29 then 2 else if d = 30 then 0 else if d = 31 then 4 else 8
def nf (c : Nat) : Nat := [1, 14, 6, 3, 4, 5, 13, 16, 45].getD c 0
/-- a field: 0 an int, 1 a cell for good, 2 a cell that may change -/
def ft (c k : Nat) : Nat := ([[1], [1, 1, 1, 1, 0, 0, 0, 0, 0, 0, 0, 0, 0, 0], [1, 1, 1, 1, 0, 0], [1, 0, 0], [1, 0, 0, 0], [2, 0, 0, 0, 0], [0, 0, 0, 0, 0, 0, 0, 1, 1, 1, 1, 1, 1], [1, 0, 0, 1, 2, 2, 1, 1, 1, 1, 1, 0, 0, 1, 1, 1], [0, 0, 0, 0, 1, 1, 1, 0, 1, 0, 1, 1, 0, 1, 0, 0, 0, 0, 0, 1, 0, 1, 1, 1, 1, 0, 1, 0, 1, 0, 1, 1, 1, 1, 1, 1, 0, 0, 1, 1, 0, 1, 1, 1, 1]] : List (List Nat)).getD c [] |>.getD k 0
def gr (d k : Nat) : Nat × Nat := if d = 26 then (if k = 3 then (27, 0) else if k = 6 then (0, 0) else if k = 7 then (1, 0) else if k = 8 then (28, 0) else if k = 13 then (29, 0) else if k = 14 then (30, 0) else if k = 15 then (31, 0) else (26, k + 1)) else (d, k + 1)
/-- an array: its kind (0 int, 1 long, 2 char, 3 boolean, 4 Days) and its length -/
def ak (d k : Nat) : Nat × Nat := ([[(0, 8)], [(0, 8), (0, 8), (0, 17), (0, 60)], [(0, 10), (0, 10), (0, 15), (0, 15)], [(4, 20)], [(0, 10)], [(9, 0), (9, 0), (9, 0), (9, 0), (9, 0), (2, 0)], [(9, 0), (9, 0), (9, 0), (9, 0), (9, 0), (9, 0), (9, 0), (0, 8), (0, 8), (0, 8), (0, 8), (1, 16), (1, 16)], [(2, 240), (9, 0), (9, 0), (9, 0), (9, 0), (9, 0), (9, 0), (9, 0), (9, 0), (4, 2), (0, 2)], [(9, 0), (9, 0), (9, 0), (9, 0), (0, 8), (0, 8), (0, 8), (9, 0), (0, 8), (9, 0), (0, 8), (0, 103), (9, 0), (0, 240), (9, 0), (9, 0), (9, 0), (9, 0), (9, 0), (0, 3), (9, 0), (0, 8), (0, 8), (0, 8), (0, 8), (9, 0), (0, 8), (9, 0), (0, 8), (9, 0), (0, 2060), (0, 103), (0, 8), (0, 72171), (0, 10), (0, 10), (9, 0), (9, 0), (0, 10), (0, 10), (9, 0), (0, 15), (0, 15), (0, 208), (3, 2)]] : List (List (Nat × Nat))).getD (kc d) [] |>.getD k (9, 0)
def rb (d : Nat) : Nat := if d = 26 then 2 else 4
def lay : List (Nat × Nat) := [(0, 0), (0, 1), (0, 2), (0, 3), (0, 4), (1, 0), (1, 1), (1, 2), (1, 3), (1, 4), (2, 0), (2, 1), (2, 2), (2, 3), (2, 4), (3, 0), (3, 1), (3, 2), (3, 3), (3, 4), (4, 0), (4, 1), (4, 2), (4, 3), (4, 4), (5, 0), (5, 1), (5, 2), (5, 3), (5, 4), (6, 0), (6, 1), (6, 2), (6, 3), (6, 4), (7, 0), (7, 1), (7, 2), (7, 3), (7, 4), (8, 0), (8, 1), (8, 2), (8, 3), (8, 4), (9, 0), (9, 1), (9, 2), (9, 3), (9, 4), (10, 0), (10, 1), (10, 2), (10, 3), (10, 4), (11, 0), (11, 1), (11, 2), (11, 3), (11, 4), (12, 0), (12, 1), (12, 2), (12, 3), (12, 4), (13, 0), (13, 1), (13, 2), (13, 3), (13, 4), (14, 0), (14, 1), (14, 2), (14, 3), (14, 4), (15, 0), (15, 1), (15, 2), (15, 3), (15, 4), (16, 0), (16, 1), (16, 2), (16, 3), (16, 4), (17, 0), (17, 1), (17, 2), (17, 3), (17, 4), (18, 0), (18, 1), (18, 2), (18, 3), (18, 4), (19, 0), (19, 1), (19, 2), (19, 3), (19, 4), (20, 0), (20, 1), (20, 2), (20, 3), (20, 4), (21, 0), (21, 1), (21, 2), (21, 3), (21, 4), (22, 0), (22, 1), (22, 2), (22, 3), (22, 4), (23, 0), (23, 1), (23, 2), (23, 3), (23, 4), (24, 0), (24, 8), (24, 9), (24, 10), (24, 11), (24, 12), (24, 13), (25, 0), (25, 8), (25, 9), (25, 10), (25, 11), (25, 12), (25, 13), (26, 0), (26, 1), (26, 10), (26, 11), (27, 0), (27, 6), (28, 0), (28, 1), (29, 0), (29, 1), (29, 2), (29, 3), (29, 4), (30, 0), (30, 1), (31, 0), (31, 1), (32, 0), (32, 5), (32, 6), (32, 7), (32, 9), (32, 11), (32, 12), (32, 14), (32, 20), (32, 22), (32, 23), (32, 24), (32, 25), (32, 27), (32, 29), (32, 31), (32, 32), (32, 33), (32, 34), (32, 35), (32, 36), (32, 39), (32, 40), (32, 42), (32, 43), (32, 44), (32, 45)]
def fv (ad : Nat × Nat → Nat) (w : Mem) (d k : Nat) : Value := if ft (kc d) k = 0 then .int (w.1 d k 0) else if ft (kc d) k = 1 then .ref (ad (gr d k)) else .ref (ad (w.2.2 d k))
def cn (ad : Nat × Nat → Nat) (w : Mem) (d k : Nat) : (Nat → Int32) ⊕ (Nat → Int64) ⊕ (Nat → UInt32) ⊕ (Nat → UInt64) ⊕ (Nat → Option Nat) :=
  if (ak d k).1 = 1 then .inr (.inl (w.2.1 d k)) else if (ak d k).1 = 4 then .inr (.inr (.inr (.inr (fun i => some (ad (rb d + i, 0)))))) else .inl (w.1 d k)
def ent (cy : Nat → ClassId) (ad : Nat × Nat → Nat) (w : Mem) (q : Nat × Nat) : va_E :=
  if q.2 = 0 then .inr (kc q.1, (List.range (nf (kc q.1))).map (fv ad w q.1)) else .inl (cy (ak q.1 (q.2 - 1)).1, (ak q.1 (q.2 - 1)).2, cn ad w q.1 (q.2 - 1))
def wld (cy : Nat → ClassId) (ad : Nat × Nat → Nat) (w : Mem) : va_W := lay.map (fun q => (ad q, ent cy ad w q))
def tysL (cy : Nat → ClassId) : List (ClassId × FieldType) := [(cy 0, .int), (cy 1, .long), (cy 2, .char), (cy 3, .boolean), (cy 4, .object "OneADay$Days")]
def AdOk (A : Nat → Prop) (ad : Nat × Nat → Nat) : Prop := (∀ q ∈ lay, ∀ q' ∈ lay, ad q = ad q' → q = q') ∧ ∀ q ∈ lay, A (ad q)
theorem lay_nd : lay.Nodup := by decide +kernel
theorem wld_at {cy : Nat → ClassId} {ad : Nat × Nat → Nat} {w : Mem} {q : Nat × Nat} (h : q ∈ lay) : ∃ i : Nat, lay[i]? = some q ∧ (wld cy ad w)[i]? = some (ad q, ent cy ad w q) := by
  obtain ⟨i, hi⟩ := List.getElem?_of_mem h
  exact ⟨i, hi, by rw [wld, List.getElem?_map, hi]; rfl⟩
theorem wld_of {cy : Nat → ClassId} {ad : Nat × Nat → Nat} {w : Mem} {i : Nat} {e : Nat × va_E} (h : (wld cy ad w)[i]? = some e) : ∃ q, lay[i]? = some q ∧ e = (ad q, ent cy ad w q) := by
  rw [wld, List.getElem?_map] at h
  cases hq : lay[i]? with
  | none => rw [hq] at h; cases h
  | some q => rw [hq] at h; exact ⟨q, rfl, (Option.some.inj h).symm⟩
theorem lay_ne {i j : Nat} {q : Nat × Nat} (hi : lay[i]? = some q) (hj : lay[j]? = some q) : i = j := (List.getElem?_inj (List.getElem?_eq_some_iff.mp hi).1 lay_nd).mp (hi.trans hj.symm)
theorem wld_D {cy : Nat → ClassId} {ad : Nat × Nat → Nat} {w : Mem} {A : Nat → Prop} (h : AdOk A ad) : va_D A (wld cy ad w) := by
  refine ⟨fun i j x z hi hj hxz => ?_, fun k q hk => ?_⟩
  · obtain ⟨q1, h1, rfl⟩ := wld_of hi
    obtain ⟨q2, h2, rfl⟩ := wld_of hj
    have e := h.1 q1 (List.mem_of_getElem? h1) q2 (List.mem_of_getElem? h2) hxz
    subst e
    exact lay_ne h1 h2
  · obtain ⟨q1, h1, rfl⟩ := wld_of hk
    exact h.2 q1 (List.mem_of_getElem? h1)
theorem wld_set {cy : Nat → ClassId} {ad : Nat × Nat → Nat} {w w' : Mem} {i : Nat} {q : Nat × Nat} (hi : lay[i]? = some q) (h : ∀ q' ∈ lay, q' ≠ q → ent cy ad w' q' = ent cy ad w q') : (wld cy ad w).set i (ad q, ent cy ad w' q) = wld cy ad w' := by
  apply List.ext_getElem?
  intro j
  have hl : i < (wld cy ad w).length := by rw [wld, List.length_map]; exact (List.getElem?_eq_some_iff.mp hi).1
  by_cases hj : j = i
  · subst hj
    rw [List.getElem?_set_self hl, wld, List.getElem?_map, hi]; rfl
  · rw [List.getElem?_set_ne (fun z => hj z.symm)]
    cases hq : lay[j]? with
    | none => rw [wld, wld, List.getElem?_map, List.getElem?_map, hq]; rfl
    | some q2 =>
      rw [wld, wld, List.getElem?_map, List.getElem?_map, hq]
      have hne : q2 ≠ q := fun z => hj (lay_ne hq (z ▸ hi))
      simp [h q2 (List.mem_of_getElem? hq) hne]
/-- an object of a kind; an array of a kind and a length -/
def Ob (d c : Nat) : Prop := kc d = c ∧ (d, 0) ∈ lay
def Ar (d k t n : Nat) : Prop := ak d k = (t, n) ∧ (d, k + 1) ∈ lay
theorem ent_ob {cy : Nat → ClassId} {ad : Nat × Nat → Nat} {w : Mem} {d c : Nat} (h : kc d = c) : ent cy ad w (d, 0) = .inr (c, (List.range (nf c)).map (fv ad w d)) := by
  subst h; rfl
theorem ent_ar {cy : Nat → ClassId} {ad : Nat × Nat → Nat} {w : Mem} {d k t n : Nat} (h : ak d k = (t, n)) : ent cy ad w (d, k + 1) = .inl (cy t, n, cn ad w d k) := by
  simp [ent, h]
theorem cn_i {ad : Nat × Nat → Nat} {w : Mem} {d k t n : Nat} (h : ak d k = (t, n)) (h1 : t ≠ 1) (h4 : t ≠ 4) : cn ad w d k = .inl (w.1 d k) := by
  simp [cn, h, h1, h4]
theorem cn_l {ad : Nat × Nat → Nat} {w : Mem} {d k n : Nat} (h : ak d k = (1, n)) : cn ad w d k = .inr (.inl (w.2.1 d k)) := by
  simp [cn, h]
theorem cn_r {ad : Nat × Nat → Nat} {w : Mem} {d k n : Nat} (h : ak d k = (4, n)) : cn ad w d k = .inr (.inr (.inr (.inr (fun i => some (ad (rb d + i, 0)))))) := by
  simp [cn, h]
/-- stores and what they leave -/
theorem lay_ft : ∀ q ∈ lay, q.2 = 0 ∨ ft (kc q.1) (q.2 - 1) ≠ 0 ∨ nf (kc q.1) ≤ q.2 - 1 := by decide +kernel
theorem ent_sI {cy : Nat → ClassId} {ad : Nat × Nat → Nat} {w : Mem} {d k : Nat} {x : Int32} (q : Nat × Nat) (h : ft (kc d) k = 0) (h2 : k < nf (kc d)) (hq : q ∈ lay) (hne : q ≠ (d, 0)) : ent cy ad (sI w d k 0 x) q = ent cy ad w q := by
  obtain ⟨a, b⟩ := q
  cases b with
  | zero =>
    have ha : a ≠ d := fun z => hne (by rw [z])
    simp [ent, fv, sI, ha]
  | succ b =>
    have hk2 : ¬ (a = d ∧ b = k) := fun z => by
      obtain ⟨rfl, rfl⟩ := z
      rcases lay_ft _ hq with z | z | z
      · exact absurd z (Nat.succ_ne_zero b)
      · exact z h
      · exact absurd z (Nat.not_le.mpr h2)
    have e : (sI w d k 0 x).1 a b = w.1 a b := by
      funext c
      simp only [sI]
      exact if_neg (fun z => hk2 ⟨z.1, z.2.1⟩)
    simp [ent, cn, e]
    rfl
theorem ent_sR {cy : Nat → ClassId} {ad : Nat × Nat → Nat} {w : Mem} {d k : Nat} {x : Nat × Nat} (q : Nat × Nat) (hne : q ≠ (d, 0)) : ent cy ad (sR w d k x) q = ent cy ad w q := by
  obtain ⟨a, b⟩ := q
  cases b with
  | zero =>
    have ha : a ≠ d := fun z => hne (by rw [z])
    simp [ent, fv, sR, ha]
  | succ b => rfl
theorem ent_sAo {cy : Nat → ClassId} {ad : Nat × Nat → Nat} {w : Mem} {d k : Nat} {f : Nat → Int32} (q : Nat × Nat) (h : ft (kc d) k ≠ 0 ∨ nf (kc d) ≤ k) (hne : q ≠ (d, k + 1)) : ent cy ad (sA w d k f) q = ent cy ad w q := by
  obtain ⟨a, b⟩ := q
  cases b with
  | zero =>
    have e : ∀ j ∈ List.range (nf (kc a)), fv ad (sA w d k f) a j = fv ad w a j := by
      intro j hj
      have hj2 := List.mem_range.mp hj
      by_cases hz : a = d ∧ j = k
      · obtain ⟨rfl, rfl⟩ := hz
        rcases h with h | h
        · simp [fv, h, sA]
        · omega
      · have e1 : (sA w d k f).1 a j = w.1 a j := by simp only [sA]; exact if_neg hz
        simp only [fv, e1]
        rfl
    simp only [ent, if_pos]
    rw [List.map_congr_left e]
  | succ b =>
    have hk2 : ¬ (a = d ∧ b = k) := fun z => hne (by rw [z.1, z.2])
    have e : (sA w d k f).1 a b = w.1 a b := by simp only [sA]; exact if_neg hk2
    simp [ent, cn, e]
    rfl
theorem sI_sA (w : Mem) (d k i : Nat) (x : Int32) : sI w d k i x = sA w d k (upd (w.1 d k) i x) := by
  simp only [sI, sA, Prod.mk.injEq, and_true]
  funext a b c
  by_cases h : a = d ∧ b = k
  · obtain ⟨rfl, rfl⟩ := h
    simp [upd]
  · rw [if_neg (fun z => h ⟨z.1, z.2.1⟩), if_neg h]
theorem ent_sLo {cy : Nat → ClassId} {ad : Nat × Nat → Nat} {w : Mem} {d k i : Nat} {x : Int64} (q : Nat × Nat) (hne : q ≠ (d, k + 1)) : ent cy ad (sL w d k i x) q = ent cy ad w q := by
  obtain ⟨a, b⟩ := q
  cases b with
  | zero => rfl
  | succ b =>
    have hk2 : ¬ (a = d ∧ b = k) := fun z => hne (by rw [z.1, z.2])
    have e : (sL w d k i x).2.1 a b = w.2.1 a b := by
      funext c
      simp only [sL]
      exact if_neg (fun z => hk2 ⟨z.1, z.2.1⟩)
    simp [ent, cn, e]
    rfl
end
section
/-! what a method's run stands on, blocks and contracts -/
def tG : List Cond := lw_tbl.filter goodWord
theorem tG_of {i : Nat} {w : Cond} (h : tables_1[i]? = some w) (hg : goodWord w = true) : w ∈ tG := List.mem_filter.mpr ⟨List.mem_append_right _ (List.mem_of_getElem? h), hg⟩
theorem tG_sel {i : Nat} {w : Cond} (h : (k2_sels lw_privs)[i]? = some w) (hg : goodWord w = true) : w ∈ tG := List.mem_filter.mpr ⟨List.mem_append_left _ (List.mem_of_getElem? h), hg⟩
/-- the two links of Days to statics of its host -/
def NW (U : State) : Prop := va_Nw (.methodLinkNest RX1 95 yX7_outcomeOf RX7) U ∧ va_Nw (.methodLinkNest RX1 113 yX7_firstOf RX7) U
theorem NW.warm {s U : State} (hW : s.WarmedH U.vm) (h : NW s) : NW U := ⟨va_Nw.warmM hW h.1, va_Nw.warmM hW h.2⟩
theorem NW.same {u U : State} (e : u.vm = U.vm) (h : NW u) : NW U := ⟨va_Nw.same rfl e h.1, va_Nw.same rfl e h.2⟩
def rmD (dp : Nat) : Room := { frames := dp, cells := 0, slots := 0, locals := 40 * dp }
def Cx (y : MethodName) (cc : ByteArray) (nL : Nat) (rt : Option FieldType) (dp : Nat) (p : Program) (R : Room) (s : State) (m : MethodId) (args : Array Value) (meth : Method) (c : Code) (D : va_G) (cy : Nat → ClassId) (ad : Nat × Nat → Nat) (A : Nat → Prop) : Prop :=
  p.tables.exec = Jvm.exec ∧ c.code = cc ∧ c.maxLocals = nL ∧ meth.sig.returnType = rt ∧ meth.locks = false ∧ s.vm.findClass y.cls = some m.cls ∧ (∀ w ∈ tG, w.before args s = true) ∧ va_K D vwCl (tysL cy) s ∧ AdOk A ad ∧ dp ≤ R.frames ∧ 40 * dp ≤ R.locals ∧ NW s
def QQ (D : va_G) (cy : Nat → ClassId) (ad : Nat × Nat → Nat) (A : Nat → Prop) (o : Option AV) (w' : Mem) : Array Value → State → Outcome → State → Prop := fun _ st oc t =>
  oc = .returned (o.map (cv ad)) ∧ va_P D vwCl (wld cy ad w') t.heap ∧ va_F A st t
/-- the machine, at a block with these values and this memory, comes to the method's end with that answer and that memory -/
def Bk (y : MethodName) (cc : ByteArray) (nL : Nat) (rt : Option FieldType) (dp : Nat) (pc : Nat) (lv : List (Nat × AV)) (st : List AV) (w : Mem) (o : Option AV) (w' : Mem) : Prop :=
  ∀ (p : Program) (l : Launch) (e : Env) (R : Room) (s : State) (m : MethodId) (args : Array Value) (below : List Frame) (meth : Method) (c : Code) (D : va_G) (cy : Nat → ClassId) (ad : Nat × Nat → Nat) (A : Nat → Prop),
    Cx y cc nL rt dp p R s m args meth c D cy ad A → ∀ (H : Heap) (locs : List Loc) (ls : Array Slot), va_P D vwCl (wld cy ad w) H → va_S A s.heap H locs → lv_has ls nL (lc ad lv) →
    W p l e R s m args below meth c H locs 0 0 (MQ below (QQ D cy ad A o w') args s 0 0 A) (F0 m pc ls (st.map (cv ad)))
def Sp (y : MethodName) (cc : ByteArray) (nL : Nat) (rt : Option FieldType) (dp : Nat) (as : List AV) (w : Mem) (o : Option AV) (w' : Mem) : Prop :=
  ∀ (l : Launch) (D : va_G) (cy : Nat → ClassId) (ad : Nat × Nat → Nat) (A : Nat → Prop), AdOk A ad →
    Met l y (Cond.code y cc nL rt :: tG) (rmD dp) (va_Pc (as.map (cv ad)) (fun U => va_P D vwCl (wld cy ad w) U.heap ∧ va_K D vwCl (tysL cy) U ∧ NW U)) (QQ D cy ad A o w') 0 0 A
theorem sp_of {y : MethodName} {cc : ByteArray} {nL : Nat} {rt : Option FieldType} {dp : Nat} {as : List AV} {w w' : Mem} {o : Option AV} {lv : List (Nat × AV)} (hy : plainName y.cls = true) (hlv : ∀ ad, lv_args 0 (as.map (cv ad)) = lc ad lv) (hn : ∀ ad, (lg_sl (as.map (cv ad))).length ≤ nL)
    (h : Bk y cc nL rt dp 0 lv [] w o w') : Sp y cc nL rt dp as w o w' := by
  intro l D cy ad A hAd
  refine Met.ofW (cc := cc) (maxL := nL) (ret := rt) hy rfl ?_
  intro p e s m args below meth c s₁ B hml hv
  obtain ⟨rfl, hP, hK, hNW⟩ := hv
  have hts := atoms_spec (ws := Cond.code y cc nL rt :: tG) B.pre
  have hl := lv_entry (as.map (cv ad)) (n := nL) (hn ad)
  rw [lg_entry_eq]
  rw [hlv ad] at hl
  exact h p l e _ s m _ below meth c D cy ad A ⟨B.exec, B.bytes, hml, B.returns, B.notSynchronized, findClass_of_methodNamed B.named, fun w hw => hts w (List.mem_cons_of_mem _ hw), hK, hAd, Nat.le_refl _, Nat.le_refl _, hNW⟩ s.heap [] _ hP va_S.rf hl
def jrem (x z : Int32) : Int32 := x - x / z * z
def jremL (x z : Int64) : Int64 := x - x / z * z
def jshl (x z : Int32) : Int32 := x <<< (z &&& 31)
def jshr (x z : Int32) : Int32 := x >>> (z &&& 31)
def jushr (x z : Int32) : Int32 := (x.toUInt32 >>> (z.toUInt32 &&& Int32.toUInt32 31)).toInt32
def jlshl (x : Int64) (z : Int32) : Int64 := x <<< (z.toInt64 &&& 63)
def jlushr (x : Int64) (z : Int32) : Int64 := (x.toUInt64 >>> (z.toInt64.toUInt64 &&& Int64.toUInt64 63)).toInt64
def j2c (x : Int32) : Int32 := (x.toUInt32 % 65536).toInt32
section Rules
variable {y : MethodName} {cc : ByteArray} {nL : Nat} {rt : Option FieldType} {dp pc : Nat} {lv lv' : List (Nat × AV)} {st : List AV} {w w' : Mem} {o : Option AV}
theorem lc_at {ad : Nat × Nat → Nat} {k i : Nat} {v : AV} (h : lv[k]? = some (i, v)) : (lc ad lv)[k]? = some (i, cv ad v) := by
  rw [lc, List.getElem?_map, h]; rfl
theorem cat_cv {ad : Nat × Nat → Nat} (v : AV) : ((cv ad v).category == 2) = isL v := by
  match v with
  | .inl x => rfl
  | .inr (.inl x) => rfl
  | .inr (.inr none) => rfl
  | .inr (.inr (some q)) => rfl
theorem cat_1 {ad : Nat × Nat → Nat} {v : AV} (h : isL v = false) : (cv ad v).category = 1 := by
  match v, h with
  | .inl x, _ => rfl
  | .inr (.inr none), _ => rfl
  | .inr (.inr (some q)), _ => rfl
theorem lc_store {ad : Nat × Nat → Nat} {i : Nat} {v : AV} (h : (i, v) :: lv.filter (fun q => !(q.1 == i) && !(q.1 + 1 == i && isL q.2)) = lv') :
    (i, cv ad v) :: (lc ad lv).filter (fun q => !(q.1 == i) && !(q.1 + 1 == i && q.2.category == 2)) = lc ad lv' := by
  subst h
  simp only [lc, List.map_cons, List.filter_map]
  congr 1
  congr 1
  apply List.filter_congr
  intro q _
  simp [Function.comp, cat_cv]
theorem lc_storeL {ad : Nat × Nat → Nat} {i : Nat} {v : AV} (h : (i, v) :: lv.filter (fun q => !(q.1 == i) && (!(q.1 == i + 1) && !(q.1 + 1 == i && isL q.2))) = lv') :
    (i, cv ad v) :: (lc ad lv).filter (fun q => !(q.1 == i) && (!(q.1 == i + 1) && !(q.1 + 1 == i && q.2.category == 2))) = lc ad lv' := by
  subst h
  simp only [lc, List.map_cons, List.filter_map]
  congr 1
  congr 1
  apply List.filter_congr
  intro q _
  simp [Function.comp, cat_cv]
theorem b_iadd {x z : Int32} (hd : decode cc pc = .ok (.iadd, 1)) (h : Bk y cc nL rt dp (pc + 1) lv (vI (x + z) :: st) w o w') : Bk y cc nL rt dp pc lv (vI z :: vI x :: st) w o w' := by
  intro p l e R s m args below meth c D cy ad A C H locs ls hP hS hl
  exact lv_iadd C.1 C.2.1 hd (h p l e R s m args below meth c D cy ad A C H locs ls hP hS hl)
theorem b_isub {x z : Int32} (hd : decode cc pc = .ok (.isub, 1)) (h : Bk y cc nL rt dp (pc + 1) lv (vI (x - z) :: st) w o w') : Bk y cc nL rt dp pc lv (vI z :: vI x :: st) w o w' := by
  intro p l e R s m args below meth c D cy ad A C H locs ls hP hS hl
  exact lv_isub C.1 C.2.1 hd (h p l e R s m args below meth c D cy ad A C H locs ls hP hS hl)
theorem b_imul {x z : Int32} (hd : decode cc pc = .ok (.imul, 1)) (h : Bk y cc nL rt dp (pc + 1) lv (vI (x * z) :: st) w o w') : Bk y cc nL rt dp pc lv (vI z :: vI x :: st) w o w' := by
  intro p l e R s m args below meth c D cy ad A C H locs ls hP hS hl
  exact lv_imul C.1 C.2.1 hd (h p l e R s m args below meth c D cy ad A C H locs ls hP hS hl)
theorem b_iand {x z : Int32} (hd : decode cc pc = .ok (.iand, 1)) (h : Bk y cc nL rt dp (pc + 1) lv (vI (x &&& z) :: st) w o w') : Bk y cc nL rt dp pc lv (vI z :: vI x :: st) w o w' := by
  intro p l e R s m args below meth c D cy ad A C H locs ls hP hS hl
  exact lv_iand C.1 C.2.1 hd (h p l e R s m args below meth c D cy ad A C H locs ls hP hS hl)
theorem b_ior {x z : Int32} (hd : decode cc pc = .ok (.ior, 1)) (h : Bk y cc nL rt dp (pc + 1) lv (vI (x ||| z) :: st) w o w') : Bk y cc nL rt dp pc lv (vI z :: vI x :: st) w o w' := by
  intro p l e R s m args below meth c D cy ad A C H locs ls hP hS hl
  exact lv_ior C.1 C.2.1 hd (h p l e R s m args below meth c D cy ad A C H locs ls hP hS hl)
theorem b_ixor {x z : Int32} (hd : decode cc pc = .ok (.ixor, 1)) (h : Bk y cc nL rt dp (pc + 1) lv (vI (x ^^^ z) :: st) w o w') : Bk y cc nL rt dp pc lv (vI z :: vI x :: st) w o w' := by
  intro p l e R s m args below meth c D cy ad A C H locs ls hP hS hl
  exact lv_ixor C.1 C.2.1 hd (h p l e R s m args below meth c D cy ad A C H locs ls hP hS hl)
theorem b_ladd {x z : Int64} (hd : decode cc pc = .ok (.ladd, 1)) (h : Bk y cc nL rt dp (pc + 1) lv (vL (x + z) :: st) w o w') : Bk y cc nL rt dp pc lv (vL z :: vL x :: st) w o w' := by
  intro p l e R s m args below meth c D cy ad A C H locs ls hP hS hl
  exact lv_ladd C.1 C.2.1 hd (h p l e R s m args below meth c D cy ad A C H locs ls hP hS hl)
theorem b_lmul {x z : Int64} (hd : decode cc pc = .ok (.lmul, 1)) (h : Bk y cc nL rt dp (pc + 1) lv (vL (x * z) :: st) w o w') : Bk y cc nL rt dp pc lv (vL z :: vL x :: st) w o w' := by
  intro p l e R s m args below meth c D cy ad A C H locs ls hP hS hl
  exact lv_lmul C.1 C.2.1 hd (h p l e R s m args below meth c D cy ad A C H locs ls hP hS hl)
theorem b_land {x z : Int64} (hd : decode cc pc = .ok (.land, 1)) (h : Bk y cc nL rt dp (pc + 1) lv (vL (x &&& z) :: st) w o w') : Bk y cc nL rt dp pc lv (vL z :: vL x :: st) w o w' := by
  intro p l e R s m args below meth c D cy ad A C H locs ls hP hS hl
  exact lv_land C.1 C.2.1 hd (h p l e R s m args below meth c D cy ad A C H locs ls hP hS hl)
theorem b_lor {x z : Int64} (hd : decode cc pc = .ok (.lor, 1)) (h : Bk y cc nL rt dp (pc + 1) lv (vL (x ||| z) :: st) w o w') : Bk y cc nL rt dp pc lv (vL z :: vL x :: st) w o w' := by
  intro p l e R s m args below meth c D cy ad A C H locs ls hP hS hl
  exact lv_lor C.1 C.2.1 hd (h p l e R s m args below meth c D cy ad A C H locs ls hP hS hl)
theorem b_lsub {x z : Int64} (hd : decode cc pc = .ok (.lsub, 1)) (h : Bk y cc nL rt dp (pc + 1) lv (vL (x - z) :: st) w o w') : Bk y cc nL rt dp pc lv (vL z :: vL x :: st) w o w' := by
  intro p l e R s m args below meth c D cy ad A C H locs ls hP hS hl
  exact lv_lsub C.1 C.2.1 hd (h p l e R s m args below meth c D cy ad A C H locs ls hP hS hl)
theorem b_idiv {x z : Int32} (hd : decode cc pc = .ok (.idiv, 1)) (hz : ¬ z = 0) (h : Bk y cc nL rt dp (pc + 1) lv (vI (x / z) :: st) w o w') : Bk y cc nL rt dp pc lv (vI z :: vI x :: st) w o w' := by
  intro p l e R s m args below meth c D cy ad A C H locs ls hP hS hl
  exact lv_idiv C.1 C.2.1 hd hz (h p l e R s m args below meth c D cy ad A C H locs ls hP hS hl)
theorem b_irem {x z : Int32} (hd : decode cc pc = .ok (.irem, 1)) (hz : ¬ z = 0) (h : Bk y cc nL rt dp (pc + 1) lv (vI (jrem x z) :: st) w o w') : Bk y cc nL rt dp pc lv (vI z :: vI x :: st) w o w' := by
  intro p l e R s m args below meth c D cy ad A C H locs ls hP hS hl
  exact lv_irem C.1 C.2.1 hd hz (h p l e R s m args below meth c D cy ad A C H locs ls hP hS hl)
theorem b_lrem {x z : Int64} (hd : decode cc pc = .ok (.lrem, 1)) (hz : ¬ z = 0) (h : Bk y cc nL rt dp (pc + 1) lv (vL (jremL x z) :: st) w o w') : Bk y cc nL rt dp pc lv (vL z :: vL x :: st) w o w' := by
  intro p l e R s m args below meth c D cy ad A C H locs ls hP hS hl
  exact lv_lrem C.1 C.2.1 hd hz (h p l e R s m args below meth c D cy ad A C H locs ls hP hS hl)
theorem b_ineg {x : Int32} (hd : decode cc pc = .ok (.ineg, 1)) (h : Bk y cc nL rt dp (pc + 1) lv (vI (-x) :: st) w o w') : Bk y cc nL rt dp pc lv (vI x :: st) w o w' := by
  intro p l e R s m args below meth c D cy ad A C H locs ls hP hS hl
  exact lv_ineg C.1 C.2.1 hd (h p l e R s m args below meth c D cy ad A C H locs ls hP hS hl)
theorem b_ishl {x z : Int32} (hd : decode cc pc = .ok (.ishl, 1)) (h : Bk y cc nL rt dp (pc + 1) lv (vI (jshl x z) :: st) w o w') : Bk y cc nL rt dp pc lv (vI z :: vI x :: st) w o w' := by
  intro p l e R s m args below meth c D cy ad A C H locs ls hP hS hl
  exact lv_ishl C.1 C.2.1 hd (h p l e R s m args below meth c D cy ad A C H locs ls hP hS hl)
theorem b_ishr {x z : Int32} (hd : decode cc pc = .ok (.ishr, 1)) (h : Bk y cc nL rt dp (pc + 1) lv (vI (jshr x z) :: st) w o w') : Bk y cc nL rt dp pc lv (vI z :: vI x :: st) w o w' := by
  intro p l e R s m args below meth c D cy ad A C H locs ls hP hS hl
  exact lv_ishr C.1 C.2.1 hd (h p l e R s m args below meth c D cy ad A C H locs ls hP hS hl)
theorem b_iushr {x z : Int32} (hd : decode cc pc = .ok (.iushr, 1)) (h : Bk y cc nL rt dp (pc + 1) lv (vI (jushr x z) :: st) w o w') : Bk y cc nL rt dp pc lv (vI z :: vI x :: st) w o w' := by
  intro p l e R s m args below meth c D cy ad A C H locs ls hP hS hl
  exact lv_iushr C.1 C.2.1 hd rfl (h p l e R s m args below meth c D cy ad A C H locs ls hP hS hl)
theorem b_lshl {x : Int64} {z : Int32} (hd : decode cc pc = .ok (.lshl, 1)) (h : Bk y cc nL rt dp (pc + 1) lv (vL (jlshl x z) :: st) w o w') : Bk y cc nL rt dp pc lv (vI z :: vL x :: st) w o w' := by
  intro p l e R s m args below meth c D cy ad A C H locs ls hP hS hl
  exact lv_lshl C.1 C.2.1 hd rfl (h p l e R s m args below meth c D cy ad A C H locs ls hP hS hl)
theorem b_lushr {x : Int64} {z : Int32} (hd : decode cc pc = .ok (.lushr, 1)) (h : Bk y cc nL rt dp (pc + 1) lv (vL (jlushr x z) :: st) w o w') : Bk y cc nL rt dp pc lv (vI z :: vL x :: st) w o w' := by
  intro p l e R s m args below meth c D cy ad A C H locs ls hP hS hl
  exact lv_lushr C.1 C.2.1 hd rfl (h p l e R s m args below meth c D cy ad A C H locs ls hP hS hl)
theorem b_i2l {x : Int32} (hd : decode cc pc = .ok (.i2l, 1)) (h : Bk y cc nL rt dp (pc + 1) lv (vL x.toInt64 :: st) w o w') : Bk y cc nL rt dp pc lv (vI x :: st) w o w' := by
  intro p l e R s m args below meth c D cy ad A C H locs ls hP hS hl
  exact lv_i2l C.1 C.2.1 hd rfl (h p l e R s m args below meth c D cy ad A C H locs ls hP hS hl)
theorem b_l2i {x : Int64} (hd : decode cc pc = .ok (.l2i, 1)) (h : Bk y cc nL rt dp (pc + 1) lv (vI x.toInt32 :: st) w o w') : Bk y cc nL rt dp pc lv (vL x :: st) w o w' := by
  intro p l e R s m args below meth c D cy ad A C H locs ls hP hS hl
  exact lv_l2i C.1 C.2.1 hd rfl (h p l e R s m args below meth c D cy ad A C H locs ls hP hS hl)
theorem b_i2c {x : Int32} (hd : decode cc pc = .ok (.i2c, 1)) (h : Bk y cc nL rt dp (pc + 1) lv (vI (j2c x) :: st) w o w') : Bk y cc nL rt dp pc lv (vI x :: st) w o w' := by
  intro p l e R s m args below meth c D cy ad A C H locs ls hP hS hl
  exact lv_i2c C.1 C.2.1 hd rfl (h p l e R s m args below meth c D cy ad A C H locs ls hP hS hl)
theorem b_lcmp {x z : Int64} (hd : decode cc pc = .ok (.lcmp, 1)) (h : Bk y cc nL rt dp (pc + 1) lv (vI (lg_cmp x z) :: st) w o w') : Bk y cc nL rt dp pc lv (vL z :: vL x :: st) w o w' := by
  intro p l e R s m args below meth c D cy ad A C H locs ls hP hS hl
  exact W.lcmp C.1 C.2.1 hd (h p l e R s m args below meth c D cy ad A C H locs ls hP hS hl)
theorem b_iconst {n : Int} {v : Int32} (hd : decode cc pc = .ok (.iconst n, 1)) (hv : Int32.ofInt n = v) (h : Bk y cc nL rt dp (pc + 1) lv (vI v :: st) w o w') : Bk y cc nL rt dp pc lv (st) w o w' := by
  intro p l e R s m args below meth c D cy ad A C H locs ls hP hS hl
  exact lv_iconst C.1 C.2.1 hd hv (h p l e R s m args below meth c D cy ad A C H locs ls hP hS hl)
theorem b_bipush {n : Int} {v : Int32} (hd : decode cc pc = .ok (.bipush n, 2)) (hv : (Int8.ofInt n).toInt32 = v) (h : Bk y cc nL rt dp (pc + 2) lv (vI v :: st) w o w') : Bk y cc nL rt dp pc lv (st) w o w' := by
  intro p l e R s m args below meth c D cy ad A C H locs ls hP hS hl
  exact lv_bipush C.1 C.2.1 hd hv (h p l e R s m args below meth c D cy ad A C H locs ls hP hS hl)
theorem b_sipush {n : Int} {v : Int32} (hd : decode cc pc = .ok (.sipush n, 3)) (hv : (Int16.ofInt n).toInt32 = v) (h : Bk y cc nL rt dp (pc + 3) lv (vI v :: st) w o w') : Bk y cc nL rt dp pc lv (st) w o w' := by
  intro p l e R s m args below meth c D cy ad A C H locs ls hP hS hl
  exact lv_sipush C.1 C.2.1 hd hv (h p l e R s m args below meth c D cy ad A C H locs ls hP hS hl)
theorem b_lconst {n : Fin 2} {v : Int64} (hd : decode cc pc = .ok (.lconst n, 1)) (hv : Int64.ofNat (n : Nat) = v) (h : Bk y cc nL rt dp (pc + 1) lv (vL v :: st) w o w') : Bk y cc nL rt dp pc lv (st) w o w' := by
  intro p l e R s m args below meth c D cy ad A C H locs ls hP hS hl
  exact lv_lconst C.1 C.2.1 hd hv (h p l e R s m args below meth c D cy ad A C H locs ls hP hS hl)
theorem b_ifeq {x : Int32} {off : Int} {tgt : Nat} (hd : decode cc pc = .ok (.ifCond .eq off, 3)) (hg : (pc : Int) + off = (tgt : Int)) (ht : x = 0 → Bk y cc nL rt dp tgt lv st w o w') (hf : ¬ x = 0 → Bk y cc nL rt dp (pc + 3) lv st w o w') : Bk y cc nL rt dp pc lv (vI x :: st) w o w' := by
  intro p l e R s m args below meth c D cy ad A C H locs ls hP hS hl
  exact lv_if_eq C.1 C.2.1 hd hg (fun q => ht q p l e R s m args below meth c D cy ad A C H locs ls hP hS hl) (fun q => hf q p l e R s m args below meth c D cy ad A C H locs ls hP hS hl)
theorem b_ifne {x : Int32} {off : Int} {tgt : Nat} (hd : decode cc pc = .ok (.ifCond .ne off, 3)) (hg : (pc : Int) + off = (tgt : Int)) (ht : ¬ x = 0 → Bk y cc nL rt dp tgt lv st w o w') (hf : x = 0 → Bk y cc nL rt dp (pc + 3) lv st w o w') : Bk y cc nL rt dp pc lv (vI x :: st) w o w' := by
  intro p l e R s m args below meth c D cy ad A C H locs ls hP hS hl
  exact lv_if_ne C.1 C.2.1 hd hg (fun q => ht q p l e R s m args below meth c D cy ad A C H locs ls hP hS hl) (fun q => hf q p l e R s m args below meth c D cy ad A C H locs ls hP hS hl)
theorem b_iflt {x : Int32} {off : Int} {tgt : Nat} (hd : decode cc pc = .ok (.ifCond .lt off, 3)) (hg : (pc : Int) + off = (tgt : Int)) (ht : x < 0 → Bk y cc nL rt dp tgt lv st w o w') (hf : ¬ x < 0 → Bk y cc nL rt dp (pc + 3) lv st w o w') : Bk y cc nL rt dp pc lv (vI x :: st) w o w' := by
  intro p l e R s m args below meth c D cy ad A C H locs ls hP hS hl
  exact lv_if_lt C.1 C.2.1 hd hg (fun q => ht q p l e R s m args below meth c D cy ad A C H locs ls hP hS hl) (fun q => hf q p l e R s m args below meth c D cy ad A C H locs ls hP hS hl)
theorem b_ifge {x : Int32} {off : Int} {tgt : Nat} (hd : decode cc pc = .ok (.ifCond .ge off, 3)) (hg : (pc : Int) + off = (tgt : Int)) (ht : 0 ≤ x → Bk y cc nL rt dp tgt lv st w o w') (hf : ¬ 0 ≤ x → Bk y cc nL rt dp (pc + 3) lv st w o w') : Bk y cc nL rt dp pc lv (vI x :: st) w o w' := by
  intro p l e R s m args below meth c D cy ad A C H locs ls hP hS hl
  exact lv_if_ge C.1 C.2.1 hd hg (fun q => ht q p l e R s m args below meth c D cy ad A C H locs ls hP hS hl) (fun q => hf q p l e R s m args below meth c D cy ad A C H locs ls hP hS hl)
theorem b_ifgt {x : Int32} {off : Int} {tgt : Nat} (hd : decode cc pc = .ok (.ifCond .gt off, 3)) (hg : (pc : Int) + off = (tgt : Int)) (ht : 0 < x → Bk y cc nL rt dp tgt lv st w o w') (hf : ¬ 0 < x → Bk y cc nL rt dp (pc + 3) lv st w o w') : Bk y cc nL rt dp pc lv (vI x :: st) w o w' := by
  intro p l e R s m args below meth c D cy ad A C H locs ls hP hS hl
  exact lv_if_gt C.1 C.2.1 hd hg (fun q => ht q p l e R s m args below meth c D cy ad A C H locs ls hP hS hl) (fun q => hf q p l e R s m args below meth c D cy ad A C H locs ls hP hS hl)
theorem b_ifle {x : Int32} {off : Int} {tgt : Nat} (hd : decode cc pc = .ok (.ifCond .le off, 3)) (hg : (pc : Int) + off = (tgt : Int)) (ht : x ≤ 0 → Bk y cc nL rt dp tgt lv st w o w') (hf : ¬ x ≤ 0 → Bk y cc nL rt dp (pc + 3) lv st w o w') : Bk y cc nL rt dp pc lv (vI x :: st) w o w' := by
  intro p l e R s m args below meth c D cy ad A C H locs ls hP hS hl
  exact lv_if_le C.1 C.2.1 hd hg (fun q => ht q p l e R s m args below meth c D cy ad A C H locs ls hP hS hl) (fun q => hf q p l e R s m args below meth c D cy ad A C H locs ls hP hS hl)
theorem b_iceq {x z : Int32} {off : Int} {tgt : Nat} (hd : decode cc pc = .ok (.if_icmp .eq off, 3)) (hg : (pc : Int) + off = (tgt : Int)) (ht : x = z → Bk y cc nL rt dp tgt lv st w o w') (hf : ¬ x = z → Bk y cc nL rt dp (pc + 3) lv st w o w') : Bk y cc nL rt dp pc lv (vI z :: vI x :: st) w o w' := by
  intro p l e R s m args below meth c D cy ad A C H locs ls hP hS hl
  exact lv_icmp_eq C.1 C.2.1 hd hg (fun q => ht q p l e R s m args below meth c D cy ad A C H locs ls hP hS hl) (fun q => hf q p l e R s m args below meth c D cy ad A C H locs ls hP hS hl)
theorem b_icne {x z : Int32} {off : Int} {tgt : Nat} (hd : decode cc pc = .ok (.if_icmp .ne off, 3)) (hg : (pc : Int) + off = (tgt : Int)) (ht : ¬ x = z → Bk y cc nL rt dp tgt lv st w o w') (hf : x = z → Bk y cc nL rt dp (pc + 3) lv st w o w') : Bk y cc nL rt dp pc lv (vI z :: vI x :: st) w o w' := by
  intro p l e R s m args below meth c D cy ad A C H locs ls hP hS hl
  exact lv_icmp_ne C.1 C.2.1 hd hg (fun q => ht q p l e R s m args below meth c D cy ad A C H locs ls hP hS hl) (fun q => hf q p l e R s m args below meth c D cy ad A C H locs ls hP hS hl)
theorem b_iclt {x z : Int32} {off : Int} {tgt : Nat} (hd : decode cc pc = .ok (.if_icmp .lt off, 3)) (hg : (pc : Int) + off = (tgt : Int)) (ht : x < z → Bk y cc nL rt dp tgt lv st w o w') (hf : ¬ x < z → Bk y cc nL rt dp (pc + 3) lv st w o w') : Bk y cc nL rt dp pc lv (vI z :: vI x :: st) w o w' := by
  intro p l e R s m args below meth c D cy ad A C H locs ls hP hS hl
  exact lv_icmp_lt C.1 C.2.1 hd hg (fun q => ht q p l e R s m args below meth c D cy ad A C H locs ls hP hS hl) (fun q => hf q p l e R s m args below meth c D cy ad A C H locs ls hP hS hl)
theorem b_icge {x z : Int32} {off : Int} {tgt : Nat} (hd : decode cc pc = .ok (.if_icmp .ge off, 3)) (hg : (pc : Int) + off = (tgt : Int)) (ht : z ≤ x → Bk y cc nL rt dp tgt lv st w o w') (hf : ¬ z ≤ x → Bk y cc nL rt dp (pc + 3) lv st w o w') : Bk y cc nL rt dp pc lv (vI z :: vI x :: st) w o w' := by
  intro p l e R s m args below meth c D cy ad A C H locs ls hP hS hl
  exact lv_icmp_ge C.1 C.2.1 hd hg (fun q => ht q p l e R s m args below meth c D cy ad A C H locs ls hP hS hl) (fun q => hf q p l e R s m args below meth c D cy ad A C H locs ls hP hS hl)
theorem b_icgt {x z : Int32} {off : Int} {tgt : Nat} (hd : decode cc pc = .ok (.if_icmp .gt off, 3)) (hg : (pc : Int) + off = (tgt : Int)) (ht : z < x → Bk y cc nL rt dp tgt lv st w o w') (hf : ¬ z < x → Bk y cc nL rt dp (pc + 3) lv st w o w') : Bk y cc nL rt dp pc lv (vI z :: vI x :: st) w o w' := by
  intro p l e R s m args below meth c D cy ad A C H locs ls hP hS hl
  exact lv_icmp_gt C.1 C.2.1 hd hg (fun q => ht q p l e R s m args below meth c D cy ad A C H locs ls hP hS hl) (fun q => hf q p l e R s m args below meth c D cy ad A C H locs ls hP hS hl)
theorem b_icle {x z : Int32} {off : Int} {tgt : Nat} (hd : decode cc pc = .ok (.if_icmp .le off, 3)) (hg : (pc : Int) + off = (tgt : Int)) (ht : x ≤ z → Bk y cc nL rt dp tgt lv st w o w') (hf : ¬ x ≤ z → Bk y cc nL rt dp (pc + 3) lv st w o w') : Bk y cc nL rt dp pc lv (vI z :: vI x :: st) w o w' := by
  intro p l e R s m args below meth c D cy ad A C H locs ls hP hS hl
  exact lv_icmp_le C.1 C.2.1 hd hg (fun q => ht q p l e R s m args below meth c D cy ad A C H locs ls hP hS hl) (fun q => hf q p l e R s m args below meth c D cy ad A C H locs ls hP hS hl)
/-- a computed number gets a name -/
theorem b_nmI {x z : Int32} (h : z = x) (k : Bk y cc nL rt dp pc lv (vI z :: st) w o w') : Bk y cc nL rt dp pc lv (vI x :: st) w o w' := h ▸ k
theorem b_nmL {x z : Int64} (h : z = x) (k : Bk y cc nL rt dp pc lv (vL z :: st) w o w') : Bk y cc nL rt dp pc lv (vL x :: st) w o w' := h ▸ k
theorem b_iload {k i : Nat} {x : Int32} (hd : decode cc pc = .ok (.iload i, 2)) (hk : lv[k]? = some (i, vI x)) (h : Bk y cc nL rt dp (pc + 2) lv (vI x :: st) w o w') : Bk y cc nL rt dp pc lv st w o w' := by
  intro p l e R s m args below meth c D cy ad A C H locs ls hP hS hl
  exact lv_iload C.1 C.2.1 hd (lv_at hl k (lc_at hk)) (h p l e R s m args below meth c D cy ad A C H locs ls hP hS hl)
theorem b_iload_n {k i : Nat} {j : Fin 4} {x : Int32} (hd : decode cc pc = .ok (.iload_n j, 1)) (hj : (j : Nat) = i) (hk : lv[k]? = some (i, vI x)) (h : Bk y cc nL rt dp (pc + 1) lv (vI x :: st) w o w') : Bk y cc nL rt dp pc lv st w o w' := by
  intro p l e R s m args below meth c D cy ad A C H locs ls hP hS hl
  exact lv_iload_n C.1 C.2.1 hd hj (lv_at hl k (lc_at hk)) (h p l e R s m args below meth c D cy ad A C H locs ls hP hS hl)
theorem b_lload {k i : Nat} {x : Int64} (hd : decode cc pc = .ok (.lload i, 2)) (hk : lv[k]? = some (i, vL x)) (h : Bk y cc nL rt dp (pc + 2) lv (vL x :: st) w o w') : Bk y cc nL rt dp pc lv st w o w' := by
  intro p l e R s m args below meth c D cy ad A C H locs ls hP hS hl
  exact lv_lload C.1 C.2.1 hd (lv_at hl k (lc_at hk)) (h p l e R s m args below meth c D cy ad A C H locs ls hP hS hl)
theorem b_lload_n {k i : Nat} {j : Fin 4} {x : Int64} (hd : decode cc pc = .ok (.lload_n j, 1)) (hj : (j : Nat) = i) (hk : lv[k]? = some (i, vL x)) (h : Bk y cc nL rt dp (pc + 1) lv (vL x :: st) w o w') : Bk y cc nL rt dp pc lv st w o w' := by
  intro p l e R s m args below meth c D cy ad A C H locs ls hP hS hl
  exact lv_lload_n C.1 C.2.1 hd hj (lv_at hl k (lc_at hk)) (h p l e R s m args below meth c D cy ad A C H locs ls hP hS hl)
theorem b_aload {k i a b : Nat} (hd : decode cc pc = .ok (.aload i, 2)) (hk : lv[k]? = some (i, vR a b)) (h : Bk y cc nL rt dp (pc + 2) lv (vR a b :: st) w o w') : Bk y cc nL rt dp pc lv st w o w' := by
  intro p l e R s m args below meth c D cy ad A C H locs ls hP hS hl
  exact lv_aload C.1 C.2.1 hd (lv_at hl k (lc_at hk)) (h p l e R s m args below meth c D cy ad A C H locs ls hP hS hl)
theorem b_aload_n {k i a b : Nat} {j : Fin 4} (hd : decode cc pc = .ok (.aload_n j, 1)) (hj : (j : Nat) = i) (hk : lv[k]? = some (i, vR a b)) (h : Bk y cc nL rt dp (pc + 1) lv (vR a b :: st) w o w') : Bk y cc nL rt dp pc lv st w o w' := by
  intro p l e R s m args below meth c D cy ad A C H locs ls hP hS hl
  exact lv_aload_n C.1 C.2.1 hd hj (lv_at hl k (lc_at hk)) (h p l e R s m args below meth c D cy ad A C H locs ls hP hS hl)
theorem b_aload_nN {k i : Nat} {j : Fin 4} (hd : decode cc pc = .ok (.aload_n j, 1)) (hj : (j : Nat) = i) (hk : lv[k]? = some (i, vN)) (h : Bk y cc nL rt dp (pc + 1) lv (vN :: st) w o w') : Bk y cc nL rt dp pc lv st w o w' := by
  intro p l e R s m args below meth c D cy ad A C H locs ls hP hS hl
  exact lv_aload_nN C.1 C.2.1 hd hj (lv_at hl k (lc_at hk)) (h p l e R s m args below meth c D cy ad A C H locs ls hP hS hl)
theorem b_istore {i : Nat} {x : Int32} (hd : decode cc pc = .ok (.istore i, 2)) (hn : i < nL) (hl' : (i, vI x) :: lv.filter (fun q => !(q.1 == i) && !(q.1 + 1 == i && isL q.2)) = lv') (h : Bk y cc nL rt dp (pc + 2) lv' st w o w') : Bk y cc nL rt dp pc lv (vI x :: st) w o w' := by
  intro p l e R s m args below meth c D cy ad A C H locs ls hP hS hl
  exact lv_istore C.1 C.2.1 hd hl hn (lc_store hl') (fun ls' hl2 => h p l e R s m args below meth c D cy ad A C H locs ls' hP hS hl2)
theorem b_istore_n {i : Nat} {j : Fin 4} {x : Int32} (hd : decode cc pc = .ok (.istore_n j, 1)) (hj : (j : Nat) = i) (hn : i < nL) (hl' : (i, vI x) :: lv.filter (fun q => !(q.1 == i) && !(q.1 + 1 == i && isL q.2)) = lv') (h : Bk y cc nL rt dp (pc + 1) lv' st w o w') : Bk y cc nL rt dp pc lv (vI x :: st) w o w' := by
  intro p l e R s m args below meth c D cy ad A C H locs ls hP hS hl
  exact lv_istore_n C.1 C.2.1 hd hj hl hn (lc_store hl') (fun ls' hl2 => h p l e R s m args below meth c D cy ad A C H locs ls' hP hS hl2)
theorem b_astore {i a b : Nat} (hd : decode cc pc = .ok (.astore i, 2)) (hn : i < nL) (hl' : (i, vR a b) :: lv.filter (fun q => !(q.1 == i) && !(q.1 + 1 == i && isL q.2)) = lv') (h : Bk y cc nL rt dp (pc + 2) lv' st w o w') : Bk y cc nL rt dp pc lv (vR a b :: st) w o w' := by
  intro p l e R s m args below meth c D cy ad A C H locs ls hP hS hl
  exact lv_astore C.1 C.2.1 hd hl hn (lc_store hl') (fun ls' hl2 => h p l e R s m args below meth c D cy ad A C H locs ls' hP hS hl2)
theorem b_astore_n {i a b : Nat} {j : Fin 4} (hd : decode cc pc = .ok (.astore_n j, 1)) (hj : (j : Nat) = i) (hn : i < nL) (hl' : (i, vR a b) :: lv.filter (fun q => !(q.1 == i) && !(q.1 + 1 == i && isL q.2)) = lv') (h : Bk y cc nL rt dp (pc + 1) lv' st w o w') : Bk y cc nL rt dp pc lv (vR a b :: st) w o w' := by
  intro p l e R s m args below meth c D cy ad A C H locs ls hP hS hl
  exact lv_astore_n C.1 C.2.1 hd hj hl hn (lc_store hl') (fun ls' hl2 => h p l e R s m args below meth c D cy ad A C H locs ls' hP hS hl2)
theorem b_astore_nN {i : Nat} {j : Fin 4} (hd : decode cc pc = .ok (.astore_n j, 1)) (hj : (j : Nat) = i) (hn : i < nL) (hl' : (i, vN) :: lv.filter (fun q => !(q.1 == i) && !(q.1 + 1 == i && isL q.2)) = lv') (h : Bk y cc nL rt dp (pc + 1) lv' st w o w') : Bk y cc nL rt dp pc lv (vN :: st) w o w' := by
  intro p l e R s m args below meth c D cy ad A C H locs ls hP hS hl
  exact lv_astore_nN C.1 C.2.1 hd hj hl hn (lc_store hl') (fun ls' hl2 => h p l e R s m args below meth c D cy ad A C H locs ls' hP hS hl2)
theorem b_iinc {k i : Nat} {n : Int} {x v : Int32} (hd : decode cc pc = .ok (.iinc i n, 3)) (hk : lv[k]? = some (i, vI x)) (hv : x + Int32.ofInt n = v) (hn : i < nL) (hl' : (i, vI v) :: lv.filter (fun q => !(q.1 == i) && !(q.1 + 1 == i && isL q.2)) = lv') (h : Bk y cc nL rt dp (pc + 3) lv' st w o w') : Bk y cc nL rt dp pc lv st w o w' := by
  intro p l e R s m args below meth c D cy ad A C H locs ls hP hS hl
  exact lv_iinc C.1 C.2.1 hd hl (lc_at hk) hv hn (lc_store hl') (fun ls' hl2 => h p l e R s m args below meth c D cy ad A C H locs ls' hP hS hl2)
theorem b_dup {v : AV} (hd : decode cc pc = .ok (.dup, 1)) (hv : isL v = false) (h : Bk y cc nL rt dp (pc + 1) lv (v :: v :: st) w o w') : Bk y cc nL rt dp pc lv (v :: st) w o w' := by
  intro p l e R s m args below meth c D cy ad A C H locs ls hP hS hl
  exact lv_dup C.1 C.2.1 hd (cat_1 hv) (h p l e R s m args below meth c D cy ad A C H locs ls hP hS hl)
theorem b_dup_x1 {v u : AV} (hd : decode cc pc = .ok (.dup_x1, 1)) (hv : isL v = false) (hu : isL u = false) (h : Bk y cc nL rt dp (pc + 1) lv (v :: u :: v :: st) w o w') : Bk y cc nL rt dp pc lv (v :: u :: st) w o w' := by
  intro p l e R s m args below meth c D cy ad A C H locs ls hP hS hl
  exact lv_dup_x1 C.1 C.2.1 hd (cat_1 hv) (cat_1 hu) (h p l e R s m args below meth c D cy ad A C H locs ls hP hS hl)
theorem b_dup2 {v u : AV} (hd : decode cc pc = .ok (.dup2, 1)) (hv : isL v = false) (hu : isL u = false) (h : Bk y cc nL rt dp (pc + 1) lv (v :: u :: v :: u :: st) w o w') : Bk y cc nL rt dp pc lv (v :: u :: st) w o w' := by
  intro p l e R s m args below meth c D cy ad A C H locs ls hP hS hl
  exact lv_dup2_11 C.1 C.2.1 hd (cat_1 hv) (cat_1 hu) (h p l e R s m args below meth c D cy ad A C H locs ls hP hS hl)
theorem b_pop {v : AV} (hd : decode cc pc = .ok (.pop, 1)) (hv : isL v = false) (h : Bk y cc nL rt dp (pc + 1) lv st w o w') : Bk y cc nL rt dp pc lv (v :: st) w o w' := by
  intro p l e R s m args below meth c D cy ad A C H locs ls hP hS hl
  exact lv_pop C.1 C.2.1 hd (cat_1 hv) (h p l e R s m args below meth c D cy ad A C H locs ls hP hS hl)
theorem b_goto {off : Int} {tgt : Nat} (hd : decode cc pc = .ok (.goto off, 3)) (ht : (pc : Int) + off = (tgt : Int)) (h : Bk y cc nL rt dp tgt lv st w o w') : Bk y cc nL rt dp pc lv st w o w' := by
  intro p l e R s m args below meth c D cy ad A C H locs ls hP hS hl
  exact lv_goto C.1 C.2.1 hd ht (h p l e R s m args below meth c D cy ad A C H locs ls hP hS hl)
theorem b_null (hd : decode cc pc = .ok (.aconst_null, 1)) (h : Bk y cc nL rt dp (pc + 1) lv (vN :: st) w o w') : Bk y cc nL rt dp pc lv st w o w' := by
  intro p l e R s m args below meth c D cy ad A C H locs ls hP hS hl
  exact lv_null C.1 C.2.1 hd (h p l e R s m args below meth c D cy ad A C H locs ls hP hS hl)
theorem b_ifnonnull {a b : Nat} {off : Int} {tgt : Nat} (hd : decode cc pc = .ok (.ifnonnull off, 3)) (ht : (pc : Int) + off = (tgt : Int)) (h : Bk y cc nL rt dp tgt lv st w o w') : Bk y cc nL rt dp pc lv (vR a b :: st) w o w' := by
  intro p l e R s m args below meth c D cy ad A C H locs ls hP hS hl
  exact lv_ifnonnull C.1 C.2.1 hd ht (h p l e R s m args below meth c D cy ad A C H locs ls hP hS hl)
theorem b_ifnonnullN {off : Int} (hd : decode cc pc = .ok (.ifnonnull off, 3)) (h : Bk y cc nL rt dp (pc + 3) lv st w o w') : Bk y cc nL rt dp pc lv (vN :: st) w o w' := by
  intro p l e R s m args below meth c D cy ad A C H locs ls hP hS hl
  exact lv_ifnonnullN C.1 C.2.1 hd (h p l e R s m args below meth c D cy ad A C H locs ls hP hS hl)
theorem b_ifnull {a b : Nat} {off : Int} (hd : decode cc pc = .ok (.ifnull off, 3)) (h : Bk y cc nL rt dp (pc + 3) lv st w o w') : Bk y cc nL rt dp pc lv (vR a b :: st) w o w' := by
  intro p l e R s m args below meth c D cy ad A C H locs ls hP hS hl
  exact lv_ifnull C.1 C.2.1 hd (h p l e R s m args below meth c D cy ad A C H locs ls hP hS hl)
theorem b_ldc {i : Nat} {v : Int32} (hd : decode cc pc = .ok (.ldc i, 2)) (hc : Cond.constant y.cls i v ∈ tG) (h : Bk y cc nL rt dp (pc + 2) lv (vI v :: st) w o w') : Bk y cc nL rt dp pc lv st w o w' := by
  intro p l e R s m args below meth c D cy ad A C H locs ls hP hS hl
  exact lv_ldc C.1 C.2.1 C.2.2.2.2.2.1 (C.2.2.2.2.2.2.1 _ hc) hd (h p l e R s m args below meth c D cy ad A C H locs ls hP hS hl)
theorem b_ldcw {i : Nat} {v : Int32} (hd : decode cc pc = .ok (.ldc_w i, 3)) (hc : Cond.constant y.cls i v ∈ tG) (h : Bk y cc nL rt dp (pc + 3) lv (vI v :: st) w o w') : Bk y cc nL rt dp pc lv st w o w' := by
  intro p l e R s m args below meth c D cy ad A C H locs ls hP hS hl
  exact lv_ldcw C.1 C.2.1 C.2.2.2.2.2.1 (C.2.2.2.2.2.2.1 _ hc) hd (h p l e R s m args below meth c D cy ad A C H locs ls hP hS hl)
theorem b_ldc2 {i : Nat} {v : Int64} (hd : decode cc pc = .ok (.ldc2_w i, 3)) (hc : Cond.constantLong y.cls i v ∈ tG) (h : Bk y cc nL rt dp (pc + 3) lv (vL v :: st) w o w') : Bk y cc nL rt dp pc lv st w o w' := by
  intro p l e R s m args below meth c D cy ad A C H locs ls hP hS hl
  exact lv_ldc2 C.1 C.2.1 C.2.2.2.2.2.1 (C.2.2.2.2.2.2.1 _ hc) hd (h p l e R s m args below meth c D cy ad A C H locs ls hP hS hl)
theorem b_sub (ks : List Nat) (hk : ks.filterMap (fun k => lv[k]?) = lv') (h : Bk y cc nL rt dp pc lv' st w o w') : Bk y cc nL rt dp pc lv st w o w' := by
  intro p l e R s m args below meth c D cy ad A C H locs ls hP hS hl
  refine h p l e R s m args below meth c D cy ad A C H locs ls hP hS ⟨hl.1, hl.2.1, fun q hq => ?_⟩
  subst hk
  obtain ⟨z, hz, rfl⟩ := List.mem_map.mp hq
  obtain ⟨i, -, hi⟩ := List.mem_filterMap.mp hz
  exact hl.2.2 _ (List.mem_map.mpr ⟨z, List.mem_of_getElem? hi, rfl⟩)
theorem b_nmW {v : Mem} (h : v = w) (k : Bk y cc nL rt dp pc lv st v o w') : Bk y cc nL rt dp pc lv st w o w' := h ▸ k
theorem b_tabIn {x : Int32} {dflt lo hi off : Int} {offs : Array Int} {len tgt : Nat} {j : Int} (hx : x.toInt = j) (hd : decode cc pc = .ok (.tableswitch dflt lo hi offs, len)) (h1 : ¬ j < lo) (h2 : ¬ hi < j) (ho : offs[(j - lo).toNat]? = some off) (ht : (pc : Int) + off = (tgt : Int)) (h : Bk y cc nL rt dp tgt lv st w o w') : Bk y cc nL rt dp pc lv (vI x :: st) w o w' := by
  subst hx
  intro p l e R s m args below meth c D cy ad A C H locs ls hP hS hl
  exact lv_tableIn C.1 C.2.1 hd h1 h2 ho ht (h p l e R s m args below meth c D cy ad A C H locs ls hP hS hl)
theorem b_tabOut {x : Int32} {dflt lo hi : Int} {offs : Array Int} {len tgt : Nat} (hd : decode cc pc = .ok (.tableswitch dflt lo hi offs, len)) (hx : x.toInt < lo ∨ hi < x.toInt) (ht : (pc : Int) + dflt = (tgt : Int)) (h : Bk y cc nL rt dp tgt lv st w o w') : Bk y cc nL rt dp pc lv (vI x :: st) w o w' := by
  intro p l e R s m args below meth c D cy ad A C H locs ls hP hS hl
  exact lv_tableOut C.1 C.2.1 hd hx ht (h p l e R s m args below meth c D cy ad A C H locs ls hP hS hl)
end Rules
/-- names, guards and calls in the pure functions -/
def bnd {α β : Type} (e : α) (f : α → β) : β := f e
def bndO {β : Type} (e : Option (Int32 × Mem)) (f : Int32 → Mem → Option β) : Option β := match e with
  | none => none
  | some q => f q.1 q.2
def bndV {β : Type} (e : Option Mem) (f : Mem → Option β) : Option β := match e with
  | none => none
  | some q => f q
theorem nmE {α β : Type} {e : α} {f : α → β} {v : β} (h : bnd e f = v) : ∃ x, x = e ∧ f x = v := ⟨e, rfl, h⟩
theorem bdO {β : Type} {e : Option (Int32 × Mem)} {f : Int32 → Mem → Option β} {v : β} (h : bndO e f = some v) : ∃ r w, e = some (r, w) ∧ f r w = some v := by
  cases e with
  | none => cases h
  | some q => exact ⟨q.1, q.2, rfl, h⟩
theorem bdV {β : Type} {e : Option Mem} {f : Mem → Option β} {v : β} (h : bndV e f = some v) : ∃ w, e = some w ∧ f w = some v := by
  cases e with
  | none => cases h
  | some q => exact ⟨q, rfl, h⟩
theorem ifT {α : Type} {c : Prop} [Decidable c] {a b v : α} (hc : c) (h : (if c then a else b) = v) : a = v := by rwa [if_pos hc] at h
theorem ifF {α : Type} {c : Prop} [Decidable c] {a b v : α} (hc : ¬ c) (h : (if c then a else b) = v) : b = v := by rwa [if_neg hc] at h
theorem gdE {α : Type} {c : Prop} [Decidable c] {a : Option α} {v : α} (h : (if c then none else a) = some v) : ¬ c ∧ a = some v := by
  by_cases hc : c
  · rw [if_pos hc] at h; cases h
  · rw [if_neg hc] at h; exact ⟨hc, h⟩
theorem gdP {α : Type} {c : Prop} [Decidable c] {a : Option α} {v : α} (h : (if c then a else none) = some v) : c ∧ a = some v := by
  by_cases hc : c
  · rw [if_pos hc] at h; exact ⟨hc, h⟩
  · rw [if_neg hc] at h; cases h
/-- the rock that a field holds; the text that the reader holds -/
def rk (q : Nat × Nat) : Option Nat := if q = (24, 0) then some 24 else if q = (25, 0) then some 25 else none
theorem bdR {β : Type} {q : Nat × Nat} {f : Nat → Option β} {v : β} (h : (rk q).bind f = some v) : ∃ d, q = (d, 0) ∧ Ob d 6 ∧ f d = some v := by
  unfold rk at h
  by_cases h1 : q = (24, 0)
  · rw [if_pos h1] at h; exact ⟨24, h1, ⟨rfl, by decide +kernel⟩, h⟩
  · rw [if_neg h1] at h
    by_cases h2 : q = (25, 0)
    · rw [if_pos h2] at h; exact ⟨25, h2, ⟨rfl, by decide +kernel⟩, h⟩
    · rw [if_neg h2] at h; cases h
end
section
/-! fields, arrays, ends, calls -/
def FL (own : String) (idx c k : Nat) : Prop := ∃ (C : String) (T : u_T), vwCl[c]? = some (C, T, nf c) ∧ (∀ w ∈ u_ws C T (nf c), w ∈ tG) ∧ k < nf c ∧ Cond.fieldLink own idx (T k).1 (T k).2.1 (T k).2.2.1 ∈ tG
def FW (own : String) (idx c k : Nat) (ty : FieldType) : Prop := ∃ (C : String) (T : u_T) (ty0 : Nat → FieldType), vwCl[c]? = some (C, T, nf c) ∧ (∀ w ∈ u_ws C T (nf c), w ∈ tG) ∧ k < nf c ∧ Cond.fieldLink own idx (T k).1 (T k).2.1 (T k).2.2.1 ∈ tG ∧
  (∀ j, j < nf c → parseFieldDescriptor (T j).2.2.1 = some (ty0 j)) ∧ (∀ a, a < nf c → ∀ b, b < nf c → a ≠ b → (T a).2.1 ≠ (T b).2.1) ∧ (T k).2.2.2 = false ∧ parseFieldDescriptor (T k).2.2.1 = some ty
theorem fs_at {f : Nat → Value} {n k : Nat} (h : k < n) : ((List.range n).map f)[k]? = some (f k) := by
  rw [List.getElem?_map, List.getElem?_range h]; rfl
theorem fs_set {f g : Nat → Value} {n k : Nat} {v : Value} (h : ∀ j, j < n → g j = if j = k then v else f j) : ((List.range n).map f).set k v = (List.range n).map g := by
  apply List.ext_getElem?
  intro j
  by_cases hj : j < n
  · rw [fs_at hj, h j hj]
    by_cases hk : j = k
    · subst hk
      rw [List.getElem?_set_self (by rw [List.length_map, List.length_range]; exact hj), if_pos rfl]
    · rw [List.getElem?_set_ne (fun z => hk z.symm), fs_at hj, if_neg hk]
  · rw [List.getElem?_eq_none (by rw [List.length_set, List.length_map, List.length_range]; omega), List.getElem?_eq_none (by rw [List.length_map, List.length_range]; omega)]
def jmin (x z : Int32) : Int32 := if z < x then z else x
def jmax (x z : Int32) : Int32 := if x < z then z else x
theorem mI : Cond.initialized "java/lang/Math" ∈ tG := tG_of (i := 11) (by decide +kernel) (by decide +kernel)
theorem mSmin : Cond.static Lib.Math.min.name ∈ tG := tG_of (i := 331) (by decide +kernel) (by decide +kernel)
theorem mSmax : Cond.static Lib.Math.max.name ∈ tG := tG_of (i := 450) (by decide +kernel) (by decide +kernel)
theorem mCmin : Cond.code Lib.Math.min.name Lib.Math.min.code 2 (some .int) ∈ tG := tG_of (i := 332) (by decide +kernel) (by decide +kernel)
theorem mCmax : Cond.code Lib.Math.max.name Lib.Math.max.code 2 (some .int) ∈ tG := tG_of (i := 451) (by decide +kernel) (by decide +kernel)
section Rules
variable {y : MethodName} {cc : ByteArray} {nL : Nat} {rt : Option FieldType} {dp pc : Nat} {lv lv' : List (Nat × AV)} {st : List AV} {w w' : Mem} {o : Option AV}
theorem b_getI {idx c k d : Nat} (hF : FL y.cls idx c k) (hO : Ob d c) (hf : ft c k = 0) (hd : decode cc pc = .ok (.getfield idx, 3)) (h : Bk y cc nL rt dp (pc + 3) lv (vI (w.1 d k 0) :: st) w o w') : Bk y cc nL rt dp pc lv (vR d 0 :: st) w o w' := by
  intro p l e R s m args below meth c0 D cy ad A C H locs ls hP hS hl
  obtain ⟨Cn, T, hc, hin, hk, hlk⟩ := hF
  obtain ⟨i, hi, hw⟩ := wld_at (cy := cy) (ad := ad) (w := w) hO.2
  rw [ent_ob hO.1] at hw
  exact va_get C.1 C.2.1 C.2.2.2.2.2.2.1 hin C.2.2.2.2.2.1 C.2.2.2.2.2.2.2.1 hP i hw hc k hk (C.2.2.2.2.2.2.1 _ hlk) (fun _ h9 => h9) (v := .int (w.1 d k 0)) (by rw [fs_at hk, fv, hO.1, if_pos hf]) hd (h p l e R s m args below meth c0 D cy ad A C H locs ls hP hS hl)
theorem b_getF {idx c k d a b : Nat} (hF : FL y.cls idx c k) (hO : Ob d c) (hf : ft c k = 1) (hg : gr d k = (a, b)) (hd : decode cc pc = .ok (.getfield idx, 3)) (h : Bk y cc nL rt dp (pc + 3) lv (vR a b :: st) w o w') : Bk y cc nL rt dp pc lv (vR d 0 :: st) w o w' := by
  intro p l e R s m args below meth c0 D cy ad A C H locs ls hP hS hl
  obtain ⟨Cn, T, hc, hin, hk, hlk⟩ := hF
  obtain ⟨i, hi, hw⟩ := wld_at (cy := cy) (ad := ad) (w := w) hO.2
  rw [ent_ob hO.1] at hw
  exact va_get C.1 C.2.1 C.2.2.2.2.2.2.1 hin C.2.2.2.2.2.1 C.2.2.2.2.2.2.2.1 hP i hw hc k hk (C.2.2.2.2.2.2.1 _ hlk) (fun _ h9 => h9) (v := .ref (ad (a, b))) (by rw [fs_at hk, fv, hO.1, hf, hg]; rfl) hd (h p l e R s m args below meth c0 D cy ad A C H locs ls hP hS hl)
theorem b_getM {idx c k d a b : Nat} (hq : w.2.2 d k = (a, b)) (hF : FL y.cls idx c k) (hO : Ob d c) (hf : ft c k = 2) (hd : decode cc pc = .ok (.getfield idx, 3)) (h : Bk y cc nL rt dp (pc + 3) lv (vR a b :: st) w o w') : Bk y cc nL rt dp pc lv (vR d 0 :: st) w o w' := by
  intro p l e R s m args below meth c0 D cy ad A C H locs ls hP hS hl
  obtain ⟨Cn, T, hc, hin, hk, hlk⟩ := hF
  obtain ⟨i, hi, hw⟩ := wld_at (cy := cy) (ad := ad) (w := w) hO.2
  rw [ent_ob hO.1] at hw
  exact va_get C.1 C.2.1 C.2.2.2.2.2.2.1 hin C.2.2.2.2.2.1 C.2.2.2.2.2.2.2.1 hP i hw hc k hk (C.2.2.2.2.2.2.1 _ hlk) (fun _ h9 => h9) (v := .ref (ad (a, b))) (by rw [fs_at hk, fv, hO.1, hf, hq]; rfl) hd (h p l e R s m args below meth c0 D cy ad A C H locs ls hP hS hl)
theorem b_putI0 {idx c k d : Nat} {x : Int32} {ty : FieldType} (hF : FW y.cls idx c k ty) (hO : Ob d c) (hf : ft c k = 0) (hn : narrow ty (.int x) = .int x) (hfit : fits ty (.int x) = true) (hd : decode cc pc = .ok (.putfield idx, 3)) (h : Bk y cc nL rt dp (pc + 3) lv st (sI w d k 0 x) o w') : Bk y cc nL rt dp pc lv (vI x :: vR d 0 :: st) w o w' := by
  intro p l e R s m args below meth c0 D cy ad A C H locs ls hP hS hl
  obtain ⟨Cn, T, ty0, hc, hin, hk, hlk, hty, hnm, hfin, hpd⟩ := hF
  obtain ⟨i, hi, hw⟩ := wld_at (cy := cy) (ad := ad) (w := w) hO.2
  rw [ent_ob hO.1] at hw
  have he : (wld cy ad w).set i (ad (d, 0), .inr (c, ((List.range (nf c)).map (fv ad w d)).set k (.int x))) = wld cy ad (sI w d k 0 x) := by
    rw [← wld_set (w' := sI w d k 0 x) hi (fun q' hq' hne => ent_sI q' (by rw [hO.1]; exact hf) (by rw [hO.1]; exact hk) hq' hne), ent_ob hO.1]
    congr 3
    refine congrArg (Prod.mk c) (fs_set (fun j hj => ?_))
    by_cases hjk : j = k
    · subst hjk
      rw [if_pos rfl, fv, hO.1, if_pos hf]
      simp [sI]
    · rw [if_neg hjk]
      have e1 : (sI w d k 0 x).1 d j = w.1 d j := by
        funext z
        simp [sI, hjk]
      simp only [fv, e1]
      rfl
  refine va_put C.1 C.2.1 C.2.2.2.2.2.2.1 hin ty0 hty hnm C.2.2.2.2.2.1 C.2.2.2.2.2.2.2.1 hP (wld_D C.2.2.2.2.2.2.2.2.1) hS i hw hc k hk (C.2.2.2.2.2.2.1 _ hlk) (fun _ h9 => h9) hfin hpd hn hfit (by rw [List.length_map, List.length_range]; exact hk) hd (fun H1 locs1 hP1 hD1 hS1 => ?_)
  replace hP1 : va_P D vwCl ((wld cy ad w).set i (ad (d, 0), .inr (c, ((List.range (nf c)).map (fv ad w d)).set k (.int x)))) H1 := hP1
  rw [he] at hP1
  exact h p l e _ s m args below meth c0 D cy ad A C H1 locs1 ls hP1 hS1 hl
theorem b_putI {idx c k d : Nat} {x : Int32} (hF : FW y.cls idx c k .int) (hO : Ob d c) (hf : ft c k = 0) (hd : decode cc pc = .ok (.putfield idx, 3)) (h : Bk y cc nL rt dp (pc + 3) lv st (sI w d k 0 x) o w') : Bk y cc nL rt dp pc lv (vI x :: vR d 0 :: st) w o w' := b_putI0 hF hO hf rfl rfl hd h
theorem b_putZ {idx c k d : Nat} {x : Int32} (hx : x &&& 1 = x) (hF : FW y.cls idx c k .boolean) (hO : Ob d c) (hf : ft c k = 0) (hd : decode cc pc = .ok (.putfield idx, 3)) (h : Bk y cc nL rt dp (pc + 3) lv st (sI w d k 0 x) o w') : Bk y cc nL rt dp pc lv (vI x :: vR d 0 :: st) w o w' := by
  have e : narrow .boolean (.int x) = .int x := by show Value.int (x &&& 1) = _; rw [hx]
  exact b_putI0 hF hO hf e (by rw [← e]; exact fits_narrow_boolean x) hd h
theorem b_putR {idx c k d a b : Nat} {ty : FieldType} (hF : FW y.cls idx c k ty) (hO : Ob d c) (hf : ft c k = 2) (hn : ∀ z, narrow ty (.ref z) = .ref z) (hfit : ∀ z, fits ty (.ref z) = true) (hd : decode cc pc = .ok (.putfield idx, 3)) (h : Bk y cc nL rt dp (pc + 3) lv st (sR w d k (a, b)) o w') : Bk y cc nL rt dp pc lv (vR a b :: vR d 0 :: st) w o w' := by
  intro p l e R s m args below meth c0 D cy ad A C H locs ls hP hS hl
  obtain ⟨Cn, T, ty0, hc, hin, hk, hlk, hty, hnm, hfin, hpd⟩ := hF
  obtain ⟨i, hi, hw⟩ := wld_at (cy := cy) (ad := ad) (w := w) hO.2
  rw [ent_ob hO.1] at hw
  have he : (wld cy ad w).set i (ad (d, 0), .inr (c, ((List.range (nf c)).map (fv ad w d)).set k (.ref (ad (a, b))))) = wld cy ad (sR w d k (a, b)) := by
    rw [← wld_set (w' := sR w d k (a, b)) hi (fun q' hq' hne => ent_sR q' hne), ent_ob hO.1]
    congr 3
    refine congrArg (Prod.mk c) (fs_set (fun j hj => ?_))
    by_cases hjk : j = k
    · subst hjk
      rw [if_pos rfl, fv, hO.1, hf]
      simp [sR]
    · rw [if_neg hjk]
      have e1 : (sR w d k (a, b)).2.2 d j = w.2.2 d j := by simp [sR, hjk]
      simp only [fv, e1]
      rfl
  refine va_put C.1 C.2.1 C.2.2.2.2.2.2.1 hin ty0 hty hnm C.2.2.2.2.2.1 C.2.2.2.2.2.2.2.1 hP (wld_D C.2.2.2.2.2.2.2.2.1) hS i hw hc k hk (C.2.2.2.2.2.2.1 _ hlk) (fun _ h9 => h9) hfin hpd (hn _) (hfit _) (by rw [List.length_map, List.length_range]; exact hk) hd (fun H1 locs1 hP1 hD1 hS1 => ?_)
  replace hP1 : va_P D vwCl ((wld cy ad w).set i (ad (d, 0), .inr (c, ((List.range (nf c)).map (fv ad w d)).set k (.ref (ad (a, b)))))) H1 := hP1
  rw [he] at hP1
  exact h p l e _ s m args below meth c0 D cy ad A C H1 locs1 ls hP1 hS1 hl
theorem b_iald {k d n : Nat} {i : Int32} (hA : Ar d k 0 n) {j0 : Nat} (hi : ¬ (i < 0 ∨ n ≤ i.toNatClampNeg)) (hj0 : i.toNatClampNeg = j0) (hd : decode cc pc = .ok (.iaload, 1)) (h : Bk y cc nL rt dp (pc + 1) lv (vI (w.1 d k j0) :: st) w o w') : Bk y cc nL rt dp pc lv (vI i :: vR d (k + 1) :: st) w o w' := by
  subst hj0
  intro p l e R s m args below meth c0 D cy ad A C H locs ls hP hS hl
  obtain ⟨j, hj, hw⟩ := wld_at (cy := cy) (ad := ad) (w := w) hA.2
  rw [ent_ar hA.1, cn_i hA.1 (by decide) (by decide)] at hw
  exact va_iald C.1 C.2.1 C.2.2.2.2.2.2.2.1 hP j 0 hw rfl hi hd (h p l e R s m args below meth c0 D cy ad A C H locs ls hP hS hl)
theorem b_cald {k d n : Nat} {i : Int32} (hA : Ar d k 2 n) {j0 : Nat} (hi : ¬ (i < 0 ∨ n ≤ i.toNatClampNeg)) (hj0 : i.toNatClampNeg = j0) (hd : decode cc pc = .ok (.caload, 1)) (h : Bk y cc nL rt dp (pc + 1) lv (vI (w.1 d k j0) :: st) w o w') : Bk y cc nL rt dp pc lv (vI i :: vR d (k + 1) :: st) w o w' := by
  subst hj0
  intro p l e R s m args below meth c0 D cy ad A C H locs ls hP hS hl
  obtain ⟨j, hj, hw⟩ := wld_at (cy := cy) (ad := ad) (w := w) hA.2
  rw [ent_ar hA.1, cn_i hA.1 (by decide) (by decide)] at hw
  exact va_cald C.1 C.2.1 C.2.2.2.2.2.2.2.1 hP j 2 hw rfl hi hd (h p l e R s m args below meth c0 D cy ad A C H locs ls hP hS hl)
theorem b_zald {k d n : Nat} {i : Int32} (hA : Ar d k 3 n) {j0 : Nat} (hi : ¬ (i < 0 ∨ n ≤ i.toNatClampNeg)) (hj0 : i.toNatClampNeg = j0) (hd : decode cc pc = .ok (.baload, 1)) (h : Bk y cc nL rt dp (pc + 1) lv (vI (w.1 d k j0) :: st) w o w') : Bk y cc nL rt dp pc lv (vI i :: vR d (k + 1) :: st) w o w' := by
  subst hj0
  intro p l e R s m args below meth c0 D cy ad A C H locs ls hP hS hl
  obtain ⟨j, hj, hw⟩ := wld_at (cy := cy) (ad := ad) (w := w) hA.2
  rw [ent_ar hA.1, cn_i hA.1 (by decide) (by decide)] at hw
  exact va_zald C.1 C.2.1 C.2.2.2.2.2.2.2.1 hP j 3 hw rfl hi hd (h p l e R s m args below meth c0 D cy ad A C H locs ls hP hS hl)
theorem b_lald {k d n : Nat} {i : Int32} (hA : Ar d k 1 n) {j0 : Nat} (hi : ¬ (i < 0 ∨ n ≤ i.toNatClampNeg)) (hj0 : i.toNatClampNeg = j0) (hd : decode cc pc = .ok (.laload, 1)) (h : Bk y cc nL rt dp (pc + 1) lv (vL (w.2.1 d k j0) :: st) w o w') : Bk y cc nL rt dp pc lv (vI i :: vR d (k + 1) :: st) w o w' := by
  subst hj0
  intro p l e R s m args below meth c0 D cy ad A C H locs ls hP hS hl
  obtain ⟨j, hj, hw⟩ := wld_at (cy := cy) (ad := ad) (w := w) hA.2
  rw [ent_ar hA.1, cn_l hA.1] at hw
  exact va_lald C.1 C.2.1 C.2.2.2.2.2.2.2.1 hP j 1 hw rfl hi hd (h p l e R s m args below meth c0 D cy ad A C H locs ls hP hS hl)
theorem b_aald {k d n : Nat} {i : Int32} (hA : Ar d k 4 n) (hi : ¬ (i < 0 ∨ n ≤ i.toNatClampNeg)) (hd : decode cc pc = .ok (.aaload, 1)) (h : Bk y cc nL rt dp (pc + 1) lv (vR (rb d + i.toNatClampNeg) 0 :: st) w o w') : Bk y cc nL rt dp pc lv (vI i :: vR d (k + 1) :: st) w o w' := by
  intro p l e R s m args below meth c0 D cy ad A C H locs ls hP hS hl
  obtain ⟨j, hj, hw⟩ := wld_at (cy := cy) (ad := ad) (w := w) hA.2
  rw [ent_ar hA.1, cn_r hA.1] at hw
  exact va_aldq C.1 C.2.1 C.2.2.2.2.2.2.2.1 hP j 4 hw rfl hi hd (h p l e R s m args below meth c0 D cy ad A C H locs ls hP hS hl)
theorem b_alen {k d t n : Nat} {v : Int32} (hA : Ar d k t n) (ht : t < 5) (hv : Int32.ofNat n = v) (hd : decode cc pc = .ok (.arraylength, 1)) (h : Bk y cc nL rt dp (pc + 1) lv (vI v :: st) w o w') : Bk y cc nL rt dp pc lv (vR d (k + 1) :: st) w o w' := by
  intro p l e R s m args below meth c0 D cy ad A C H locs ls hP hS hl
  obtain ⟨j, hj, hw⟩ := wld_at (cy := cy) (ad := ad) (w := w) hA.2
  rw [ent_ar hA.1] at hw
  have K := h p l e R s m args below meth c0 D cy ad A C H locs ls hP hS hl
  match t, ht with
  | 0, _ => exact va_alen C.1 C.2.1 C.2.2.2.2.2.2.2.1 hP j 0 hw rfl hv hd K
  | 1, _ => exact va_alen C.1 C.2.1 C.2.2.2.2.2.2.2.1 hP j 1 hw rfl hv hd K
  | 2, _ => exact va_alen C.1 C.2.1 C.2.2.2.2.2.2.2.1 hP j 2 hw rfl hv hd K
  | 3, _ => exact va_alen C.1 C.2.1 C.2.2.2.2.2.2.2.1 hP j 3 hw rfl hv hd K
  | 4, _ => exact va_alen C.1 C.2.1 C.2.2.2.2.2.2.2.1 hP j 4 hw rfl hv hd K
theorem ar_ft {d k t n : Nat} (hA : Ar d k t n) : ft (kc d) k ≠ 0 ∨ nf (kc d) ≤ k := by
  rcases lay_ft _ hA.2 with z | z | z
  · exact absurd z (Nat.succ_ne_zero k)
  · exact Or.inl z
  · exact Or.inr z
theorem wld_sA {cy : Nat → ClassId} {ad : Nat × Nat → Nat} {d k t n i : Nat} {f : Nat → Int32} (hA : Ar d k t n) (h1 : t ≠ 1) (h4 : t ≠ 4) (hi : lay[i]? = some (d, k + 1)) : (wld cy ad w).set i (ad (d, k + 1), .inl (cy t, n, .inl f)) = wld cy ad (sA w d k f) := by
  rw [← wld_set (w' := sA w d k f) hi (fun q' hq' hne => ent_sAo q' (ar_ft hA) hne), ent_ar hA.1, cn_i hA.1 h1 h4]
  simp [sA]
theorem b_iast {k d n : Nat} {i x : Int32} (hA : Ar d k 0 n) {j0 : Nat} (hi : ¬ (i < 0 ∨ n ≤ i.toNatClampNeg)) (hj0 : i.toNatClampNeg = j0) (hd : decode cc pc = .ok (.iastore, 1)) (h : Bk y cc nL rt dp (pc + 1) lv st (sI w d k j0 x) o w') : Bk y cc nL rt dp pc lv (vI x :: vI i :: vR d (k + 1) :: st) w o w' := by
  subst hj0
  intro p l e R s m args below meth c0 D cy ad A C H locs ls hP hS hl
  obtain ⟨j, hj, hw⟩ := wld_at (cy := cy) (ad := ad) (w := w) hA.2
  rw [ent_ar hA.1, cn_i hA.1 (by decide) (by decide)] at hw
  refine va_iast C.1 C.2.1 C.2.2.2.2.2.2.2.1 hP (wld_D C.2.2.2.2.2.2.2.2.1) hS j 0 hw rfl hi hd (fun H1 locs1 hP1 _ hS1 => ?_)
  rw [wld_sA hA (by decide) (by decide) hj, ← sI_sA] at hP1
  exact h p l e _ s m args below meth c0 D cy ad A C H1 locs1 ls hP1 hS1 hl
theorem b_cast {k d n : Nat} {i x : Int32} (hA : Ar d k 2 n) {j0 : Nat} (hi : ¬ (i < 0 ∨ n ≤ i.toNatClampNeg)) (hj0 : i.toNatClampNeg = j0) (hx : x.toUInt32.toUInt16.toUInt32.toInt32 = x) (hd : decode cc pc = .ok (.castore, 1)) (h : Bk y cc nL rt dp (pc + 1) lv st (sI w d k j0 x) o w') : Bk y cc nL rt dp pc lv (vI x :: vI i :: vR d (k + 1) :: st) w o w' := by
  subst hj0
  intro p l e R s m args below meth c0 D cy ad A C H locs ls hP hS hl
  obtain ⟨j, hj, hw⟩ := wld_at (cy := cy) (ad := ad) (w := w) hA.2
  rw [ent_ar hA.1, cn_i hA.1 (by decide) (by decide)] at hw
  refine va_cast C.1 C.2.1 C.2.2.2.2.2.2.2.1 hP (wld_D C.2.2.2.2.2.2.2.2.1) hS j 2 hw rfl hi hd (fun H1 locs1 hP1 _ hS1 => ?_)
  rw [vp_nar_char, hx, wld_sA hA (by decide) (by decide) hj, ← sI_sA] at hP1
  exact h p l e _ s m args below meth c0 D cy ad A C H1 locs1 ls hP1 hS1 hl
theorem b_zast {k d n : Nat} {i x : Int32} (hA : Ar d k 3 n) {j0 : Nat} (hi : ¬ (i < 0 ∨ n ≤ i.toNatClampNeg)) (hj0 : i.toNatClampNeg = j0) (hx : x &&& 1 = x) (hd : decode cc pc = .ok (.bastore, 1)) (h : Bk y cc nL rt dp (pc + 1) lv st (sI w d k j0 x) o w') : Bk y cc nL rt dp pc lv (vI x :: vI i :: vR d (k + 1) :: st) w o w' := by
  subst hj0
  intro p l e R s m args below meth c0 D cy ad A C H locs ls hP hS hl
  obtain ⟨j, hj, hw⟩ := wld_at (cy := cy) (ad := ad) (w := w) hA.2
  rw [ent_ar hA.1, cn_i hA.1 (by decide) (by decide)] at hw
  refine va_zast C.1 C.2.1 C.2.2.2.2.2.2.2.1 hP (wld_D C.2.2.2.2.2.2.2.2.1) hS j 3 hw rfl hi hd (fun H1 locs1 hP1 _ hS1 => ?_)
  rw [show vp_nar .boolean x = x from hx, wld_sA hA (by decide) (by decide) hj, ← sI_sA] at hP1
  exact h p l e _ s m args below meth c0 D cy ad A C H1 locs1 ls hP1 hS1 hl
theorem b_last {k d n : Nat} {i : Int32} {x : Int64} (hA : Ar d k 1 n) {j0 : Nat} (hi : ¬ (i < 0 ∨ n ≤ i.toNatClampNeg)) (hj0 : i.toNatClampNeg = j0) (hd : decode cc pc = .ok (.lastore, 1)) (h : Bk y cc nL rt dp (pc + 1) lv st (sL w d k j0 x) o w') : Bk y cc nL rt dp pc lv (vL x :: vI i :: vR d (k + 1) :: st) w o w' := by
  subst hj0
  intro p l e R s m args below meth c0 D cy ad A C H locs ls hP hS hl
  obtain ⟨j, hj, hw⟩ := wld_at (cy := cy) (ad := ad) (w := w) hA.2
  rw [ent_ar hA.1, cn_l hA.1] at hw
  refine va_last C.1 C.2.1 C.2.2.2.2.2.2.2.1 hP (wld_D C.2.2.2.2.2.2.2.2.1) hS j 1 hw rfl hi hd (fun H1 locs1 hP1 _ hS1 => ?_)
  have he : (wld cy ad w).set j (ad (d, k + 1), .inl (cy 1, n, .inr (.inl (vp_updL (w.2.1 d k) i.toNatClampNeg x)))) = wld cy ad (sL w d k i.toNatClampNeg x) := by
    rw [← wld_set (w' := sL w d k i.toNatClampNeg x) hj (fun q' hq' hne => ent_sLo q' hne), ent_ar hA.1, cn_l hA.1]
    have e2 : vp_updL (w.2.1 d k) i.toNatClampNeg x = (sL w d k i.toNatClampNeg x).2.1 d k := by
      funext z
      simp [sL, vp_updL]
    rw [e2]
  rw [he] at hP1
  exact h p l e _ s m args below meth c0 D cy ad A C H1 locs1 ls hP1 hS1 hl
/-- System.arraycopy of ints -/
theorem b_copy {idx k d n k2 d2 n2 : Nat} {sp dq nn : Int32} (hA : Ar d k 0 n) (hB : Ar d2 k2 0 n2) (hl1 : Cond.methodLink y.cls idx arraycopyName ∈ tG) (hl2 : Cond.native arraycopyName ∈ tG) (hl3 : Cond.static arraycopyName ∈ tG) (hl4 : Cond.initialized "java/lang/System" ∈ tG)
    (h1 : ¬ sp < 0) (h2 : ¬ dq < 0) (h3 : ¬ nn < 0) (h4 : sp.toNatClampNeg + nn.toNatClampNeg ≤ n) (h5 : dq.toNatClampNeg + nn.toNatClampNeg ≤ n2) (hr : st = []) (hdp : 1 ≤ dp) (hd : decode cc pc = .ok (.invokestatic idx, 3))
    (h : Bk y cc nL rt dp (pc + 3) lv st (sA w d2 k2 (va_cpy (w.1 d k) (w.1 d2 k2) sp.toNatClampNeg dq.toNatClampNeg nn.toNatClampNeg)) o w') : Bk y cc nL rt dp pc lv (vI nn :: vI dq :: vR d2 (k2 + 1) :: vI sp :: vR d (k + 1) :: st) w o w' := by
  subst hr
  intro p l e R s m args below meth c0 D cy ad A C H locs ls hP hS hl
  obtain ⟨j, hj, hw⟩ := wld_at (cy := cy) (ad := ad) (w := w) hA.2
  obtain ⟨j2, hj2, hw2⟩ := wld_at (cy := cy) (ad := ad) (w := w) hB.2
  rw [ent_ar hA.1, cn_i hA.1 (by decide) (by decide)] at hw
  rw [ent_ar hB.1, cn_i hB.1 (by decide) (by decide)] at hw2
  have hloc : (List.map (fun v : Value => v.category) (List.map (cv ad) ([] : List AV))).sum + (nativeFrameWords "java/lang/System" "arraycopy" 5 + 11) ≤ R.locals := by
    have h8 : nativeFrameWords "java/lang/System" "arraycopy" 5 + 11 ≤ 40 := by decide
    have h9 := C.2.2.2.2.2.2.2.2.2.2.1
    simp only [List.map_nil, List.sum_nil]
    omega
  refine va_copyi C.1 C.2.1 (C.2.2.1.trans hl.1.symm) C.2.2.2.2.2.1 (C.2.2.2.2.2.2.1 _ hl1) (C.2.2.2.2.2.2.1 _ hl2) (C.2.2.2.2.2.2.1 _ hl3) (C.2.2.2.2.2.2.1 _ hl4) C.2.2.2.2.2.2.2.1 hP (wld_D C.2.2.2.2.2.2.2.2.1) hS j j2 0 0 hw hw2 rfl rfl rfl h1 h2 h3 h4 h5 (fun _ _ => rfl) (Nat.le_trans hdp C.2.2.2.2.2.2.2.2.2.1) hloc hd (fun H1 locs1 hP1 _ hS1 => ?_)
  rw [wld_sA hB (by decide) (by decide) hj2] at hP1
  exact h p l e _ s m args below meth c0 D cy ad A C H1 locs1 ls hP1 hS1 hl
theorem cat_sum {ad : Nat × Nat → Nat} : ∀ (l : List AV), ((l.map (cv ad)).map (fun v => v.category)).sum = (l.map (fun v => if isL v then 2 else 1)).sum
  | [] => rfl
  | v :: l => by
    simp only [List.map_cons, List.sum_cons, cat_sum l]
    congr 1
    match v with
    | .inl x => rfl
    | .inr (.inl x) => rfl
    | .inr (.inr none) => rfl
    | .inr (.inr (some q)) => rfl
theorem b_mmin {idx : Nat} {x z : Int32} (hl1 : Cond.methodLink y.cls idx Lib.Math.min.name ∈ tG) (hst : (st.map (fun v => if isL v then 2 else 1)).sum ≤ 8) (hdp : 1 ≤ dp) (hd : decode cc pc = .ok (.invokestatic idx, 3)) (h : Bk y cc nL rt dp (pc + 3) lv (vI (jmin x z) :: st) w o w') : Bk y cc nL rt dp pc lv (vI z :: vI x :: st) w o w' := by
  intro p l e R s m args below meth c0 D cy ad A C H locs ls hP hS hl
  have h9 := C.2.2.2.2.2.2.2.2.2.2.1
  have hloc : (List.map (fun v : Value => v.category) (List.map (cv ad) st)).sum + 13 ≤ R.locals := by rw [cat_sum]; omega
  exact va_mmin C.1 C.2.1 (C.2.2.1.trans hl.1.symm) C.2.2.2.2.2.1 (C.2.2.2.2.2.2.1 _ hl1) (C.2.2.2.2.2.2.1 _ mSmin) (C.2.2.2.2.2.2.1 _ mI) (C.2.2.2.2.2.2.1 _ mCmin) (Nat.le_trans hdp C.2.2.2.2.2.2.2.2.2.1) hloc (Nat.zero_le _) (Nat.zero_le _) hd (h p l e R s m args below meth c0 D cy ad A C H locs ls hP hS hl)
theorem b_mmax {idx : Nat} {x z : Int32} (hl1 : Cond.methodLink y.cls idx Lib.Math.max.name ∈ tG) (hst : (st.map (fun v => if isL v then 2 else 1)).sum ≤ 8) (hdp : 1 ≤ dp) (hd : decode cc pc = .ok (.invokestatic idx, 3)) (h : Bk y cc nL rt dp (pc + 3) lv (vI (jmax x z) :: st) w o w') : Bk y cc nL rt dp pc lv (vI z :: vI x :: st) w o w' := by
  intro p l e R s m args below meth c0 D cy ad A C H locs ls hP hS hl
  have h9 := C.2.2.2.2.2.2.2.2.2.2.1
  have hloc : (List.map (fun v : Value => v.category) (List.map (cv ad) st)).sum + 13 ≤ R.locals := by rw [cat_sum]; omega
  exact va_mmax C.1 C.2.1 (C.2.2.1.trans hl.1.symm) C.2.2.2.2.2.1 (C.2.2.2.2.2.2.1 _ hl1) (C.2.2.2.2.2.2.1 _ mSmax) (C.2.2.2.2.2.2.1 _ mI) (C.2.2.2.2.2.2.1 _ mCmax) (Nat.le_trans hdp C.2.2.2.2.2.2.2.2.2.1) hloc (Nat.zero_le _) (Nat.zero_le _) hd (h p l e R s m args below meth c0 D cy ad A C H locs ls hP hS hl)
/-- ends -/
theorem b_iret {x : Int32} (hr : rt = some .int) (hd : decode cc pc = .ok (.ireturn, 1)) : Bk y cc nL rt dp pc lv [vI x] w (some (vI x)) w := by
  intro p l e R s m args below meth c0 D cy ad A C H locs ls hP hS hl
  have hlocks := C.2.2.2.2.1
  exact W.iret (v := x) C.1 C.2.1 (C.2.2.2.1.trans hr) (fun t ht _ => ⟨rfl, by rw [ht]; exact hP, hS.F ht⟩) hS.2.2 hd hlocks
theorem b_zret0 {x : Int32} {ty : FieldType} (hr : rt = some ty) (hn : narrow ty (.int x) = .int x) (hd : decode cc pc = .ok (.ireturn, 1)) : Bk y cc nL rt dp pc lv [vI x] w (some (vI x)) w := by
  intro p l e R s m args below meth c0 D cy ad A C H locs ls hP hS hl
  have hlocks := C.2.2.2.2.1
  exact W.zret (v := x) C.1 C.2.1 (C.2.2.2.1.trans hr) hn (fun t ht _ => ⟨rfl, by rw [ht]; exact hP, hS.F ht⟩) hS.2.2 hd hlocks
theorem b_zret {x : Int32} (hr : rt = some .boolean) (hx : x &&& 1 = x) (hd : decode cc pc = .ok (.ireturn, 1)) : Bk y cc nL rt dp pc lv [vI x] w (some (vI x)) w := b_zret0 hr (by show Value.int (x &&& 1) = _; rw [hx]) hd
theorem b_cret {x : Int32} (hr : rt = some .char) (hx : x.toUInt32.toUInt16.toUInt32.toInt32 = x) (hd : decode cc pc = .ok (.ireturn, 1)) : Bk y cc nL rt dp pc lv [vI x] w (some (vI x)) w := b_zret0 hr (by show Value.int (x.toUInt32.toUInt16.toUInt32.toInt32) = _; rw [hx]) hd
theorem b_vret (hr : rt = none) (hd : decode cc pc = .ok (.return_, 1)) : Bk y cc nL rt dp pc lv [] w none w := by
  intro p l e R s m args below meth c0 D cy ad A C H locs ls hP hS hl
  have hlocks := C.2.2.2.2.1
  exact W.vret C.1 C.2.1 (C.2.2.2.1.trans hr) (fun t ht _ => ⟨rfl, by rw [ht]; exact hP, hS.F ht⟩) hS.2.2 hd hlocks
/-- calls -/
def MO (y2 : MethodName) (cc2 : ByteArray) (nL2 : Nat) (rt2 : Option FieldType) (n : Nat) : Prop := Cond.code y2 cc2 nL2 rt2 ∈ tG ∧ Cond.initialized y2.cls ∈ tG ∧ (y2.cls ≠ "java/lang/invoke/MethodHandle" ∧ y2.cls ≠ "java/lang/invoke/VarHandle" ∧ (parseMethodDescriptor y2.desc).map (fun d => d.parameters.length) = some n)
def MV (y2 : MethodName) (cc2 : ByteArray) (nL2 : Nat) (rt2 : Option FieldType) (n c : Nat) : Prop := MO y2 cc2 nL2 rt2 n ∧ Cond.instanceMethod y2 ∈ tG ∧ Cond.selects y2.cls y2 y2 ∈ tG ∧ ∃ T N, vwCl[c]? = some (y2.cls, T, N)
def MS (y2 : MethodName) (cc2 : ByteArray) (nL2 : Nat) (rt2 : Option FieldType) (n : Nat) : Prop := MO y2 cc2 nL2 rt2 n ∧ Cond.static y2 ∈ tG
theorem goodG {x : Cond} (h : x ∈ tG) : GoodIn tG (x :: tG) := by
  intro z hz
  have hm : z ∈ tG := (List.mem_cons.mp hz).elim (fun q => q ▸ h) id
  exact ⟨hm, good_of_word (List.mem_filter.mp hm).2⟩
theorem cat_len {ad : Nat × Nat → Nat} (l : List AV) : (l.map (cv ad)).length = l.length := List.length_map _
theorem b_run {S : List AV} {o2 : Option AV} {w1 : Mem} {st2 : List AV}
    (hrun : ∀ (p : Program) (l : Launch) (e : Env) (R : Room) (s : State) (m : MethodId) (args : Array Value) (below : List Frame) (meth : Method) (c : Code) (D : va_G) (cy : Nat → ClassId) (ad : Nat × Nat → Nat) (A : Nat → Prop), Cx y cc nL rt dp p R s m args meth c D cy ad A → ∀ (H : Heap) (locs : List Loc) (ls : Array Slot), va_P D vwCl (wld cy ad w) H → va_S A s.heap H locs → lv_has ls nL (lc ad lv) →
      ∃ a, va_Run p l e R s m args below meth c H locs 0 0 0 0 (F0 m pc ls (S.map (cv ad))) (st.map (cv ad)) (QQ D cy ad A o2 w1 a) A)
    (h2 : ∀ ad : Nat × Nat → Nat, (o2.map (cv ad)).toList ++ st.map (cv ad) = st2.map (cv ad)) (h : Bk y cc nL rt dp (pc + 3) lv st2 w1 o w') : Bk y cc nL rt dp pc lv S w o w' := by
  intro p l e R s m args below meth c0 D cy ad A C H locs ls hP hS hl
  obtain ⟨a, hr⟩ := hrun p l e R s m args below meth c0 D cy ad A C H locs ls hP hS hl
  intro T hT X
  obtain ⟨v, st₀, t, T', L, h0, X', hL, e1, e2, ⟨hv, hP1, hz, hk⟩, go⟩ := hr T hT X
  cases hv
  rw [h0] at hz hk
  have hS1 : va_S A s.heap T'.heap (locs ++ L) := ⟨Nat.le_trans hS.1 (by rw [e1]; exact hz), fun q h1 h2 => by rw [e1, hk q (Nat.lt_of_lt_of_le h1 hS.1) h2]; exact hS.2.1 q h1 h2, fun q hq => by
    rcases List.mem_append.mp hq with z | z
    · exact hS.2.2 q z
    · exact hL q z⟩
  rw [← e1] at hP1
  have K := h p l e R s m args below meth c0 D cy ad A C T'.heap (locs ++ L) ls hP1 hS1 hl
  rw [← h2 ad] at K
  obtain ⟨t2, a1, b1⟩ := K T' rfl X'
  exact ⟨t2, go t2 a1, b1⟩
theorem blind {as : List AV} {D : va_G} {cy : Nat → ClassId} {ad : Nat × Nat → Nat} : FrameBlind (va_Pc (as.map (cv ad)) (fun U => va_P D vwCl (wld cy ad w) U.heap ∧ va_K D vwCl (tysL cy) U ∧ NW U)) := fun a U g mk q => by
  obtain ⟨q0, qP, qK, qN⟩ := q
  exact ⟨q0, qP, va_K.moved (u := U) (U := U.calling g mk a) (Vm.Alike.refl U.vm) qK, NW.same (u := U) (U := U.calling g mk a) rfl qN⟩
theorem b_callV0 {y2 : MethodName} {cc2 : ByteArray} {nL2 n c d idx : Nat} {rt2 : Option FieldType} {dp2 : Nat} {as S st2 : List AV} {o2 : Option AV} {w1 : Mem} (hM : MV y2 cc2 nL2 rt2 n c) (hlk : Cond.methodLink y.cls idx y2 ∈ tG) (hO : Ob d c) (hs : Sp y2 cc2 nL2 rt2 dp2 (vR d 0 :: as) w o2 w1)
    (hn : as.length = n) (hdp : dp2 + 1 ≤ dp) (hL : nL2 ≤ 21) (hst : (st.map (fun v => if isL v then 2 else 1)).sum ≤ 8) (hS0 : S = as.reverse ++ vR d 0 :: st) (hd : decode cc pc = .ok (.invokevirtual idx, 3))
    (h2 : ∀ ad : Nat × Nat → Nat, (o2.map (cv ad)).toList ++ st.map (cv ad) = st2.map (cv ad)) (h : Bk y cc nL rt dp (pc + 3) lv st2 w1 o w') : Bk y cc nL rt dp pc lv S w o w' := by
  refine b_run (st := st) (fun p l e R s m args below meth c0 D cy ad A C H locs ls hP hS hl => ⟨(Value.ref (ad (d, 0)) :: as.map (cv ad)).toArray, ?_⟩) h2 h
  obtain ⟨⟨hc, hi, hnm⟩, hin, hse, T, N, hcl⟩ := hM
  obtain ⟨j, hj, hw⟩ := wld_at (cy := cy) (ad := ad) (w := w) hO.2
  rw [ent_ob hO.1] at hw
  have hts := C.2.2.2.2.2.2.1
  have hdp1 : 40 * dp2 + 40 ≤ 40 * dp := by omega
  have hrl := C.2.2.2.2.2.2.2.2.2
  refine va_runV (n := n) (C := y2.cls) (bytes := cc2) (maxL := nL2) (ret := rt2) (b := ad (d, 0)) (As := as.map (cv ad)) (rest := st.map (cv ad)) (Ts := tG) (own := y.cls) (index := idx) (cc := cc) (nL := nL) ⟨C.1, C.2.1, C.2.2.1, C.2.2.2.2.2.1, hts⟩ (hs l D cy ad A C.2.2.2.2.2.2.2.2.1) ⟨callB_of n hts (goodG hc) rfl rfl rfl (hts _ hi) (hts _ hlk) hnm ⟨?_, ?_⟩, hts _ hin, hts _ hse⟩
    ⟨blind, va_recv C.2.2.2.2.2.2.2.1 hP hcl hw, fun U hU hW => ⟨rfl, by rw [hU]; exact hP, va_K.moved hW.alike C.2.2.2.2.2.2.2.1, NW.warm hW C.2.2.2.2.2.2.2.2.2.2.2⟩⟩ rfl (by rw [cat_len]; exact hn) hl.1 ?_ ?_ hd ⟨Nat.zero_le _, Nat.zero_le _⟩
  · exact Nat.le_trans hdp hrl.1
  · show 8 + (nL2 + 11) + 40 * dp2 ≤ R.locals
    have := hrl.2.1
    omega
  · rw [hS0]
    show List.map (cv ad) _ = _
    rw [List.map_append, List.map_reverse]; rfl
  · exact lv_room (by rw [cat_sum]; exact hst)
theorem b_callS0 {y2 : MethodName} {cc2 : ByteArray} {nL2 n idx : Nat} {rt2 : Option FieldType} {dp2 : Nat} {as S st2 : List AV} {o2 : Option AV} {w1 : Mem} (hM : MS y2 cc2 nL2 rt2 n) (hlk : Cond.methodLink y.cls idx y2 ∈ tG) (hs : Sp y2 cc2 nL2 rt2 dp2 as w o2 w1)
    (hn : as.length = n) (hdp : dp2 + 1 ≤ dp) (hL : nL2 ≤ 21) (hst : (st.map (fun v => if isL v then 2 else 1)).sum ≤ 8) (hS0 : S = as.reverse ++ st) (hd : decode cc pc = .ok (.invokestatic idx, 3))
    (h2 : ∀ ad : Nat × Nat → Nat, (o2.map (cv ad)).toList ++ st.map (cv ad) = st2.map (cv ad)) (h : Bk y cc nL rt dp (pc + 3) lv st2 w1 o w') : Bk y cc nL rt dp pc lv S w o w' := by
  refine b_run (st := st) (fun p l e R s m args below meth c0 D cy ad A C H locs ls hP hS hl => ⟨(as.map (cv ad)).toArray, ?_⟩) h2 h
  obtain ⟨⟨hc, hi, hnm⟩, hstt⟩ := hM
  have hts := C.2.2.2.2.2.2.1
  have hdp1 : 40 * dp2 + 40 ≤ 40 * dp := by omega
  have hrl := C.2.2.2.2.2.2.2.2.2
  refine va_runS (n := n) (bytes := cc2) (maxL := nL2) (ret := rt2) (As := as.map (cv ad)) (rest := st.map (cv ad)) (Ts := tG) (own := y.cls) (index := idx) (cc := cc) (nL := nL) ⟨C.1, C.2.1, C.2.2.1, C.2.2.2.2.2.1, hts⟩ (hs l D cy ad A C.2.2.2.2.2.2.2.2.1) ⟨callB_of n hts (goodG hc) rfl rfl rfl (hts _ hi) (hts _ hlk) hnm ⟨?_, ?_⟩, hts _ hstt⟩
    ⟨blind, fun U hU hW => ⟨rfl, by rw [hU]; exact hP, va_K.moved hW.alike C.2.2.2.2.2.2.2.1, NW.warm hW C.2.2.2.2.2.2.2.2.2.2.2⟩⟩ rfl (by rw [cat_len]; exact hn) hl.1 ?_ ?_ hd ⟨Nat.zero_le _, Nat.zero_le _⟩
  · exact Nat.le_trans hdp hrl.1
  · show 8 + (nL2 + 11) + 40 * dp2 ≤ R.locals
    have := hrl.2.1
    omega
  · rw [hS0]
    show List.map (cv ad) _ = _
    rw [List.map_append, List.map_reverse]
  · exact lv_room (by rw [cat_sum]; exact hst)
theorem b_callN {y2 : MethodName} {cc2 : ByteArray} {nL2 n idx : Nat} {rt2 : Option FieldType} {dp2 : Nat} {as S : List AV} {r : Int32} {w1 : Mem} {host : String} (hM : MS y2 cc2 nL2 rt2 n) (hlk : ∀ U, NW U → va_Nw (.methodLinkNest y.cls idx y2 host) U) (hs : Sp y2 cc2 nL2 rt2 dp2 as w (some (vI r)) w1)
    (hn : as.length = n) (hdp : dp2 + 1 ≤ dp) (hL : nL2 ≤ 21) (hst : (st.map (fun v => if isL v then 2 else 1)).sum ≤ 8) (hS0 : S = as.reverse ++ st) (hd : decode cc pc = .ok (.invokestatic idx, 3))
    (h : Bk y cc nL rt dp (pc + 3) lv (vI r :: st) w1 o w') : Bk y cc nL rt dp pc lv S w o w' := by
  refine b_run (st := st) (o2 := some (vI r)) (fun p l e R s m args below meth c0 D cy ad A C H locs ls hP hS hl => ⟨(as.map (cv ad)).toArray, ?_⟩) (fun _ => rfl) h
  obtain ⟨⟨hc, hi, hnm⟩, hstt⟩ := hM
  have hts := C.2.2.2.2.2.2.1
  have hdp1 : 40 * dp2 + 40 ≤ 40 * dp := by omega
  have hrl := C.2.2.2.2.2.2.2.2.2
  refine va_runSN (n := n) (bytes := cc2) (maxL := nL2) (ret := rt2) (As := as.map (cv ad)) (rest := st.map (cv ad)) (Ts := tG) (own := y.cls) (host := host) (index := idx) (cc := cc) (nL := nL) ⟨C.1, C.2.1, C.2.2.1, C.2.2.2.2.2.1, hts⟩ (hs l D cy ad A C.2.2.2.2.2.2.2.2.1) ⟨va_cnB n hts (goodG hc) rfl rfl rfl (hlk _ hrl.2.2) (hts _ hi) hnm ⟨?_, ?_⟩, hts _ hstt, trivial⟩
    ⟨blind, fun U hU hW => ⟨rfl, by rw [hU]; exact hP, va_K.moved hW.alike C.2.2.2.2.2.2.2.1, NW.warm hW C.2.2.2.2.2.2.2.2.2.2.2⟩⟩ rfl (by rw [cat_len]; exact hn) hl.1 ?_ ?_ hd ⟨Nat.zero_le _, Nat.zero_le _⟩
  · exact Nat.le_trans hdp hrl.1
  · show 8 + (nL2 + 11) + 40 * dp2 ≤ R.locals
    have := hrl.2.1
    omega
  · rw [hS0]
    show List.map (cv ad) _ = _
    rw [List.map_append, List.map_reverse]
  · exact lv_room (by rw [cat_sum]; exact hst)
/-- the four forms: an int answer or none, of an object or static -/
theorem b_callVi {y2 : MethodName} {cc2 : ByteArray} {nL2 n c d idx : Nat} {rt2 : Option FieldType} {dp2 : Nat} {as S : List AV} {r : Int32} {w1 : Mem} (hM : MV y2 cc2 nL2 rt2 n c) (hlk : Cond.methodLink y.cls idx y2 ∈ tG) (hO : Ob d c) (hs : Sp y2 cc2 nL2 rt2 dp2 (vR d 0 :: as) w (some (vI r)) w1)
    (hn : as.length = n) (hdp : dp2 + 1 ≤ dp) (hL : nL2 ≤ 21) (hst : (st.map (fun v => if isL v then 2 else 1)).sum ≤ 8) (hS0 : S = as.reverse ++ vR d 0 :: st) (hd : decode cc pc = .ok (.invokevirtual idx, 3)) (h : Bk y cc nL rt dp (pc + 3) lv (vI r :: st) w1 o w') : Bk y cc nL rt dp pc lv S w o w' :=
  b_callV0 hM hlk hO hs hn hdp hL hst hS0 hd (fun _ => rfl) h
theorem b_callVv {y2 : MethodName} {cc2 : ByteArray} {nL2 n c d idx : Nat} {rt2 : Option FieldType} {dp2 : Nat} {as S : List AV} {w1 : Mem} (hM : MV y2 cc2 nL2 rt2 n c) (hlk : Cond.methodLink y.cls idx y2 ∈ tG) (hO : Ob d c) (hs : Sp y2 cc2 nL2 rt2 dp2 (vR d 0 :: as) w none w1)
    (hn : as.length = n) (hdp : dp2 + 1 ≤ dp) (hL : nL2 ≤ 21) (hst : (st.map (fun v => if isL v then 2 else 1)).sum ≤ 8) (hS0 : S = as.reverse ++ vR d 0 :: st) (hd : decode cc pc = .ok (.invokevirtual idx, 3)) (h : Bk y cc nL rt dp (pc + 3) lv st w1 o w') : Bk y cc nL rt dp pc lv S w o w' :=
  b_callV0 hM hlk hO hs hn hdp hL hst hS0 hd (fun _ => rfl) h
theorem b_callSi {y2 : MethodName} {cc2 : ByteArray} {nL2 n idx : Nat} {rt2 : Option FieldType} {dp2 : Nat} {as S : List AV} {r : Int32} {w1 : Mem} (hM : MS y2 cc2 nL2 rt2 n) (hlk : Cond.methodLink y.cls idx y2 ∈ tG) (hs : Sp y2 cc2 nL2 rt2 dp2 as w (some (vI r)) w1)
    (hn : as.length = n) (hdp : dp2 + 1 ≤ dp) (hL : nL2 ≤ 21) (hst : (st.map (fun v => if isL v then 2 else 1)).sum ≤ 8) (hS0 : S = as.reverse ++ st) (hd : decode cc pc = .ok (.invokestatic idx, 3)) (h : Bk y cc nL rt dp (pc + 3) lv (vI r :: st) w1 o w') : Bk y cc nL rt dp pc lv S w o w' :=
  b_callS0 hM hlk hs hn hdp hL hst hS0 hd (fun _ => rfl) h
theorem b_callSv {y2 : MethodName} {cc2 : ByteArray} {nL2 n idx : Nat} {rt2 : Option FieldType} {dp2 : Nat} {as S : List AV} {w1 : Mem} (hM : MS y2 cc2 nL2 rt2 n) (hlk : Cond.methodLink y.cls idx y2 ∈ tG) (hs : Sp y2 cc2 nL2 rt2 dp2 as w none w1)
    (hn : as.length = n) (hdp : dp2 + 1 ≤ dp) (hL : nL2 ≤ 21) (hst : (st.map (fun v => if isL v then 2 else 1)).sum ≤ 8) (hS0 : S = as.reverse ++ st) (hd : decode cc pc = .ok (.invokestatic idx, 3)) (h : Bk y cc nL rt dp (pc + 3) lv st w1 o w') : Bk y cc nL rt dp pc lv S w o w' :=
  b_callS0 hM hlk hs hn hdp hL hst hS0 hd (fun _ => rfl) h
end Rules
end
section
theorem inG_of (ws : List Cond) (js : List Nat) (h : ws.map some = js.map (fun i => tables_1[i]?)) (hg : ws.all goodWord = true) : ∀ w ∈ ws, w ∈ tG := by
  intro w hw
  have h1 : some w ∈ ws.map some := List.mem_map.mpr ⟨w, hw, rfl⟩
  rw [h] at h1
  obtain ⟨i, -, hi⟩ := List.mem_map.mp h1
  exact tG_of hi (List.all_eq_true.mp hg w hw)
theorem inG0 : ∀ w ∈ u_ws RX0 TX0 (nf 0), w ∈ tG := inG_of _ [244] (by decide +kernel) (by decide +kernel)
theorem inG1 : ∀ w ∈ u_ws RX1 TX1 (nf 1), w ∈ tG := inG_of _ [160, 162, 164, 166, 168, 170, 172, 174, 176, 178, 180, 182, 184, 186] (by decide +kernel) (by decide +kernel)
theorem inG2 : ∀ w ∈ u_ws RX2 TX2 (nf 2), w ∈ tG := inG_of _ [223, 225, 227, 229, 231, 233] (by decide +kernel) (by decide +kernel)
theorem inG3 : ∀ w ∈ u_ws RX3 TX3 (nf 3), w ∈ tG := inG_of _ [202, 204, 206] (by decide +kernel) (by decide +kernel)
theorem inG4 : ∀ w ∈ u_ws RX4 TX4 (nf 4), w ∈ tG := inG_of _ [258, 260, 262, 264] (by decide +kernel) (by decide +kernel)
theorem inG5 : ∀ w ∈ u_ws RX5 TX5 (nf 5), w ∈ tG := inG_of _ [34, 36, 38, 40, 42] (by decide +kernel) (by decide +kernel)
theorem inG6 : ∀ w ∈ u_ws RX6 TX6 (nf 6), w ∈ tG := inG_of _ [96, 98, 100, 102, 104, 106, 108, 110, 112, 114, 116, 118, 120] (by decide +kernel) (by decide +kernel)
theorem inG7 : ∀ w ∈ u_ws RX7 TX7 (nf 7), w ∈ tG := inG_of _ [283, 285, 287, 289, 291, 293, 295, 297, 299, 301, 303, 305, 307, 309, 311, 313] (by decide +kernel) (by decide +kernel)
theorem inG8 : ∀ w ∈ u_ws RX8 TX8 (nf 8), w ∈ tG := inG_of _ [762, 764, 766, 768, 770, 772, 774, 776, 778, 780, 782, 784, 786, 788, 790, 792, 794, 796, 798, 800, 802, 804, 806, 808, 810, 812, 814, 816, 818, 820, 822, 824, 826, 828, 830, 832, 834, 836, 838, 840, 842, 844, 846, 848, 850] (by decide +kernel) (by decide +kernel)
theorem fl7_9 : FL RX7 9 7 0 := ⟨RX7, TX7, rfl, inG7, by decide, tG_of (i := 267) (by decide +kernel) (by decide +kernel)⟩
theorem fl7_13 : FL RX7 13 7 2 := ⟨RX7, TX7, rfl, inG7, by decide, tG_of (i := 269) (by decide +kernel) (by decide +kernel)⟩
theorem fw7_13 : FW RX7 13 7 2 .int := ⟨RX7, TX7, tyX7, rfl, inG7, by decide, tG_of (i := 269) (by decide +kernel) (by decide +kernel), tyX7_ok, nmX7, by decide +kernel, by decide +kernel⟩
theorem fl7_20 : FL RX7 20 7 3 := ⟨RX7, TX7, rfl, inG7, by decide, tG_of (i := 270) (by decide +kernel) (by decide +kernel)⟩
theorem fl7_27 : FL RX7 27 7 4 := ⟨RX7, TX7, rfl, inG7, by decide, tG_of (i := 271) (by decide +kernel) (by decide +kernel)⟩
theorem fw7_27 : FW RX7 27 7 4 (.object "OneADay$Rock") := ⟨RX7, TX7, tyX7, rfl, inG7, by decide, tG_of (i := 271) (by decide +kernel) (by decide +kernel), tyX7_ok, nmX7, by decide +kernel, by decide +kernel⟩
theorem fl7_31 : FL RX7 31 7 5 := ⟨RX7, TX7, rfl, inG7, by decide, tG_of (i := 272) (by decide +kernel) (by decide +kernel)⟩
theorem fw7_31 : FW RX7 31 7 5 (.object "OneADay$Rock") := ⟨RX7, TX7, tyX7, rfl, inG7, by decide, tG_of (i := 272) (by decide +kernel) (by decide +kernel), tyX7_ok, nmX7, by decide +kernel, by decide +kernel⟩
theorem fl7_37 : FL RX7 37 7 6 := ⟨RX7, TX7, rfl, inG7, by decide, tG_of (i := 273) (by decide +kernel) (by decide +kernel)⟩
theorem fl7_41 : FL RX7 41 7 7 := ⟨RX7, TX7, rfl, inG7, by decide, tG_of (i := 274) (by decide +kernel) (by decide +kernel)⟩
theorem fl7_47 : FL RX7 47 7 8 := ⟨RX7, TX7, rfl, inG7, by decide, tG_of (i := 275) (by decide +kernel) (by decide +kernel)⟩
theorem fl7_51 : FL RX7 51 7 9 := ⟨RX7, TX7, rfl, inG7, by decide, tG_of (i := 276) (by decide +kernel) (by decide +kernel)⟩
theorem fl7_55 : FL RX7 55 7 10 := ⟨RX7, TX7, rfl, inG7, by decide, tG_of (i := 277) (by decide +kernel) (by decide +kernel)⟩
theorem fl7_62 : FL RX7 62 7 13 := ⟨RX7, TX7, rfl, inG7, by decide, tG_of (i := 280) (by decide +kernel) (by decide +kernel)⟩
theorem fl7_69 : FL RX7 69 7 14 := ⟨RX7, TX7, rfl, inG7, by decide, tG_of (i := 281) (by decide +kernel) (by decide +kernel)⟩
theorem fl7_76 : FL RX7 76 7 15 := ⟨RX7, TX7, rfl, inG7, by decide, tG_of (i := 282) (by decide +kernel) (by decide +kernel)⟩
theorem fl7_81 : FL RX7 81 7 1 := ⟨RX7, TX7, rfl, inG7, by decide, tG_of (i := 268) (by decide +kernel) (by decide +kernel)⟩
theorem fw7_81 : FW RX7 81 7 1 .int := ⟨RX7, TX7, tyX7, rfl, inG7, by decide, tG_of (i := 268) (by decide +kernel) (by decide +kernel), tyX7_ok, nmX7, by decide +kernel, by decide +kernel⟩
theorem fl7_89 : FL RX7 89 5 4 := ⟨RX5, TX5, rfl, inG5, by decide, tG_of (i := 33) (by decide +kernel) (by decide +kernel)⟩
theorem fl7_100 : FL RX7 100 7 11 := ⟨RX7, TX7, rfl, inG7, by decide, tG_of (i := 278) (by decide +kernel) (by decide +kernel)⟩
theorem fw7_100 : FW RX7 100 7 11 .int := ⟨RX7, TX7, tyX7, rfl, inG7, by decide, tG_of (i := 278) (by decide +kernel) (by decide +kernel), tyX7_ok, nmX7, by decide +kernel, by decide +kernel⟩
theorem fl7_103 : FL RX7 103 6 4 := ⟨RX6, TX6, rfl, inG6, by decide, tG_of (i := 70) (by decide +kernel) (by decide +kernel)⟩
theorem fl7_106 : FL RX7 106 6 1 := ⟨RX6, TX6, rfl, inG6, by decide, tG_of (i := 56) (by decide +kernel) (by decide +kernel)⟩
theorem fl7_109 : FL RX7 109 6 2 := ⟨RX6, TX6, rfl, inG6, by decide, tG_of (i := 61) (by decide +kernel) (by decide +kernel)⟩
theorem fl7_112 : FL RX7 112 6 3 := ⟨RX6, TX6, rfl, inG6, by decide, tG_of (i := 65) (by decide +kernel) (by decide +kernel)⟩
theorem fl7_115 : FL RX7 115 6 5 := ⟨RX6, TX6, rfl, inG6, by decide, tG_of (i := 75) (by decide +kernel) (by decide +kernel)⟩
theorem fl7_118 : FL RX7 118 6 6 := ⟨RX6, TX6, rfl, inG6, by decide, tG_of (i := 78) (by decide +kernel) (by decide +kernel)⟩
theorem fl7_121 : FL RX7 121 1 6 := ⟨RX1, TX1, rfl, inG1, by decide, tG_of (i := 145) (by decide +kernel) (by decide +kernel)⟩
theorem fl7_124 : FL RX7 124 1 7 := ⟨RX1, TX1, rfl, inG1, by decide, tG_of (i := 147) (by decide +kernel) (by decide +kernel)⟩
theorem fl7_127 : FL RX7 127 1 13 := ⟨RX1, TX1, rfl, inG1, by decide, tG_of (i := 159) (by decide +kernel) (by decide +kernel)⟩
theorem fl7_131 : FL RX7 131 1 8 := ⟨RX1, TX1, rfl, inG1, by decide, tG_of (i := 149) (by decide +kernel) (by decide +kernel)⟩
theorem fl7_134 : FL RX7 134 1 9 := ⟨RX1, TX1, rfl, inG1, by decide, tG_of (i := 151) (by decide +kernel) (by decide +kernel)⟩
theorem fl7_137 : FL RX7 137 1 10 := ⟨RX1, TX1, rfl, inG1, by decide, tG_of (i := 153) (by decide +kernel) (by decide +kernel)⟩
theorem fl7_140 : FL RX7 140 1 11 := ⟨RX1, TX1, rfl, inG1, by decide, tG_of (i := 155) (by decide +kernel) (by decide +kernel)⟩
theorem fl7_143 : FL RX7 143 1 5 := ⟨RX1, TX1, rfl, inG1, by decide, tG_of (i := 143) (by decide +kernel) (by decide +kernel)⟩
theorem fl7_146 : FL RX7 146 1 12 := ⟨RX1, TX1, rfl, inG1, by decide, tG_of (i := 157) (by decide +kernel) (by decide +kernel)⟩
theorem fl7_149 : FL RX7 149 2 4 := ⟨RX2, TX2, rfl, inG2, by decide, tG_of (i := 220) (by decide +kernel) (by decide +kernel)⟩
theorem fl7_152 : FL RX7 152 2 5 := ⟨RX2, TX2, rfl, inG2, by decide, tG_of (i := 222) (by decide +kernel) (by decide +kernel)⟩
theorem fl7_155 : FL RX7 155 3 2 := ⟨RX3, TX3, rfl, inG3, by decide, tG_of (i := 201) (by decide +kernel) (by decide +kernel)⟩
theorem fl7_163 : FL RX7 163 6 7 := ⟨RX6, TX6, rfl, inG6, by decide, tG_of (i := 81) (by decide +kernel) (by decide +kernel)⟩
theorem fl7_166 : FL RX7 166 6 8 := ⟨RX6, TX6, rfl, inG6, by decide, tG_of (i := 84) (by decide +kernel) (by decide +kernel)⟩
theorem fl7_169 : FL RX7 169 1 0 := ⟨RX1, TX1, rfl, inG1, by decide, tG_of (i := 135) (by decide +kernel) (by decide +kernel)⟩
theorem fl7_172 : FL RX7 172 6 10 := ⟨RX6, TX6, rfl, inG6, by decide, tG_of (i := 90) (by decide +kernel) (by decide +kernel)⟩
theorem fl7_178 : FL RX7 178 1 1 := ⟨RX1, TX1, rfl, inG1, by decide, tG_of (i := 137) (by decide +kernel) (by decide +kernel)⟩
theorem fl7_200 : FL RX7 200 1 4 := ⟨RX1, TX1, rfl, inG1, by decide, tG_of (i := 141) (by decide +kernel) (by decide +kernel)⟩
theorem fw7_200 : FW RX7 200 1 4 .int := ⟨RX1, TX1, tyX1, rfl, inG1, by decide, tG_of (i := 141) (by decide +kernel) (by decide +kernel), tyX1_ok, nmX1, by decide +kernel, by decide +kernel⟩
theorem fl7_210 : FL RX7 210 6 0 := ⟨RX6, TX6, rfl, inG6, by decide, tG_of (i := 54) (by decide +kernel) (by decide +kernel)⟩
theorem fl7_224 : FL RX7 224 0 0 := ⟨RX0, TX0, rfl, inG0, by decide, tG_of (i := 243) (by decide +kernel) (by decide +kernel)⟩
theorem fl7_244 : FL RX7 244 4 0 := ⟨RX4, TX4, rfl, inG4, by decide, tG_of (i := 254) (by decide +kernel) (by decide +kernel)⟩
theorem fl7_266 : FL RX7 266 7 12 := ⟨RX7, TX7, rfl, inG7, by decide, tG_of (i := 279) (by decide +kernel) (by decide +kernel)⟩
theorem fw7_266 : FW RX7 266 7 12 .int := ⟨RX7, TX7, tyX7, rfl, inG7, by decide, tG_of (i := 279) (by decide +kernel) (by decide +kernel), tyX7_ok, nmX7, by decide +kernel, by decide +kernel⟩
theorem fl0_9 : FL RX0 9 0 0 := ⟨RX0, TX0, rfl, inG0, by decide, tG_of (i := 242) (by decide +kernel) (by decide +kernel)⟩
theorem fl0_26 : FL RX0 26 6 4 := ⟨RX6, TX6, rfl, inG6, by decide, tG_of (i := 68) (by decide +kernel) (by decide +kernel)⟩
theorem fl1_9 : FL RX1 9 1 0 := ⟨RX1, TX1, rfl, inG1, by decide, tG_of (i := 134) (by decide +kernel) (by decide +kernel)⟩
theorem fl1_15 : FL RX1 15 1 1 := ⟨RX1, TX1, rfl, inG1, by decide, tG_of (i := 136) (by decide +kernel) (by decide +kernel)⟩
theorem fl1_18 : FL RX1 18 1 2 := ⟨RX1, TX1, rfl, inG1, by decide, tG_of (i := 138) (by decide +kernel) (by decide +kernel)⟩
theorem fl1_21 : FL RX1 21 1 3 := ⟨RX1, TX1, rfl, inG1, by decide, tG_of (i := 139) (by decide +kernel) (by decide +kernel)⟩
theorem fl1_30 : FL RX1 30 6 9 := ⟨RX6, TX6, rfl, inG6, by decide, tG_of (i := 87) (by decide +kernel) (by decide +kernel)⟩
theorem fl1_41 : FL RX1 41 1 4 := ⟨RX1, TX1, rfl, inG1, by decide, tG_of (i := 140) (by decide +kernel) (by decide +kernel)⟩
theorem fw1_41 : FW RX1 41 1 4 .int := ⟨RX1, TX1, tyX1, rfl, inG1, by decide, tG_of (i := 140) (by decide +kernel) (by decide +kernel), tyX1_ok, nmX1, by decide +kernel, by decide +kernel⟩
theorem fl1_45 : FL RX1 45 1 5 := ⟨RX1, TX1, rfl, inG1, by decide, tG_of (i := 142) (by decide +kernel) (by decide +kernel)⟩
theorem fw1_45 : FW RX1 45 1 5 .int := ⟨RX1, TX1, tyX1, rfl, inG1, by decide, tG_of (i := 142) (by decide +kernel) (by decide +kernel), tyX1_ok, nmX1, by decide +kernel, by decide +kernel⟩
theorem fl1_48 : FL RX1 48 1 6 := ⟨RX1, TX1, rfl, inG1, by decide, tG_of (i := 144) (by decide +kernel) (by decide +kernel)⟩
theorem fw1_48 : FW RX1 48 1 6 .int := ⟨RX1, TX1, tyX1, rfl, inG1, by decide, tG_of (i := 144) (by decide +kernel) (by decide +kernel), tyX1_ok, nmX1, by decide +kernel, by decide +kernel⟩
theorem fl1_51 : FL RX1 51 1 7 := ⟨RX1, TX1, rfl, inG1, by decide, tG_of (i := 146) (by decide +kernel) (by decide +kernel)⟩
theorem fw1_51 : FW RX1 51 1 7 .int := ⟨RX1, TX1, tyX1, rfl, inG1, by decide, tG_of (i := 146) (by decide +kernel) (by decide +kernel), tyX1_ok, nmX1, by decide +kernel, by decide +kernel⟩
theorem fl1_54 : FL RX1 54 1 8 := ⟨RX1, TX1, rfl, inG1, by decide, tG_of (i := 148) (by decide +kernel) (by decide +kernel)⟩
theorem fw1_54 : FW RX1 54 1 8 .int := ⟨RX1, TX1, tyX1, rfl, inG1, by decide, tG_of (i := 148) (by decide +kernel) (by decide +kernel), tyX1_ok, nmX1, by decide +kernel, by decide +kernel⟩
theorem fl1_57 : FL RX1 57 1 9 := ⟨RX1, TX1, rfl, inG1, by decide, tG_of (i := 150) (by decide +kernel) (by decide +kernel)⟩
theorem fw1_57 : FW RX1 57 1 9 .int := ⟨RX1, TX1, tyX1, rfl, inG1, by decide, tG_of (i := 150) (by decide +kernel) (by decide +kernel), tyX1_ok, nmX1, by decide +kernel, by decide +kernel⟩
theorem fl1_60 : FL RX1 60 1 10 := ⟨RX1, TX1, rfl, inG1, by decide, tG_of (i := 152) (by decide +kernel) (by decide +kernel)⟩
theorem fw1_60 : FW RX1 60 1 10 .int := ⟨RX1, TX1, tyX1, rfl, inG1, by decide, tG_of (i := 152) (by decide +kernel) (by decide +kernel), tyX1_ok, nmX1, by decide +kernel, by decide +kernel⟩
theorem fl1_63 : FL RX1 63 1 11 := ⟨RX1, TX1, rfl, inG1, by decide, tG_of (i := 154) (by decide +kernel) (by decide +kernel)⟩
theorem fw1_63 : FW RX1 63 1 11 .int := ⟨RX1, TX1, tyX1, rfl, inG1, by decide, tG_of (i := 154) (by decide +kernel) (by decide +kernel), tyX1_ok, nmX1, by decide +kernel, by decide +kernel⟩
theorem fl1_66 : FL RX1 66 1 12 := ⟨RX1, TX1, rfl, inG1, by decide, tG_of (i := 156) (by decide +kernel) (by decide +kernel)⟩
theorem fw1_66 : FW RX1 66 1 12 .int := ⟨RX1, TX1, tyX1, rfl, inG1, by decide, tG_of (i := 156) (by decide +kernel) (by decide +kernel), tyX1_ok, nmX1, by decide +kernel, by decide +kernel⟩
theorem fl1_69 : FL RX1 69 1 13 := ⟨RX1, TX1, rfl, inG1, by decide, tG_of (i := 158) (by decide +kernel) (by decide +kernel)⟩
theorem fw1_69 : FW RX1 69 1 13 .boolean := ⟨RX1, TX1, tyX1, rfl, inG1, by decide, tG_of (i := 158) (by decide +kernel) (by decide +kernel), tyX1_ok, nmX1, by decide +kernel, by decide +kernel⟩
theorem fl1_77 : FL RX1 77 6 4 := ⟨RX6, TX6, rfl, inG6, by decide, tG_of (i := 72) (by decide +kernel) (by decide +kernel)⟩
theorem fl1_92 : FL RX1 92 6 2 := ⟨RX6, TX6, rfl, inG6, by decide, tG_of (i := 63) (by decide +kernel) (by decide +kernel)⟩
theorem fl1_116 : FL RX1 116 6 1 := ⟨RX6, TX6, rfl, inG6, by decide, tG_of (i := 58) (by decide +kernel) (by decide +kernel)⟩
theorem fl2_9 : FL RX2 9 2 0 := ⟨RX2, TX2, rfl, inG2, by decide, tG_of (i := 215) (by decide +kernel) (by decide +kernel)⟩
theorem fl2_15 : FL RX2 15 2 1 := ⟨RX2, TX2, rfl, inG2, by decide, tG_of (i := 216) (by decide +kernel) (by decide +kernel)⟩
theorem fl2_18 : FL RX2 18 2 2 := ⟨RX2, TX2, rfl, inG2, by decide, tG_of (i := 217) (by decide +kernel) (by decide +kernel)⟩
theorem fl2_21 : FL RX2 21 2 3 := ⟨RX2, TX2, rfl, inG2, by decide, tG_of (i := 218) (by decide +kernel) (by decide +kernel)⟩
theorem fl2_24 : FL RX2 24 2 4 := ⟨RX2, TX2, rfl, inG2, by decide, tG_of (i := 219) (by decide +kernel) (by decide +kernel)⟩
theorem fw2_24 : FW RX2 24 2 4 .int := ⟨RX2, TX2, tyX2, rfl, inG2, by decide, tG_of (i := 219) (by decide +kernel) (by decide +kernel), tyX2_ok, nmX2, by decide +kernel, by decide +kernel⟩
theorem fl2_28 : FL RX2 28 2 5 := ⟨RX2, TX2, rfl, inG2, by decide, tG_of (i := 221) (by decide +kernel) (by decide +kernel)⟩
theorem fw2_28 : FW RX2 28 2 5 .int := ⟨RX2, TX2, tyX2, rfl, inG2, by decide, tG_of (i := 221) (by decide +kernel) (by decide +kernel), tyX2_ok, nmX2, by decide +kernel, by decide +kernel⟩
theorem fl3_11 : FL RX3 11 3 0 := ⟨RX3, TX3, rfl, inG3, by decide, tG_of (i := 198) (by decide +kernel) (by decide +kernel)⟩
theorem fl3_18 : FL RX3 18 3 2 := ⟨RX3, TX3, rfl, inG3, by decide, tG_of (i := 200) (by decide +kernel) (by decide +kernel)⟩
theorem fw3_18 : FW RX3 18 3 2 .int := ⟨RX3, TX3, tyX3, rfl, inG3, by decide, tG_of (i := 200) (by decide +kernel) (by decide +kernel), tyX3_ok, nmX3, by decide +kernel, by decide +kernel⟩
theorem fl3_22 : FL RX3 22 3 1 := ⟨RX3, TX3, rfl, inG3, by decide, tG_of (i := 199) (by decide +kernel) (by decide +kernel)⟩
theorem fw3_22 : FW RX3 22 3 1 .int := ⟨RX3, TX3, tyX3, rfl, inG3, by decide, tG_of (i := 199) (by decide +kernel) (by decide +kernel), tyX3_ok, nmX3, by decide +kernel, by decide +kernel⟩
theorem fl4_9 : FL RX4 9 4 0 := ⟨RX4, TX4, rfl, inG4, by decide, tG_of (i := 253) (by decide +kernel) (by decide +kernel)⟩
theorem fl4_15 : FL RX4 15 4 1 := ⟨RX4, TX4, rfl, inG4, by decide, tG_of (i := 255) (by decide +kernel) (by decide +kernel)⟩
theorem fw4_15 : FW RX4 15 4 1 .int := ⟨RX4, TX4, tyX4, rfl, inG4, by decide, tG_of (i := 255) (by decide +kernel) (by decide +kernel), tyX4_ok, nmX4, by decide +kernel, by decide +kernel⟩
theorem fl4_25 : FL RX4 25 4 2 := ⟨RX4, TX4, rfl, inG4, by decide, tG_of (i := 256) (by decide +kernel) (by decide +kernel)⟩
theorem fw4_25 : FW RX4 25 4 2 .int := ⟨RX4, TX4, tyX4, rfl, inG4, by decide, tG_of (i := 256) (by decide +kernel) (by decide +kernel), tyX4_ok, nmX4, by decide +kernel, by decide +kernel⟩
theorem fl4_28 : FL RX4 28 4 3 := ⟨RX4, TX4, rfl, inG4, by decide, tG_of (i := 257) (by decide +kernel) (by decide +kernel)⟩
theorem fw4_28 : FW RX4 28 4 3 .int := ⟨RX4, TX4, tyX4, rfl, inG4, by decide, tG_of (i := 257) (by decide +kernel) (by decide +kernel), tyX4_ok, nmX4, by decide +kernel, by decide +kernel⟩
theorem fl4_41 : FL RX4 41 6 7 := ⟨RX6, TX6, rfl, inG6, by decide, tG_of (i := 80) (by decide +kernel) (by decide +kernel)⟩
theorem fl4_48 : FL RX4 48 6 4 := ⟨RX6, TX6, rfl, inG6, by decide, tG_of (i := 69) (by decide +kernel) (by decide +kernel)⟩
theorem fl4_58 : FL RX4 58 6 2 := ⟨RX6, TX6, rfl, inG6, by decide, tG_of (i := 60) (by decide +kernel) (by decide +kernel)⟩
theorem fl5_9 : FL RX5 9 5 0 := ⟨RX5, TX5, rfl, inG5, by decide, tG_of (i := 28) (by decide +kernel) (by decide +kernel)⟩
theorem fw5_9 : FW RX5 9 5 0 (.array .char) := ⟨RX5, TX5, tyX5, rfl, inG5, by decide, tG_of (i := 28) (by decide +kernel) (by decide +kernel), tyX5_ok, nmX5, by decide +kernel, by decide +kernel⟩
theorem fl5_21 : FL RX5 21 5 1 := ⟨RX5, TX5, rfl, inG5, by decide, tG_of (i := 29) (by decide +kernel) (by decide +kernel)⟩
theorem fw5_21 : FW RX5 21 5 1 .int := ⟨RX5, TX5, tyX5, rfl, inG5, by decide, tG_of (i := 29) (by decide +kernel) (by decide +kernel), tyX5_ok, nmX5, by decide +kernel, by decide +kernel⟩
theorem fl5_25 : FL RX5 25 5 4 := ⟨RX5, TX5, rfl, inG5, by decide, tG_of (i := 32) (by decide +kernel) (by decide +kernel)⟩
theorem fw5_25 : FW RX5 25 5 4 .int := ⟨RX5, TX5, tyX5, rfl, inG5, by decide, tG_of (i := 32) (by decide +kernel) (by decide +kernel), tyX5_ok, nmX5, by decide +kernel, by decide +kernel⟩
theorem fl5_28 : FL RX5 28 5 2 := ⟨RX5, TX5, rfl, inG5, by decide, tG_of (i := 30) (by decide +kernel) (by decide +kernel)⟩
theorem fw5_28 : FW RX5 28 5 2 .int := ⟨RX5, TX5, tyX5, rfl, inG5, by decide, tG_of (i := 30) (by decide +kernel) (by decide +kernel), tyX5_ok, nmX5, by decide +kernel, by decide +kernel⟩
theorem fl5_51 : FL RX5 51 6 0 := ⟨RX6, TX6, rfl, inG6, by decide, tG_of (i := 53) (by decide +kernel) (by decide +kernel)⟩
theorem fw5_51 : FW RX5 51 6 0 .boolean := ⟨RX6, TX6, tyX6, rfl, inG6, by decide, tG_of (i := 53) (by decide +kernel) (by decide +kernel), tyX6_ok, nmX6, by decide +kernel, by decide +kernel⟩
theorem fl5_69 : FL RX5 69 6 5 := ⟨RX6, TX6, rfl, inG6, by decide, tG_of (i := 74) (by decide +kernel) (by decide +kernel)⟩
theorem fw5_69 : FW RX5 69 6 5 .int := ⟨RX6, TX6, tyX6, rfl, inG6, by decide, tG_of (i := 74) (by decide +kernel) (by decide +kernel), tyX6_ok, nmX6, by decide +kernel, by decide +kernel⟩
theorem fl5_72 : FL RX5 72 6 11 := ⟨RX6, TX6, rfl, inG6, by decide, tG_of (i := 93) (by decide +kernel) (by decide +kernel)⟩
theorem fl5_80 : FL RX5 80 6 6 := ⟨RX6, TX6, rfl, inG6, by decide, tG_of (i := 77) (by decide +kernel) (by decide +kernel)⟩
theorem fw5_80 : FW RX5 80 6 6 .int := ⟨RX6, TX6, tyX6, rfl, inG6, by decide, tG_of (i := 77) (by decide +kernel) (by decide +kernel), tyX6_ok, nmX6, by decide +kernel, by decide +kernel⟩
theorem fl5_83 : FL RX5 83 6 12 := ⟨RX6, TX6, rfl, inG6, by decide, tG_of (i := 95) (by decide +kernel) (by decide +kernel)⟩
theorem fl5_89 : FL RX5 89 6 4 := ⟨RX6, TX6, rfl, inG6, by decide, tG_of (i := 71) (by decide +kernel) (by decide +kernel)⟩
theorem fw5_89 : FW RX5 89 6 4 .int := ⟨RX6, TX6, tyX6, rfl, inG6, by decide, tG_of (i := 71) (by decide +kernel) (by decide +kernel), tyX6_ok, nmX6, by decide +kernel, by decide +kernel⟩
theorem fw5_95 : FW RX5 95 6 1 .int := ⟨RX6, TX6, tyX6, rfl, inG6, by decide, tG_of (i := 57) (by decide +kernel) (by decide +kernel), tyX6_ok, nmX6, by decide +kernel, by decide +kernel⟩
theorem fw5_98 : FW RX5 98 6 2 .int := ⟨RX6, TX6, tyX6, rfl, inG6, by decide, tG_of (i := 62) (by decide +kernel) (by decide +kernel), tyX6_ok, nmX6, by decide +kernel, by decide +kernel⟩
theorem fw5_101 : FW RX5 101 6 3 .int := ⟨RX6, TX6, tyX6, rfl, inG6, by decide, tG_of (i := 66) (by decide +kernel) (by decide +kernel), tyX6_ok, nmX6, by decide +kernel, by decide +kernel⟩
theorem fl5_104 : FL RX5 104 6 7 := ⟨RX6, TX6, rfl, inG6, by decide, tG_of (i := 82) (by decide +kernel) (by decide +kernel)⟩
theorem fl5_108 : FL RX5 108 6 8 := ⟨RX6, TX6, rfl, inG6, by decide, tG_of (i := 85) (by decide +kernel) (by decide +kernel)⟩
theorem fl5_111 : FL RX5 111 6 9 := ⟨RX6, TX6, rfl, inG6, by decide, tG_of (i := 88) (by decide +kernel) (by decide +kernel)⟩
theorem fl5_114 : FL RX5 114 6 10 := ⟨RX6, TX6, rfl, inG6, by decide, tG_of (i := 91) (by decide +kernel) (by decide +kernel)⟩
theorem fl5_121 : FL RX5 121 5 3 := ⟨RX5, TX5, rfl, inG5, by decide, tG_of (i := 31) (by decide +kernel) (by decide +kernel)⟩
theorem fw5_121 : FW RX5 121 5 3 .int := ⟨RX5, TX5, tyX5, rfl, inG5, by decide, tG_of (i := 31) (by decide +kernel) (by decide +kernel), tyX5_ok, nmX5, by decide +kernel, by decide +kernel⟩
theorem fl6_9 : FL RX6 9 6 7 := ⟨RX6, TX6, rfl, inG6, by decide, tG_of (i := 79) (by decide +kernel) (by decide +kernel)⟩
theorem fl6_15 : FL RX6 15 6 8 := ⟨RX6, TX6, rfl, inG6, by decide, tG_of (i := 83) (by decide +kernel) (by decide +kernel)⟩
theorem fl6_24 : FL RX6 24 6 11 := ⟨RX6, TX6, rfl, inG6, by decide, tG_of (i := 92) (by decide +kernel) (by decide +kernel)⟩
theorem fl6_28 : FL RX6 28 6 12 := ⟨RX6, TX6, rfl, inG6, by decide, tG_of (i := 94) (by decide +kernel) (by decide +kernel)⟩
theorem fw6_31 : FW RX6 31 6 0 .boolean := ⟨RX6, TX6, tyX6, rfl, inG6, by decide, tG_of (i := 52) (by decide +kernel) (by decide +kernel), tyX6_ok, nmX6, by decide +kernel, by decide +kernel⟩
theorem fw6_35 : FW RX6 35 6 1 .int := ⟨RX6, TX6, tyX6, rfl, inG6, by decide, tG_of (i := 55) (by decide +kernel) (by decide +kernel), tyX6_ok, nmX6, by decide +kernel, by decide +kernel⟩
theorem fw6_39 : FW RX6 39 6 2 .int := ⟨RX6, TX6, tyX6, rfl, inG6, by decide, tG_of (i := 59) (by decide +kernel) (by decide +kernel), tyX6_ok, nmX6, by decide +kernel, by decide +kernel⟩
theorem fw6_42 : FW RX6 42 6 3 .int := ⟨RX6, TX6, tyX6, rfl, inG6, by decide, tG_of (i := 64) (by decide +kernel) (by decide +kernel), tyX6_ok, nmX6, by decide +kernel, by decide +kernel⟩
theorem fl6_45 : FL RX6 45 6 4 := ⟨RX6, TX6, rfl, inG6, by decide, tG_of (i := 67) (by decide +kernel) (by decide +kernel)⟩
theorem fw6_45 : FW RX6 45 6 4 .int := ⟨RX6, TX6, tyX6, rfl, inG6, by decide, tG_of (i := 67) (by decide +kernel) (by decide +kernel), tyX6_ok, nmX6, by decide +kernel, by decide +kernel⟩
theorem fw6_48 : FW RX6 48 6 5 .int := ⟨RX6, TX6, tyX6, rfl, inG6, by decide, tG_of (i := 73) (by decide +kernel) (by decide +kernel), tyX6_ok, nmX6, by decide +kernel, by decide +kernel⟩
theorem fw6_51 : FW RX6 51 6 6 .int := ⟨RX6, TX6, tyX6, rfl, inG6, by decide, tG_of (i := 76) (by decide +kernel) (by decide +kernel), tyX6_ok, nmX6, by decide +kernel, by decide +kernel⟩
theorem fl8_7 : FL RX8 7 8 4 := ⟨RX8, TX8, rfl, inG8, by decide, tG_of (i := 721) (by decide +kernel) (by decide +kernel)⟩
theorem fl8_13 : FL RX8 13 8 5 := ⟨RX8, TX8, rfl, inG8, by decide, tG_of (i := 722) (by decide +kernel) (by decide +kernel)⟩
theorem fl8_16 : FL RX8 16 8 6 := ⟨RX8, TX8, rfl, inG8, by decide, tG_of (i := 723) (by decide +kernel) (by decide +kernel)⟩
theorem fl8_19 : FL RX8 19 8 8 := ⟨RX8, TX8, rfl, inG8, by decide, tG_of (i := 725) (by decide +kernel) (by decide +kernel)⟩
theorem fl8_22 : FL RX8 22 8 10 := ⟨RX8, TX8, rfl, inG8, by decide, tG_of (i := 727) (by decide +kernel) (by decide +kernel)⟩
theorem fl8_25 : FL RX8 25 8 11 := ⟨RX8, TX8, rfl, inG8, by decide, tG_of (i := 728) (by decide +kernel) (by decide +kernel)⟩
theorem fl8_28 : FL RX8 28 8 13 := ⟨RX8, TX8, rfl, inG8, by decide, tG_of (i := 730) (by decide +kernel) (by decide +kernel)⟩
theorem fl8_31 : FL RX8 31 8 15 := ⟨RX8, TX8, rfl, inG8, by decide, tG_of (i := 732) (by decide +kernel) (by decide +kernel)⟩
theorem fw8_31 : FW RX8 31 8 15 .int := ⟨RX8, TX8, tyX8, rfl, inG8, by decide, tG_of (i := 732) (by decide +kernel) (by decide +kernel), tyX8_ok, nmX8, by decide +kernel, by decide +kernel⟩
theorem fl8_35 : FL RX8 35 8 19 := ⟨RX8, TX8, rfl, inG8, by decide, tG_of (i := 736) (by decide +kernel) (by decide +kernel)⟩
theorem fl8_38 : FL RX8 38 8 21 := ⟨RX8, TX8, rfl, inG8, by decide, tG_of (i := 738) (by decide +kernel) (by decide +kernel)⟩
theorem fl8_41 : FL RX8 41 8 22 := ⟨RX8, TX8, rfl, inG8, by decide, tG_of (i := 739) (by decide +kernel) (by decide +kernel)⟩
theorem fl8_44 : FL RX8 44 8 23 := ⟨RX8, TX8, rfl, inG8, by decide, tG_of (i := 740) (by decide +kernel) (by decide +kernel)⟩
theorem fl8_47 : FL RX8 47 8 24 := ⟨RX8, TX8, rfl, inG8, by decide, tG_of (i := 741) (by decide +kernel) (by decide +kernel)⟩
theorem fl8_50 : FL RX8 50 8 26 := ⟨RX8, TX8, rfl, inG8, by decide, tG_of (i := 743) (by decide +kernel) (by decide +kernel)⟩
theorem fl8_53 : FL RX8 53 8 28 := ⟨RX8, TX8, rfl, inG8, by decide, tG_of (i := 745) (by decide +kernel) (by decide +kernel)⟩
theorem fl8_56 : FL RX8 56 8 30 := ⟨RX8, TX8, rfl, inG8, by decide, tG_of (i := 747) (by decide +kernel) (by decide +kernel)⟩
theorem fl8_59 : FL RX8 59 8 31 := ⟨RX8, TX8, rfl, inG8, by decide, tG_of (i := 748) (by decide +kernel) (by decide +kernel)⟩
theorem fl8_62 : FL RX8 62 8 32 := ⟨RX8, TX8, rfl, inG8, by decide, tG_of (i := 749) (by decide +kernel) (by decide +kernel)⟩
theorem fl8_66 : FL RX8 66 8 33 := ⟨RX8, TX8, rfl, inG8, by decide, tG_of (i := 750) (by decide +kernel) (by decide +kernel)⟩
theorem fl8_69 : FL RX8 69 8 34 := ⟨RX8, TX8, rfl, inG8, by decide, tG_of (i := 751) (by decide +kernel) (by decide +kernel)⟩
theorem fl8_72 : FL RX8 72 8 35 := ⟨RX8, TX8, rfl, inG8, by decide, tG_of (i := 752) (by decide +kernel) (by decide +kernel)⟩
theorem fl8_75 : FL RX8 75 8 38 := ⟨RX8, TX8, rfl, inG8, by decide, tG_of (i := 755) (by decide +kernel) (by decide +kernel)⟩
theorem fl8_78 : FL RX8 78 8 39 := ⟨RX8, TX8, rfl, inG8, by decide, tG_of (i := 756) (by decide +kernel) (by decide +kernel)⟩
theorem fl8_81 : FL RX8 81 8 41 := ⟨RX8, TX8, rfl, inG8, by decide, tG_of (i := 758) (by decide +kernel) (by decide +kernel)⟩
theorem fl8_84 : FL RX8 84 8 42 := ⟨RX8, TX8, rfl, inG8, by decide, tG_of (i := 759) (by decide +kernel) (by decide +kernel)⟩
theorem fl8_87 : FL RX8 87 8 43 := ⟨RX8, TX8, rfl, inG8, by decide, tG_of (i := 760) (by decide +kernel) (by decide +kernel)⟩
theorem fl8_90 : FL RX8 90 8 44 := ⟨RX8, TX8, rfl, inG8, by decide, tG_of (i := 761) (by decide +kernel) (by decide +kernel)⟩
theorem fl8_94 : FL RX8 94 8 3 := ⟨RX8, TX8, rfl, inG8, by decide, tG_of (i := 720) (by decide +kernel) (by decide +kernel)⟩
theorem fw8_94 : FW RX8 94 8 3 .int := ⟨RX8, TX8, tyX8, rfl, inG8, by decide, tG_of (i := 720) (by decide +kernel) (by decide +kernel), tyX8_ok, nmX8, by decide +kernel, by decide +kernel⟩
theorem fl8_104 : FL RX8 104 8 14 := ⟨RX8, TX8, rfl, inG8, by decide, tG_of (i := 731) (by decide +kernel) (by decide +kernel)⟩
theorem fw8_104 : FW RX8 104 8 14 .int := ⟨RX8, TX8, tyX8, rfl, inG8, by decide, tG_of (i := 731) (by decide +kernel) (by decide +kernel), tyX8_ok, nmX8, by decide +kernel, by decide +kernel⟩
theorem fl8_108 : FL RX8 108 8 16 := ⟨RX8, TX8, rfl, inG8, by decide, tG_of (i := 733) (by decide +kernel) (by decide +kernel)⟩
theorem fw8_108 : FW RX8 108 8 16 .int := ⟨RX8, TX8, tyX8, rfl, inG8, by decide, tG_of (i := 733) (by decide +kernel) (by decide +kernel), tyX8_ok, nmX8, by decide +kernel, by decide +kernel⟩
theorem fl8_123 : FL RX8 123 8 18 := ⟨RX8, TX8, rfl, inG8, by decide, tG_of (i := 735) (by decide +kernel) (by decide +kernel)⟩
theorem fw8_123 : FW RX8 123 8 18 .int := ⟨RX8, TX8, tyX8, rfl, inG8, by decide, tG_of (i := 735) (by decide +kernel) (by decide +kernel), tyX8_ok, nmX8, by decide +kernel, by decide +kernel⟩
theorem fl8_126 : FL RX8 126 8 17 := ⟨RX8, TX8, rfl, inG8, by decide, tG_of (i := 734) (by decide +kernel) (by decide +kernel)⟩
theorem fw8_126 : FW RX8 126 8 17 .int := ⟨RX8, TX8, tyX8, rfl, inG8, by decide, tG_of (i := 734) (by decide +kernel) (by decide +kernel), tyX8_ok, nmX8, by decide +kernel, by decide +kernel⟩
theorem fl8_136 : FL RX8 136 8 20 := ⟨RX8, TX8, rfl, inG8, by decide, tG_of (i := 737) (by decide +kernel) (by decide +kernel)⟩
theorem fw8_136 : FW RX8 136 8 20 .int := ⟨RX8, TX8, tyX8, rfl, inG8, by decide, tG_of (i := 737) (by decide +kernel) (by decide +kernel), tyX8_ok, nmX8, by decide +kernel, by decide +kernel⟩
theorem fl8_139 : FL RX8 139 8 25 := ⟨RX8, TX8, rfl, inG8, by decide, tG_of (i := 742) (by decide +kernel) (by decide +kernel)⟩
theorem fw8_139 : FW RX8 139 8 25 .int := ⟨RX8, TX8, tyX8, rfl, inG8, by decide, tG_of (i := 742) (by decide +kernel) (by decide +kernel), tyX8_ok, nmX8, by decide +kernel, by decide +kernel⟩
theorem fl8_142 : FL RX8 142 8 27 := ⟨RX8, TX8, rfl, inG8, by decide, tG_of (i := 744) (by decide +kernel) (by decide +kernel)⟩
theorem fw8_142 : FW RX8 142 8 27 .int := ⟨RX8, TX8, tyX8, rfl, inG8, by decide, tG_of (i := 744) (by decide +kernel) (by decide +kernel), tyX8_ok, nmX8, by decide +kernel, by decide +kernel⟩
theorem fl8_155 : FL RX8 155 8 0 := ⟨RX8, TX8, rfl, inG8, by decide, tG_of (i := 717) (by decide +kernel) (by decide +kernel)⟩
theorem fw8_155 : FW RX8 155 8 0 .int := ⟨RX8, TX8, tyX8, rfl, inG8, by decide, tG_of (i := 717) (by decide +kernel) (by decide +kernel), tyX8_ok, nmX8, by decide +kernel, by decide +kernel⟩
theorem fl8_158 : FL RX8 158 8 1 := ⟨RX8, TX8, rfl, inG8, by decide, tG_of (i := 718) (by decide +kernel) (by decide +kernel)⟩
theorem fw8_158 : FW RX8 158 8 1 .int := ⟨RX8, TX8, tyX8, rfl, inG8, by decide, tG_of (i := 718) (by decide +kernel) (by decide +kernel), tyX8_ok, nmX8, by decide +kernel, by decide +kernel⟩
theorem fl8_161 : FL RX8 161 8 2 := ⟨RX8, TX8, rfl, inG8, by decide, tG_of (i := 719) (by decide +kernel) (by decide +kernel)⟩
theorem fw8_161 : FW RX8 161 8 2 .int := ⟨RX8, TX8, tyX8, rfl, inG8, by decide, tG_of (i := 719) (by decide +kernel) (by decide +kernel), tyX8_ok, nmX8, by decide +kernel, by decide +kernel⟩
theorem fl8_164 : FL RX8 164 8 7 := ⟨RX8, TX8, rfl, inG8, by decide, tG_of (i := 724) (by decide +kernel) (by decide +kernel)⟩
theorem fw8_164 : FW RX8 164 8 7 .int := ⟨RX8, TX8, tyX8, rfl, inG8, by decide, tG_of (i := 724) (by decide +kernel) (by decide +kernel), tyX8_ok, nmX8, by decide +kernel, by decide +kernel⟩
theorem fl8_167 : FL RX8 167 8 9 := ⟨RX8, TX8, rfl, inG8, by decide, tG_of (i := 726) (by decide +kernel) (by decide +kernel)⟩
theorem fw8_167 : FW RX8 167 8 9 .int := ⟨RX8, TX8, tyX8, rfl, inG8, by decide, tG_of (i := 726) (by decide +kernel) (by decide +kernel), tyX8_ok, nmX8, by decide +kernel, by decide +kernel⟩
theorem fl8_176 : FL RX8 176 8 37 := ⟨RX8, TX8, rfl, inG8, by decide, tG_of (i := 754) (by decide +kernel) (by decide +kernel)⟩
theorem fw8_176 : FW RX8 176 8 37 .int := ⟨RX8, TX8, tyX8, rfl, inG8, by decide, tG_of (i := 754) (by decide +kernel) (by decide +kernel), tyX8_ok, nmX8, by decide +kernel, by decide +kernel⟩
theorem fl8_179 : FL RX8 179 8 40 := ⟨RX8, TX8, rfl, inG8, by decide, tG_of (i := 757) (by decide +kernel) (by decide +kernel)⟩
theorem fw8_179 : FW RX8 179 8 40 .int := ⟨RX8, TX8, tyX8, rfl, inG8, by decide, tG_of (i := 757) (by decide +kernel) (by decide +kernel), tyX8_ok, nmX8, by decide +kernel, by decide +kernel⟩
theorem fl8_182 : FL RX8 182 8 29 := ⟨RX8, TX8, rfl, inG8, by decide, tG_of (i := 746) (by decide +kernel) (by decide +kernel)⟩
theorem fw8_182 : FW RX8 182 8 29 .int := ⟨RX8, TX8, tyX8, rfl, inG8, by decide, tG_of (i := 746) (by decide +kernel) (by decide +kernel), tyX8_ok, nmX8, by decide +kernel, by decide +kernel⟩
theorem fl8_237 : FL RX8 237 8 12 := ⟨RX8, TX8, rfl, inG8, by decide, tG_of (i := 729) (by decide +kernel) (by decide +kernel)⟩
theorem fw8_237 : FW RX8 237 8 12 .int := ⟨RX8, TX8, tyX8, rfl, inG8, by decide, tG_of (i := 729) (by decide +kernel) (by decide +kernel), tyX8_ok, nmX8, by decide +kernel, by decide +kernel⟩
theorem fl8_284 : FL RX8 284 8 36 := ⟨RX8, TX8, rfl, inG8, by decide, tG_of (i := 753) (by decide +kernel) (by decide +kernel)⟩
theorem fw8_284 : FW RX8 284 8 36 .int := ⟨RX8, TX8, tyX8, rfl, inG8, by decide, tG_of (i := 753) (by decide +kernel) (by decide +kernel), tyX8_ok, nmX8, by decide +kernel, by decide +kernel⟩
theorem kk7_80 : Cond.constant RX7 80 (-1000000002) ∈ tG := tG_of (i := 320) (by decide +kernel) (by decide +kernel)
theorem kk7_84 : Cond.constant RX7 84 (-1000000004) ∈ tG := tG_of (i := 321) (by decide +kernel) (by decide +kernel)
theorem kk7_162 : Cond.constant RX7 162 (-1000000001) ∈ tG := tG_of (i := 422) (by decide +kernel) (by decide +kernel)
theorem kk7_206 : Cond.constant RX7 206 (-1000000003) ∈ tG := tG_of (i := 473) (by decide +kernel) (by decide +kernel)
theorem kk7_247 : Cond.constant RX7 247 1000000 ∈ tG := tG_of (i := 643) (by decide +kernel) (by decide +kernel)
theorem kk7_278 : Cond.constant RX7 278 65536 ∈ tG := tG_of (i := 534) (by decide +kernel) (by decide +kernel)
theorem kk4_47 : Cond.constant RX4 47 1000000 ∈ tG := tG_of (i := 627) (by decide +kernel) (by decide +kernel)
theorem kk8_103 : Cond.constant RX8 103 (-1000000002) ∈ tG := tG_of (i := 862) (by decide +kernel) (by decide +kernel)
theorem kk8_107 : Cond.constant RX8 107 (-1000000004) ∈ tG := tG_of (i := 863) (by decide +kernel) (by decide +kernel)
theorem kk8_189 : Cond.constant RX8 189 (-1000000001) ∈ tG := tG_of (i := 922) (by decide +kernel) (by decide +kernel)
theorem kk8_224 : Cond.constant RX8 224 (-1000000003) ∈ tG := tG_of (i := 964) (by decide +kernel) (by decide +kernel)
theorem kk8_246 : Cond.constant RX8 246 65536 ∈ tG := tG_of (i := 1000) (by decide +kernel) (by decide +kernel)
theorem kk8_277 : Cond.constant RX8 277 1000000 ∈ tG := tG_of (i := 1072) (by decide +kernel) (by decide +kernel)
theorem kkJ6_265 : Cond.constant RJ6 265 1431655765 ∈ tG := tG_of (i := 509) (by decide +kernel) (by decide +kernel)
theorem kkJ6_266 : Cond.constant RJ6 266 858993459 ∈ tG := tG_of (i := 510) (by decide +kernel) (by decide +kernel)
theorem kkJ6_267 : Cond.constant RJ6 267 252645135 ∈ tG := tG_of (i := 511) (by decide +kernel) (by decide +kernel)
theorem kl7_272 : Cond.constantLong RX7 272 1103515245 ∈ tG := tG_of (i := 531) (by decide +kernel) (by decide +kernel)
theorem kl7_274 : Cond.constantLong RX7 274 12345 ∈ tG := tG_of (i := 532) (by decide +kernel) (by decide +kernel)
theorem kl7_276 : Cond.constantLong RX7 276 2147483647 ∈ tG := tG_of (i := 533) (by decide +kernel) (by decide +kernel)
theorem kl8_101 : Cond.constantLong RX8 101 255 ∈ tG := tG_of (i := 858) (by decide +kernel) (by decide +kernel)
theorem kl8_115 : Cond.constantLong RX8 115 48 ∈ tG := tG_of (i := 892) (by decide +kernel) (by decide +kernel)
theorem kl8_117 : Cond.constantLong RX8 117 57 ∈ tG := tG_of (i := 893) (by decide +kernel) (by decide +kernel)
theorem kl8_208 : Cond.constantLong RX8 208 9999 ∈ tG := tG_of (i := 927) (by decide +kernel) (by decide +kernel)
theorem kl8_222 : Cond.constantLong RX8 222 99 ∈ tG := tG_of (i := 963) (by decide +kernel) (by decide +kernel)
theorem kl8_235 : Cond.constantLong RX8 235 (-1) ∈ tG := tG_of (i := 988) (by decide +kernel) (by decide +kernel)
theorem kl8_240 : Cond.constantLong RX8 240 1103515245 ∈ tG := tG_of (i := 997) (by decide +kernel) (by decide +kernel)
theorem kl8_242 : Cond.constantLong RX8 242 12345 ∈ tG := tG_of (i := 998) (by decide +kernel) (by decide +kernel)
theorem kl8_244 : Cond.constantLong RX8 244 2147483648 ∈ tG := tG_of (i := 999) (by decide +kernel) (by decide +kernel)
theorem kl8_256 : Cond.constantLong RX8 256 60 ∈ tG := tG_of (i := 1021) (by decide +kernel) (by decide +kernel)
theorem kl8_273 : Cond.constantLong RX8 273 30 ∈ tG := tG_of (i := 1049) (by decide +kernel) (by decide +kernel)
theorem kl8_275 : Cond.constantLong RX8 275 999 ∈ tG := tG_of (i := 1054) (by decide +kernel) (by decide +kernel)
theorem kl8_296 : Cond.constantLong RX8 296 10 ∈ tG := tG_of (i := 1063) (by decide +kernel) (by decide +kernel)
theorem kl8_301 : Cond.constantLong RX8 301 2 ∈ tG := tG_of (i := 1097) (by decide +kernel) (by decide +kernel)
theorem ml7_85 : Cond.methodLink RX7 85 yX5_read ∈ tG := tG_of (i := 326) (by decide +kernel) (by decide +kernel)
theorem ml7_92 : Cond.methodLink RX7 92 yX1_begin ∈ tG := tG_of (i := 391) (by decide +kernel) (by decide +kernel)
theorem ml7_96 : Cond.methodLink RX7 96 yX2_clear ∈ tG := tG_of (i := 398) (by decide +kernel) (by decide +kernel)
theorem ml7_99 : Cond.methodLink RX7 99 yX3_clear ∈ tG := tG_of (i := 402) (by decide +kernel) (by decide +kernel)
theorem ml7_158 : Cond.methodLink RX7 158 yX6_has ∈ tG := tG_of (i := 418) (by decide +kernel) (by decide +kernel)
theorem ml7_175 : Cond.methodLink RX7 175 yX1_staysAway ∈ tG := tG_of (i := 423) (by decide +kernel) (by decide +kernel)
theorem ml7_181 : Cond.methodLink RX7 181 yX1_comers ∈ tG := tG_of (i := 431) (by decide +kernel) (by decide +kernel)
theorem ml7_185 : Cond.methodLink RX7 185 yX1_blessedOn ∈ tG := tG_of (i := 457) (by decide +kernel) (by decide +kernel)
theorem ml7_189 : Cond.methodLink RX7 189 yX7_refusalOfDays ∈ tG := tG_of (i := 469) (by decide +kernel) (by decide +kernel)
theorem ml7_192 : Cond.methodLink RX7 192 yX3_push ∈ tG := tG_of (i := 474) (by decide +kernel) (by decide +kernel)
theorem ml7_196 : Cond.methodLink RX7 196 yX1_live ∈ tG := tG_of (i := 486) (by decide +kernel) (by decide +kernel)
theorem ml7_203 : Cond.methodLink RX7 203 yX7_shiftByDraws ∈ tG := tG_of (i := 523) (by decide +kernel) (by decide +kernel)
theorem ml7_207 : Cond.methodLink RX7 207 yX3_pop ∈ tG := tG_of (i := 539) (by decide +kernel) (by decide +kernel)
theorem ml7_213 : Cond.methodLink RX7 213 yX1_goOnFrom ∈ tG := tG_of (i := 547) (by decide +kernel) (by decide +kernel)
theorem ml7_216 : Cond.methodLink RX7 216 yX6_all ∈ tG := tG_of (i := 556) (by decide +kernel) (by decide +kernel)
theorem ml7_220 : Cond.methodLink RX7 220 yX0_find ∈ tG := tG_of (i := 560) (by decide +kernel) (by decide +kernel)
theorem ml7_225 : Cond.methodLink RX7 225 yJ6_bitCount_0f7a4 ∈ tG := tG_of (i := 506) (by decide +kernel) (by decide +kernel)
theorem ml7_230 : Cond.methodLink RX7 230 yX7_isPeaceful ∈ tG := tG_of (i := 587) (by decide +kernel) (by decide +kernel)
theorem ml7_234 : Cond.methodLink RX7 234 yX1_comersByCalendar ∈ tG := tG_of (i := 595) (by decide +kernel) (by decide +kernel)
theorem ml7_237 : Cond.methodLink RX7 237 yX7_isLargeEnough ∈ tG := tG_of (i := 600) (by decide +kernel) (by decide +kernel)
theorem ml7_240 : Cond.methodLink RX7 240 yX4_make ∈ tG := tG_of (i := 608) (by decide +kernel) (by decide +kernel)
theorem ml7_248 : Cond.methodLink RX7 248 yX2_addSeen ∈ tG := tG_of (i := 648) (by decide +kernel) (by decide +kernel)
theorem ml7_251 : Cond.methodLink RX7 251 yX2_fitting ∈ tG := tG_of (i := 656) (by decide +kernel) (by decide +kernel)
theorem ml7_255 : Cond.methodLink RX7 255 yX7_dayToLookAt ∈ tG := tG_of (i := 669) (by decide +kernel) (by decide +kernel)
theorem ml7_259 : Cond.methodLink RX7 259 yX2_addEntry ∈ tG := tG_of (i := 679) (by decide +kernel) (by decide +kernel)
theorem ml7_262 : Cond.methodLink RX7 262 yX2_firstWrong ∈ tG := tG_of (i := 691) (by decide +kernel) (by decide +kernel)
theorem ml7_269 : Cond.methodLink RX7 269 yX1_copy ∈ tG := tG_of (i := 705) (by decide +kernel) (by decide +kernel)
theorem ml7_279 : Cond.methodLink RX7 279 yX7_draw ∈ tG := tG_of (i := 527) (by decide +kernel) (by decide +kernel)
theorem ml7_282 : Cond.methodLink RX7 282 yX6_periodOf ∈ tG := tG_of (i := 673) (by decide +kernel) (by decide +kernel)
theorem ml7_285 : Cond.methodLink RX7 285 yX1_outcomeWith ∈ tG := tG_of (i := 674) (by decide +kernel) (by decide +kernel)
theorem ml0_15 : Cond.methodLink RX0 15 yX0_comesOften ∈ tG := tG_of (i := 564) (by decide +kernel) (by decide +kernel)
theorem ml0_19 : Cond.methodLink RX0 19 yX0_canPassEachOther ∈ tG := tG_of (i := 568) (by decide +kernel) (by decide +kernel)
theorem ml0_22 : Cond.methodLink RX0 22 yX0_place ∈ tG := tG_of (i := 575) (by decide +kernel) (by decide +kernel)
theorem ml0_32 : Cond.methodLink RX0 32 yX6_periodOf ∈ tG := tG_of (i := 567) (by decide +kernel) (by decide +kernel)
theorem ml0_36 : Cond.methodLink RX0 36 yX0_commonDivisor ∈ tG := tG_of (i := 571) (by decide +kernel) (by decide +kernel)
theorem ml0_40 : Cond.methodLink RX0 40 yX0_meetsOneBefore ∈ tG := tG_of (i := 579) (by decide +kernel) (by decide +kernel)
theorem ml0_44 : Cond.methodLink RX0 44 Lib.Math.min.name ∈ tG := tG_of (i := 574) (by decide +kernel) (by decide +kernel)
theorem ml1_24 : Cond.methodLink RX1 24 yJ7_fill_53178 ∈ tG := tG_of (i := 131) (by decide +kernel) (by decide +kernel)
theorem ml1_35 : Cond.methodLink RX1 35 arraycopyName ∈ tG := tG_of (i := 395) (by decide +kernel) (by decide +kernel)
theorem ml1_73 : Cond.methodLink RX1 73 yX1_goOnFrom ∈ tG := tG_of (i := 482) (by decide +kernel) (by decide +kernel)
theorem ml1_80 : Cond.methodLink RX1 80 yX1_staysAway ∈ tG := tG_of (i := 439) (by decide +kernel) (by decide +kernel)
theorem ml1_84 : Cond.methodLink RX1 84 yX6_brings ∈ tG := tG_of (i := 440) (by decide +kernel) (by decide +kernel)
theorem ml1_88 : Cond.methodLink RX1 88 yX1_comersByCalendar ∈ tG := tG_of (i := 435) (by decide +kernel) (by decide +kernel)
theorem ml1_99 : Cond.methodLink RX1 99 yX1_comers ∈ tG := tG_of (i := 490) (by decide +kernel) (by decide +kernel)
theorem ml1_102 : Cond.methodLink RX1 102 yX6_feetOf ∈ tG := tG_of (i := 491) (by decide +kernel) (by decide +kernel)
theorem ml1_105 : Cond.methodLink RX1 105 yX1_firstThroughInn ∈ tG := tG_of (i := 495) (by decide +kernel) (by decide +kernel)
theorem ml1_109 : Cond.methodLink RX1 109 yX1_close ∈ tG := tG_of (i := 499) (by decide +kernel) (by decide +kernel)
theorem ml1_119 : Cond.methodLink RX1 119 yX1_isLatest ∈ tG := tG_of (i := 461) (by decide +kernel) (by decide +kernel)
theorem ml2_31 : Cond.methodLink RX2 31 yX6_periodOf ∈ tG := tG_of (i := 660) (by decide +kernel) (by decide +kernel)
theorem ml2_37 : Cond.methodLink RX2 37 yX2_fits ∈ tG := tG_of (i := 661) (by decide +kernel) (by decide +kernel)
theorem ml2_41 : Cond.methodLink RX2 41 yX1_outcomeWith ∈ tG := tG_of (i := 665) (by decide +kernel) (by decide +kernel)
theorem ml2_47 : Cond.methodLink RX2 47 yX1_isLatest ∈ tG := tG_of (i := 695) (by decide +kernel) (by decide +kernel)
theorem ml2_51 : Cond.methodLink RX2 51 yX1_blessedOn ∈ tG := tG_of (i := 696) (by decide +kernel) (by decide +kernel)
theorem ml3_25 : Cond.methodLink RX3 25 yX1_copy ∈ tG := tG_of (i := 478) (by decide +kernel) (by decide +kernel)
theorem ml4_19 : Cond.methodLink RX4 19 Lib.Math.min.name ∈ tG := tG_of (i := 612) (by decide +kernel) (by decide +kernel)
theorem ml4_31 : Cond.methodLink RX4 31 yX6_isFog ∈ tG := tG_of (i := 613) (by decide +kernel) (by decide +kernel)
theorem ml4_37 : Cond.methodLink RX4 37 yX4_choose ∈ tG := tG_of (i := 617) (by decide +kernel) (by decide +kernel)
theorem ml4_44 : Cond.methodLink RX4 44 yX4_freeOn ∈ tG := tG_of (i := 621) (by decide +kernel) (by decide +kernel)
theorem ml4_51 : Cond.methodLink RX4 51 yX4_leastFrom ∈ tG := tG_of (i := 628) (by decide +kernel) (by decide +kernel)
theorem ml4_54 : Cond.methodLink RX4 54 yX6_all ∈ tG := tG_of (i := 625) (by decide +kernel) (by decide +kernel)
theorem ml4_61 : Cond.methodLink RX4 61 Lib.Math.max.name ∈ tG := tG_of (i := 626) (by decide +kernel) (by decide +kernel)
theorem ml4_64 : Cond.methodLink RX4 64 yX4_nearestOf ∈ tG := tG_of (i := 632) (by decide +kernel) (by decide +kernel)
theorem ml4_68 : Cond.methodLink RX4 68 yX4_leastWith ∈ tG := tG_of (i := 635) (by decide +kernel) (by decide +kernel)
theorem ml5_15 : Cond.methodLink RX5 15 Lib.Math.min.name ∈ tG := tG_of (i := 330) (by decide +kernel) (by decide +kernel)
theorem ml5_31 : Cond.methodLink RX5 31 yX6_clear ∈ tG := tG_of (i := 333) (by decide +kernel) (by decide +kernel)
theorem ml5_36 : Cond.methodLink RX5 36 yX5_skipBlanks ∈ tG := tG_of (i := 340) (by decide +kernel) (by decide +kernel)
theorem ml5_39 : Cond.methodLink RX5 39 yX5_readClause ∈ tG := tG_of (i := 348) (by decide +kernel) (by decide +kernel)
theorem ml5_43 : Cond.methodLink RX5 43 yX5_letterHere ∈ tG := tG_of (i := 344) (by decide +kernel) (by decide +kernel)
theorem ml5_47 : Cond.methodLink RX5 47 yX5_isWord ∈ tG := tG_of (i := 352) (by decide +kernel) (by decide +kernel)
theorem ml5_55 : Cond.methodLink RX5 55 yX5_blame ∈ tG := tG_of (i := 355) (by decide +kernel) (by decide +kernel)
theorem ml5_59 : Cond.methodLink RX5 59 yX5_isTooMany ∈ tG := tG_of (i := 359) (by decide +kernel) (by decide +kernel)
theorem ml5_63 : Cond.methodLink RX5 63 yX5_readHermit ∈ tG := tG_of (i := 362) (by decide +kernel) (by decide +kernel)
theorem ml5_66 : Cond.methodLink RX5 66 yX5_readVillage ∈ tG := tG_of (i := 373) (by decide +kernel) (by decide +kernel)
theorem ml5_76 : Cond.methodLink RX5 76 yX5_readMarkedDay ∈ tG := tG_of (i := 377) (by decide +kernel) (by decide +kernel)
theorem ml5_86 : Cond.methodLink RX5 86 yX5_readEnd ∈ tG := tG_of (i := 387) (by decide +kernel) (by decide +kernel)
theorem ml5_92 : Cond.methodLink RX5 92 yX5_readNumber ∈ tG := tG_of (i := 366) (by decide +kernel) (by decide +kernel)
theorem ml5_117 : Cond.methodLink RX5 117 yX6_isMarked ∈ tG := tG_of (i := 381) (by decide +kernel) (by decide +kernel)
theorem ml5_124 : Cond.methodLink RX5 124 yX6_mark ∈ tG := tG_of (i := 384) (by decide +kernel) (by decide +kernel)
theorem ml5_128 : Cond.methodLink RX5 128 yX5_isFigure ∈ tG := tG_of (i := 370) (by decide +kernel) (by decide +kernel)
theorem ml6_54 : Cond.methodLink RX6 54 yJ7_fill_d0a16 ∈ tG := tG_of (i := 337) (by decide +kernel) (by decide +kernel)
theorem ml6_60 : Cond.methodLink RX6 60 Lib.Math.max.name ∈ tG := tG_of (i := 449) (by decide +kernel) (by decide +kernel)
theorem ml6_66 : Cond.methodLink RX6 66 yX6_isMarked ∈ tG := tG_of (i := 452) (by decide +kernel) (by decide +kernel)
theorem ml6_70 : Cond.methodLink RX6 70 yX6_has ∈ tG := tG_of (i := 444) (by decide +kernel) (by decide +kernel)
theorem ml6_74 : Cond.methodLink RX6 74 yX6_periodOf ∈ tG := tG_of (i := 445) (by decide +kernel) (by decide +kernel)
theorem ml8_97 : Cond.methodLink RX8 97 yX8_in ∈ tG := tG_of (i := 859) (by decide +kernel) (by decide +kernel)
theorem ml8_111 : Cond.methodLink RX8 111 yX8_here ∈ tG := tG_of (i := 868) (by decide +kernel) (by decide +kernel)
theorem ml8_119 : Cond.methodLink RX8 119 yX8_fails ∈ tG := tG_of (i := 876) (by decide +kernel) (by decide +kernel)
theorem ml8_129 : Cond.methodLink RX8 129 yX8_takeNumber ∈ tG := tG_of (i := 888) (by decide +kernel) (by decide +kernel)
theorem ml8_132 : Cond.methodLink RX8 132 yX8_into ∈ tG := tG_of (i := 884) (by decide +kernel) (by decide +kernel)
theorem ml8_145 : Cond.methodLink RX8 145 yX8_takeHermit ∈ tG := tG_of (i := 880) (by decide +kernel) (by decide +kernel)
theorem ml8_148 : Cond.methodLink RX8 148 yX8_takeVillage ∈ tG := tG_of (i := 894) (by decide +kernel) (by decide +kernel)
theorem ml8_151 : Cond.methodLink RX8 151 yX8_takeDay ∈ tG := tG_of (i := 898) (by decide +kernel) (by decide +kernel)
theorem ml8_170 : Cond.methodLink RX8 170 yX8_takeClause ∈ tG := tG_of (i := 872) (by decide +kernel) (by decide +kernel)
theorem ml8_173 : Cond.methodLink RX8 173 yX8_takeRead ∈ tG := tG_of (i := 902) (by decide +kernel) (by decide +kernel)
theorem ml8_185 : Cond.methodLink RX8 185 yX8_isVillage ∈ tG := tG_of (i := 918) (by decide +kernel) (by decide +kernel)
theorem ml8_190 : Cond.methodLink RX8 190 yX8_isFeast ∈ tG := tG_of (i := 943) (by decide +kernel) (by decide +kernel)
theorem ml8_193 : Cond.methodLink RX8 193 yX8_isFog ∈ tG := tG_of (i := 947) (by decide +kernel) (by decide +kernel)
theorem ml8_196 : Cond.methodLink RX8 196 yX8_has ∈ tG := tG_of (i := 936) (by decide +kernel) (by decide +kernel)
theorem ml8_200 : Cond.methodLink RX8 200 yX8_goesBy ∈ tG := tG_of (i := 939) (by decide +kernel) (by decide +kernel)
theorem ml8_204 : Cond.methodLink RX8 204 yX8_goers ∈ tG := tG_of (i := 932) (by decide +kernel) (by decide +kernel)
theorem ml8_210 : Cond.methodLink RX8 210 yX8_comers ∈ tG := tG_of (i := 928) (by decide +kernel) (by decide +kernel)
theorem ml8_213 : Cond.methodLink RX8 213 yX8_fromRow ∈ tG := tG_of (i := 973) (by decide +kernel) (by decide +kernel)
theorem ml8_216 : Cond.methodLink RX8 216 yX8_bits ∈ tG := tG_of (i := 977) (by decide +kernel) (by decide +kernel)
theorem ml8_219 : Cond.methodLink RX8 219 yX8_least ∈ tG := tG_of (i := 980) (by decide +kernel) (by decide +kernel)
theorem ml8_225 : Cond.methodLink RX8 225 yX8_daysRefused ∈ tG := tG_of (i := 959) (by decide +kernel) (by decide +kernel)
theorem ml8_228 : Cond.methodLink RX8 228 yX8_remember ∈ tG := tG_of (i := 965) (by decide +kernel) (by decide +kernel)
theorem ml8_231 : Cond.methodLink RX8 231 yX8_pass ∈ tG := tG_of (i := 969) (by decide +kernel) (by decide +kernel)
theorem ml8_247 : Cond.methodLink RX8 247 yX8_draw ∈ tG := tG_of (i := 993) (by decide +kernel) (by decide +kernel)
theorem ml8_250 : Cond.methodLink RX8 250 yX8_save ∈ tG := tG_of (i := 1009) (by decide +kernel) (by decide +kernel)
theorem ml8_253 : Cond.methodLink RX8 253 yX8_putBack ∈ tG := tG_of (i := 1013) (by decide +kernel) (by decide +kernel)
theorem ml8_258 : Cond.methodLink RX8 258 yX8_common ∈ tG := tG_of (i := 1042) (by decide +kernel) (by decide +kernel)
theorem ml8_261 : Cond.methodLink RX8 261 yX8_next ∈ tG := tG_of (i := 1030) (by decide +kernel) (by decide +kernel)
theorem ml8_264 : Cond.methodLink RX8 264 yX8_before ∈ tG := tG_of (i := 1034) (by decide +kernel) (by decide +kernel)
theorem ml8_267 : Cond.methodLink RX8 267 yX8_isFree ∈ tG := tG_of (i := 1038) (by decide +kernel) (by decide +kernel)
theorem ml8_270 : Cond.methodLink RX8 270 yX8_findCertain ∈ tG := tG_of (i := 1026) (by decide +kernel) (by decide +kernel)
theorem ml8_278 : Cond.methodLink RX8 278 yX8_mayGo ∈ tG := tG_of (i := 1073) (by decide +kernel) (by decide +kernel)
theorem ml8_281 : Cond.methodLink RX8 281 yX8_findLow ∈ tG := tG_of (i := 1068) (by decide +kernel) (by decide +kernel)
theorem ml8_287 : Cond.methodLink RX8 287 yX8_wasChosen ∈ tG := tG_of (i := 1077) (by decide +kernel) (by decide +kernel)
theorem ml8_290 : Cond.methodLink RX8 290 yX8_spent ∈ tG := tG_of (i := 1081) (by decide +kernel) (by decide +kernel)
theorem ml8_293 : Cond.methodLink RX8 293 yX8_latest ∈ tG := tG_of (i := 1085) (by decide +kernel) (by decide +kernel)
theorem ml8_298 : Cond.methodLink RX8 298 yX8_findFeet ∈ tG := tG_of (i := 1064) (by decide +kernel) (by decide +kernel)
theorem ml8_303 : Cond.methodLink RX8 303 yX8_howBy ∈ tG := tG_of (i := 1106) (by decide +kernel) (by decide +kernel)
theorem ml8_307 : Cond.methodLink RX8 307 yX8_offsetsOf ∈ tG := tG_of (i := 1102) (by decide +kernel) (by decide +kernel)
theorem ml8_310 : Cond.methodLink RX8 310 yX8_blessed ∈ tG := tG_of (i := 1122) (by decide +kernel) (by decide +kernel)
theorem ms6_bitCount_0f7a4 : MS yJ6_bitCount_0f7a4 cJ6_bitCount_0f7a4 1 (some .int) 1 := ⟨⟨tG_of (i := 508) (by decide +kernel) (by decide +kernel), tG_of (i := 13) (by decide +kernel) (by decide +kernel), by decide +kernel, by decide +kernel, by decide +kernel⟩, tG_of (i := 507) (by decide +kernel) (by decide +kernel)⟩
theorem ms7_fill_53178 : MS yJ7_fill_53178 cJ7_fill_53178 4 none 2 := ⟨⟨tG_of (i := 133) (by decide +kernel) (by decide +kernel), tG_of (i := 5) (by decide +kernel) (by decide +kernel), by decide +kernel, by decide +kernel, by decide +kernel⟩, tG_of (i := 132) (by decide +kernel) (by decide +kernel)⟩
theorem ms7_fill_d0a16 : MS yJ7_fill_d0a16 cJ7_fill_d0a16 5 none 2 := ⟨⟨tG_of (i := 339) (by decide +kernel) (by decide +kernel), tG_of (i := 5) (by decide +kernel) (by decide +kernel), by decide +kernel, by decide +kernel, by decide +kernel⟩, tG_of (i := 338) (by decide +kernel) (by decide +kernel)⟩
theorem ms0_canPassEachOther : MS yX0_canPassEachOther cX0_canPassEachOther 5 (some .boolean) 2 := ⟨⟨tG_of (i := 570) (by decide +kernel) (by decide +kernel), tG_of (i := 8) (by decide +kernel) (by decide +kernel), by decide +kernel, by decide +kernel, by decide +kernel⟩, tG_of (i := 569) (by decide +kernel) (by decide +kernel)⟩
theorem ms0_comesOften : MS yX0_comesOften cX0_comesOften 4 (some .boolean) 2 := ⟨⟨tG_of (i := 566) (by decide +kernel) (by decide +kernel), tG_of (i := 8) (by decide +kernel) (by decide +kernel), by decide +kernel, by decide +kernel, by decide +kernel⟩, tG_of (i := 565) (by decide +kernel) (by decide +kernel)⟩
theorem ms0_commonDivisor : MS yX0_commonDivisor cX0_commonDivisor 3 (some .int) 2 := ⟨⟨tG_of (i := 573) (by decide +kernel) (by decide +kernel), tG_of (i := 8) (by decide +kernel) (by decide +kernel), by decide +kernel, by decide +kernel, by decide +kernel⟩, tG_of (i := 572) (by decide +kernel) (by decide +kernel)⟩
theorem mv0_find : MV yX0_find cX0_find 3 (some .boolean) 2 0 := ⟨⟨tG_of (i := 563) (by decide +kernel) (by decide +kernel), tG_of (i := 8) (by decide +kernel) (by decide +kernel), by decide +kernel, by decide +kernel, by decide +kernel⟩, tG_of (i := 561) (by decide +kernel) (by decide +kernel), tG_of (i := 562) (by decide +kernel) (by decide +kernel), TX0, _, rfl⟩
theorem mv0_meetsOneBefore : MV yX0_meetsOneBefore cX0_meetsOneBefore 7 (some .boolean) 4 0 := ⟨⟨tG_of (i := 582) (by decide +kernel) (by decide +kernel), tG_of (i := 8) (by decide +kernel) (by decide +kernel), by decide +kernel, by decide +kernel, by decide +kernel⟩, tG_of (i := 581) (by decide +kernel) (by decide +kernel), tG_sel (i := 15) (by decide +kernel) (by decide +kernel), TX0, _, rfl⟩
theorem mv0_place : MV yX0_place cX0_place 5 (some .boolean) 3 0 := ⟨⟨tG_of (i := 578) (by decide +kernel) (by decide +kernel), tG_of (i := 8) (by decide +kernel) (by decide +kernel), by decide +kernel, by decide +kernel, by decide +kernel⟩, tG_of (i := 577) (by decide +kernel) (by decide +kernel), tG_sel (i := 14) (by decide +kernel) (by decide +kernel), TX0, _, rfl⟩
theorem mv1_begin : MV yX1_begin cX1_begin 2 none 1 1 := ⟨⟨tG_of (i := 394) (by decide +kernel) (by decide +kernel), tG_of (i := 4) (by decide +kernel) (by decide +kernel), by decide +kernel, by decide +kernel, by decide +kernel⟩, tG_of (i := 392) (by decide +kernel) (by decide +kernel), tG_of (i := 393) (by decide +kernel) (by decide +kernel), TX1, _, rfl⟩
theorem mv1_blessedOn : MV yX1_blessedOn cX1_blessedOn 3 (some .int) 1 1 := ⟨⟨tG_of (i := 460) (by decide +kernel) (by decide +kernel), tG_of (i := 4) (by decide +kernel) (by decide +kernel), by decide +kernel, by decide +kernel, by decide +kernel⟩, tG_of (i := 458) (by decide +kernel) (by decide +kernel), tG_of (i := 459) (by decide +kernel) (by decide +kernel), TX1, _, rfl⟩
theorem mv1_close : MV yX1_close cX1_close 4 none 2 1 := ⟨⟨tG_of (i := 502) (by decide +kernel) (by decide +kernel), tG_of (i := 4) (by decide +kernel) (by decide +kernel), by decide +kernel, by decide +kernel, by decide +kernel⟩, tG_of (i := 501) (by decide +kernel) (by decide +kernel), tG_sel (i := 11) (by decide +kernel) (by decide +kernel), TX1, _, rfl⟩
theorem mv1_comers : MV yX1_comers cX1_comers 6 (some .int) 2 1 := ⟨⟨tG_of (i := 434) (by decide +kernel) (by decide +kernel), tG_of (i := 4) (by decide +kernel) (by decide +kernel), by decide +kernel, by decide +kernel, by decide +kernel⟩, tG_of (i := 432) (by decide +kernel) (by decide +kernel), tG_of (i := 433) (by decide +kernel) (by decide +kernel), TX1, _, rfl⟩
theorem mv1_comersByCalendar : MV yX1_comersByCalendar cX1_comersByCalendar 5 (some .int) 2 1 := ⟨⟨tG_of (i := 438) (by decide +kernel) (by decide +kernel), tG_of (i := 4) (by decide +kernel) (by decide +kernel), by decide +kernel, by decide +kernel, by decide +kernel⟩, tG_of (i := 436) (by decide +kernel) (by decide +kernel), tG_of (i := 437) (by decide +kernel) (by decide +kernel), TX1, _, rfl⟩
theorem mv1_copy : MV yX1_copy cX1_copy 2 none 1 1 := ⟨⟨tG_of (i := 481) (by decide +kernel) (by decide +kernel), tG_of (i := 4) (by decide +kernel) (by decide +kernel), by decide +kernel, by decide +kernel, by decide +kernel⟩, tG_of (i := 479) (by decide +kernel) (by decide +kernel), tG_of (i := 480) (by decide +kernel) (by decide +kernel), TX1, _, rfl⟩
theorem mv1_firstThroughInn : MV yX1_firstThroughInn cX1_firstThroughInn 5 (some .int) 2 1 := ⟨⟨tG_of (i := 498) (by decide +kernel) (by decide +kernel), tG_of (i := 4) (by decide +kernel) (by decide +kernel), by decide +kernel, by decide +kernel, by decide +kernel⟩, tG_of (i := 497) (by decide +kernel) (by decide +kernel), tG_sel (i := 10) (by decide +kernel) (by decide +kernel), TX1, _, rfl⟩
theorem mv1_goOnFrom : MV yX1_goOnFrom cX1_goOnFrom 2 none 1 1 := ⟨⟨tG_of (i := 485) (by decide +kernel) (by decide +kernel), tG_of (i := 4) (by decide +kernel) (by decide +kernel), by decide +kernel, by decide +kernel, by decide +kernel⟩, tG_of (i := 483) (by decide +kernel) (by decide +kernel), tG_of (i := 484) (by decide +kernel) (by decide +kernel), TX1, _, rfl⟩
theorem mv1_isLatest : MV yX1_isLatest cX1_isLatest 2 (some .boolean) 1 1 := ⟨⟨tG_of (i := 464) (by decide +kernel) (by decide +kernel), tG_of (i := 4) (by decide +kernel) (by decide +kernel), by decide +kernel, by decide +kernel, by decide +kernel⟩, tG_of (i := 462) (by decide +kernel) (by decide +kernel), tG_of (i := 463) (by decide +kernel) (by decide +kernel), TX1, _, rfl⟩
theorem mv1_live : MV yX1_live cX1_live 5 none 2 1 := ⟨⟨tG_of (i := 489) (by decide +kernel) (by decide +kernel), tG_of (i := 4) (by decide +kernel) (by decide +kernel), by decide +kernel, by decide +kernel, by decide +kernel⟩, tG_of (i := 487) (by decide +kernel) (by decide +kernel), tG_of (i := 488) (by decide +kernel) (by decide +kernel), TX1, _, rfl⟩
theorem mv1_outcomeWith : MV yX1_outcomeWith cX1_outcomeWith 6 (some .int) 4 1 := ⟨⟨tG_of (i := 668) (by decide +kernel) (by decide +kernel), tG_of (i := 4) (by decide +kernel) (by decide +kernel), by decide +kernel, by decide +kernel, by decide +kernel⟩, tG_of (i := 666) (by decide +kernel) (by decide +kernel), tG_of (i := 667) (by decide +kernel) (by decide +kernel), TX1, _, rfl⟩
theorem mv1_staysAway : MV yX1_staysAway cX1_staysAway 2 (some .boolean) 1 1 := ⟨⟨tG_of (i := 426) (by decide +kernel) (by decide +kernel), tG_of (i := 4) (by decide +kernel) (by decide +kernel), by decide +kernel, by decide +kernel, by decide +kernel⟩, tG_of (i := 424) (by decide +kernel) (by decide +kernel), tG_of (i := 425) (by decide +kernel) (by decide +kernel), TX1, _, rfl⟩
theorem mv2_addEntry : MV yX2_addEntry cX2_addEntry 3 (some .boolean) 2 2 := ⟨⟨tG_of (i := 682) (by decide +kernel) (by decide +kernel), tG_of (i := 7) (by decide +kernel) (by decide +kernel), by decide +kernel, by decide +kernel, by decide +kernel⟩, tG_of (i := 680) (by decide +kernel) (by decide +kernel), tG_of (i := 681) (by decide +kernel) (by decide +kernel), TX2, _, rfl⟩
theorem mv2_addSeen : MV yX2_addSeen cX2_addSeen 3 (some .boolean) 2 2 := ⟨⟨tG_of (i := 651) (by decide +kernel) (by decide +kernel), tG_of (i := 7) (by decide +kernel) (by decide +kernel), by decide +kernel, by decide +kernel, by decide +kernel⟩, tG_of (i := 649) (by decide +kernel) (by decide +kernel), tG_of (i := 650) (by decide +kernel) (by decide +kernel), TX2, _, rfl⟩
theorem mv2_clear : MV yX2_clear cX2_clear 1 none 0 2 := ⟨⟨tG_of (i := 401) (by decide +kernel) (by decide +kernel), tG_of (i := 7) (by decide +kernel) (by decide +kernel), by decide +kernel, by decide +kernel, by decide +kernel⟩, tG_of (i := 399) (by decide +kernel) (by decide +kernel), tG_of (i := 400) (by decide +kernel) (by decide +kernel), TX2, _, rfl⟩
theorem mv2_firstWrong : MV yX2_firstWrong cX2_firstWrong 4 (some .int) 1 2 := ⟨⟨tG_of (i := 694) (by decide +kernel) (by decide +kernel), tG_of (i := 7) (by decide +kernel) (by decide +kernel), by decide +kernel, by decide +kernel, by decide +kernel⟩, tG_of (i := 692) (by decide +kernel) (by decide +kernel), tG_of (i := 693) (by decide +kernel) (by decide +kernel), TX2, _, rfl⟩
theorem mv2_fits : MV yX2_fits cX2_fits 6 (some .boolean) 4 2 := ⟨⟨tG_of (i := 664) (by decide +kernel) (by decide +kernel), tG_of (i := 7) (by decide +kernel) (by decide +kernel), by decide +kernel, by decide +kernel, by decide +kernel⟩, tG_of (i := 663) (by decide +kernel) (by decide +kernel), tG_sel (i := 22) (by decide +kernel) (by decide +kernel), TX2, _, rfl⟩
theorem mv2_fitting : MV yX2_fitting cX2_fitting 6 (some .int) 3 2 := ⟨⟨tG_of (i := 659) (by decide +kernel) (by decide +kernel), tG_of (i := 7) (by decide +kernel) (by decide +kernel), by decide +kernel, by decide +kernel, by decide +kernel⟩, tG_of (i := 657) (by decide +kernel) (by decide +kernel), tG_of (i := 658) (by decide +kernel) (by decide +kernel), TX2, _, rfl⟩
theorem mv3_clear : MV yX3_clear cX3_clear 1 none 0 3 := ⟨⟨tG_of (i := 405) (by decide +kernel) (by decide +kernel), tG_of (i := 6) (by decide +kernel) (by decide +kernel), by decide +kernel, by decide +kernel, by decide +kernel⟩, tG_of (i := 403) (by decide +kernel) (by decide +kernel), tG_of (i := 404) (by decide +kernel) (by decide +kernel), TX3, _, rfl⟩
theorem mv3_pop : MV yX3_pop cX3_pop 4 none 1 3 := ⟨⟨tG_of (i := 542) (by decide +kernel) (by decide +kernel), tG_of (i := 6) (by decide +kernel) (by decide +kernel), by decide +kernel, by decide +kernel, by decide +kernel⟩, tG_of (i := 540) (by decide +kernel) (by decide +kernel), tG_of (i := 541) (by decide +kernel) (by decide +kernel), TX3, _, rfl⟩
theorem mv3_push : MV yX3_push cX3_push 3 none 1 3 := ⟨⟨tG_of (i := 477) (by decide +kernel) (by decide +kernel), tG_of (i := 6) (by decide +kernel) (by decide +kernel), by decide +kernel, by decide +kernel, by decide +kernel⟩, tG_of (i := 475) (by decide +kernel) (by decide +kernel), tG_of (i := 476) (by decide +kernel) (by decide +kernel), TX3, _, rfl⟩
theorem mv4_choose : MV yX4_choose cX4_choose 8 (some .int) 2 4 := ⟨⟨tG_of (i := 620) (by decide +kernel) (by decide +kernel), tG_of (i := 9) (by decide +kernel) (by decide +kernel), by decide +kernel, by decide +kernel, by decide +kernel⟩, tG_of (i := 619) (by decide +kernel) (by decide +kernel), tG_sel (i := 18) (by decide +kernel) (by decide +kernel), TX4, _, rfl⟩
theorem mv4_freeOn : MV yX4_freeOn cX4_freeOn 6 (some .int) 2 4 := ⟨⟨tG_of (i := 624) (by decide +kernel) (by decide +kernel), tG_of (i := 9) (by decide +kernel) (by decide +kernel), by decide +kernel, by decide +kernel, by decide +kernel⟩, tG_of (i := 623) (by decide +kernel) (by decide +kernel), tG_sel (i := 19) (by decide +kernel) (by decide +kernel), TX4, _, rfl⟩
theorem mv4_leastFrom : MV yX4_leastFrom cX4_leastFrom 7 (some .int) 2 4 := ⟨⟨tG_of (i := 631) (by decide +kernel) (by decide +kernel), tG_of (i := 9) (by decide +kernel) (by decide +kernel), by decide +kernel, by decide +kernel, by decide +kernel⟩, tG_of (i := 630) (by decide +kernel) (by decide +kernel), tG_sel (i := 20) (by decide +kernel) (by decide +kernel), TX4, _, rfl⟩
theorem mv4_leastWith : MV yX4_leastWith cX4_leastWith 4 (some .int) 3 4 := ⟨⟨tG_of (i := 638) (by decide +kernel) (by decide +kernel), tG_of (i := 9) (by decide +kernel) (by decide +kernel), by decide +kernel, by decide +kernel, by decide +kernel⟩, tG_of (i := 637) (by decide +kernel) (by decide +kernel), tG_sel (i := 21) (by decide +kernel) (by decide +kernel), TX4, _, rfl⟩
theorem mv4_make : MV yX4_make cX4_make 7 (some .int) 3 4 := ⟨⟨tG_of (i := 611) (by decide +kernel) (by decide +kernel), tG_of (i := 9) (by decide +kernel) (by decide +kernel), by decide +kernel, by decide +kernel, by decide +kernel⟩, tG_of (i := 609) (by decide +kernel) (by decide +kernel), tG_of (i := 610) (by decide +kernel) (by decide +kernel), TX4, _, rfl⟩
theorem ms4_nearestOf : MS yX4_nearestOf cX4_nearestOf 5 (some .int) 3 := ⟨⟨tG_of (i := 634) (by decide +kernel) (by decide +kernel), tG_of (i := 9) (by decide +kernel) (by decide +kernel), by decide +kernel, by decide +kernel, by decide +kernel⟩, tG_of (i := 633) (by decide +kernel) (by decide +kernel)⟩
theorem mv5_blame : MV yX5_blame cX5_blame 3 none 2 5 := ⟨⟨tG_of (i := 358) (by decide +kernel) (by decide +kernel), tG_of (i := 2) (by decide +kernel) (by decide +kernel), by decide +kernel, by decide +kernel, by decide +kernel⟩, tG_of (i := 357) (by decide +kernel) (by decide +kernel), tG_sel (i := 3) (by decide +kernel) (by decide +kernel), TX5, _, rfl⟩
theorem ms5_isFigure : MS yX5_isFigure cX5_isFigure 1 (some .boolean) 1 := ⟨⟨tG_of (i := 372) (by decide +kernel) (by decide +kernel), tG_of (i := 2) (by decide +kernel) (by decide +kernel), by decide +kernel, by decide +kernel, by decide +kernel⟩, tG_of (i := 371) (by decide +kernel) (by decide +kernel)⟩
theorem ms5_isTooMany : MS yX5_isTooMany cX5_isTooMany 2 (some .boolean) 2 := ⟨⟨tG_of (i := 361) (by decide +kernel) (by decide +kernel), tG_of (i := 2) (by decide +kernel) (by decide +kernel), by decide +kernel, by decide +kernel, by decide +kernel⟩, tG_of (i := 360) (by decide +kernel) (by decide +kernel)⟩
theorem ms5_isWord : MS yX5_isWord cX5_isWord 1 (some .boolean) 1 := ⟨⟨tG_of (i := 354) (by decide +kernel) (by decide +kernel), tG_of (i := 2) (by decide +kernel) (by decide +kernel), by decide +kernel, by decide +kernel, by decide +kernel⟩, tG_of (i := 353) (by decide +kernel) (by decide +kernel)⟩
theorem mv5_letterHere : MV yX5_letterHere cX5_letterHere 1 (some .char) 0 5 := ⟨⟨tG_of (i := 347) (by decide +kernel) (by decide +kernel), tG_of (i := 2) (by decide +kernel) (by decide +kernel), by decide +kernel, by decide +kernel, by decide +kernel⟩, tG_of (i := 346) (by decide +kernel) (by decide +kernel), tG_sel (i := 1) (by decide +kernel) (by decide +kernel), TX5, _, rfl⟩
theorem mv5_read : MV yX5_read cX5_read 5 (some .int) 3 5 := ⟨⟨tG_of (i := 329) (by decide +kernel) (by decide +kernel), tG_of (i := 2) (by decide +kernel) (by decide +kernel), by decide +kernel, by decide +kernel, by decide +kernel⟩, tG_of (i := 327) (by decide +kernel) (by decide +kernel), tG_of (i := 328) (by decide +kernel) (by decide +kernel), TX5, _, rfl⟩
theorem mv5_readClause : MV yX5_readClause cX5_readClause 3 none 1 5 := ⟨⟨tG_of (i := 351) (by decide +kernel) (by decide +kernel), tG_of (i := 2) (by decide +kernel) (by decide +kernel), by decide +kernel, by decide +kernel, by decide +kernel⟩, tG_of (i := 350) (by decide +kernel) (by decide +kernel), tG_sel (i := 2) (by decide +kernel) (by decide +kernel), TX5, _, rfl⟩
theorem mv5_readEnd : MV yX5_readEnd cX5_readEnd 1 none 0 5 := ⟨⟨tG_of (i := 390) (by decide +kernel) (by decide +kernel), tG_of (i := 2) (by decide +kernel) (by decide +kernel), by decide +kernel, by decide +kernel, by decide +kernel⟩, tG_of (i := 389) (by decide +kernel) (by decide +kernel), tG_sel (i := 8) (by decide +kernel) (by decide +kernel), TX5, _, rfl⟩
theorem mv5_readHermit : MV yX5_readHermit cX5_readHermit 2 none 1 5 := ⟨⟨tG_of (i := 365) (by decide +kernel) (by decide +kernel), tG_of (i := 2) (by decide +kernel) (by decide +kernel), by decide +kernel, by decide +kernel, by decide +kernel⟩, tG_of (i := 364) (by decide +kernel) (by decide +kernel), tG_sel (i := 4) (by decide +kernel) (by decide +kernel), TX5, _, rfl⟩
theorem mv5_readMarkedDay : MV yX5_readMarkedDay cX5_readMarkedDay 3 (some .int) 1 5 := ⟨⟨tG_of (i := 380) (by decide +kernel) (by decide +kernel), tG_of (i := 2) (by decide +kernel) (by decide +kernel), by decide +kernel, by decide +kernel, by decide +kernel⟩, tG_of (i := 379) (by decide +kernel) (by decide +kernel), tG_sel (i := 7) (by decide +kernel) (by decide +kernel), TX5, _, rfl⟩
theorem mv5_readNumber : MV yX5_readNumber cX5_readNumber 5 (some .int) 2 5 := ⟨⟨tG_of (i := 369) (by decide +kernel) (by decide +kernel), tG_of (i := 2) (by decide +kernel) (by decide +kernel), by decide +kernel, by decide +kernel, by decide +kernel⟩, tG_of (i := 368) (by decide +kernel) (by decide +kernel), tG_sel (i := 5) (by decide +kernel) (by decide +kernel), TX5, _, rfl⟩
theorem mv5_readVillage : MV yX5_readVillage cX5_readVillage 3 none 1 5 := ⟨⟨tG_of (i := 376) (by decide +kernel) (by decide +kernel), tG_of (i := 2) (by decide +kernel) (by decide +kernel), by decide +kernel, by decide +kernel, by decide +kernel⟩, tG_of (i := 375) (by decide +kernel) (by decide +kernel), tG_sel (i := 6) (by decide +kernel) (by decide +kernel), TX5, _, rfl⟩
theorem mv5_skipBlanks : MV yX5_skipBlanks cX5_skipBlanks 2 none 0 5 := ⟨⟨tG_of (i := 343) (by decide +kernel) (by decide +kernel), tG_of (i := 2) (by decide +kernel) (by decide +kernel), by decide +kernel, by decide +kernel, by decide +kernel⟩, tG_of (i := 342) (by decide +kernel) (by decide +kernel), tG_sel (i := 0) (by decide +kernel) (by decide +kernel), TX5, _, rfl⟩
theorem mv6_all : MV yX6_all cX6_all 1 (some .int) 0 6 := ⟨⟨tG_of (i := 559) (by decide +kernel) (by decide +kernel), tG_of (i := 3) (by decide +kernel) (by decide +kernel), by decide +kernel, by decide +kernel, by decide +kernel⟩, tG_of (i := 557) (by decide +kernel) (by decide +kernel), tG_of (i := 558) (by decide +kernel) (by decide +kernel), TX6, _, rfl⟩
theorem mv6_brings : MV yX6_brings cX6_brings 4 (some .boolean) 3 6 := ⟨⟨tG_of (i := 443) (by decide +kernel) (by decide +kernel), tG_of (i := 3) (by decide +kernel) (by decide +kernel), by decide +kernel, by decide +kernel, by decide +kernel⟩, tG_of (i := 441) (by decide +kernel) (by decide +kernel), tG_of (i := 442) (by decide +kernel) (by decide +kernel), TX6, _, rfl⟩
theorem mv6_clear : MV yX6_clear cX6_clear 1 none 0 6 := ⟨⟨tG_of (i := 336) (by decide +kernel) (by decide +kernel), tG_of (i := 3) (by decide +kernel) (by decide +kernel), by decide +kernel, by decide +kernel, by decide +kernel⟩, tG_of (i := 334) (by decide +kernel) (by decide +kernel), tG_of (i := 335) (by decide +kernel) (by decide +kernel), TX6, _, rfl⟩
theorem mv6_feetOf : MV yX6_feetOf cX6_feetOf 4 (some .int) 1 6 := ⟨⟨tG_of (i := 494) (by decide +kernel) (by decide +kernel), tG_of (i := 3) (by decide +kernel) (by decide +kernel), by decide +kernel, by decide +kernel, by decide +kernel⟩, tG_of (i := 492) (by decide +kernel) (by decide +kernel), tG_of (i := 493) (by decide +kernel) (by decide +kernel), TX6, _, rfl⟩
theorem mv6_has : MV yX6_has cX6_has 2 (some .boolean) 1 6 := ⟨⟨tG_of (i := 421) (by decide +kernel) (by decide +kernel), tG_of (i := 3) (by decide +kernel) (by decide +kernel), by decide +kernel, by decide +kernel, by decide +kernel⟩, tG_of (i := 419) (by decide +kernel) (by decide +kernel), tG_of (i := 420) (by decide +kernel) (by decide +kernel), TX6, _, rfl⟩
theorem mv6_isFog : MV yX6_isFog cX6_isFog 2 (some .boolean) 1 6 := ⟨⟨tG_of (i := 616) (by decide +kernel) (by decide +kernel), tG_of (i := 3) (by decide +kernel) (by decide +kernel), by decide +kernel, by decide +kernel, by decide +kernel⟩, tG_of (i := 614) (by decide +kernel) (by decide +kernel), tG_of (i := 615) (by decide +kernel) (by decide +kernel), TX6, _, rfl⟩
theorem ms6_isMarked : MS yX6_isMarked cX6_isMarked 3 (some .boolean) 2 := ⟨⟨tG_of (i := 383) (by decide +kernel) (by decide +kernel), tG_of (i := 3) (by decide +kernel) (by decide +kernel), by decide +kernel, by decide +kernel, by decide +kernel⟩, tG_of (i := 382) (by decide +kernel) (by decide +kernel)⟩
theorem ms6_mark : MS yX6_mark cX6_mark 3 none 2 := ⟨⟨tG_of (i := 386) (by decide +kernel) (by decide +kernel), tG_of (i := 3) (by decide +kernel) (by decide +kernel), by decide +kernel, by decide +kernel, by decide +kernel⟩, tG_of (i := 385) (by decide +kernel) (by decide +kernel)⟩
theorem mv6_periodOf : MV yX6_periodOf cX6_periodOf 2 (some .int) 1 6 := ⟨⟨tG_of (i := 448) (by decide +kernel) (by decide +kernel), tG_of (i := 3) (by decide +kernel) (by decide +kernel), by decide +kernel, by decide +kernel, by decide +kernel⟩, tG_of (i := 446) (by decide +kernel) (by decide +kernel), tG_of (i := 447) (by decide +kernel) (by decide +kernel), TX6, _, rfl⟩
theorem mv7_dayToLookAt : MV yX7_dayToLookAt cX7_dayToLookAt 6 (some .int) 2 7 := ⟨⟨tG_of (i := 672) (by decide +kernel) (by decide +kernel), tG_of (i := 1) (by decide +kernel) (by decide +kernel), by decide +kernel, by decide +kernel, by decide +kernel⟩, tG_of (i := 671) (by decide +kernel) (by decide +kernel), tG_sel (i := 23) (by decide +kernel) (by decide +kernel), TX7, _, rfl⟩
theorem mv7_draw : MV yX7_draw cX7_draw 2 (some .int) 1 7 := ⟨⟨tG_of (i := 530) (by decide +kernel) (by decide +kernel), tG_of (i := 1) (by decide +kernel) (by decide +kernel), by decide +kernel, by decide +kernel, by decide +kernel⟩, tG_of (i := 529) (by decide +kernel) (by decide +kernel), tG_sel (i := 13) (by decide +kernel) (by decide +kernel), TX7, _, rfl⟩
theorem ms7_firstOf : MS yX7_firstOf cX7_firstOf 2 (some .int) 1 := ⟨⟨tG_of (i := 514) (by decide +kernel) (by decide +kernel), tG_of (i := 1) (by decide +kernel) (by decide +kernel), by decide +kernel, by decide +kernel, by decide +kernel⟩, tG_of (i := 513) (by decide +kernel) (by decide +kernel)⟩
theorem mv7_isLargeEnough : MV yX7_isLargeEnough cX7_isLargeEnough 4 (some .boolean) 2 7 := ⟨⟨tG_of (i := 603) (by decide +kernel) (by decide +kernel), tG_of (i := 1) (by decide +kernel) (by decide +kernel), by decide +kernel, by decide +kernel, by decide +kernel⟩, tG_of (i := 602) (by decide +kernel) (by decide +kernel), tG_sel (i := 17) (by decide +kernel) (by decide +kernel), TX7, _, rfl⟩
theorem mv7_isPeaceful : MV yX7_isPeaceful cX7_isPeaceful 4 (some .boolean) 2 7 := ⟨⟨tG_of (i := 590) (by decide +kernel) (by decide +kernel), tG_of (i := 1) (by decide +kernel) (by decide +kernel), by decide +kernel, by decide +kernel, by decide +kernel⟩, tG_of (i := 589) (by decide +kernel) (by decide +kernel), tG_sel (i := 16) (by decide +kernel) (by decide +kernel), TX7, _, rfl⟩
theorem ms7_outcomeOf : MS yX7_outcomeOf cX7_outcomeOf 2 (some .int) 1 := ⟨⟨tG_of (i := 505) (by decide +kernel) (by decide +kernel), tG_of (i := 1) (by decide +kernel) (by decide +kernel), by decide +kernel, by decide +kernel, by decide +kernel⟩, tG_of (i := 504) (by decide +kernel) (by decide +kernel)⟩
theorem mv7_refusalOfDays : MV yX7_refusalOfDays cX7_refusalOfDays 2 (some .int) 1 7 := ⟨⟨tG_of (i := 472) (by decide +kernel) (by decide +kernel), tG_of (i := 1) (by decide +kernel) (by decide +kernel), by decide +kernel, by decide +kernel, by decide +kernel⟩, tG_of (i := 471) (by decide +kernel) (by decide +kernel), tG_sel (i := 9) (by decide +kernel) (by decide +kernel), TX7, _, rfl⟩
theorem mv7_shiftByDraws : MV yX7_shiftByDraws cX7_shiftByDraws 2 none 0 7 := ⟨⟨tG_of (i := 526) (by decide +kernel) (by decide +kernel), tG_of (i := 1) (by decide +kernel) (by decide +kernel), by decide +kernel, by decide +kernel, by decide +kernel⟩, tG_of (i := 525) (by decide +kernel) (by decide +kernel), tG_sel (i := 12) (by decide +kernel) (by decide +kernel), TX7, _, rfl⟩
theorem mv8_before : MV yX8_before cX8_before 4 (some .int) 2 8 := ⟨⟨tG_of (i := 1037) (by decide +kernel) (by decide +kernel), tG_of (i := 10) (by decide +kernel) (by decide +kernel), by decide +kernel, by decide +kernel, by decide +kernel⟩, tG_of (i := 1036) (by decide +kernel) (by decide +kernel), tG_sel (i := 49) (by decide +kernel) (by decide +kernel), TX8, _, rfl⟩
theorem ms8_bits : MS yX8_bits cX8_bits 3 (some .int) 1 := ⟨⟨tG_of (i := 979) (by decide +kernel) (by decide +kernel), tG_of (i := 10) (by decide +kernel) (by decide +kernel), by decide +kernel, by decide +kernel, by decide +kernel⟩, tG_of (i := 978) (by decide +kernel) (by decide +kernel)⟩
theorem mv8_blessed : MV yX8_blessed cX8_blessed 2 (some .int) 1 8 := ⟨⟨tG_of (i := 954) (by decide +kernel) (by decide +kernel), tG_of (i := 10) (by decide +kernel) (by decide +kernel), by decide +kernel, by decide +kernel, by decide +kernel⟩, tG_of (i := 952) (by decide +kernel) (by decide +kernel), tG_of (i := 953) (by decide +kernel) (by decide +kernel), TX8, _, rfl⟩
theorem mv8_comers : MV yX8_comers cX8_comers 5 (some .int) 1 8 := ⟨⟨tG_of (i := 931) (by decide +kernel) (by decide +kernel), tG_of (i := 10) (by decide +kernel) (by decide +kernel), by decide +kernel, by decide +kernel, by decide +kernel⟩, tG_of (i := 930) (by decide +kernel) (by decide +kernel), tG_sel (i := 34) (by decide +kernel) (by decide +kernel), TX8, _, rfl⟩
theorem ms8_common : MS yX8_common cX8_common 5 (some .int) 2 := ⟨⟨tG_of (i := 1044) (by decide +kernel) (by decide +kernel), tG_of (i := 10) (by decide +kernel) (by decide +kernel), by decide +kernel, by decide +kernel, by decide +kernel⟩, tG_of (i := 1043) (by decide +kernel) (by decide +kernel)⟩
theorem mv8_daysRefused : MV yX8_daysRefused cX8_daysRefused 2 (some .int) 1 8 := ⟨⟨tG_of (i := 962) (by decide +kernel) (by decide +kernel), tG_of (i := 10) (by decide +kernel) (by decide +kernel), by decide +kernel, by decide +kernel, by decide +kernel⟩, tG_of (i := 961) (by decide +kernel) (by decide +kernel), tG_sel (i := 39) (by decide +kernel) (by decide +kernel), TX8, _, rfl⟩
theorem mv8_draw : MV yX8_draw cX8_draw 2 (some .int) 1 8 := ⟨⟨tG_of (i := 996) (by decide +kernel) (by decide +kernel), tG_of (i := 10) (by decide +kernel) (by decide +kernel), by decide +kernel, by decide +kernel, by decide +kernel⟩, tG_of (i := 995) (by decide +kernel) (by decide +kernel), tG_sel (i := 44) (by decide +kernel) (by decide +kernel), TX8, _, rfl⟩
theorem mv8_fails : MV yX8_fails cX8_fails 3 (some .int) 2 8 := ⟨⟨tG_of (i := 879) (by decide +kernel) (by decide +kernel), tG_of (i := 10) (by decide +kernel) (by decide +kernel), by decide +kernel, by decide +kernel, by decide +kernel⟩, tG_of (i := 878) (by decide +kernel) (by decide +kernel), tG_sel (i := 26) (by decide +kernel) (by decide +kernel), TX8, _, rfl⟩
theorem mv8_findCertain : MV yX8_findCertain cX8_findCertain 4 (some .boolean) 1 8 := ⟨⟨tG_of (i := 1029) (by decide +kernel) (by decide +kernel), tG_of (i := 10) (by decide +kernel) (by decide +kernel), by decide +kernel, by decide +kernel, by decide +kernel⟩, tG_of (i := 1028) (by decide +kernel) (by decide +kernel), tG_sel (i := 47) (by decide +kernel) (by decide +kernel), TX8, _, rfl⟩
theorem mv8_findFeet : MV yX8_findFeet cX8_findFeet 5 none 1 8 := ⟨⟨tG_of (i := 1067) (by decide +kernel) (by decide +kernel), tG_of (i := 10) (by decide +kernel) (by decide +kernel), by decide +kernel, by decide +kernel, by decide +kernel⟩, tG_of (i := 1066) (by decide +kernel) (by decide +kernel), tG_sel (i := 51) (by decide +kernel) (by decide +kernel), TX8, _, rfl⟩
theorem mv8_findLow : MV yX8_findLow cX8_findLow 8 none 1 8 := ⟨⟨tG_of (i := 1071) (by decide +kernel) (by decide +kernel), tG_of (i := 10) (by decide +kernel) (by decide +kernel), by decide +kernel, by decide +kernel, by decide +kernel⟩, tG_of (i := 1070) (by decide +kernel) (by decide +kernel), tG_sel (i := 52) (by decide +kernel) (by decide +kernel), TX8, _, rfl⟩
theorem mv8_fromRow : MV yX8_fromRow cX8_fromRow 5 (some .int) 2 8 := ⟨⟨tG_of (i := 976) (by decide +kernel) (by decide +kernel), tG_of (i := 10) (by decide +kernel) (by decide +kernel), by decide +kernel, by decide +kernel, by decide +kernel⟩, tG_of (i := 975) (by decide +kernel) (by decide +kernel), tG_sel (i := 42) (by decide +kernel) (by decide +kernel), TX8, _, rfl⟩
theorem mv8_goers : MV yX8_goers cX8_goers 4 (some .int) 1 8 := ⟨⟨tG_of (i := 935) (by decide +kernel) (by decide +kernel), tG_of (i := 10) (by decide +kernel) (by decide +kernel), by decide +kernel, by decide +kernel, by decide +kernel⟩, tG_of (i := 934) (by decide +kernel) (by decide +kernel), tG_sel (i := 35) (by decide +kernel) (by decide +kernel), TX8, _, rfl⟩
theorem mv8_goesBy : MV yX8_goesBy cX8_goesBy 5 (some .boolean) 3 8 := ⟨⟨tG_of (i := 942) (by decide +kernel) (by decide +kernel), tG_of (i := 10) (by decide +kernel) (by decide +kernel), by decide +kernel, by decide +kernel, by decide +kernel⟩, tG_of (i := 941) (by decide +kernel) (by decide +kernel), tG_sel (i := 36) (by decide +kernel) (by decide +kernel), TX8, _, rfl⟩
theorem ms8_has : MS yX8_has cX8_has 2 (some .boolean) 2 := ⟨⟨tG_of (i := 938) (by decide +kernel) (by decide +kernel), tG_of (i := 10) (by decide +kernel) (by decide +kernel), by decide +kernel, by decide +kernel, by decide +kernel⟩, tG_of (i := 937) (by decide +kernel) (by decide +kernel)⟩
theorem mv8_here : MV yX8_here cX8_here 1 (some .int) 0 8 := ⟨⟨tG_of (i := 871) (by decide +kernel) (by decide +kernel), tG_of (i := 10) (by decide +kernel) (by decide +kernel), by decide +kernel, by decide +kernel, by decide +kernel⟩, tG_of (i := 870) (by decide +kernel) (by decide +kernel), tG_sel (i := 24) (by decide +kernel) (by decide +kernel), TX8, _, rfl⟩
theorem mv8_howBy : MV yX8_howBy cX8_howBy 5 (some .int) 3 8 := ⟨⟨tG_of (i := 1109) (by decide +kernel) (by decide +kernel), tG_of (i := 10) (by decide +kernel) (by decide +kernel), by decide +kernel, by decide +kernel, by decide +kernel⟩, tG_of (i := 1108) (by decide +kernel) (by decide +kernel), tG_sel (i := 58) (by decide +kernel) (by decide +kernel), TX8, _, rfl⟩
theorem ms8_in : MS yX8_in cX8_in 6 (some .boolean) 3 := ⟨⟨tG_of (i := 861) (by decide +kernel) (by decide +kernel), tG_of (i := 10) (by decide +kernel) (by decide +kernel), by decide +kernel, by decide +kernel, by decide +kernel⟩, tG_of (i := 860) (by decide +kernel) (by decide +kernel)⟩
theorem mv8_into : MV yX8_into cX8_into 6 (some .int) 4 8 := ⟨⟨tG_of (i := 887) (by decide +kernel) (by decide +kernel), tG_of (i := 10) (by decide +kernel) (by decide +kernel), by decide +kernel, by decide +kernel, by decide +kernel⟩, tG_of (i := 886) (by decide +kernel) (by decide +kernel), tG_sel (i := 28) (by decide +kernel) (by decide +kernel), TX8, _, rfl⟩
theorem mv8_isFeast : MV yX8_isFeast cX8_isFeast 4 (some .boolean) 1 8 := ⟨⟨tG_of (i := 946) (by decide +kernel) (by decide +kernel), tG_of (i := 10) (by decide +kernel) (by decide +kernel), by decide +kernel, by decide +kernel, by decide +kernel⟩, tG_of (i := 945) (by decide +kernel) (by decide +kernel), tG_sel (i := 37) (by decide +kernel) (by decide +kernel), TX8, _, rfl⟩
theorem mv8_isFog : MV yX8_isFog cX8_isFog 4 (some .boolean) 1 8 := ⟨⟨tG_of (i := 950) (by decide +kernel) (by decide +kernel), tG_of (i := 10) (by decide +kernel) (by decide +kernel), by decide +kernel, by decide +kernel, by decide +kernel⟩, tG_of (i := 949) (by decide +kernel) (by decide +kernel), tG_sel (i := 38) (by decide +kernel) (by decide +kernel), TX8, _, rfl⟩
theorem mv8_isFree : MV yX8_isFree cX8_isFree 6 (some .boolean) 2 8 := ⟨⟨tG_of (i := 1041) (by decide +kernel) (by decide +kernel), tG_of (i := 10) (by decide +kernel) (by decide +kernel), by decide +kernel, by decide +kernel, by decide +kernel⟩, tG_of (i := 1040) (by decide +kernel) (by decide +kernel), tG_sel (i := 50) (by decide +kernel) (by decide +kernel), TX8, _, rfl⟩
theorem mv8_isVillage : MV yX8_isVillage cX8_isVillage 2 (some .boolean) 1 8 := ⟨⟨tG_of (i := 921) (by decide +kernel) (by decide +kernel), tG_of (i := 10) (by decide +kernel) (by decide +kernel), by decide +kernel, by decide +kernel, by decide +kernel⟩, tG_of (i := 920) (by decide +kernel) (by decide +kernel), tG_sel (i := 33) (by decide +kernel) (by decide +kernel), TX8, _, rfl⟩
theorem mv8_latest : MV yX8_latest cX8_latest 6 (some .int) 1 8 := ⟨⟨tG_of (i := 1088) (by decide +kernel) (by decide +kernel), tG_of (i := 10) (by decide +kernel) (by decide +kernel), by decide +kernel, by decide +kernel, by decide +kernel⟩, tG_of (i := 1087) (by decide +kernel) (by decide +kernel), tG_sel (i := 56) (by decide +kernel) (by decide +kernel), TX8, _, rfl⟩
theorem mv8_least : MV yX8_least cX8_least 3 (some .int) 1 8 := ⟨⟨tG_of (i := 983) (by decide +kernel) (by decide +kernel), tG_of (i := 10) (by decide +kernel) (by decide +kernel), by decide +kernel, by decide +kernel, by decide +kernel⟩, tG_of (i := 982) (by decide +kernel) (by decide +kernel), tG_sel (i := 43) (by decide +kernel) (by decide +kernel), TX8, _, rfl⟩
theorem mv8_mayGo : MV yX8_mayGo cX8_mayGo 3 (some .boolean) 2 8 := ⟨⟨tG_of (i := 1076) (by decide +kernel) (by decide +kernel), tG_of (i := 10) (by decide +kernel) (by decide +kernel), by decide +kernel, by decide +kernel, by decide +kernel⟩, tG_of (i := 1075) (by decide +kernel) (by decide +kernel), tG_sel (i := 53) (by decide +kernel) (by decide +kernel), TX8, _, rfl⟩
theorem mv8_next : MV yX8_next cX8_next 4 (some .int) 2 8 := ⟨⟨tG_of (i := 1033) (by decide +kernel) (by decide +kernel), tG_of (i := 10) (by decide +kernel) (by decide +kernel), by decide +kernel, by decide +kernel, by decide +kernel⟩, tG_of (i := 1032) (by decide +kernel) (by decide +kernel), tG_sel (i := 48) (by decide +kernel) (by decide +kernel), TX8, _, rfl⟩
theorem mv8_offsetsOf : MV yX8_offsetsOf cX8_offsetsOf 6 (some .int) 1 8 := ⟨⟨tG_of (i := 1105) (by decide +kernel) (by decide +kernel), tG_of (i := 10) (by decide +kernel) (by decide +kernel), by decide +kernel, by decide +kernel, by decide +kernel⟩, tG_of (i := 1104) (by decide +kernel) (by decide +kernel), tG_sel (i := 57) (by decide +kernel) (by decide +kernel), TX8, _, rfl⟩
theorem mv8_pass : MV yX8_pass cX8_pass 7 none 1 8 := ⟨⟨tG_of (i := 972) (by decide +kernel) (by decide +kernel), tG_of (i := 10) (by decide +kernel) (by decide +kernel), by decide +kernel, by decide +kernel, by decide +kernel⟩, tG_of (i := 971) (by decide +kernel) (by decide +kernel), tG_sel (i := 41) (by decide +kernel) (by decide +kernel), TX8, _, rfl⟩
theorem mv8_putBack : MV yX8_putBack cX8_putBack 2 none 0 8 := ⟨⟨tG_of (i := 1016) (by decide +kernel) (by decide +kernel), tG_of (i := 10) (by decide +kernel) (by decide +kernel), by decide +kernel, by decide +kernel, by decide +kernel⟩, tG_of (i := 1015) (by decide +kernel) (by decide +kernel), tG_sel (i := 46) (by decide +kernel) (by decide +kernel), TX8, _, rfl⟩
theorem mv8_remember : MV yX8_remember cX8_remember 2 none 0 8 := ⟨⟨tG_of (i := 968) (by decide +kernel) (by decide +kernel), tG_of (i := 10) (by decide +kernel) (by decide +kernel), by decide +kernel, by decide +kernel, by decide +kernel⟩, tG_of (i := 967) (by decide +kernel) (by decide +kernel), tG_sel (i := 40) (by decide +kernel) (by decide +kernel), TX8, _, rfl⟩
theorem mv8_save : MV yX8_save cX8_save 2 none 0 8 := ⟨⟨tG_of (i := 1012) (by decide +kernel) (by decide +kernel), tG_of (i := 10) (by decide +kernel) (by decide +kernel), by decide +kernel, by decide +kernel, by decide +kernel⟩, tG_of (i := 1011) (by decide +kernel) (by decide +kernel), tG_sel (i := 45) (by decide +kernel) (by decide +kernel), TX8, _, rfl⟩
theorem mv8_spent : MV yX8_spent cX8_spent 4 (some .int) 1 8 := ⟨⟨tG_of (i := 1084) (by decide +kernel) (by decide +kernel), tG_of (i := 10) (by decide +kernel) (by decide +kernel), by decide +kernel, by decide +kernel, by decide +kernel⟩, tG_of (i := 1083) (by decide +kernel) (by decide +kernel), tG_sel (i := 55) (by decide +kernel) (by decide +kernel), TX8, _, rfl⟩
theorem mv8_takeClause : MV yX8_takeClause cX8_takeClause 5 (some .int) 0 8 := ⟨⟨tG_of (i := 875) (by decide +kernel) (by decide +kernel), tG_of (i := 10) (by decide +kernel) (by decide +kernel), by decide +kernel, by decide +kernel, by decide +kernel⟩, tG_of (i := 874) (by decide +kernel) (by decide +kernel), tG_sel (i := 25) (by decide +kernel) (by decide +kernel), TX8, _, rfl⟩
theorem mv8_takeDay : MV yX8_takeDay cX8_takeDay 5 (some .int) 2 8 := ⟨⟨tG_of (i := 901) (by decide +kernel) (by decide +kernel), tG_of (i := 10) (by decide +kernel) (by decide +kernel), by decide +kernel, by decide +kernel, by decide +kernel⟩, tG_of (i := 900) (by decide +kernel) (by decide +kernel), tG_sel (i := 31) (by decide +kernel) (by decide +kernel), TX8, _, rfl⟩
theorem mv8_takeHermit : MV yX8_takeHermit cX8_takeHermit 2 (some .int) 0 8 := ⟨⟨tG_of (i := 883) (by decide +kernel) (by decide +kernel), tG_of (i := 10) (by decide +kernel) (by decide +kernel), by decide +kernel, by decide +kernel, by decide +kernel⟩, tG_of (i := 882) (by decide +kernel) (by decide +kernel), tG_sel (i := 27) (by decide +kernel) (by decide +kernel), TX8, _, rfl⟩
theorem mv8_takeNumber : MV yX8_takeNumber cX8_takeNumber 4 (some .int) 2 8 := ⟨⟨tG_of (i := 891) (by decide +kernel) (by decide +kernel), tG_of (i := 10) (by decide +kernel) (by decide +kernel), by decide +kernel, by decide +kernel, by decide +kernel⟩, tG_of (i := 890) (by decide +kernel) (by decide +kernel), tG_sel (i := 29) (by decide +kernel) (by decide +kernel), TX8, _, rfl⟩
theorem mv8_takeRead : MV yX8_takeRead cX8_takeRead 2 none 0 8 := ⟨⟨tG_of (i := 905) (by decide +kernel) (by decide +kernel), tG_of (i := 10) (by decide +kernel) (by decide +kernel), by decide +kernel, by decide +kernel, by decide +kernel⟩, tG_of (i := 904) (by decide +kernel) (by decide +kernel), tG_sel (i := 32) (by decide +kernel) (by decide +kernel), TX8, _, rfl⟩
theorem mv8_takeVillage : MV yX8_takeVillage cX8_takeVillage 3 (some .int) 0 8 := ⟨⟨tG_of (i := 897) (by decide +kernel) (by decide +kernel), tG_of (i := 10) (by decide +kernel) (by decide +kernel), by decide +kernel, by decide +kernel, by decide +kernel⟩, tG_of (i := 896) (by decide +kernel) (by decide +kernel), tG_sel (i := 30) (by decide +kernel) (by decide +kernel), TX8, _, rfl⟩
theorem mv8_wasChosen : MV yX8_wasChosen cX8_wasChosen 5 (some .boolean) 2 8 := ⟨⟨tG_of (i := 1080) (by decide +kernel) (by decide +kernel), tG_of (i := 10) (by decide +kernel) (by decide +kernel), by decide +kernel, by decide +kernel, by decide +kernel⟩, tG_of (i := 1079) (by decide +kernel) (by decide +kernel), tG_sel (i := 54) (by decide +kernel) (by decide +kernel), TX8, _, rfl⟩
theorem wNat : Cond.native arraycopyName ∈ tG := tG_of (i := 397) (by decide +kernel) (by decide +kernel)
theorem wSta : Cond.static arraycopyName ∈ tG := tG_of (i := 396) (by decide +kernel) (by decide +kernel)
theorem wIni : Cond.initialized "java/lang/System" ∈ tG := tG_of (i := 12) (by decide +kernel) (by decide +kernel)
theorem ob0 : Ob 0 1 := ⟨rfl, by decide +kernel⟩
theorem ar0_0 : Ar 0 0 0 8 := ⟨by decide +kernel, by decide +kernel⟩
theorem ar0_1 : Ar 0 1 0 8 := ⟨by decide +kernel, by decide +kernel⟩
theorem ar0_2 : Ar 0 2 0 17 := ⟨by decide +kernel, by decide +kernel⟩
theorem ar0_3 : Ar 0 3 0 60 := ⟨by decide +kernel, by decide +kernel⟩
theorem ob1 : Ob 1 1 := ⟨rfl, by decide +kernel⟩
theorem ar1_0 : Ar 1 0 0 8 := ⟨by decide +kernel, by decide +kernel⟩
theorem ar1_1 : Ar 1 1 0 8 := ⟨by decide +kernel, by decide +kernel⟩
theorem ar1_2 : Ar 1 2 0 17 := ⟨by decide +kernel, by decide +kernel⟩
theorem ar1_3 : Ar 1 3 0 60 := ⟨by decide +kernel, by decide +kernel⟩
theorem ob26 : Ob 26 7 := ⟨rfl, by decide +kernel⟩
theorem ar26_0 : Ar 26 0 2 240 := ⟨by decide +kernel, by decide +kernel⟩
theorem ar26_9 : Ar 26 9 4 2 := ⟨by decide +kernel, by decide +kernel⟩
theorem ar26_10 : Ar 26 10 0 2 := ⟨by decide +kernel, by decide +kernel⟩
theorem ob27 : Ob 27 5 := ⟨rfl, by decide +kernel⟩
theorem ar27_5 : Ar 27 5 2 0 := ⟨by decide +kernel, by decide +kernel⟩
theorem ob28 : Ob 28 3 := ⟨rfl, by decide +kernel⟩
theorem ar28_0 : Ar 28 0 4 20 := ⟨by decide +kernel, by decide +kernel⟩
theorem ob29 : Ob 29 2 := ⟨rfl, by decide +kernel⟩
theorem ar29_0 : Ar 29 0 0 10 := ⟨by decide +kernel, by decide +kernel⟩
theorem ar29_1 : Ar 29 1 0 10 := ⟨by decide +kernel, by decide +kernel⟩
theorem ar29_2 : Ar 29 2 0 15 := ⟨by decide +kernel, by decide +kernel⟩
theorem ar29_3 : Ar 29 3 0 15 := ⟨by decide +kernel, by decide +kernel⟩
theorem ob30 : Ob 30 0 := ⟨rfl, by decide +kernel⟩
theorem ar30_0 : Ar 30 0 0 8 := ⟨by decide +kernel, by decide +kernel⟩
theorem ob31 : Ob 31 4 := ⟨rfl, by decide +kernel⟩
theorem ar31_0 : Ar 31 0 0 10 := ⟨by decide +kernel, by decide +kernel⟩
theorem ob32 : Ob 32 8 := ⟨rfl, by decide +kernel⟩
theorem ar32_4 : Ar 32 4 0 8 := ⟨by decide +kernel, by decide +kernel⟩
theorem ar32_5 : Ar 32 5 0 8 := ⟨by decide +kernel, by decide +kernel⟩
theorem ar32_6 : Ar 32 6 0 8 := ⟨by decide +kernel, by decide +kernel⟩
theorem ar32_8 : Ar 32 8 0 8 := ⟨by decide +kernel, by decide +kernel⟩
theorem ar32_10 : Ar 32 10 0 8 := ⟨by decide +kernel, by decide +kernel⟩
theorem ar32_11 : Ar 32 11 0 103 := ⟨by decide +kernel, by decide +kernel⟩
theorem ar32_13 : Ar 32 13 0 240 := ⟨by decide +kernel, by decide +kernel⟩
theorem ar32_19 : Ar 32 19 0 3 := ⟨by decide +kernel, by decide +kernel⟩
theorem ar32_21 : Ar 32 21 0 8 := ⟨by decide +kernel, by decide +kernel⟩
theorem ar32_22 : Ar 32 22 0 8 := ⟨by decide +kernel, by decide +kernel⟩
theorem ar32_23 : Ar 32 23 0 8 := ⟨by decide +kernel, by decide +kernel⟩
theorem ar32_24 : Ar 32 24 0 8 := ⟨by decide +kernel, by decide +kernel⟩
theorem ar32_26 : Ar 32 26 0 8 := ⟨by decide +kernel, by decide +kernel⟩
theorem ar32_28 : Ar 32 28 0 8 := ⟨by decide +kernel, by decide +kernel⟩
theorem ar32_30 : Ar 32 30 0 2060 := ⟨by decide +kernel, by decide +kernel⟩
theorem ar32_31 : Ar 32 31 0 103 := ⟨by decide +kernel, by decide +kernel⟩
theorem ar32_32 : Ar 32 32 0 8 := ⟨by decide +kernel, by decide +kernel⟩
theorem ar32_33 : Ar 32 33 0 72171 := ⟨by decide +kernel, by decide +kernel⟩
theorem ar32_34 : Ar 32 34 0 10 := ⟨by decide +kernel, by decide +kernel⟩
theorem ar32_35 : Ar 32 35 0 10 := ⟨by decide +kernel, by decide +kernel⟩
theorem ar32_38 : Ar 32 38 0 10 := ⟨by decide +kernel, by decide +kernel⟩
theorem ar32_39 : Ar 32 39 0 10 := ⟨by decide +kernel, by decide +kernel⟩
theorem ar32_41 : Ar 32 41 0 15 := ⟨by decide +kernel, by decide +kernel⟩
theorem ar32_42 : Ar 32 42 0 15 := ⟨by decide +kernel, by decide +kernel⟩
theorem ar32_43 : Ar 32 43 0 208 := ⟨by decide +kernel, by decide +kernel⟩
theorem ar32_44 : Ar 32 44 3 2 := ⟨by decide +kernel, by decide +kernel⟩
theorem layC1 : ∀ q ∈ lay, q.2 = 0 → kc q.1 = 1 → (q.1, 1) ∈ lay ∧ (q.1, 2) ∈ lay ∧ (q.1, 3) ∈ lay ∧ (q.1, 4) ∈ lay := by decide +kernel
theorem arC1_0 {d : Nat} (h : Ob d 1) : Ar d 0 0 8 := ⟨by unfold ak; rw [h.1]; rfl, (layC1 (d, 0) h.2 rfl h.1).1⟩
theorem arC1_1 {d : Nat} (h : Ob d 1) : Ar d 1 0 8 := ⟨by unfold ak; rw [h.1]; rfl, (layC1 (d, 0) h.2 rfl h.1).2.1⟩
theorem arC1_2 {d : Nat} (h : Ob d 1) : Ar d 2 0 17 := ⟨by unfold ak; rw [h.1]; rfl, (layC1 (d, 0) h.2 rfl h.1).2.2.1⟩
theorem arC1_3 {d : Nat} (h : Ob d 1) : Ar d 3 0 60 := ⟨by unfold ak; rw [h.1]; rfl, (layC1 (d, 0) h.2 rfl h.1).2.2.2⟩
theorem grC1 {d : Nat} (h : Ob d 1) (k : Nat) : gr d k = (d, k + 1) := by
  have h1 : d ≠ 26 := fun z => by have h2 := h.1; rw [z] at h2; exact absurd h2 (by decide)
  simp [gr, h1]
theorem layC6 : ∀ q ∈ lay, q.2 = 0 → kc q.1 = 6 → (q.1, 8) ∈ lay ∧ (q.1, 9) ∈ lay ∧ (q.1, 10) ∈ lay ∧ (q.1, 11) ∈ lay ∧ (q.1, 12) ∈ lay ∧ (q.1, 13) ∈ lay := by decide +kernel
theorem arC6_7 {d : Nat} (h : Ob d 6) : Ar d 7 0 8 := ⟨by unfold ak; rw [h.1]; rfl, (layC6 (d, 0) h.2 rfl h.1).1⟩
theorem arC6_8 {d : Nat} (h : Ob d 6) : Ar d 8 0 8 := ⟨by unfold ak; rw [h.1]; rfl, (layC6 (d, 0) h.2 rfl h.1).2.1⟩
theorem arC6_9 {d : Nat} (h : Ob d 6) : Ar d 9 0 8 := ⟨by unfold ak; rw [h.1]; rfl, (layC6 (d, 0) h.2 rfl h.1).2.2.1⟩
theorem arC6_10 {d : Nat} (h : Ob d 6) : Ar d 10 0 8 := ⟨by unfold ak; rw [h.1]; rfl, (layC6 (d, 0) h.2 rfl h.1).2.2.2.1⟩
theorem arC6_11 {d : Nat} (h : Ob d 6) : Ar d 11 1 16 := ⟨by unfold ak; rw [h.1]; rfl, (layC6 (d, 0) h.2 rfl h.1).2.2.2.2.1⟩
theorem arC6_12 {d : Nat} (h : Ob d 6) : Ar d 12 1 16 := ⟨by unfold ak; rw [h.1]; rfl, (layC6 (d, 0) h.2 rfl h.1).2.2.2.2.2⟩
theorem grC6 {d : Nat} (h : Ob d 6) (k : Nat) : gr d k = (d, k + 1) := by
  have h1 : d ≠ 26 := fun z => by have h2 := h.1; rw [z] at h2; exact absurd h2 (by decide)
  simp [gr, h1]
theorem obK {i : Int32} (h : ¬ (i < 0 ∨ 20 ≤ i.toNatClampNeg)) : Ob (rb 28 + i.toNatClampNeg) 1 := by
  have h1 : i.toNatClampNeg < 20 := by omega
  generalize i.toNatClampNeg = j at h1
  have h2 : ∀ j, j < 20 → kc (rb 28 + j) = 1 ∧ (rb 28 + j, 0) ∈ lay := by decide +kernel
  exact h2 j h1
theorem obM {i : Int32} (h : ¬ (i < 0 ∨ 2 ≤ i.toNatClampNeg)) : Ob (rb 26 + i.toNatClampNeg) 1 := by
  have h1 : i.toNatClampNeg < 2 := by omega
  generalize i.toNatClampNeg = j at h1
  have h2 : ∀ j, j < 2 → kc (rb 26 + j) = 1 ∧ (rb 26 + j, 0) ∈ lay := by decide +kernel
  exact h2 j h1
end
section
-- X6_all OneADay$Rock
def f6_all  (d0 : Nat)   (w : Mem) : Option (Int32 × Mem) :=
  some ((jshl 1 (w.1 d0 4 0)) - 1, w)
set_option maxRecDepth 100000 in
set_option maxHeartbeats 4000000 in
theorem t6_all   (d0 : Nat) (hd0 : Ob d0 6)    (w w' : Mem) (r : Int32) (h : f6_all  d0   w = some (r, w')) : Bk yX6_all cX6_all 1 (some .int) 1 0 [(0, vR d0 0)] [] w (some (vI r)) w' := by
  unfold f6_all at h
  refine b_iconst (v := 1) dX6_all_0 (by decide) ?_
  refine b_aload_n dX6_all_1 rfl (k := 0) rfl ?_
  refine b_getI fl6_45 hd0 rfl dX6_all_2 ?_
  refine b_ishl dX6_all_5 ?_
  refine b_iconst (v := 1) dX6_all_6 (by decide) ?_
  refine b_isub dX6_all_7 ?_
  cases h
  exact b_iret rfl dX6_all_8
theorem s6_all (d0 : Nat) (hd0 : Ob d0 6) (w w' : Mem) (r : Int32) (h : f6_all  d0  w = some (r, w')) : Sp yX6_all cX6_all 1 (some .int) 1 [vR d0 0] w (some (vI r)) w' := sp_of (by decide) (fun _ => rfl) (fun _ => Nat.le_of_ble_eq_true rfl) (t6_all  d0 hd0  _ _ _ h)
-- X6_isMarked OneADay$Rock
def f6_isMarked  (d0 k0 n0 : Nat) (a1 : Int32)   (w : Mem) : Option (Int32 × Mem) :=
  bnd (jshr a1 6) fun y1 => if y1 < 0 then (some (0, w)) else (if (Int32.ofNat n0) ≤ y1 then (some (0, w)) else (if y1 < 0 ∨ n0 ≤ Int32.toNatClampNeg y1 then none else if (lg_cmp ((jlushr (w.2.1 d0 k0 (Int32.toNatClampNeg y1)) (a1 &&& 63)) &&& 1) 0) = 0 then (some (0, w)) else (some (1, w))))
set_option maxRecDepth 100000 in
set_option maxHeartbeats 4000000 in
theorem t6_isMarked   (d0 k0 n0 : Nat) (a1 : Int32) (ha0 : Ar d0 k0 1 n0)    (w w' : Mem) (r : Int32) (h : f6_isMarked  d0 k0 n0 a1   w = some (r, w')) : Bk yX6_isMarked cX6_isMarked 3 (some .boolean) 1 0 [(0, vR d0 (k0 + 1)), (1, vI a1)] [] w (some (vI r)) w' := by
  unfold f6_isMarked at h
  refine b_iload_n dX6_isMarked_0 rfl (k := 1) rfl ?_
  refine b_bipush (v := 6) dX6_isMarked_1 (by decide) ?_
  refine b_ishr dX6_isMarked_3 ?_
  obtain ⟨y1, ey1, h⟩ := nmE h
  refine b_nmI ey1 ?_
  refine b_istore_n (lv' := [(2, vI y1), (0, vR d0 (k0 + 1)), (1, vI a1)]) dX6_isMarked_4 rfl (by decide) rfl ?_
  refine b_iload_n dX6_isMarked_5 rfl (k := 0) rfl ?_
  refine b_iflt (tgt := 34) dX6_isMarked_6 (by decide) (fun c2 => ?_) (fun c2 => ?_)
  · replace h := ifT c2 h
    refine b_iconst (v := 0) dX6_isMarked_34 (by decide) ?_
    cases h
    exact b_zret rfl (by decide) dX6_isMarked_35
  · replace h := ifF c2 h
    refine b_iload_n dX6_isMarked_9 rfl (k := 0) rfl ?_
    refine b_aload_n dX6_isMarked_10 rfl (k := 1) rfl ?_
    refine b_alen (v := Int32.ofNat n0) ha0 (by decide) rfl dX6_isMarked_11 ?_
    refine b_icge (tgt := 34) dX6_isMarked_12 (by decide) (fun c3 => ?_) (fun c3 => ?_)
    · replace h := ifT c3 h
      refine b_iconst (v := 0) dX6_isMarked_34 (by decide) ?_
      cases h
      exact b_zret rfl (by decide) dX6_isMarked_35
    · replace h := ifF c3 h
      refine b_aload_n dX6_isMarked_15 rfl (k := 1) rfl ?_
      refine b_iload_n dX6_isMarked_16 rfl (k := 0) rfl ?_
      obtain ⟨g4, h⟩ := gdE h
      refine b_lald ha0 g4 rfl dX6_isMarked_17 ?_
      refine b_iload_n dX6_isMarked_18 rfl (k := 2) rfl ?_
      refine b_bipush (v := 63) dX6_isMarked_19 (by decide) ?_
      refine b_iand dX6_isMarked_21 ?_
      refine b_lushr dX6_isMarked_22 ?_
      refine b_lconst (v := 1) dX6_isMarked_23 (by decide) ?_
      refine b_land dX6_isMarked_24 ?_
      refine b_lconst (v := 0) dX6_isMarked_25 (by decide) ?_
      refine b_lcmp dX6_isMarked_26 ?_
      refine b_ifeq (tgt := 34) dX6_isMarked_27 (by decide) (fun c5 => ?_) (fun c5 => ?_)
      · replace h := ifT c5 h
        refine b_iconst (v := 0) dX6_isMarked_34 (by decide) ?_
        cases h
        exact b_zret rfl (by decide) dX6_isMarked_35
      · replace h := ifF c5 h
        refine b_iconst (v := 1) dX6_isMarked_30 (by decide) ?_
        refine b_goto (tgt := 35) dX6_isMarked_31 (by decide) ?_
        cases h
        exact b_zret rfl (by decide) dX6_isMarked_35
theorem s6_isMarked (d0 k0 n0 : Nat) (a1 : Int32) (ha0 : Ar d0 k0 1 n0) (w w' : Mem) (r : Int32) (h : f6_isMarked  d0 k0 n0 a1  w = some (r, w')) : Sp yX6_isMarked cX6_isMarked 3 (some .boolean) 1 [vR d0 (k0 + 1), vI a1] w (some (vI r)) w' := sp_of (by decide) (fun _ => rfl) (fun _ => Nat.le_of_ble_eq_true rfl) (t6_isMarked  d0 k0 n0 a1 ha0  _ _ _ h)
-- X6_isFog OneADay$Rock
def f6_isFog  (d0 : Nat) (a1 : Int32)   (w : Mem) : Option (Int32 × Mem) :=
  bndO (f6_isMarked d0 12 16 a1 w) fun r2 w1 => if ¬ r2 &&& 1 = r2 then none else some (r2, w1)
set_option maxRecDepth 100000 in
set_option maxHeartbeats 4000000 in
theorem t6_isFog   (d0 : Nat) (a1 : Int32) (hd0 : Ob d0 6)    (w w' : Mem) (r : Int32) (h : f6_isFog  d0 a1   w = some (r, w')) : Bk yX6_isFog cX6_isFog 2 (some .boolean) 2 0 [(0, vR d0 0), (1, vI a1)] [] w (some (vI r)) w' := by
  unfold f6_isFog at h
  refine b_aload_n dX6_isFog_0 rfl (k := 0) rfl ?_
  refine b_getF fl6_28 hd0 rfl (grC6 hd0 12) dX6_isFog_1 ?_
  refine b_iload_n dX6_isFog_4 rfl (k := 1) rfl ?_
  obtain ⟨r2, w1, hw1, h⟩ := bdO h
  refine b_callSi ms6_isMarked ml6_66 (s6_isMarked d0 12 16 a1 (arC6_12 hd0) _ _ _ hw1) rfl (by decide) (by decide) (Nat.le_of_ble_eq_true rfl) rfl dX6_isFog_5 ?_
  obtain ⟨g3, h⟩ := gdE h
  cases h
  exact b_zret rfl (Decidable.not_not.mp g3) dX6_isFog_8
theorem s6_isFog (d0 : Nat) (a1 : Int32) (hd0 : Ob d0 6) (w w' : Mem) (r : Int32) (h : f6_isFog  d0 a1  w = some (r, w')) : Sp yX6_isFog cX6_isFog 2 (some .boolean) 2 [vR d0 0, vI a1] w (some (vI r)) w' := sp_of (by decide) (fun _ => rfl) (fun _ => Nat.le_of_ble_eq_true rfl) (t6_isFog  d0 a1 hd0  _ _ _ h)
-- X4_freeOn OneADay$Plan
def f4_freeOn_68  (d1 : Nat) (a2 : Int32)  : Nat → Int32 → Int32 → Int32 → Mem → Option (Int32 × Mem)
  | 0, _, _, _, _ => none
  | n + 1, x3, x4, x5, w =>
  if (w.1 d1 4 0) ≤ x5 then (some (x3, w)) else (if 8 ≤ x5 then (some (x3, w)) else (if x4 = 0 then (bnd (x5 + 1) fun y4 => f4_freeOn_68  d1 a2  n x3 x4 y4 w) else (if x5 < 0 ∨ 8 ≤ Int32.toNatClampNeg x5 then none else if (w.1 d1 7 (Int32.toNatClampNeg x5)) ≤ 0 then (bnd (x5 + 1) fun y7 => f4_freeOn_68  d1 a2  n x3 x4 y7 w) else (bnd (x3 &&& ((jshl 1 x5) ^^^ (-1))) fun y8 => bnd (x5 + 1) fun y9 => f4_freeOn_68  d1 a2  n y8 x4 y9 w))))
set_option maxRecDepth 100000 in
set_option maxHeartbeats 4000000 in
theorem t4_freeOn_68   (d1 : Nat) (a2 : Int32) (hd1 : Ob d1 6)   : ∀ (n : Nat) (x3 : Int32) (x4 : Int32) (x5 : Int32) (w w' : Mem) (r : Int32), f4_freeOn_68  d1 a2  n x3 x4 x5 w = some (r, w') → Bk yX4_freeOn cX4_freeOn 6 (some .int) 3 68 [(1, vR d1 0), (3, vI x3), (4, vI x4), (5, vI x5)] [] w (some (vI r)) w' := by
  intro n
  induction n with
  | zero =>
    intro x3 x4 x5 w w' r h
    cases (show (none : Option (Int32 × Mem)) = some _ from h)
  | succ n ih =>
    intro x3 x4 x5 w w' r h
    rw [f4_freeOn_68] at h
    refine b_iload dX4_freeOn_68 (k := 3) rfl ?_
    refine b_aload_n dX4_freeOn_70 rfl (k := 0) rfl ?_
    refine b_getI fl4_48 hd1 rfl dX4_freeOn_71 ?_
    refine b_icge (tgt := 114) dX4_freeOn_74 (by decide) (fun c1 => ?_) (fun c1 => ?_)
    · replace h := ifT c1 h
      refine b_iload_n dX4_freeOn_114 rfl (k := 1) rfl ?_
      cases h
      exact b_iret rfl dX4_freeOn_115
    · replace h := ifF c1 h
      refine b_iload dX4_freeOn_77 (k := 3) rfl ?_
      refine b_bipush (v := 8) dX4_freeOn_79 (by decide) ?_
      refine b_icge (tgt := 114) dX4_freeOn_81 (by decide) (fun c2 => ?_) (fun c2 => ?_)
      · replace h := ifT c2 h
        refine b_iload_n dX4_freeOn_114 rfl (k := 1) rfl ?_
        cases h
        exact b_iret rfl dX4_freeOn_115
      · replace h := ifF c2 h
        refine b_iload dX4_freeOn_84 (k := 2) rfl ?_
        refine b_ifeq (tgt := 108) dX4_freeOn_86 (by decide) (fun c3 => ?_) (fun c3 => ?_)
        · replace h := ifT c3 h
          obtain ⟨y4, ey4, h⟩ := nmE h
          refine b_iinc (v := y4) (lv' := [(5, vI y4), (1, vR d1 0), (3, vI x3), (4, vI x4)]) dX4_freeOn_108 (k := 3) rfl ey4.symm (by decide) rfl ?_
          refine b_goto (tgt := 68) dX4_freeOn_111 (by decide) ?_
          refine b_sub [1, 2, 3, 0] rfl ?_
          exact ih x3 x4 y4 _ _ _ h
        · replace h := ifF c3 h
          refine b_aload_n dX4_freeOn_89 rfl (k := 0) rfl ?_
          refine b_getF fl4_41 hd1 rfl (grC6 hd1 7) dX4_freeOn_90 ?_
          refine b_iload dX4_freeOn_93 (k := 3) rfl ?_
          obtain ⟨g5, h⟩ := gdE h
          refine b_iald (arC6_7 hd1) g5 rfl dX4_freeOn_95 ?_
          refine b_ifle (tgt := 108) dX4_freeOn_96 (by decide) (fun c6 => ?_) (fun c6 => ?_)
          · replace h := ifT c6 h
            obtain ⟨y7, ey7, h⟩ := nmE h
            refine b_iinc (v := y7) (lv' := [(5, vI y7), (1, vR d1 0), (3, vI x3), (4, vI x4)]) dX4_freeOn_108 (k := 3) rfl ey7.symm (by decide) rfl ?_
            refine b_goto (tgt := 68) dX4_freeOn_111 (by decide) ?_
            refine b_sub [1, 2, 3, 0] rfl ?_
            exact ih x3 x4 y7 _ _ _ h
          · replace h := ifF c6 h
            refine b_iload_n dX4_freeOn_99 rfl (k := 1) rfl ?_
            refine b_iconst (v := 1) dX4_freeOn_100 (by decide) ?_
            refine b_iload dX4_freeOn_101 (k := 3) rfl ?_
            refine b_ishl dX4_freeOn_103 ?_
            refine b_iconst (v := (-1)) dX4_freeOn_104 (by decide) ?_
            refine b_ixor dX4_freeOn_105 ?_
            refine b_iand dX4_freeOn_106 ?_
            obtain ⟨y8, ey8, h⟩ := nmE h
            refine b_nmI ey8 ?_
            refine b_istore_n (lv' := [(3, vI y8), (1, vR d1 0), (4, vI x4), (5, vI x5)]) dX4_freeOn_107 rfl (by decide) rfl ?_
            obtain ⟨y9, ey9, h⟩ := nmE h
            refine b_iinc (v := y9) (lv' := [(5, vI y9), (3, vI y8), (1, vR d1 0), (4, vI x4)]) dX4_freeOn_108 (k := 3) rfl ey9.symm (by decide) rfl ?_
            refine b_goto (tgt := 68) dX4_freeOn_111 (by decide) ?_
            refine b_sub [2, 1, 3, 0] rfl ?_
            exact ih y8 x4 y9 _ _ _ h
def f4_freeOn_53  (d1 : Nat) (a2 : Int32)  (x3 : Int32) (w : Mem) : Option (Int32 × Mem) :=
  bndO (f6_isFog d1 ((w.1 31 1 0) + a2) w) fun r2 w1 => f4_freeOn_68  d1 a2  100000 x3 r2 0 w1
set_option maxRecDepth 100000 in
set_option maxHeartbeats 4000000 in
theorem t4_freeOn_53   (d1 : Nat) (a2 : Int32) (hd1 : Ob d1 6)   (x3 : Int32) (w w' : Mem) (r : Int32) (h : f4_freeOn_53  d1 a2  x3 w = some (r, w')) : Bk yX4_freeOn cX4_freeOn 6 (some .int) 3 53 [(0, vR 31 0), (1, vR d1 0), (2, vI a2), (3, vI x3)] [] w (some (vI r)) w' := by
  unfold f4_freeOn_53 at h
  refine b_aload_n dX4_freeOn_53 rfl (k := 1) rfl ?_
  refine b_aload_n dX4_freeOn_54 rfl (k := 0) rfl ?_
  refine b_getI fl4_15 ob31 rfl dX4_freeOn_55 ?_
  refine b_iload_n dX4_freeOn_58 rfl (k := 2) rfl ?_
  refine b_iadd dX4_freeOn_59 ?_
  obtain ⟨r2, w1, hw1, h⟩ := bdO h
  refine b_callVi mv6_isFog ml4_31 hd1 (s6_isFog d1 ((w.1 31 1 0) + a2) hd1 _ _ _ hw1) rfl (by decide) (by decide) (Nat.le_of_ble_eq_true rfl) rfl dX4_freeOn_60 ?_
  refine b_istore (lv' := [(4, vI r2), (0, vR 31 0), (1, vR d1 0), (2, vI a2), (3, vI x3)]) dX4_freeOn_63 (by decide) rfl ?_
  refine b_iconst (v := 0) dX4_freeOn_65 (by decide) ?_
  refine b_istore (lv' := [(5, vI 0), (4, vI r2), (0, vR 31 0), (1, vR d1 0), (2, vI a2), (3, vI x3)]) dX4_freeOn_66 (by decide) rfl ?_
  refine b_sub [3, 5, 1, 0] rfl ?_
  exact t4_freeOn_68  d1 a2 hd1   100000 x3 r2 0 _ _ _ h
def f4_freeOn_17  (d1 : Nat) (a2 : Int32)  : Nat → Int32 → Int32 → Mem → Option (Int32 × Mem)
  | 0, _, _, _ => none
  | n + 1, x3, x4, w =>
  if a2 ≤ x4 then (f4_freeOn_53  d1 a2  x3 w) else (if 10 ≤ x4 then (f4_freeOn_53  d1 a2  x3 w) else (if x4 < 0 ∨ 10 ≤ Int32.toNatClampNeg x4 then none else bnd (x3 &&& ((jshl 1 (w.1 31 0 (Int32.toNatClampNeg x4))) ^^^ (-1))) fun y4 => bnd (x4 + 1) fun y5 => f4_freeOn_17  d1 a2  n y4 y5 w))
set_option maxRecDepth 100000 in
set_option maxHeartbeats 4000000 in
theorem t4_freeOn_17   (d1 : Nat) (a2 : Int32) (hd1 : Ob d1 6)   : ∀ (n : Nat) (x3 : Int32) (x4 : Int32) (w w' : Mem) (r : Int32), f4_freeOn_17  d1 a2  n x3 x4 w = some (r, w') → Bk yX4_freeOn cX4_freeOn 6 (some .int) 3 17 [(0, vR 31 0), (1, vR d1 0), (2, vI a2), (3, vI x3), (4, vI x4)] [] w (some (vI r)) w' := by
  intro n
  induction n with
  | zero =>
    intro x3 x4 w w' r h
    cases (show (none : Option (Int32 × Mem)) = some _ from h)
  | succ n ih =>
    intro x3 x4 w w' r h
    rw [f4_freeOn_17] at h
    refine b_iload dX4_freeOn_17 (k := 4) rfl ?_
    refine b_iload_n dX4_freeOn_19 rfl (k := 2) rfl ?_
    refine b_icge (tgt := 53) dX4_freeOn_20 (by decide) (fun c1 => ?_) (fun c1 => ?_)
    · replace h := ifT c1 h
      refine b_sub [0, 1, 2, 3] rfl ?_
      exact t4_freeOn_53  d1 a2 hd1   x3 _ _ _ h
    · replace h := ifF c1 h
      refine b_iload dX4_freeOn_23 (k := 4) rfl ?_
      refine b_aload_n dX4_freeOn_25 rfl (k := 0) rfl ?_
      refine b_getF fl4_9 ob31 rfl rfl dX4_freeOn_26 ?_
      refine b_alen (v := 10) ar31_0 (by decide) (by decide) dX4_freeOn_29 ?_
      refine b_icge (tgt := 53) dX4_freeOn_30 (by decide) (fun c2 => ?_) (fun c2 => ?_)
      · replace h := ifT c2 h
        refine b_sub [0, 1, 2, 3] rfl ?_
        exact t4_freeOn_53  d1 a2 hd1   x3 _ _ _ h
      · replace h := ifF c2 h
        refine b_iload_n dX4_freeOn_33 rfl (k := 3) rfl ?_
        refine b_iconst (v := 1) dX4_freeOn_34 (by decide) ?_
        refine b_aload_n dX4_freeOn_35 rfl (k := 0) rfl ?_
        refine b_getF fl4_9 ob31 rfl rfl dX4_freeOn_36 ?_
        refine b_iload dX4_freeOn_39 (k := 4) rfl ?_
        obtain ⟨g3, h⟩ := gdE h
        refine b_iald ar31_0 g3 rfl dX4_freeOn_41 ?_
        refine b_ishl dX4_freeOn_42 ?_
        refine b_iconst (v := (-1)) dX4_freeOn_43 (by decide) ?_
        refine b_ixor dX4_freeOn_44 ?_
        refine b_iand dX4_freeOn_45 ?_
        obtain ⟨y4, ey4, h⟩ := nmE h
        refine b_nmI ey4 ?_
        refine b_istore_n (lv' := [(3, vI y4), (0, vR 31 0), (1, vR d1 0), (2, vI a2), (4, vI x4)]) dX4_freeOn_46 rfl (by decide) rfl ?_
        obtain ⟨y5, ey5, h⟩ := nmE h
        refine b_iinc (v := y5) (lv' := [(4, vI y5), (3, vI y4), (0, vR 31 0), (1, vR d1 0), (2, vI a2)]) dX4_freeOn_47 (k := 4) rfl ey5.symm (by decide) rfl ?_
        refine b_goto (tgt := 17) dX4_freeOn_50 (by decide) ?_
        refine b_sub [2, 3, 4, 1, 0] rfl ?_
        exact ih y4 y5 _ _ _ h
def f4_freeOn  (d1 : Nat) (a2 : Int32)   (w : Mem) : Option (Int32 × Mem) :=
  bndO (f6_all d1 w) fun r2 w1 => bnd (jmax 0 (a2 - (w1.1 d1 2 0))) fun y3 => f4_freeOn_17  d1 a2  100000 r2 y3 w1
set_option maxRecDepth 100000 in
set_option maxHeartbeats 4000000 in
theorem t4_freeOn   (d1 : Nat) (a2 : Int32) (hd1 : Ob d1 6)    (w w' : Mem) (r : Int32) (h : f4_freeOn  d1 a2   w = some (r, w')) : Bk yX4_freeOn cX4_freeOn 6 (some .int) 3 0 [(0, vR 31 0), (1, vR d1 0), (2, vI a2)] [] w (some (vI r)) w' := by
  unfold f4_freeOn at h
  refine b_aload_n dX4_freeOn_0 rfl (k := 1) rfl ?_
  obtain ⟨r2, w1, hw1, h⟩ := bdO h
  refine b_callVi mv6_all ml4_54 hd1 (s6_all d1 hd1 _ _ _ hw1) rfl (by decide) (by decide) (Nat.le_of_ble_eq_true rfl) rfl dX4_freeOn_1 ?_
  refine b_istore_n (lv' := [(3, vI r2), (0, vR 31 0), (1, vR d1 0), (2, vI a2)]) dX4_freeOn_4 rfl (by decide) rfl ?_
  refine b_iconst (v := 0) dX4_freeOn_5 (by decide) ?_
  refine b_iload_n dX4_freeOn_6 rfl (k := 3) rfl ?_
  refine b_aload_n dX4_freeOn_7 rfl (k := 2) rfl ?_
  refine b_getI fl4_58 hd1 rfl dX4_freeOn_8 ?_
  refine b_isub dX4_freeOn_11 ?_
  refine b_mmax ml4_61 (Nat.le_of_ble_eq_true rfl) (by first | decide | omega) dX4_freeOn_12 ?_
  obtain ⟨y3, ey3, h⟩ := nmE h
  refine b_nmI ey3 ?_
  refine b_istore (lv' := [(4, vI y3), (3, vI r2), (0, vR 31 0), (1, vR d1 0), (2, vI a2)]) dX4_freeOn_15 (by decide) rfl ?_
  refine b_sub [2, 3, 4, 1, 0] rfl ?_
  exact t4_freeOn_17  d1 a2 hd1   100000 r2 y3 _ _ _ h
theorem s4_freeOn (d1 : Nat) (a2 : Int32) (hd1 : Ob d1 6) (w w' : Mem) (r : Int32) (h : f4_freeOn  d1 a2  w = some (r, w')) : Sp yX4_freeOn cX4_freeOn 6 (some .int) 3 [vR 31 0, vR d1 0, vI a2] w (some (vI r)) w' := sp_of (by decide) (fun _ => rfl) (fun _ => Nat.le_of_ble_eq_true rfl) (t4_freeOn  d1 a2 hd1  _ _ _ h)
-- X4_nearestOf OneADay$Plan
def f4_nearestOf_5  (d0 : Nat) (a1 : Int32) (a2 : Int32)  : Nat → Int32 → Int32 → Mem → Option (Int32 × Mem)
  | 0, _, _, _ => none
  | n + 1, x3, x4, w =>
  if (w.1 d0 4 0) ≤ x4 then (some (x3, w)) else (if 8 ≤ x4 then (some (x3, w)) else (if ((jshr a1 x4) &&& 1) = 0 then (bnd (x4 + 1) fun y4 => f4_nearestOf_5  d0 a1 a2  n x3 y4 w) else (if x4 < 0 ∨ 8 ≤ Int32.toNatClampNeg x4 then none else if a2 ≤ (w.1 d0 7 (Int32.toNatClampNeg x4)) then (if x3 = (-1) then (bnd (x4 + 1) fun y8 => f4_nearestOf_5  d0 a1 a2  n x4 y8 w) else (if x4 < 0 ∨ 8 ≤ Int32.toNatClampNeg x4 then none else if x3 < 0 ∨ 8 ≤ Int32.toNatClampNeg x3 then none else if (w.1 d0 7 (Int32.toNatClampNeg x3)) ≤ (w.1 d0 7 (Int32.toNatClampNeg x4)) then (bnd (x4 + 1) fun y12 => f4_nearestOf_5  d0 a1 a2  n x3 y12 w) else (bnd (x4 + 1) fun y13 => f4_nearestOf_5  d0 a1 a2  n x4 y13 w))) else (bnd (x4 + 1) fun y14 => f4_nearestOf_5  d0 a1 a2  n x3 y14 w))))
set_option maxRecDepth 100000 in
set_option maxHeartbeats 4000000 in
theorem t4_nearestOf_5   (d0 : Nat) (a1 : Int32) (a2 : Int32) (hd0 : Ob d0 6)   : ∀ (n : Nat) (x3 : Int32) (x4 : Int32) (w w' : Mem) (r : Int32), f4_nearestOf_5  d0 a1 a2  n x3 x4 w = some (r, w') → Bk yX4_nearestOf cX4_nearestOf 5 (some .int) 1 5 [(0, vR d0 0), (1, vI a1), (2, vI a2), (3, vI x3), (4, vI x4)] [] w (some (vI r)) w' := by
  intro n
  induction n with
  | zero =>
    intro x3 x4 w w' r h
    cases (show (none : Option (Int32 × Mem)) = some _ from h)
  | succ n ih =>
    intro x3 x4 w w' r h
    rw [f4_nearestOf_5] at h
    refine b_iload dX4_nearestOf_5 (k := 4) rfl ?_
    refine b_aload_n dX4_nearestOf_7 rfl (k := 0) rfl ?_
    refine b_getI fl4_48 hd0 rfl dX4_nearestOf_8 ?_
    refine b_icge (tgt := 74) dX4_nearestOf_11 (by decide) (fun c1 => ?_) (fun c1 => ?_)
    · replace h := ifT c1 h
      refine b_iload_n dX4_nearestOf_74 rfl (k := 3) rfl ?_
      cases h
      exact b_iret rfl dX4_nearestOf_75
    · replace h := ifF c1 h
      refine b_iload dX4_nearestOf_14 (k := 4) rfl ?_
      refine b_bipush (v := 8) dX4_nearestOf_16 (by decide) ?_
      refine b_icge (tgt := 74) dX4_nearestOf_18 (by decide) (fun c2 => ?_) (fun c2 => ?_)
      · replace h := ifT c2 h
        refine b_iload_n dX4_nearestOf_74 rfl (k := 3) rfl ?_
        cases h
        exact b_iret rfl dX4_nearestOf_75
      · replace h := ifF c2 h
        refine b_iload_n dX4_nearestOf_21 rfl (k := 1) rfl ?_
        refine b_iload dX4_nearestOf_22 (k := 4) rfl ?_
        refine b_ishr dX4_nearestOf_24 ?_
        refine b_iconst (v := 1) dX4_nearestOf_25 (by decide) ?_
        refine b_iand dX4_nearestOf_26 ?_
        refine b_ifeq (tgt := 68) dX4_nearestOf_27 (by decide) (fun c3 => ?_) (fun c3 => ?_)
        · replace h := ifT c3 h
          obtain ⟨y4, ey4, h⟩ := nmE h
          refine b_iinc (v := y4) (lv' := [(4, vI y4), (0, vR d0 0), (1, vI a1), (2, vI a2), (3, vI x3)]) dX4_nearestOf_68 (k := 4) rfl ey4.symm (by decide) rfl ?_
          refine b_goto (tgt := 5) dX4_nearestOf_71 (by decide) ?_
          refine b_sub [1, 2, 3, 4, 0] rfl ?_
          exact ih x3 y4 _ _ _ h
        · replace h := ifF c3 h
          refine b_aload_n dX4_nearestOf_30 rfl (k := 0) rfl ?_
          refine b_getF fl4_41 hd0 rfl (grC6 hd0 7) dX4_nearestOf_31 ?_
          refine b_iload dX4_nearestOf_34 (k := 4) rfl ?_
          obtain ⟨g5, h⟩ := gdE h
          refine b_iald (arC6_7 hd0) g5 rfl dX4_nearestOf_36 ?_
          refine b_iload_n dX4_nearestOf_37 rfl (k := 2) rfl ?_
          refine b_icge (tgt := 44) dX4_nearestOf_38 (by decide) (fun c6 => ?_) (fun c6 => ?_)
          · replace h := ifT c6 h
            refine b_iload_n dX4_nearestOf_44 rfl (k := 3) rfl ?_
            refine b_iconst (v := (-1)) dX4_nearestOf_45 (by decide) ?_
            refine b_iceq (tgt := 65) dX4_nearestOf_46 (by decide) (fun c7 => ?_) (fun c7 => ?_)
            · replace h := ifT c7 h
              refine b_iload dX4_nearestOf_65 (k := 4) rfl ?_
              refine b_istore_n (lv' := [(3, vI x4), (0, vR d0 0), (1, vI a1), (2, vI a2), (4, vI x4)]) dX4_nearestOf_67 rfl (by decide) rfl ?_
              obtain ⟨y8, ey8, h⟩ := nmE h
              refine b_iinc (v := y8) (lv' := [(4, vI y8), (3, vI x4), (0, vR d0 0), (1, vI a1), (2, vI a2)]) dX4_nearestOf_68 (k := 4) rfl ey8.symm (by decide) rfl ?_
              refine b_goto (tgt := 5) dX4_nearestOf_71 (by decide) ?_
              refine b_sub [2, 3, 4, 1, 0] rfl ?_
              exact ih x4 y8 _ _ _ h
            · replace h := ifF c7 h
              refine b_aload_n dX4_nearestOf_49 rfl (k := 0) rfl ?_
              refine b_getF fl4_41 hd0 rfl (grC6 hd0 7) dX4_nearestOf_50 ?_
              refine b_iload dX4_nearestOf_53 (k := 4) rfl ?_
              obtain ⟨g9, h⟩ := gdE h
              refine b_iald (arC6_7 hd0) g9 rfl dX4_nearestOf_55 ?_
              refine b_aload_n dX4_nearestOf_56 rfl (k := 0) rfl ?_
              refine b_getF fl4_41 hd0 rfl (grC6 hd0 7) dX4_nearestOf_57 ?_
              refine b_iload_n dX4_nearestOf_60 rfl (k := 3) rfl ?_
              obtain ⟨g10, h⟩ := gdE h
              refine b_iald (arC6_7 hd0) g10 rfl dX4_nearestOf_61 ?_
              refine b_icge (tgt := 68) dX4_nearestOf_62 (by decide) (fun c11 => ?_) (fun c11 => ?_)
              · replace h := ifT c11 h
                obtain ⟨y12, ey12, h⟩ := nmE h
                refine b_iinc (v := y12) (lv' := [(4, vI y12), (0, vR d0 0), (1, vI a1), (2, vI a2), (3, vI x3)]) dX4_nearestOf_68 (k := 4) rfl ey12.symm (by decide) rfl ?_
                refine b_goto (tgt := 5) dX4_nearestOf_71 (by decide) ?_
                refine b_sub [1, 2, 3, 4, 0] rfl ?_
                exact ih x3 y12 _ _ _ h
              · replace h := ifF c11 h
                refine b_iload dX4_nearestOf_65 (k := 4) rfl ?_
                refine b_istore_n (lv' := [(3, vI x4), (0, vR d0 0), (1, vI a1), (2, vI a2), (4, vI x4)]) dX4_nearestOf_67 rfl (by decide) rfl ?_
                obtain ⟨y13, ey13, h⟩ := nmE h
                refine b_iinc (v := y13) (lv' := [(4, vI y13), (3, vI x4), (0, vR d0 0), (1, vI a1), (2, vI a2)]) dX4_nearestOf_68 (k := 4) rfl ey13.symm (by decide) rfl ?_
                refine b_goto (tgt := 5) dX4_nearestOf_71 (by decide) ?_
                refine b_sub [2, 3, 4, 1, 0] rfl ?_
                exact ih x4 y13 _ _ _ h
          · replace h := ifF c6 h
            refine b_goto (tgt := 68) dX4_nearestOf_41 (by decide) ?_
            obtain ⟨y14, ey14, h⟩ := nmE h
            refine b_iinc (v := y14) (lv' := [(4, vI y14), (0, vR d0 0), (1, vI a1), (2, vI a2), (3, vI x3)]) dX4_nearestOf_68 (k := 4) rfl ey14.symm (by decide) rfl ?_
            refine b_goto (tgt := 5) dX4_nearestOf_71 (by decide) ?_
            refine b_sub [1, 2, 3, 4, 0] rfl ?_
            exact ih x3 y14 _ _ _ h
def f4_nearestOf  (d0 : Nat) (a1 : Int32) (a2 : Int32)   (w : Mem) : Option (Int32 × Mem) :=
  f4_nearestOf_5  d0 a1 a2  100000 (-1) 0 w
set_option maxRecDepth 100000 in
set_option maxHeartbeats 4000000 in
theorem t4_nearestOf   (d0 : Nat) (a1 : Int32) (a2 : Int32) (hd0 : Ob d0 6)    (w w' : Mem) (r : Int32) (h : f4_nearestOf  d0 a1 a2   w = some (r, w')) : Bk yX4_nearestOf cX4_nearestOf 5 (some .int) 1 0 [(0, vR d0 0), (1, vI a1), (2, vI a2)] [] w (some (vI r)) w' := by
  unfold f4_nearestOf at h
  refine b_iconst (v := (-1)) dX4_nearestOf_0 (by decide) ?_
  refine b_istore_n (lv' := [(3, vI (-1)), (0, vR d0 0), (1, vI a1), (2, vI a2)]) dX4_nearestOf_1 rfl (by decide) rfl ?_
  refine b_iconst (v := 0) dX4_nearestOf_2 (by decide) ?_
  refine b_istore (lv' := [(4, vI 0), (3, vI (-1)), (0, vR d0 0), (1, vI a1), (2, vI a2)]) dX4_nearestOf_3 (by decide) rfl ?_
  refine b_sub [2, 3, 4, 1, 0] rfl ?_
  exact t4_nearestOf_5  d0 a1 a2 hd0   100000 (-1) 0 _ _ _ h
theorem s4_nearestOf (d0 : Nat) (a1 : Int32) (a2 : Int32) (hd0 : Ob d0 6) (w w' : Mem) (r : Int32) (h : f4_nearestOf  d0 a1 a2  w = some (r, w')) : Sp yX4_nearestOf cX4_nearestOf 5 (some .int) 1 [vR d0 0, vI a1, vI a2] w (some (vI r)) w' := sp_of (by decide) (fun _ => rfl) (fun _ => Nat.le_of_ble_eq_true rfl) (t4_nearestOf  d0 a1 a2 hd0  _ _ _ h)
-- X4_leastWith OneADay$Plan
def f4_leastWith (self : Nat → Int32 → Mem → Option (Int32 × Mem)) (d1 : Nat) (a2 : Int32) (a3 : Int32)   (w : Mem) : Option (Int32 × Mem) :=
  if a3 < 0 then (some (1000000, w)) else (if 8 ≤ a3 then (some (1000000, w)) else (if a2 < 0 then (some (1000000, w)) else (if a2 < 10 then (if a2 < 0 ∨ 10 ≤ Int32.toNatClampNeg a2 then none else bnd (sI w 31 0 (Int32.toNatClampNeg a2) a3) fun w6 => if a3 < 0 ∨ 8 ≤ Int32.toNatClampNeg a3 then none else bndO (self d1 (a2 + 1) w6) fun r9 w8 => some (jmin 1000000 ((2 * (w6.1 d1 7 (Int32.toNatClampNeg a3))) + r9), w8)) else (some (1000000, w)))))
set_option maxRecDepth 100000 in
set_option maxHeartbeats 4000000 in
theorem t4_leastWith (self : Nat → Int32 → Mem → Option (Int32 × Mem)) (ds dp : Nat) (hdp : ds + 1 ≤ dp) (hdc : 12 ≤ ds) (hself : ∀ (d1 : Nat) (a2 : Int32) (hd1 : Ob d1 6) (w w' : Mem) (r : Int32), self d1 a2 w = some (r, w') → Sp yX4_leastFrom cX4_leastFrom 7 (some .int) ds [vR 31 0, vR d1 0, vI a2] w (some (vI r)) w') (d1 : Nat) (a2 : Int32) (a3 : Int32) (hd1 : Ob d1 6)    (w w' : Mem) (r : Int32) (h : f4_leastWith self d1 a2 a3   w = some (r, w')) : Bk yX4_leastWith cX4_leastWith 4 (some .int) dp 0 [(0, vR 31 0), (1, vR d1 0), (2, vI a2), (3, vI a3)] [] w (some (vI r)) w' := by
  unfold f4_leastWith at h
  refine b_iload_n dX4_leastWith_0 rfl (k := 3) rfl ?_
  refine b_iflt (tgt := 26) dX4_leastWith_1 (by decide) (fun c1 => ?_) (fun c1 => ?_)
  · replace h := ifT c1 h
    refine b_ldc dX4_leastWith_26 kk4_47 ?_
    cases h
    exact b_iret rfl dX4_leastWith_28
  · replace h := ifF c1 h
    refine b_iload_n dX4_leastWith_4 rfl (k := 3) rfl ?_
    refine b_aload_n dX4_leastWith_5 rfl (k := 1) rfl ?_
    refine b_getF fl4_41 hd1 rfl (grC6 hd1 7) dX4_leastWith_6 ?_
    refine b_alen (v := 8) (arC6_7 hd1) (by decide) (by decide) dX4_leastWith_9 ?_
    refine b_icge (tgt := 26) dX4_leastWith_10 (by decide) (fun c2 => ?_) (fun c2 => ?_)
    · replace h := ifT c2 h
      refine b_ldc dX4_leastWith_26 kk4_47 ?_
      cases h
      exact b_iret rfl dX4_leastWith_28
    · replace h := ifF c2 h
      refine b_iload_n dX4_leastWith_13 rfl (k := 2) rfl ?_
      refine b_iflt (tgt := 26) dX4_leastWith_14 (by decide) (fun c3 => ?_) (fun c3 => ?_)
      · replace h := ifT c3 h
        refine b_ldc dX4_leastWith_26 kk4_47 ?_
        cases h
        exact b_iret rfl dX4_leastWith_28
      · replace h := ifF c3 h
        refine b_iload_n dX4_leastWith_17 rfl (k := 2) rfl ?_
        refine b_aload_n dX4_leastWith_18 rfl (k := 0) rfl ?_
        refine b_getF fl4_9 ob31 rfl rfl dX4_leastWith_19 ?_
        refine b_alen (v := 10) ar31_0 (by decide) (by decide) dX4_leastWith_22 ?_
        refine b_iclt (tgt := 29) dX4_leastWith_23 (by decide) (fun c4 => ?_) (fun c4 => ?_)
        · replace h := ifT c4 h
          refine b_aload_n dX4_leastWith_29 rfl (k := 0) rfl ?_
          refine b_getF fl4_9 ob31 rfl rfl dX4_leastWith_30 ?_
          refine b_iload_n dX4_leastWith_33 rfl (k := 2) rfl ?_
          refine b_iload_n dX4_leastWith_34 rfl (k := 3) rfl ?_
          obtain ⟨g5, h⟩ := gdE h
          obtain ⟨w6, ew6, h⟩ := nmE h
          refine b_iast ar31_0 g5 rfl dX4_leastWith_35 ?_
          refine b_nmW ew6 ?_
          refine b_ldc dX4_leastWith_36 kk4_47 ?_
          refine b_iconst (v := 2) dX4_leastWith_38 (by decide) ?_
          refine b_aload_n dX4_leastWith_39 rfl (k := 1) rfl ?_
          refine b_getF fl4_41 hd1 rfl (grC6 hd1 7) dX4_leastWith_40 ?_
          refine b_iload_n dX4_leastWith_43 rfl (k := 3) rfl ?_
          obtain ⟨g7, h⟩ := gdE h
          refine b_iald (arC6_7 hd1) g7 rfl dX4_leastWith_44 ?_
          refine b_imul dX4_leastWith_45 ?_
          refine b_aload_n dX4_leastWith_46 rfl (k := 0) rfl ?_
          refine b_aload_n dX4_leastWith_47 rfl (k := 1) rfl ?_
          refine b_iload_n dX4_leastWith_48 rfl (k := 2) rfl ?_
          refine b_iconst (v := 1) dX4_leastWith_49 (by decide) ?_
          refine b_iadd dX4_leastWith_50 ?_
          obtain ⟨r9, w8, hw8, h⟩ := bdO h
          refine b_callVi mv4_leastFrom ml4_51 ob31 (hself d1 (a2 + 1) hd1 _ _ _ hw8) rfl (by omega) (by decide) (Nat.le_of_ble_eq_true rfl) rfl dX4_leastWith_51 ?_
          refine b_iadd dX4_leastWith_54 ?_
          refine b_mmin ml4_19 (Nat.le_of_ble_eq_true rfl) (by first | decide | omega) dX4_leastWith_55 ?_
          cases h
          exact b_iret rfl dX4_leastWith_58
        · replace h := ifF c4 h
          refine b_ldc dX4_leastWith_26 kk4_47 ?_
          cases h
          exact b_iret rfl dX4_leastWith_28
theorem s4_leastWith (self : Nat → Int32 → Mem → Option (Int32 × Mem)) (ds dp : Nat) (hdp : ds + 1 ≤ dp) (hdc : 12 ≤ ds) (hself : ∀ (d1 : Nat) (a2 : Int32) (hd1 : Ob d1 6) (w w' : Mem) (r : Int32), self d1 a2 w = some (r, w') → Sp yX4_leastFrom cX4_leastFrom 7 (some .int) ds [vR 31 0, vR d1 0, vI a2] w (some (vI r)) w') (d1 : Nat) (a2 : Int32) (a3 : Int32) (hd1 : Ob d1 6) (w w' : Mem) (r : Int32) (h : f4_leastWith self d1 a2 a3  w = some (r, w')) : Sp yX4_leastWith cX4_leastWith 4 (some .int) dp [vR 31 0, vR d1 0, vI a2, vI a3] w (some (vI r)) w' := sp_of (by decide) (fun _ => rfl) (fun _ => Nat.le_of_ble_eq_true rfl) (t4_leastWith self ds dp hdp hdc hself d1 a2 a3 hd1  _ _ _ h)
-- X4_leastFrom OneADay$Plan
def f4_leastFromB (self : Nat → Int32 → Mem → Option (Int32 × Mem)) (d1 : Nat) (a2 : Int32)   (w : Mem) : Option (Int32 × Mem) :=
  if a2 < 0 then (some (0, w)) else (if (w.1 31 2 0) ≤ a2 then (some (0, w)) else (if a2 < 10 then (bndO (f4_freeOn d1 a2 w) fun r5 w4 => bndO (f4_nearestOf d1 r5 0 w4) fun r7 w6 => bndO (f4_leastWith self d1 a2 r7 w6) fun r9 w8 => if r7 = (-1) then (some (r9, w8)) else (if r7 < 0 ∨ 8 ≤ Int32.toNatClampNeg r7 then none else if 0 < (w8.1 d1 7 (Int32.toNatClampNeg r7)) then (some (r9, w8)) else (if a2 < (w8.1 31 3 0) then (bndO (f4_nearestOf d1 r5 1 w8) fun r15 w14 => if r15 = (-1) then (some (r9, w14)) else (if r15 < 0 ∨ 8 ≤ Int32.toNatClampNeg r15 then none else if (2 * (w14.1 d1 7 (Int32.toNatClampNeg r15))) < r9 then (bndO (f4_leastWith self d1 a2 r15 w14) fun r20 w19 => some (jmin r9 r20, w19)) else (some (r9, w14)))) else (some (r9, w8))))) else (some (0, w))))
set_option maxRecDepth 100000 in
set_option maxHeartbeats 4000000 in
theorem t4_leastFromB (self : Nat → Int32 → Mem → Option (Int32 × Mem)) (ds dp : Nat) (hdp : ds + 2 ≤ dp) (hdc : 12 ≤ ds) (hself : ∀ (d1 : Nat) (a2 : Int32) (hd1 : Ob d1 6) (w w' : Mem) (r : Int32), self d1 a2 w = some (r, w') → Sp yX4_leastFrom cX4_leastFrom 7 (some .int) ds [vR 31 0, vR d1 0, vI a2] w (some (vI r)) w') (d1 : Nat) (a2 : Int32) (hd1 : Ob d1 6)    (w w' : Mem) (r : Int32) (h : f4_leastFromB self d1 a2   w = some (r, w')) : Bk yX4_leastFrom cX4_leastFrom 7 (some .int) dp 0 [(0, vR 31 0), (1, vR d1 0), (2, vI a2)] [] w (some (vI r)) w' := by
  unfold f4_leastFromB at h
  refine b_iload_n dX4_leastFrom_0 rfl (k := 2) rfl ?_
  refine b_iflt (tgt := 21) dX4_leastFrom_1 (by decide) (fun c1 => ?_) (fun c1 => ?_)
  · replace h := ifT c1 h
    refine b_iconst (v := 0) dX4_leastFrom_21 (by decide) ?_
    cases h
    exact b_iret rfl dX4_leastFrom_22
  · replace h := ifF c1 h
    refine b_iload_n dX4_leastFrom_4 rfl (k := 2) rfl ?_
    refine b_aload_n dX4_leastFrom_5 rfl (k := 0) rfl ?_
    refine b_getI fl4_25 ob31 rfl dX4_leastFrom_6 ?_
    refine b_icge (tgt := 21) dX4_leastFrom_9 (by decide) (fun c2 => ?_) (fun c2 => ?_)
    · replace h := ifT c2 h
      refine b_iconst (v := 0) dX4_leastFrom_21 (by decide) ?_
      cases h
      exact b_iret rfl dX4_leastFrom_22
    · replace h := ifF c2 h
      refine b_iload_n dX4_leastFrom_12 rfl (k := 2) rfl ?_
      refine b_aload_n dX4_leastFrom_13 rfl (k := 0) rfl ?_
      refine b_getF fl4_9 ob31 rfl rfl dX4_leastFrom_14 ?_
      refine b_alen (v := 10) ar31_0 (by decide) (by decide) dX4_leastFrom_17 ?_
      refine b_iclt (tgt := 23) dX4_leastFrom_18 (by decide) (fun c3 => ?_) (fun c3 => ?_)
      · replace h := ifT c3 h
        refine b_aload_n dX4_leastFrom_23 rfl (k := 0) rfl ?_
        refine b_aload_n dX4_leastFrom_24 rfl (k := 1) rfl ?_
        refine b_iload_n dX4_leastFrom_25 rfl (k := 2) rfl ?_
        obtain ⟨r5, w4, hw4, h⟩ := bdO h
        refine b_callVi mv4_freeOn ml4_44 ob31 (s4_freeOn d1 a2 hd1 _ _ _ hw4) rfl (by omega) (by decide) (Nat.le_of_ble_eq_true rfl) rfl dX4_leastFrom_26 ?_
        refine b_istore_n (lv' := [(3, vI r5), (0, vR 31 0), (1, vR d1 0), (2, vI a2)]) dX4_leastFrom_29 rfl (by decide) rfl ?_
        refine b_aload_n dX4_leastFrom_30 rfl (k := 2) rfl ?_
        refine b_iload_n dX4_leastFrom_31 rfl (k := 0) rfl ?_
        refine b_iconst (v := 0) dX4_leastFrom_32 (by decide) ?_
        obtain ⟨r7, w6, hw6, h⟩ := bdO h
        refine b_callSi ms4_nearestOf ml4_64 (s4_nearestOf d1 r5 0 hd1 _ _ _ hw6) rfl (by omega) (by decide) (Nat.le_of_ble_eq_true rfl) rfl dX4_leastFrom_33 ?_
        refine b_istore (lv' := [(4, vI r7), (3, vI r5), (0, vR 31 0), (1, vR d1 0), (2, vI a2)]) dX4_leastFrom_36 (by decide) rfl ?_
        refine b_aload_n dX4_leastFrom_38 rfl (k := 2) rfl ?_
        refine b_aload_n dX4_leastFrom_39 rfl (k := 3) rfl ?_
        refine b_iload_n dX4_leastFrom_40 rfl (k := 4) rfl ?_
        refine b_iload dX4_leastFrom_41 (k := 0) rfl ?_
        obtain ⟨r9, w8, hw8, h⟩ := bdO h
        refine b_callVi mv4_leastWith ml4_68 ob31 (s4_leastWith self ds (ds + 1) (Nat.le_refl _) hdc hself d1 a2 r7 hd1 _ _ _ hw8) rfl (by omega) (by decide) (Nat.le_of_ble_eq_true rfl) rfl dX4_leastFrom_43 ?_
        refine b_istore (lv' := [(5, vI r9), (4, vI r7), (3, vI r5), (0, vR 31 0), (1, vR d1 0), (2, vI a2)]) dX4_leastFrom_46 (by decide) rfl ?_
        refine b_iload dX4_leastFrom_48 (k := 1) rfl ?_
        refine b_iconst (v := (-1)) dX4_leastFrom_50 (by decide) ?_
        refine b_iceq (tgt := 72) dX4_leastFrom_51 (by decide) (fun c10 => ?_) (fun c10 => ?_)
        · replace h := ifT c10 h
          refine b_iload dX4_leastFrom_72 (k := 0) rfl ?_
          cases h
          exact b_iret rfl dX4_leastFrom_74
        · replace h := ifF c10 h
          refine b_aload_n dX4_leastFrom_54 rfl (k := 4) rfl ?_
          refine b_getF fl4_41 hd1 rfl (grC6 hd1 7) dX4_leastFrom_55 ?_
          refine b_iload dX4_leastFrom_58 (k := 1) rfl ?_
          obtain ⟨g11, h⟩ := gdE h
          refine b_iald (arC6_7 hd1) g11 rfl dX4_leastFrom_60 ?_
          refine b_ifgt (tgt := 72) dX4_leastFrom_61 (by decide) (fun c12 => ?_) (fun c12 => ?_)
          · replace h := ifT c12 h
            refine b_iload dX4_leastFrom_72 (k := 0) rfl ?_
            cases h
            exact b_iret rfl dX4_leastFrom_74
          · replace h := ifF c12 h
            refine b_iload_n dX4_leastFrom_64 rfl (k := 5) rfl ?_
            refine b_aload_n dX4_leastFrom_65 rfl (k := 3) rfl ?_
            refine b_getI fl4_28 ob31 rfl dX4_leastFrom_66 ?_
            refine b_iclt (tgt := 75) dX4_leastFrom_69 (by decide) (fun c13 => ?_) (fun c13 => ?_)
            · replace h := ifT c13 h
              refine b_aload_n dX4_leastFrom_75 rfl (k := 4) rfl ?_
              refine b_iload_n dX4_leastFrom_76 rfl (k := 2) rfl ?_
              refine b_iconst (v := 1) dX4_leastFrom_77 (by decide) ?_
              obtain ⟨r15, w14, hw14, h⟩ := bdO h
              refine b_callSi ms4_nearestOf ml4_64 (s4_nearestOf d1 r5 1 hd1 _ _ _ hw14) rfl (by omega) (by decide) (Nat.le_of_ble_eq_true rfl) rfl dX4_leastFrom_78 ?_
              refine b_istore (lv' := [(6, vI r15), (5, vI r9), (4, vI r7), (3, vI r5), (0, vR 31 0), (1, vR d1 0), (2, vI a2)]) dX4_leastFrom_81 (by decide) rfl ?_
              refine b_iload dX4_leastFrom_83 (k := 0) rfl ?_
              refine b_iconst (v := (-1)) dX4_leastFrom_85 (by decide) ?_
              refine b_iceq (tgt := 103) dX4_leastFrom_86 (by decide) (fun c16 => ?_) (fun c16 => ?_)
              · replace h := ifT c16 h
                refine b_iload dX4_leastFrom_103 (k := 1) rfl ?_
                cases h
                exact b_iret rfl dX4_leastFrom_105
              · replace h := ifF c16 h
                refine b_iconst (v := 2) dX4_leastFrom_89 (by decide) ?_
                refine b_aload_n dX4_leastFrom_90 rfl (k := 5) rfl ?_
                refine b_getF fl4_41 hd1 rfl (grC6 hd1 7) dX4_leastFrom_91 ?_
                refine b_iload dX4_leastFrom_94 (k := 0) rfl ?_
                obtain ⟨g17, h⟩ := gdE h
                refine b_iald (arC6_7 hd1) g17 rfl dX4_leastFrom_96 ?_
                refine b_imul dX4_leastFrom_97 ?_
                refine b_iload dX4_leastFrom_98 (k := 1) rfl ?_
                refine b_iclt (tgt := 106) dX4_leastFrom_100 (by decide) (fun c18 => ?_) (fun c18 => ?_)
                · replace h := ifT c18 h
                  refine b_iload dX4_leastFrom_106 (k := 1) rfl ?_
                  refine b_aload_n dX4_leastFrom_108 rfl (k := 4) rfl ?_
                  refine b_aload_n dX4_leastFrom_109 rfl (k := 5) rfl ?_
                  refine b_iload_n dX4_leastFrom_110 rfl (k := 6) rfl ?_
                  refine b_iload dX4_leastFrom_111 (k := 0) rfl ?_
                  obtain ⟨r20, w19, hw19, h⟩ := bdO h
                  refine b_callVi mv4_leastWith ml4_68 ob31 (s4_leastWith self ds (ds + 1) (Nat.le_refl _) hdc hself d1 a2 r15 hd1 _ _ _ hw19) rfl (by omega) (by decide) (Nat.le_of_ble_eq_true rfl) rfl dX4_leastFrom_113 ?_
                  refine b_mmin ml4_19 (Nat.le_of_ble_eq_true rfl) (by first | decide | omega) dX4_leastFrom_116 ?_
                  cases h
                  exact b_iret rfl dX4_leastFrom_119
                · replace h := ifF c18 h
                  refine b_iload dX4_leastFrom_103 (k := 1) rfl ?_
                  cases h
                  exact b_iret rfl dX4_leastFrom_105
            · replace h := ifF c13 h
              refine b_iload dX4_leastFrom_72 (k := 0) rfl ?_
              cases h
              exact b_iret rfl dX4_leastFrom_74
      · replace h := ifF c3 h
        refine b_iconst (v := 0) dX4_leastFrom_21 (by decide) ?_
        cases h
        exact b_iret rfl dX4_leastFrom_22
theorem s4_leastFromB (self : Nat → Int32 → Mem → Option (Int32 × Mem)) (ds dp : Nat) (hdp : ds + 2 ≤ dp) (hdc : 12 ≤ ds) (hself : ∀ (d1 : Nat) (a2 : Int32) (hd1 : Ob d1 6) (w w' : Mem) (r : Int32), self d1 a2 w = some (r, w') → Sp yX4_leastFrom cX4_leastFrom 7 (some .int) ds [vR 31 0, vR d1 0, vI a2] w (some (vI r)) w') (d1 : Nat) (a2 : Int32) (hd1 : Ob d1 6) (w w' : Mem) (r : Int32) (h : f4_leastFromB self d1 a2  w = some (r, w')) : Sp yX4_leastFrom cX4_leastFrom 7 (some .int) dp [vR 31 0, vR d1 0, vI a2] w (some (vI r)) w' := sp_of (by decide) (fun _ => rfl) (fun _ => Nat.le_of_ble_eq_true rfl) (t4_leastFromB self ds dp hdp hdc hself d1 a2 hd1  _ _ _ h)
def f4_leastFrom : Nat → Nat → Int32 → Mem → Option (Int32 × Mem)
  | 0, _, _, _ => none
  | n + 1, d1, a2, w => f4_leastFromB (f4_leastFrom n) d1 a2  w
theorem s4_leastFrom : ∀ (n : Nat) (d1 : Nat) (a2 : Int32) (hd1 : Ob d1 6) (w w' : Mem) (r : Int32), f4_leastFrom n d1 a2 w = some (r, w') → Sp yX4_leastFrom cX4_leastFrom 7 (some .int) (12 + 2 * n) [vR 31 0, vR d1 0, vI a2] w (some (vI r)) w' := by
  intro n
  induction n with
  | zero =>
    intro d1 a2 hd1 w w' r h
    cases (show (none : Option (Int32 × Mem)) = some _ from h)
  | succ n ih =>
    intro d1 a2 hd1 w w' r h
    exact s4_leastFromB (f4_leastFrom n) (12 + 2 * n) (12 + 2 * (n + 1)) (by omega) (by omega) ih d1 a2 hd1 w w' r h
-- X0_commonDivisor OneADay$Cover
def f0_commonDivisor_6  (a0 : Int32) (a1 : Int32)  : Nat → Int32 → Mem → Option (Int32 × Mem)
  | 0, _, _ => none
  | n + 1, x2, w =>
  if x2 ≤ 1 then (some (1, w)) else (if x2 = 0 then none else if (jrem a0 x2) = 0 then (if x2 = 0 then none else if (jrem a1 x2) = 0 then (some (x2, w)) else (bnd (x2 + (-1)) fun y7 => f0_commonDivisor_6  a0 a1  n y7 w)) else (bnd (x2 + (-1)) fun y4 => f0_commonDivisor_6  a0 a1  n y4 w))
set_option maxRecDepth 100000 in
set_option maxHeartbeats 4000000 in
theorem t0_commonDivisor_6   (a0 : Int32) (a1 : Int32)    : ∀ (n : Nat) (x2 : Int32) (w w' : Mem) (r : Int32), f0_commonDivisor_6  a0 a1  n x2 w = some (r, w') → Bk yX0_commonDivisor cX0_commonDivisor 3 (some .int) 2 6 [(0, vI a0), (1, vI a1), (2, vI x2)] [] w (some (vI r)) w' := by
  intro n
  induction n with
  | zero =>
    intro x2 w w' r h
    cases (show (none : Option (Int32 × Mem)) = some _ from h)
  | succ n ih =>
    intro x2 w w' r h
    rw [f0_commonDivisor_6] at h
    refine b_iload_n dX0_commonDivisor_6 rfl (k := 2) rfl ?_
    refine b_iconst (v := 1) dX0_commonDivisor_7 (by decide) ?_
    refine b_icle (tgt := 31) dX0_commonDivisor_8 (by decide) (fun c1 => ?_) (fun c1 => ?_)
    · replace h := ifT c1 h
      refine b_iconst (v := 1) dX0_commonDivisor_31 (by decide) ?_
      cases h
      exact b_iret rfl dX0_commonDivisor_32
    · replace h := ifF c1 h
      refine b_iload_n dX0_commonDivisor_11 rfl (k := 0) rfl ?_
      refine b_iload_n dX0_commonDivisor_12 rfl (k := 2) rfl ?_
      obtain ⟨g2, h⟩ := gdE h
      refine b_irem dX0_commonDivisor_13 g2 ?_
      refine b_ifne (tgt := 25) dX0_commonDivisor_14 (by decide) (fun c3 => ?_) (fun c3 => ?_)
      · replace h := ifF c3 h
        obtain ⟨y4, ey4, h⟩ := nmE h
        refine b_iinc (v := y4) (lv' := [(2, vI y4), (0, vI a0), (1, vI a1)]) dX0_commonDivisor_25 (k := 2) rfl ey4.symm (by decide) rfl ?_
        refine b_goto (tgt := 6) dX0_commonDivisor_28 (by decide) ?_
        refine b_sub [1, 2, 0] rfl ?_
        exact ih y4 _ _ _ h
      · replace h := ifT c3 h
        refine b_iload_n dX0_commonDivisor_17 rfl (k := 1) rfl ?_
        refine b_iload_n dX0_commonDivisor_18 rfl (k := 2) rfl ?_
        obtain ⟨g5, h⟩ := gdE h
        refine b_irem dX0_commonDivisor_19 g5 ?_
        refine b_ifne (tgt := 25) dX0_commonDivisor_20 (by decide) (fun c6 => ?_) (fun c6 => ?_)
        · replace h := ifF c6 h
          obtain ⟨y7, ey7, h⟩ := nmE h
          refine b_iinc (v := y7) (lv' := [(2, vI y7), (0, vI a0), (1, vI a1)]) dX0_commonDivisor_25 (k := 2) rfl ey7.symm (by decide) rfl ?_
          refine b_goto (tgt := 6) dX0_commonDivisor_28 (by decide) ?_
          refine b_sub [1, 2, 0] rfl ?_
          exact ih y7 _ _ _ h
        · replace h := ifT c6 h
          refine b_iload_n dX0_commonDivisor_23 rfl (k := 2) rfl ?_
          cases h
          exact b_iret rfl dX0_commonDivisor_24
def f0_commonDivisor  (a0 : Int32) (a1 : Int32)   (w : Mem) : Option (Int32 × Mem) :=
  bnd (jmin a0 a1) fun y1 => f0_commonDivisor_6  a0 a1  100000 y1 w
set_option maxRecDepth 100000 in
set_option maxHeartbeats 4000000 in
theorem t0_commonDivisor   (a0 : Int32) (a1 : Int32)     (w w' : Mem) (r : Int32) (h : f0_commonDivisor  a0 a1   w = some (r, w')) : Bk yX0_commonDivisor cX0_commonDivisor 3 (some .int) 2 0 [(0, vI a0), (1, vI a1)] [] w (some (vI r)) w' := by
  unfold f0_commonDivisor at h
  refine b_iload_n dX0_commonDivisor_0 rfl (k := 0) rfl ?_
  refine b_iload_n dX0_commonDivisor_1 rfl (k := 1) rfl ?_
  refine b_mmin ml0_44 (Nat.le_of_ble_eq_true rfl) (by first | decide | omega) dX0_commonDivisor_2 ?_
  obtain ⟨y1, ey1, h⟩ := nmE h
  refine b_nmI ey1 ?_
  refine b_istore_n (lv' := [(2, vI y1), (0, vI a0), (1, vI a1)]) dX0_commonDivisor_5 rfl (by decide) rfl ?_
  refine b_sub [1, 2, 0] rfl ?_
  exact t0_commonDivisor_6  a0 a1    100000 y1 _ _ _ h
theorem s0_commonDivisor (a0 : Int32) (a1 : Int32)  (w w' : Mem) (r : Int32) (h : f0_commonDivisor  a0 a1  w = some (r, w')) : Sp yX0_commonDivisor cX0_commonDivisor 3 (some .int) 2 [vI a0, vI a1] w (some (vI r)) w' := sp_of (by decide) (fun _ => rfl) (fun _ => Nat.le_of_ble_eq_true rfl) (t0_commonDivisor  a0 a1   _ _ _ h)
-- X6_periodOf OneADay$Rock
def f6_periodOf  (d0 : Nat) (a1 : Int32)   (w : Mem) : Option (Int32 × Mem) :=
  if a1 < 0 then (some (1, w)) else (if a1 < 8 then (if a1 < 0 ∨ 8 ≤ Int32.toNatClampNeg a1 then none else some (jmax 1 (w.1 d0 8 (Int32.toNatClampNeg a1)), w)) else (some (1, w)))
set_option maxRecDepth 100000 in
set_option maxHeartbeats 4000000 in
theorem t6_periodOf   (d0 : Nat) (a1 : Int32) (hd0 : Ob d0 6)    (w w' : Mem) (r : Int32) (h : f6_periodOf  d0 a1   w = some (r, w')) : Bk yX6_periodOf cX6_periodOf 2 (some .int) 2 0 [(0, vR d0 0), (1, vI a1)] [] w (some (vI r)) w' := by
  unfold f6_periodOf at h
  refine b_iload_n dX6_periodOf_0 rfl (k := 1) rfl ?_
  refine b_iflt (tgt := 13) dX6_periodOf_1 (by decide) (fun c1 => ?_) (fun c1 => ?_)
  · replace h := ifT c1 h
    refine b_iconst (v := 1) dX6_periodOf_13 (by decide) ?_
    refine b_goto (tgt := 27) dX6_periodOf_14 (by decide) ?_
    cases h
    exact b_iret rfl dX6_periodOf_27
  · replace h := ifF c1 h
    refine b_iload_n dX6_periodOf_4 rfl (k := 1) rfl ?_
    refine b_aload_n dX6_periodOf_5 rfl (k := 0) rfl ?_
    refine b_getF fl6_15 hd0 rfl (grC6 hd0 8) dX6_periodOf_6 ?_
    refine b_alen (v := 8) (arC6_8 hd0) (by decide) (by decide) dX6_periodOf_9 ?_
    refine b_iclt (tgt := 17) dX6_periodOf_10 (by decide) (fun c2 => ?_) (fun c2 => ?_)
    · replace h := ifT c2 h
      refine b_iconst (v := 1) dX6_periodOf_17 (by decide) ?_
      refine b_aload_n dX6_periodOf_18 rfl (k := 0) rfl ?_
      refine b_getF fl6_15 hd0 rfl (grC6 hd0 8) dX6_periodOf_19 ?_
      refine b_iload_n dX6_periodOf_22 rfl (k := 1) rfl ?_
      obtain ⟨g3, h⟩ := gdE h
      refine b_iald (arC6_8 hd0) g3 rfl dX6_periodOf_23 ?_
      refine b_mmax ml6_60 (Nat.le_of_ble_eq_true rfl) (by first | decide | omega) dX6_periodOf_24 ?_
      cases h
      exact b_iret rfl dX6_periodOf_27
    · replace h := ifF c2 h
      refine b_iconst (v := 1) dX6_periodOf_13 (by decide) ?_
      refine b_goto (tgt := 27) dX6_periodOf_14 (by decide) ?_
      cases h
      exact b_iret rfl dX6_periodOf_27
theorem s6_periodOf (d0 : Nat) (a1 : Int32) (hd0 : Ob d0 6) (w w' : Mem) (r : Int32) (h : f6_periodOf  d0 a1  w = some (r, w')) : Sp yX6_periodOf cX6_periodOf 2 (some .int) 2 [vR d0 0, vI a1] w (some (vI r)) w' := sp_of (by decide) (fun _ => rfl) (fun _ => Nat.le_of_ble_eq_true rfl) (t6_periodOf  d0 a1 hd0  _ _ _ h)
-- X0_canPassEachOther OneADay$Cover
def f0_canPassEachOther_44  (d0 : Nat) (a1 : Int32) (rec2 : Int32 → Mem → Option (Int32 × Mem)) (rec18 : Int32 → Int32 → Mem → Option (Int32 × Mem)) (x2 : Int32) (x3 : Int32) (s0 : Int32) (w : Mem) : Option (Int32 × Mem) :=
  if s0 = 0 then (bnd (x3 + 1) fun y2 => rec18 x2 y2 w) else (bndO (f6_periodOf d0 x3 w) fun r4 w3 => bndO (f6_periodOf d0 x2 w3) fun r6 w5 => bndO (f0_commonDivisor r4 r6 w5) fun r8 w7 => if r8 = 1 then (some (0, w7)) else (bnd (x3 + 1) fun y10 => rec18 x2 y10 w7))
set_option maxRecDepth 100000 in
set_option maxHeartbeats 4000000 in
theorem t0_canPassEachOther_44   (d0 : Nat) (a1 : Int32) (hd0 : Ob d0 6) (rec2 : Int32 → Mem → Option (Int32 × Mem)) (rec18 : Int32 → Int32 → Mem → Option (Int32 × Mem)) (hrec2 : ∀ (x2 : Int32) (w w' : Mem) (r : Int32), rec2 x2 w = some (r, w') → Bk yX0_canPassEachOther cX0_canPassEachOther 5 (some .boolean) 3 2 [(0, vR d0 0), (1, vI a1), (2, vI x2)] [] w (some (vI r)) w') (hrec18 : ∀ (x2 : Int32) (x3 : Int32) (w w' : Mem) (r : Int32), rec18 x2 x3 w = some (r, w') → Bk yX0_canPassEachOther cX0_canPassEachOther 5 (some .boolean) 3 18 [(0, vR d0 0), (1, vI a1), (2, vI x2), (3, vI x3)] [] w (some (vI r)) w') (x2 : Int32) (x3 : Int32) (s0 : Int32) (w w' : Mem) (r : Int32) (h : f0_canPassEachOther_44  d0 a1 rec2 rec18 x2 x3 s0 w = some (r, w')) : Bk yX0_canPassEachOther cX0_canPassEachOther 5 (some .boolean) 3 44 [(0, vR d0 0), (1, vI a1), (2, vI x2), (3, vI x3)] [vI s0] w (some (vI r)) w' := by
  unfold f0_canPassEachOther_44 at h
  refine b_istore (lv' := [(4, vI s0), (0, vR d0 0), (1, vI a1), (2, vI x2), (3, vI x3)]) dX0_canPassEachOther_44 (by decide) rfl ?_
  refine b_iload dX0_canPassEachOther_46 (k := 0) rfl ?_
  refine b_ifeq (tgt := 70) dX0_canPassEachOther_48 (by decide) (fun c1 => ?_) (fun c1 => ?_)
  · replace h := ifT c1 h
    obtain ⟨y2, ey2, h⟩ := nmE h
    refine b_iinc (v := y2) (lv' := [(3, vI y2), (4, vI s0), (0, vR d0 0), (1, vI a1), (2, vI x2)]) dX0_canPassEachOther_70 (k := 4) rfl ey2.symm (by decide) rfl ?_
    refine b_goto (tgt := 18) dX0_canPassEachOther_73 (by decide) ?_
    refine b_sub [2, 3, 4, 0] rfl ?_
    exact hrec18 x2 y2 _ _ _ h
  · replace h := ifF c1 h
    refine b_aload_n dX0_canPassEachOther_51 rfl (k := 1) rfl ?_
    refine b_iload_n dX0_canPassEachOther_52 rfl (k := 4) rfl ?_
    obtain ⟨r4, w3, hw3, h⟩ := bdO h
    refine b_callVi mv6_periodOf ml0_32 hd0 (s6_periodOf d0 x3 hd0 _ _ _ hw3) rfl (by decide) (by decide) (Nat.le_of_ble_eq_true rfl) rfl dX0_canPassEachOther_53 ?_
    refine b_aload_n dX0_canPassEachOther_56 rfl (k := 1) rfl ?_
    refine b_iload_n dX0_canPassEachOther_57 rfl (k := 3) rfl ?_
    obtain ⟨r6, w5, hw5, h⟩ := bdO h
    refine b_callVi mv6_periodOf ml0_32 hd0 (s6_periodOf d0 x2 hd0 _ _ _ hw5) rfl (by decide) (by decide) (Nat.le_of_ble_eq_true rfl) rfl dX0_canPassEachOther_58 ?_
    obtain ⟨r8, w7, hw7, h⟩ := bdO h
    refine b_callSi ms0_commonDivisor ml0_36 (s0_commonDivisor r4 r6  _ _ _ hw7) rfl (by decide) (by decide) (Nat.le_of_ble_eq_true rfl) rfl dX0_canPassEachOther_61 ?_
    refine b_iconst (v := 1) dX0_canPassEachOther_64 (by decide) ?_
    refine b_icne (tgt := 70) dX0_canPassEachOther_65 (by decide) (fun c9 => ?_) (fun c9 => ?_)
    · replace h := ifF c9 h
      obtain ⟨y10, ey10, h⟩ := nmE h
      refine b_iinc (v := y10) (lv' := [(3, vI y10), (4, vI s0), (0, vR d0 0), (1, vI a1), (2, vI x2)]) dX0_canPassEachOther_70 (k := 4) rfl ey10.symm (by decide) rfl ?_
      refine b_goto (tgt := 18) dX0_canPassEachOther_73 (by decide) ?_
      refine b_sub [2, 3, 4, 0] rfl ?_
      exact hrec18 x2 y10 _ _ _ h
    · replace h := ifT c9 h
      refine b_iconst (v := 0) dX0_canPassEachOther_68 (by decide) ?_
      cases h
      exact b_zret rfl (by decide) dX0_canPassEachOther_69
def f0_canPassEachOther_18  (d0 : Nat) (a1 : Int32) (rec2 : Int32 → Mem → Option (Int32 × Mem)) : Nat → Int32 → Int32 → Mem → Option (Int32 × Mem)
  | 0, _, _, _ => none
  | n + 1, x2, x3, w =>
  if x2 ≤ x3 then (bnd (x2 + 1) fun y2 => rec2 y2 w) else (if ((jshr a1 x3) &&& 1) = 0 then (f0_canPassEachOther_44  d0 a1 rec2 (f0_canPassEachOther_18  d0 a1 rec2 n) x2 x3 0 w) else (if ((jshr a1 x2) &&& 1) = 0 then (f0_canPassEachOther_44  d0 a1 rec2 (f0_canPassEachOther_18  d0 a1 rec2 n) x2 x3 0 w) else (f0_canPassEachOther_44  d0 a1 rec2 (f0_canPassEachOther_18  d0 a1 rec2 n) x2 x3 1 w)))
set_option maxRecDepth 100000 in
set_option maxHeartbeats 4000000 in
theorem t0_canPassEachOther_18   (d0 : Nat) (a1 : Int32) (hd0 : Ob d0 6) (rec2 : Int32 → Mem → Option (Int32 × Mem)) (hrec2 : ∀ (x2 : Int32) (w w' : Mem) (r : Int32), rec2 x2 w = some (r, w') → Bk yX0_canPassEachOther cX0_canPassEachOther 5 (some .boolean) 3 2 [(0, vR d0 0), (1, vI a1), (2, vI x2)] [] w (some (vI r)) w') : ∀ (n : Nat) (x2 : Int32) (x3 : Int32) (w w' : Mem) (r : Int32), f0_canPassEachOther_18  d0 a1 rec2 n x2 x3 w = some (r, w') → Bk yX0_canPassEachOther cX0_canPassEachOther 5 (some .boolean) 3 18 [(0, vR d0 0), (1, vI a1), (2, vI x2), (3, vI x3)] [] w (some (vI r)) w' := by
  intro n
  induction n with
  | zero =>
    intro x2 x3 w w' r h
    cases (show (none : Option (Int32 × Mem)) = some _ from h)
  | succ n ih =>
    intro x2 x3 w w' r h
    rw [f0_canPassEachOther_18] at h
    refine b_iload_n dX0_canPassEachOther_18 rfl (k := 3) rfl ?_
    refine b_iload_n dX0_canPassEachOther_19 rfl (k := 2) rfl ?_
    refine b_icge (tgt := 76) dX0_canPassEachOther_20 (by decide) (fun c1 => ?_) (fun c1 => ?_)
    · replace h := ifT c1 h
      obtain ⟨y2, ey2, h⟩ := nmE h
      refine b_iinc (v := y2) (lv' := [(2, vI y2), (0, vR d0 0), (1, vI a1), (3, vI x3)]) dX0_canPassEachOther_76 (k := 2) rfl ey2.symm (by decide) rfl ?_
      refine b_goto (tgt := 2) dX0_canPassEachOther_79 (by decide) ?_
      refine b_sub [1, 2, 0] rfl ?_
      exact hrec2 y2 _ _ _ h
    · replace h := ifF c1 h
      refine b_iload_n dX0_canPassEachOther_23 rfl (k := 1) rfl ?_
      refine b_iload_n dX0_canPassEachOther_24 rfl (k := 3) rfl ?_
      refine b_ishr dX0_canPassEachOther_25 ?_
      refine b_iconst (v := 1) dX0_canPassEachOther_26 (by decide) ?_
      refine b_iand dX0_canPassEachOther_27 ?_
      refine b_ifeq (tgt := 43) dX0_canPassEachOther_28 (by decide) (fun c3 => ?_) (fun c3 => ?_)
      · replace h := ifT c3 h
        refine b_iconst (v := 0) dX0_canPassEachOther_43 (by decide) ?_
        refine b_sub [0, 1, 2, 3] rfl ?_
        exact t0_canPassEachOther_44  d0 a1 hd0 rec2 (f0_canPassEachOther_18  d0 a1 rec2 n) hrec2 ih x2 x3 0 _ _ _ h
      · replace h := ifF c3 h
        refine b_iload_n dX0_canPassEachOther_31 rfl (k := 1) rfl ?_
        refine b_iload_n dX0_canPassEachOther_32 rfl (k := 2) rfl ?_
        refine b_ishr dX0_canPassEachOther_33 ?_
        refine b_iconst (v := 1) dX0_canPassEachOther_34 (by decide) ?_
        refine b_iand dX0_canPassEachOther_35 ?_
        refine b_ifeq (tgt := 43) dX0_canPassEachOther_36 (by decide) (fun c4 => ?_) (fun c4 => ?_)
        · replace h := ifT c4 h
          refine b_iconst (v := 0) dX0_canPassEachOther_43 (by decide) ?_
          refine b_sub [0, 1, 2, 3] rfl ?_
          exact t0_canPassEachOther_44  d0 a1 hd0 rec2 (f0_canPassEachOther_18  d0 a1 rec2 n) hrec2 ih x2 x3 0 _ _ _ h
        · replace h := ifF c4 h
          refine b_iconst (v := 1) dX0_canPassEachOther_39 (by decide) ?_
          refine b_goto (tgt := 44) dX0_canPassEachOther_40 (by decide) ?_
          refine b_sub [0, 1, 2, 3] rfl ?_
          exact t0_canPassEachOther_44  d0 a1 hd0 rec2 (f0_canPassEachOther_18  d0 a1 rec2 n) hrec2 ih x2 x3 1 _ _ _ h
def f0_canPassEachOther_2  (d0 : Nat) (a1 : Int32)  : Nat → Int32 → Mem → Option (Int32 × Mem)
  | 0, _, _ => none
  | n + 1, x2, w =>
  if (w.1 d0 4 0) ≤ x2 then (some (1, w)) else (if 8 ≤ x2 then (some (1, w)) else (f0_canPassEachOther_18  d0 a1 (f0_canPassEachOther_2  d0 a1  n) 100000 x2 0 w))
set_option maxRecDepth 100000 in
set_option maxHeartbeats 4000000 in
theorem t0_canPassEachOther_2   (d0 : Nat) (a1 : Int32) (hd0 : Ob d0 6)   : ∀ (n : Nat) (x2 : Int32) (w w' : Mem) (r : Int32), f0_canPassEachOther_2  d0 a1  n x2 w = some (r, w') → Bk yX0_canPassEachOther cX0_canPassEachOther 5 (some .boolean) 3 2 [(0, vR d0 0), (1, vI a1), (2, vI x2)] [] w (some (vI r)) w' := by
  intro n
  induction n with
  | zero =>
    intro x2 w w' r h
    cases (show (none : Option (Int32 × Mem)) = some _ from h)
  | succ n ih =>
    intro x2 w w' r h
    rw [f0_canPassEachOther_2] at h
    refine b_iload_n dX0_canPassEachOther_2 rfl (k := 2) rfl ?_
    refine b_aload_n dX0_canPassEachOther_3 rfl (k := 0) rfl ?_
    refine b_getI fl0_26 hd0 rfl dX0_canPassEachOther_4 ?_
    refine b_icge (tgt := 82) dX0_canPassEachOther_7 (by decide) (fun c1 => ?_) (fun c1 => ?_)
    · replace h := ifT c1 h
      refine b_iconst (v := 1) dX0_canPassEachOther_82 (by decide) ?_
      cases h
      exact b_zret rfl (by decide) dX0_canPassEachOther_83
    · replace h := ifF c1 h
      refine b_iload_n dX0_canPassEachOther_10 rfl (k := 2) rfl ?_
      refine b_bipush (v := 8) dX0_canPassEachOther_11 (by decide) ?_
      refine b_icge (tgt := 82) dX0_canPassEachOther_13 (by decide) (fun c2 => ?_) (fun c2 => ?_)
      · replace h := ifT c2 h
        refine b_iconst (v := 1) dX0_canPassEachOther_82 (by decide) ?_
        cases h
        exact b_zret rfl (by decide) dX0_canPassEachOther_83
      · replace h := ifF c2 h
        refine b_iconst (v := 0) dX0_canPassEachOther_16 (by decide) ?_
        refine b_istore_n (lv' := [(3, vI 0), (0, vR d0 0), (1, vI a1), (2, vI x2)]) dX0_canPassEachOther_17 rfl (by decide) rfl ?_
        refine b_sub [1, 2, 3, 0] rfl ?_
        exact t0_canPassEachOther_18  d0 a1 hd0 (f0_canPassEachOther_2  d0 a1  n) ih 100000 x2 0 _ _ _ h
def f0_canPassEachOther  (d0 : Nat) (a1 : Int32)   (w : Mem) : Option (Int32 × Mem) :=
  f0_canPassEachOther_2  d0 a1  100000 0 w
set_option maxRecDepth 100000 in
set_option maxHeartbeats 4000000 in
theorem t0_canPassEachOther   (d0 : Nat) (a1 : Int32) (hd0 : Ob d0 6)    (w w' : Mem) (r : Int32) (h : f0_canPassEachOther  d0 a1   w = some (r, w')) : Bk yX0_canPassEachOther cX0_canPassEachOther 5 (some .boolean) 3 0 [(0, vR d0 0), (1, vI a1)] [] w (some (vI r)) w' := by
  unfold f0_canPassEachOther at h
  refine b_iconst (v := 0) dX0_canPassEachOther_0 (by decide) ?_
  refine b_istore_n (lv' := [(2, vI 0), (0, vR d0 0), (1, vI a1)]) dX0_canPassEachOther_1 rfl (by decide) rfl ?_
  refine b_sub [1, 2, 0] rfl ?_
  exact t0_canPassEachOther_2  d0 a1 hd0   100000 0 _ _ _ h
theorem s0_canPassEachOther (d0 : Nat) (a1 : Int32) (hd0 : Ob d0 6) (w w' : Mem) (r : Int32) (h : f0_canPassEachOther  d0 a1  w = some (r, w')) : Sp yX0_canPassEachOther cX0_canPassEachOther 5 (some .boolean) 3 [vR d0 0, vI a1] w (some (vI r)) w' := sp_of (by decide) (fun _ => rfl) (fun _ => Nat.le_of_ble_eq_true rfl) (t0_canPassEachOther  d0 a1 hd0  _ _ _ h)
-- X0_comesOften OneADay$Cover
def f0_comesOften_44  (d0 : Nat) (a1 : Int32)  (x2 : Int32) (w : Mem) : Option (Int32 × Mem) :=
  if x2 = 2520 then (some (1, w)) else (some (0, w))
set_option maxRecDepth 100000 in
set_option maxHeartbeats 4000000 in
theorem t0_comesOften_44   (d0 : Nat) (a1 : Int32) (hd0 : Ob d0 6)   (x2 : Int32) (w w' : Mem) (r : Int32) (h : f0_comesOften_44  d0 a1  x2 w = some (r, w')) : Bk yX0_comesOften cX0_comesOften 4 (some .boolean) 3 44 [(2, vI x2)] [] w (some (vI r)) w' := by
  unfold f0_comesOften_44 at h
  refine b_iload_n dX0_comesOften_44 rfl (k := 0) rfl ?_
  refine b_sipush (v := 2520) dX0_comesOften_45 (by decide) ?_
  refine b_icne (tgt := 55) dX0_comesOften_48 (by decide) (fun c1 => ?_) (fun c1 => ?_)
  · replace h := ifF c1 h
    refine b_iconst (v := 0) dX0_comesOften_55 (by decide) ?_
    cases h
    exact b_zret rfl (by decide) dX0_comesOften_56
  · replace h := ifT c1 h
    refine b_iconst (v := 1) dX0_comesOften_51 (by decide) ?_
    refine b_goto (tgt := 56) dX0_comesOften_52 (by decide) ?_
    cases h
    exact b_zret rfl (by decide) dX0_comesOften_56
def f0_comesOften_4  (d0 : Nat) (a1 : Int32)  : Nat → Int32 → Int32 → Mem → Option (Int32 × Mem)
  | 0, _, _, _ => none
  | n + 1, x2, x3, w =>
  if (w.1 d0 4 0) ≤ x3 then (f0_comesOften_44  d0 a1  x2 w) else (if 8 ≤ x3 then (f0_comesOften_44  d0 a1  x2 w) else (if ((jshr a1 x3) &&& 1) = 0 then (bnd (x3 + 1) fun y4 => f0_comesOften_4  d0 a1  n x2 y4 w) else (bndO (f6_periodOf d0 x3 w) fun r6 w5 => if r6 = 0 then none else bnd (x2 + (2520 / r6)) fun y8 => bnd (x3 + 1) fun y9 => f0_comesOften_4  d0 a1  n y8 y9 w5)))
set_option maxRecDepth 100000 in
set_option maxHeartbeats 4000000 in
theorem t0_comesOften_4   (d0 : Nat) (a1 : Int32) (hd0 : Ob d0 6)   : ∀ (n : Nat) (x2 : Int32) (x3 : Int32) (w w' : Mem) (r : Int32), f0_comesOften_4  d0 a1  n x2 x3 w = some (r, w') → Bk yX0_comesOften cX0_comesOften 4 (some .boolean) 3 4 [(0, vR d0 0), (1, vI a1), (2, vI x2), (3, vI x3)] [] w (some (vI r)) w' := by
  intro n
  induction n with
  | zero =>
    intro x2 x3 w w' r h
    cases (show (none : Option (Int32 × Mem)) = some _ from h)
  | succ n ih =>
    intro x2 x3 w w' r h
    rw [f0_comesOften_4] at h
    refine b_iload_n dX0_comesOften_4 rfl (k := 3) rfl ?_
    refine b_aload_n dX0_comesOften_5 rfl (k := 0) rfl ?_
    refine b_getI fl0_26 hd0 rfl dX0_comesOften_6 ?_
    refine b_icge (tgt := 44) dX0_comesOften_9 (by decide) (fun c1 => ?_) (fun c1 => ?_)
    · replace h := ifT c1 h
      refine b_sub [2] rfl ?_
      exact t0_comesOften_44  d0 a1 hd0   x2 _ _ _ h
    · replace h := ifF c1 h
      refine b_iload_n dX0_comesOften_12 rfl (k := 3) rfl ?_
      refine b_bipush (v := 8) dX0_comesOften_13 (by decide) ?_
      refine b_icge (tgt := 44) dX0_comesOften_15 (by decide) (fun c2 => ?_) (fun c2 => ?_)
      · replace h := ifT c2 h
        refine b_sub [2] rfl ?_
        exact t0_comesOften_44  d0 a1 hd0   x2 _ _ _ h
      · replace h := ifF c2 h
        refine b_iload_n dX0_comesOften_18 rfl (k := 1) rfl ?_
        refine b_iload_n dX0_comesOften_19 rfl (k := 3) rfl ?_
        refine b_ishr dX0_comesOften_20 ?_
        refine b_iconst (v := 1) dX0_comesOften_21 (by decide) ?_
        refine b_iand dX0_comesOften_22 ?_
        refine b_ifeq (tgt := 38) dX0_comesOften_23 (by decide) (fun c3 => ?_) (fun c3 => ?_)
        · replace h := ifT c3 h
          obtain ⟨y4, ey4, h⟩ := nmE h
          refine b_iinc (v := y4) (lv' := [(3, vI y4), (0, vR d0 0), (1, vI a1), (2, vI x2)]) dX0_comesOften_38 (k := 3) rfl ey4.symm (by decide) rfl ?_
          refine b_goto (tgt := 4) dX0_comesOften_41 (by decide) ?_
          refine b_sub [1, 2, 3, 0] rfl ?_
          exact ih x2 y4 _ _ _ h
        · replace h := ifF c3 h
          refine b_iload_n dX0_comesOften_26 rfl (k := 2) rfl ?_
          refine b_sipush (v := 2520) dX0_comesOften_27 (by decide) ?_
          refine b_aload_n dX0_comesOften_30 rfl (k := 0) rfl ?_
          refine b_iload_n dX0_comesOften_31 rfl (k := 3) rfl ?_
          obtain ⟨r6, w5, hw5, h⟩ := bdO h
          refine b_callVi mv6_periodOf ml0_32 hd0 (s6_periodOf d0 x3 hd0 _ _ _ hw5) rfl (by decide) (by decide) (Nat.le_of_ble_eq_true rfl) rfl dX0_comesOften_32 ?_
          obtain ⟨g7, h⟩ := gdE h
          refine b_idiv dX0_comesOften_35 g7 ?_
          refine b_iadd dX0_comesOften_36 ?_
          obtain ⟨y8, ey8, h⟩ := nmE h
          refine b_nmI ey8 ?_
          refine b_istore_n (lv' := [(2, vI y8), (0, vR d0 0), (1, vI a1), (3, vI x3)]) dX0_comesOften_37 rfl (by decide) rfl ?_
          obtain ⟨y9, ey9, h⟩ := nmE h
          refine b_iinc (v := y9) (lv' := [(3, vI y9), (2, vI y8), (0, vR d0 0), (1, vI a1)]) dX0_comesOften_38 (k := 3) rfl ey9.symm (by decide) rfl ?_
          refine b_goto (tgt := 4) dX0_comesOften_41 (by decide) ?_
          refine b_sub [2, 3, 1, 0] rfl ?_
          exact ih y8 y9 _ _ _ h
def f0_comesOften  (d0 : Nat) (a1 : Int32)   (w : Mem) : Option (Int32 × Mem) :=
  f0_comesOften_4  d0 a1  100000 0 0 w
set_option maxRecDepth 100000 in
set_option maxHeartbeats 4000000 in
theorem t0_comesOften   (d0 : Nat) (a1 : Int32) (hd0 : Ob d0 6)    (w w' : Mem) (r : Int32) (h : f0_comesOften  d0 a1   w = some (r, w')) : Bk yX0_comesOften cX0_comesOften 4 (some .boolean) 3 0 [(0, vR d0 0), (1, vI a1)] [] w (some (vI r)) w' := by
  unfold f0_comesOften at h
  refine b_iconst (v := 0) dX0_comesOften_0 (by decide) ?_
  refine b_istore_n (lv' := [(2, vI 0), (0, vR d0 0), (1, vI a1)]) dX0_comesOften_1 rfl (by decide) rfl ?_
  refine b_iconst (v := 0) dX0_comesOften_2 (by decide) ?_
  refine b_istore_n (lv' := [(3, vI 0), (2, vI 0), (0, vR d0 0), (1, vI a1)]) dX0_comesOften_3 rfl (by decide) rfl ?_
  refine b_sub [2, 3, 1, 0] rfl ?_
  exact t0_comesOften_4  d0 a1 hd0   100000 0 0 _ _ _ h
theorem s0_comesOften (d0 : Nat) (a1 : Int32) (hd0 : Ob d0 6) (w w' : Mem) (r : Int32) (h : f0_comesOften  d0 a1  w = some (r, w')) : Sp yX0_comesOften cX0_comesOften 4 (some .boolean) 3 [vR d0 0, vI a1] w (some (vI r)) w' := sp_of (by decide) (fun _ => rfl) (fun _ => Nat.le_of_ble_eq_true rfl) (t0_comesOften  d0 a1 hd0  _ _ _ h)
end
