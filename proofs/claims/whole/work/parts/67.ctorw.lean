/-! constructors: the words -/
theorem ar_int : Cond.arrayClass .int ∈ tG := tG_of (i := 123) (by decide +kernel) (by decide +kernel)
theorem ar_long : Cond.arrayClass .long ∈ tG := tG_of (i := 124) (by decide +kernel) (by decide +kernel)
theorem ar_char : Cond.arrayClass .char ∈ tG := tG_of (i := 45) (by decide +kernel) (by decide +kernel)
theorem ar_boolean : Cond.arrayClass .boolean ∈ tG := tG_of (i := 851) (by decide +kernel) (by decide +kernel)
theorem oi_in : Cond.instanceMethod objectInit ∈ tG := tG_of (i := 20) (by decide +kernel) (by decide +kernel)
theorem oi_co : Cond.code objectInit ⟨#[0xb1]⟩ 1 none ∈ tG := tG_of (i := 21) (by decide +kernel) (by decide +kernel)
theorem oi0 : Cond.methodLink RX0 3 objectInit ∈ tG := tG_of (i := 241) (by decide +kernel) (by decide +kernel)
theorem mo0 : MO yX0_init cX0_init 1 none 0 := ⟨tG_of (i := 240) (by decide +kernel) (by decide +kernel), tG_of (i := 8) (by decide +kernel) (by decide +kernel), by decide +kernel, by decide +kernel, by decide +kernel⟩
theorem mi0 : Cond.instanceMethod yX0_init ∈ tG := tG_of (i := 239) (by decide +kernel) (by decide +kernel)
theorem ff0_9 : FF RX0 9 0 0 (.array .int) := ⟨RX0, TX0, tyX0, rfl, inG0, by decide, tG_of (i := 242) (by decide +kernel) (by decide +kernel), tyX0_ok, nmX0, by decide +kernel, by decide +kernel, by decide +kernel⟩
theorem oi1 : Cond.methodLink RX1 3 objectInit ∈ tG := tG_of (i := 130) (by decide +kernel) (by decide +kernel)
theorem mo1 : MO yX1_init cX1_init 1 none 0 := ⟨tG_of (i := 129) (by decide +kernel) (by decide +kernel), tG_of (i := 4) (by decide +kernel) (by decide +kernel), by decide +kernel, by decide +kernel, by decide +kernel⟩
theorem mi1 : Cond.instanceMethod yX1_init ∈ tG := tG_of (i := 128) (by decide +kernel) (by decide +kernel)
theorem ff1_9 : FF RX1 9 1 0 (.array .int) := ⟨RX1, TX1, tyX1, rfl, inG1, by decide, tG_of (i := 134) (by decide +kernel) (by decide +kernel), tyX1_ok, nmX1, by decide +kernel, by decide +kernel, by decide +kernel⟩
theorem ff1_15 : FF RX1 15 1 1 (.array .int) := ⟨RX1, TX1, tyX1, rfl, inG1, by decide, tG_of (i := 136) (by decide +kernel) (by decide +kernel), tyX1_ok, nmX1, by decide +kernel, by decide +kernel, by decide +kernel⟩
theorem ff1_18 : FF RX1 18 1 2 (.array .int) := ⟨RX1, TX1, tyX1, rfl, inG1, by decide, tG_of (i := 138) (by decide +kernel) (by decide +kernel), tyX1_ok, nmX1, by decide +kernel, by decide +kernel, by decide +kernel⟩
theorem ff1_21 : FF RX1 21 1 3 (.array .int) := ⟨RX1, TX1, tyX1, rfl, inG1, by decide, tG_of (i := 139) (by decide +kernel) (by decide +kernel), tyX1_ok, nmX1, by decide +kernel, by decide +kernel, by decide +kernel⟩
theorem oi2 : Cond.methodLink RX2 3 objectInit ∈ tG := tG_of (i := 214) (by decide +kernel) (by decide +kernel)
theorem mo2 : MO yX2_init cX2_init 1 none 0 := ⟨tG_of (i := 213) (by decide +kernel) (by decide +kernel), tG_of (i := 7) (by decide +kernel) (by decide +kernel), by decide +kernel, by decide +kernel, by decide +kernel⟩
theorem mi2 : Cond.instanceMethod yX2_init ∈ tG := tG_of (i := 212) (by decide +kernel) (by decide +kernel)
theorem ff2_9 : FF RX2 9 2 0 (.array .int) := ⟨RX2, TX2, tyX2, rfl, inG2, by decide, tG_of (i := 215) (by decide +kernel) (by decide +kernel), tyX2_ok, nmX2, by decide +kernel, by decide +kernel, by decide +kernel⟩
theorem ff2_15 : FF RX2 15 2 1 (.array .int) := ⟨RX2, TX2, tyX2, rfl, inG2, by decide, tG_of (i := 216) (by decide +kernel) (by decide +kernel), tyX2_ok, nmX2, by decide +kernel, by decide +kernel, by decide +kernel⟩
theorem ff2_18 : FF RX2 18 2 2 (.array .int) := ⟨RX2, TX2, tyX2, rfl, inG2, by decide, tG_of (i := 217) (by decide +kernel) (by decide +kernel), tyX2_ok, nmX2, by decide +kernel, by decide +kernel, by decide +kernel⟩
theorem ff2_21 : FF RX2 21 2 3 (.array .int) := ⟨RX2, TX2, tyX2, rfl, inG2, by decide, tG_of (i := 218) (by decide +kernel) (by decide +kernel), tyX2_ok, nmX2, by decide +kernel, by decide +kernel, by decide +kernel⟩
theorem oi3 : Cond.methodLink RX3 3 objectInit ∈ tG := tG_of (i := 194) (by decide +kernel) (by decide +kernel)
theorem mo3 : MO yX3_init cX3_init 2 none 0 := ⟨tG_of (i := 193) (by decide +kernel) (by decide +kernel), tG_of (i := 6) (by decide +kernel) (by decide +kernel), by decide +kernel, by decide +kernel, by decide +kernel⟩
theorem mi3 : Cond.instanceMethod yX3_init ∈ tG := tG_of (i := 192) (by decide +kernel) (by decide +kernel)
theorem ff3_11 : FF RX3 11 3 0 (.array (.object "OneADay$Days")) := ⟨RX3, TX3, tyX3, rfl, inG3, by decide, tG_of (i := 198) (by decide +kernel) (by decide +kernel), tyX3_ok, nmX3, by decide +kernel, by decide +kernel, by decide +kernel⟩
theorem oi4 : Cond.methodLink RX4 3 objectInit ∈ tG := tG_of (i := 252) (by decide +kernel) (by decide +kernel)
theorem mo4 : MO yX4_init cX4_init 1 none 0 := ⟨tG_of (i := 251) (by decide +kernel) (by decide +kernel), tG_of (i := 9) (by decide +kernel) (by decide +kernel), by decide +kernel, by decide +kernel, by decide +kernel⟩
theorem mi4 : Cond.instanceMethod yX4_init ∈ tG := tG_of (i := 250) (by decide +kernel) (by decide +kernel)
theorem ff4_9 : FF RX4 9 4 0 (.array .int) := ⟨RX4, TX4, tyX4, rfl, inG4, by decide, tG_of (i := 253) (by decide +kernel) (by decide +kernel), tyX4_ok, nmX4, by decide +kernel, by decide +kernel, by decide +kernel⟩
theorem oi5 : Cond.methodLink RX5 3 objectInit ∈ tG := tG_of (i := 27) (by decide +kernel) (by decide +kernel)
theorem mo5 : MO yX5_init cX5_init 1 none 0 := ⟨tG_of (i := 26) (by decide +kernel) (by decide +kernel), tG_of (i := 2) (by decide +kernel) (by decide +kernel), by decide +kernel, by decide +kernel, by decide +kernel⟩
theorem mi5 : Cond.instanceMethod yX5_init ∈ tG := tG_of (i := 25) (by decide +kernel) (by decide +kernel)
theorem fn5_9 : FW RX5 9 5 0 (.array .char) := ⟨RX5, TX5, tyX5, rfl, inG5, by decide, tG_of (i := 28) (by decide +kernel) (by decide +kernel), tyX5_ok, nmX5, by decide +kernel, by decide +kernel⟩
theorem oi6 : Cond.methodLink RX6 3 objectInit ∈ tG := tG_of (i := 51) (by decide +kernel) (by decide +kernel)
theorem mo6 : MO yX6_init cX6_init 1 none 0 := ⟨tG_of (i := 50) (by decide +kernel) (by decide +kernel), tG_of (i := 3) (by decide +kernel) (by decide +kernel), by decide +kernel, by decide +kernel, by decide +kernel⟩
theorem mi6 : Cond.instanceMethod yX6_init ∈ tG := tG_of (i := 49) (by decide +kernel) (by decide +kernel)
theorem ff6_9 : FF RX6 9 6 7 (.array .int) := ⟨RX6, TX6, tyX6, rfl, inG6, by decide, tG_of (i := 79) (by decide +kernel) (by decide +kernel), tyX6_ok, nmX6, by decide +kernel, by decide +kernel, by decide +kernel⟩
theorem ff6_15 : FF RX6 15 6 8 (.array .int) := ⟨RX6, TX6, tyX6, rfl, inG6, by decide, tG_of (i := 83) (by decide +kernel) (by decide +kernel), tyX6_ok, nmX6, by decide +kernel, by decide +kernel, by decide +kernel⟩
theorem ff6_18 : FF RX6 18 6 9 (.array .int) := ⟨RX6, TX6, tyX6, rfl, inG6, by decide, tG_of (i := 86) (by decide +kernel) (by decide +kernel), tyX6_ok, nmX6, by decide +kernel, by decide +kernel, by decide +kernel⟩
theorem ff6_21 : FF RX6 21 6 10 (.array .int) := ⟨RX6, TX6, tyX6, rfl, inG6, by decide, tG_of (i := 89) (by decide +kernel) (by decide +kernel), tyX6_ok, nmX6, by decide +kernel, by decide +kernel, by decide +kernel⟩
theorem ff6_24 : FF RX6 24 6 11 (.array .long) := ⟨RX6, TX6, tyX6, rfl, inG6, by decide, tG_of (i := 92) (by decide +kernel) (by decide +kernel), tyX6_ok, nmX6, by decide +kernel, by decide +kernel, by decide +kernel⟩
theorem ff6_28 : FF RX6 28 6 12 (.array .long) := ⟨RX6, TX6, tyX6, rfl, inG6, by decide, tG_of (i := 94) (by decide +kernel) (by decide +kernel), tyX6_ok, nmX6, by decide +kernel, by decide +kernel, by decide +kernel⟩
theorem oi7 : Cond.methodLink RX7 1 objectInit ∈ tG := tG_of (i := 19) (by decide +kernel) (by decide +kernel)
theorem mo7 : MO yX7_init cX7_init 2 none 0 := ⟨tG_of (i := 18) (by decide +kernel) (by decide +kernel), tG_of (i := 1) (by decide +kernel) (by decide +kernel), by decide +kernel, by decide +kernel, by decide +kernel⟩
theorem mi7 : Cond.instanceMethod yX7_init ∈ tG := tG_of (i := 17) (by decide +kernel) (by decide +kernel)
theorem ff7_9 : FF RX7 9 7 0 (.array .char) := ⟨RX7, TX7, tyX7, rfl, inG7, by decide, tG_of (i := 267) (by decide +kernel) (by decide +kernel), tyX7_ok, nmX7, by decide +kernel, by decide +kernel, by decide +kernel⟩
theorem fn7_13 : FW RX7 13 7 2 .int := ⟨RX7, TX7, tyX7, rfl, inG7, by decide, tG_of (i := 269) (by decide +kernel) (by decide +kernel), tyX7_ok, nmX7, by decide +kernel, by decide +kernel⟩
theorem ff7_20 : FF RX7 20 7 3 (.object "OneADay$Reader") := ⟨RX7, TX7, tyX7, rfl, inG7, by decide, tG_of (i := 270) (by decide +kernel) (by decide +kernel), tyX7_ok, nmX7, by decide +kernel, by decide +kernel, by decide +kernel⟩
theorem fn7_27 : FW RX7 27 7 4 (.object "OneADay$Rock") := ⟨RX7, TX7, tyX7, rfl, inG7, by decide, tG_of (i := 271) (by decide +kernel) (by decide +kernel), tyX7_ok, nmX7, by decide +kernel, by decide +kernel⟩
theorem fn7_31 : FW RX7 31 7 5 (.object "OneADay$Rock") := ⟨RX7, TX7, tyX7, rfl, inG7, by decide, tG_of (i := 272) (by decide +kernel) (by decide +kernel), tyX7_ok, nmX7, by decide +kernel, by decide +kernel⟩
theorem ff7_37 : FF RX7 37 7 6 (.object "OneADay$Days") := ⟨RX7, TX7, tyX7, rfl, inG7, by decide, tG_of (i := 273) (by decide +kernel) (by decide +kernel), tyX7_ok, nmX7, by decide +kernel, by decide +kernel, by decide +kernel⟩
theorem ff7_41 : FF RX7 41 7 7 (.object "OneADay$Days") := ⟨RX7, TX7, tyX7, rfl, inG7, by decide, tG_of (i := 274) (by decide +kernel) (by decide +kernel), tyX7_ok, nmX7, by decide +kernel, by decide +kernel, by decide +kernel⟩
theorem ff7_47 : FF RX7 47 7 8 (.object "OneADay$Past") := ⟨RX7, TX7, tyX7, rfl, inG7, by decide, tG_of (i := 275) (by decide +kernel) (by decide +kernel), tyX7_ok, nmX7, by decide +kernel, by decide +kernel, by decide +kernel⟩
theorem ff7_51 : FF RX7 51 7 9 (.array (.object "OneADay$Days")) := ⟨RX7, TX7, tyX7, rfl, inG7, by decide, tG_of (i := 276) (by decide +kernel) (by decide +kernel), tyX7_ok, nmX7, by decide +kernel, by decide +kernel, by decide +kernel⟩
theorem ff7_55 : FF RX7 55 7 10 (.array .int) := ⟨RX7, TX7, tyX7, rfl, inG7, by decide, tG_of (i := 277) (by decide +kernel) (by decide +kernel), tyX7_ok, nmX7, by decide +kernel, by decide +kernel, by decide +kernel⟩
theorem ff7_62 : FF RX7 62 7 13 (.object "OneADay$Notes") := ⟨RX7, TX7, tyX7, rfl, inG7, by decide, tG_of (i := 280) (by decide +kernel) (by decide +kernel), tyX7_ok, nmX7, by decide +kernel, by decide +kernel, by decide +kernel⟩
theorem ff7_69 : FF RX7 69 7 14 (.object "OneADay$Cover") := ⟨RX7, TX7, tyX7, rfl, inG7, by decide, tG_of (i := 281) (by decide +kernel) (by decide +kernel), tyX7_ok, nmX7, by decide +kernel, by decide +kernel, by decide +kernel⟩
theorem ff7_76 : FF RX7 76 7 15 (.object "OneADay$Plan") := ⟨RX7, TX7, tyX7, rfl, inG7, by decide, tG_of (i := 282) (by decide +kernel) (by decide +kernel), tyX7_ok, nmX7, by decide +kernel, by decide +kernel, by decide +kernel⟩
theorem oi8 : Cond.methodLink RX8 1 objectInit ∈ tG := tG_of (i := 713) (by decide +kernel) (by decide +kernel)
theorem mo8 : MO yX8_init cX8_init 2 none 0 := ⟨tG_of (i := 712) (by decide +kernel) (by decide +kernel), tG_of (i := 10) (by decide +kernel) (by decide +kernel), by decide +kernel, by decide +kernel, by decide +kernel⟩
theorem mi8 : Cond.instanceMethod yX8_init ∈ tG := tG_of (i := 711) (by decide +kernel) (by decide +kernel)
theorem ff8_7 : FF RX8 7 8 4 (.array .int) := ⟨RX8, TX8, tyX8, rfl, inG8, by decide, tG_of (i := 719) (by decide +kernel) (by decide +kernel), tyX8_ok, nmX8, by decide +kernel, by decide +kernel, by decide +kernel⟩
theorem ff8_13 : FF RX8 13 8 5 (.array .int) := ⟨RX8, TX8, tyX8, rfl, inG8, by decide, tG_of (i := 720) (by decide +kernel) (by decide +kernel), tyX8_ok, nmX8, by decide +kernel, by decide +kernel, by decide +kernel⟩
theorem ff8_16 : FF RX8 16 8 6 (.array .int) := ⟨RX8, TX8, tyX8, rfl, inG8, by decide, tG_of (i := 721) (by decide +kernel) (by decide +kernel), tyX8_ok, nmX8, by decide +kernel, by decide +kernel, by decide +kernel⟩
theorem ff8_19 : FF RX8 19 8 8 (.array .int) := ⟨RX8, TX8, tyX8, rfl, inG8, by decide, tG_of (i := 723) (by decide +kernel) (by decide +kernel), tyX8_ok, nmX8, by decide +kernel, by decide +kernel, by decide +kernel⟩
theorem ff8_22 : FF RX8 22 8 10 (.array .int) := ⟨RX8, TX8, tyX8, rfl, inG8, by decide, tG_of (i := 725) (by decide +kernel) (by decide +kernel), tyX8_ok, nmX8, by decide +kernel, by decide +kernel, by decide +kernel⟩
theorem ff8_25 : FF RX8 25 8 11 (.array .int) := ⟨RX8, TX8, tyX8, rfl, inG8, by decide, tG_of (i := 726) (by decide +kernel) (by decide +kernel), tyX8_ok, nmX8, by decide +kernel, by decide +kernel, by decide +kernel⟩
theorem ff8_28 : FF RX8 28 8 13 (.array .int) := ⟨RX8, TX8, tyX8, rfl, inG8, by decide, tG_of (i := 728) (by decide +kernel) (by decide +kernel), tyX8_ok, nmX8, by decide +kernel, by decide +kernel, by decide +kernel⟩
theorem fn8_31 : FW RX8 31 8 15 .int := ⟨RX8, TX8, tyX8, rfl, inG8, by decide, tG_of (i := 730) (by decide +kernel) (by decide +kernel), tyX8_ok, nmX8, by decide +kernel, by decide +kernel⟩
theorem ff8_35 : FF RX8 35 8 19 (.array .int) := ⟨RX8, TX8, tyX8, rfl, inG8, by decide, tG_of (i := 734) (by decide +kernel) (by decide +kernel), tyX8_ok, nmX8, by decide +kernel, by decide +kernel, by decide +kernel⟩
theorem ff8_38 : FF RX8 38 8 21 (.array .int) := ⟨RX8, TX8, tyX8, rfl, inG8, by decide, tG_of (i := 736) (by decide +kernel) (by decide +kernel), tyX8_ok, nmX8, by decide +kernel, by decide +kernel, by decide +kernel⟩
theorem ff8_41 : FF RX8 41 8 22 (.array .int) := ⟨RX8, TX8, tyX8, rfl, inG8, by decide, tG_of (i := 737) (by decide +kernel) (by decide +kernel), tyX8_ok, nmX8, by decide +kernel, by decide +kernel, by decide +kernel⟩
theorem ff8_44 : FF RX8 44 8 23 (.array .int) := ⟨RX8, TX8, tyX8, rfl, inG8, by decide, tG_of (i := 738) (by decide +kernel) (by decide +kernel), tyX8_ok, nmX8, by decide +kernel, by decide +kernel, by decide +kernel⟩
theorem ff8_47 : FF RX8 47 8 24 (.array .int) := ⟨RX8, TX8, tyX8, rfl, inG8, by decide, tG_of (i := 739) (by decide +kernel) (by decide +kernel), tyX8_ok, nmX8, by decide +kernel, by decide +kernel, by decide +kernel⟩
theorem ff8_50 : FF RX8 50 8 26 (.array .int) := ⟨RX8, TX8, tyX8, rfl, inG8, by decide, tG_of (i := 741) (by decide +kernel) (by decide +kernel), tyX8_ok, nmX8, by decide +kernel, by decide +kernel, by decide +kernel⟩
theorem ff8_53 : FF RX8 53 8 28 (.array .int) := ⟨RX8, TX8, tyX8, rfl, inG8, by decide, tG_of (i := 743) (by decide +kernel) (by decide +kernel), tyX8_ok, nmX8, by decide +kernel, by decide +kernel, by decide +kernel⟩
theorem ff8_56 : FF RX8 56 8 30 (.array .int) := ⟨RX8, TX8, tyX8, rfl, inG8, by decide, tG_of (i := 745) (by decide +kernel) (by decide +kernel), tyX8_ok, nmX8, by decide +kernel, by decide +kernel, by decide +kernel⟩
theorem ff8_59 : FF RX8 59 8 31 (.array .int) := ⟨RX8, TX8, tyX8, rfl, inG8, by decide, tG_of (i := 746) (by decide +kernel) (by decide +kernel), tyX8_ok, nmX8, by decide +kernel, by decide +kernel, by decide +kernel⟩
theorem ff8_62 : FF RX8 62 8 32 (.array .int) := ⟨RX8, TX8, tyX8, rfl, inG8, by decide, tG_of (i := 747) (by decide +kernel) (by decide +kernel), tyX8_ok, nmX8, by decide +kernel, by decide +kernel, by decide +kernel⟩
theorem ff8_66 : FF RX8 66 8 33 (.array .int) := ⟨RX8, TX8, tyX8, rfl, inG8, by decide, tG_of (i := 748) (by decide +kernel) (by decide +kernel), tyX8_ok, nmX8, by decide +kernel, by decide +kernel, by decide +kernel⟩
theorem ff8_69 : FF RX8 69 8 34 (.array .int) := ⟨RX8, TX8, tyX8, rfl, inG8, by decide, tG_of (i := 749) (by decide +kernel) (by decide +kernel), tyX8_ok, nmX8, by decide +kernel, by decide +kernel, by decide +kernel⟩
theorem ff8_72 : FF RX8 72 8 35 (.array .int) := ⟨RX8, TX8, tyX8, rfl, inG8, by decide, tG_of (i := 750) (by decide +kernel) (by decide +kernel), tyX8_ok, nmX8, by decide +kernel, by decide +kernel, by decide +kernel⟩
theorem ff8_75 : FF RX8 75 8 38 (.array .int) := ⟨RX8, TX8, tyX8, rfl, inG8, by decide, tG_of (i := 753) (by decide +kernel) (by decide +kernel), tyX8_ok, nmX8, by decide +kernel, by decide +kernel, by decide +kernel⟩
theorem ff8_78 : FF RX8 78 8 39 (.array .int) := ⟨RX8, TX8, tyX8, rfl, inG8, by decide, tG_of (i := 754) (by decide +kernel) (by decide +kernel), tyX8_ok, nmX8, by decide +kernel, by decide +kernel, by decide +kernel⟩
theorem ff8_81 : FF RX8 81 8 41 (.array .int) := ⟨RX8, TX8, tyX8, rfl, inG8, by decide, tG_of (i := 756) (by decide +kernel) (by decide +kernel), tyX8_ok, nmX8, by decide +kernel, by decide +kernel, by decide +kernel⟩
theorem ff8_84 : FF RX8 84 8 42 (.array .int) := ⟨RX8, TX8, tyX8, rfl, inG8, by decide, tG_of (i := 757) (by decide +kernel) (by decide +kernel), tyX8_ok, nmX8, by decide +kernel, by decide +kernel, by decide +kernel⟩
theorem ff8_87 : FF RX8 87 8 43 (.array .int) := ⟨RX8, TX8, tyX8, rfl, inG8, by decide, tG_of (i := 758) (by decide +kernel) (by decide +kernel), tyX8_ok, nmX8, by decide +kernel, by decide +kernel, by decide +kernel⟩
theorem ff8_90 : FF RX8 90 8 44 (.array .boolean) := ⟨RX8, TX8, tyX8, rfl, inG8, by decide, tG_of (i := 759) (by decide +kernel) (by decide +kernel), tyX8_ok, nmX8, by decide +kernel, by decide +kernel, by decide +kernel⟩
theorem no3_9 : NO RX3 9 1 [.null, .null, .null, .null, .int 0, .int 0, .int 0, .int 0, .int 0, .int 0, .int 0, .int 0, .int 0, .int 0] := ⟨RX1, TX1, tyX1, rfl, inG1, tyX1_ok, tG_of (i := 195) (by decide +kernel) (by decide +kernel), tG_of (i := 126) (by decide +kernel) (by decide +kernel), tG_of (i := 4) (by decide +kernel) (by decide +kernel), by decide +kernel⟩
theorem lk3_17 : Cond.methodLink RX3 17 yX1_init ∈ tG := tG_of (i := 197) (by decide +kernel) (by decide +kernel)
theorem no7_17 : NO RX7 17 5 [.null, .int 0, .int 0, .int 0, .int 0] := ⟨RX5, TX5, tyX5, rfl, inG5, tyX5_ok, tG_of (i := 22) (by decide +kernel) (by decide +kernel), tG_of (i := 23) (by decide +kernel) (by decide +kernel), tG_of (i := 2) (by decide +kernel) (by decide +kernel), by decide +kernel⟩
theorem no7_24 : NO RX7 24 6 [.int 0, .int 0, .int 0, .int 0, .int 0, .int 0, .int 0, .null, .null, .null, .null, .null, .null] := ⟨RX6, TX6, tyX6, rfl, inG6, tyX6_ok, tG_of (i := 46) (by decide +kernel) (by decide +kernel), tG_of (i := 47) (by decide +kernel) (by decide +kernel), tG_of (i := 3) (by decide +kernel) (by decide +kernel), by decide +kernel⟩
theorem no7_34 : NO RX7 34 1 [.null, .null, .null, .null, .int 0, .int 0, .int 0, .int 0, .int 0, .int 0, .int 0, .int 0, .int 0, .int 0] := ⟨RX1, TX1, tyX1, rfl, inG1, tyX1_ok, tG_of (i := 125) (by decide +kernel) (by decide +kernel), tG_of (i := 126) (by decide +kernel) (by decide +kernel), tG_of (i := 4) (by decide +kernel) (by decide +kernel), by decide +kernel⟩
theorem lk7_36 : Cond.methodLink RX7 36 yX1_init ∈ tG := tG_of (i := 127) (by decide +kernel) (by decide +kernel)
theorem no7_44 : NO RX7 44 3 [.null, .int 0, .int 0] := ⟨RX3, TX3, tyX3, rfl, inG3, tyX3_ok, tG_of (i := 189) (by decide +kernel) (by decide +kernel), tG_of (i := 190) (by decide +kernel) (by decide +kernel), tG_of (i := 6) (by decide +kernel) (by decide +kernel), by decide +kernel⟩
theorem lk7_46 : Cond.methodLink RX7 46 yX3_init ∈ tG := tG_of (i := 191) (by decide +kernel) (by decide +kernel)
theorem no7_59 : NO RX7 59 2 [.null, .null, .null, .null, .int 0, .int 0] := ⟨RX2, TX2, tyX2, rfl, inG2, tyX2_ok, tG_of (i := 209) (by decide +kernel) (by decide +kernel), tG_of (i := 210) (by decide +kernel) (by decide +kernel), tG_of (i := 7) (by decide +kernel) (by decide +kernel), by decide +kernel⟩
theorem no7_66 : NO RX7 66 0 [.null] := ⟨RX0, TX0, tyX0, rfl, inG0, tyX0_ok, tG_of (i := 236) (by decide +kernel) (by decide +kernel), tG_of (i := 237) (by decide +kernel) (by decide +kernel), tG_of (i := 8) (by decide +kernel) (by decide +kernel), by decide +kernel⟩
theorem no7_73 : NO RX7 73 4 [.null, .int 0, .int 0, .int 0] := ⟨RX4, TX4, tyX4, rfl, inG4, tyX4_ok, tG_of (i := 247) (by decide +kernel) (by decide +kernel), tG_of (i := 248) (by decide +kernel) (by decide +kernel), tG_of (i := 9) (by decide +kernel) (by decide +kernel), by decide +kernel⟩
theorem cl3_9 : Cond.classLink RX3 9 RX1 ∈ tG := tG_of (i := 195) (by decide +kernel) (by decide +kernel)
theorem cl7_34 : Cond.classLink RX7 34 RX1 ∈ tG := tG_of (i := 125) (by decide +kernel) (by decide +kernel)
theorem noL_7 : NO RL 7 7 [.null, .int 0, .int 0, .null, .null, .null, .null, .null, .null, .null, .null, .int 0, .int 0, .null, .null, .null] := ⟨RX7, TX7, tyX7, rfl, inG7, tyX7_ok, tG_of (i := 14) (by decide +kernel) (by decide +kernel), tG_of (i := 15) (by decide +kernel) (by decide +kernel), tG_of (i := 1) (by decide +kernel) (by decide +kernel), by decide +kernel⟩
theorem noL_10 : NO RL 10 8 [.int 0, .int 0, .int 0, .int 0, .null, .null, .null, .int 0, .null, .int 0, .null, .null, .int 0, .null, .int 0, .int 0, .int 0, .int 0, .int 0, .null, .int 0, .null, .null, .null, .null, .int 0, .null, .int 0, .null, .int 0, .null, .null, .null, .null, .null, .null, .int 0, .int 0, .null, .null, .int 0, .null, .null, .null, .null] := ⟨RX8, TX8, tyX8, rfl, inG8, tyX8_ok, tG_of (i := 708) (by decide +kernel) (by decide +kernel), tG_of (i := 709) (by decide +kernel) (by decide +kernel), tG_of (i := 10) (by decide +kernel) (by decide +kernel), by decide +kernel⟩
theorem lkL_9 : Cond.methodLink RL 9 yX7_init ∈ tG := tG_of (i := 16) (by decide +kernel) (by decide +kernel)
theorem lkL_12 : Cond.methodLink RL 12 yX8_init ∈ tG := tG_of (i := 710) (by decide +kernel) (by decide +kernel)
