theorem inG_of (ws : List Cond) (js : List Nat) (h : ws.map some = js.map (fun i => tables_1[i]?)) (hg : ws.all goodWord = true) : ∀ w ∈ ws, w ∈ tG := by
  intro w hw
  have h1 : some w ∈ ws.map some := List.mem_map.mpr ⟨w, hw, rfl⟩
  rw [h] at h1
  obtain ⟨i, -, hi⟩ := List.mem_map.mp h1
  exact tG_of hi (List.all_eq_true.mp hg w hw)
theorem inG0 : ∀ w ∈ u_ws RX0 TX0 (nf 0), w ∈ tG := inG_of _ [244] (by decide +kernel) (by decide +kernel)
theorem inG1 : ∀ w ∈ u_ws RX1 TX1 (nf 1), w ∈ tG := inG_of _ [160, 162, 164, 166, 168, 170, 172, 174, 176, 178, 180, 182, 184, 186] (by decide +kernel) (by decide +kernel)
theorem inG2 : ∀ w ∈ u_ws RX2 TX2 (nf 2), w ∈ tG := inG_of _ [223, 225, 227, 229, 231, 233] (by decide +kernel) (by decide +kernel)
theorem inG3 : ∀ w ∈ u_ws RX3 TX3 (nf 3), w ∈ tG := inG_of _ [202, 204, 206] (by decide +kernel) (by decide +kernel)
theorem inG4 : ∀ w ∈ u_ws RX4 TX4 (nf 4), w ∈ tG := inG_of _ [258, 260, 262, 264] (by decide +kernel) (by decide +kernel)
theorem inG5 : ∀ w ∈ u_ws RX5 TX5 (nf 5), w ∈ tG := inG_of _ [34, 36, 38, 40, 42] (by decide +kernel) (by decide +kernel)
theorem inG6 : ∀ w ∈ u_ws RX6 TX6 (nf 6), w ∈ tG := inG_of _ [96, 98, 100, 102, 104, 106, 108, 110, 112, 114, 116, 118, 120] (by decide +kernel) (by decide +kernel)
theorem inG7 : ∀ w ∈ u_ws RX7 TX7 (nf 7), w ∈ tG := inG_of _ [283, 285, 287, 289, 291, 293, 295, 297, 299, 301, 303, 305, 307, 309, 311, 313] (by decide +kernel) (by decide +kernel)
theorem inG8 : ∀ w ∈ u_ws RX8 TX8 (nf 8), w ∈ tG := inG_of _ [760, 762, 764, 766, 768, 770, 772, 774, 776, 778, 780, 782, 784, 786, 788, 790, 792, 794, 796, 798, 800, 802, 804, 806, 808, 810, 812, 814, 816, 818, 820, 822, 824, 826, 828, 830, 832, 834, 836, 838, 840, 842, 844, 846, 848] (by decide +kernel) (by decide +kernel)
theorem fl7_9 : FL RX7 9 7 0 := ⟨RX7, TX7, rfl, inG7, by decide, tG_of (i := 267) (by decide +kernel) (by decide +kernel)⟩
theorem fl7_13 : FL RX7 13 7 2 := ⟨RX7, TX7, rfl, inG7, by decide, tG_of (i := 269) (by decide +kernel) (by decide +kernel)⟩
theorem fw7_13 : FW RX7 13 7 2 .int := ⟨RX7, TX7, tyX7, rfl, inG7, by decide, tG_of (i := 269) (by decide +kernel) (by decide +kernel), tyX7_ok, nmX7, by decide +kernel, by decide +kernel⟩
theorem fl7_20 : FL RX7 20 7 3 := ⟨RX7, TX7, rfl, inG7, by decide, tG_of (i := 270) (by decide +kernel) (by decide +kernel)⟩
theorem fl7_27 : FL RX7 27 7 4 := ⟨RX7, TX7, rfl, inG7, by decide, tG_of (i := 271) (by decide +kernel) (by decide +kernel)⟩
theorem fw7_27 : FW RX7 27 7 4 (.object "OneADay$Rock") := ⟨RX7, TX7, tyX7, rfl, inG7, by decide, tG_of (i := 271) (by decide +kernel) (by decide +kernel), tyX7_ok, nmX7, by decide +kernel, by decide +kernel⟩
theorem fl7_31 : FL RX7 31 7 5 := ⟨RX7, TX7, rfl, inG7, by decide, tG_of (i := 272) (by decide +kernel) (by decide +kernel)⟩
theorem fw7_31 : FW RX7 31 7 5 (.object "OneADay$Rock") := ⟨RX7, TX7, tyX7, rfl, inG7, by decide, tG_of (i := 272) (by decide +kernel) (by decide +kernel), tyX7_ok, nmX7, by decide +kernel, by decide +kernel⟩
theorem fl7_37 : FL RX7 37 7 6 := ⟨RX7, TX7, rfl, inG7, by decide, tG_of (i := 273) (by decide +kernel) (by decide +kernel)⟩
theorem fl7_41 : FL RX7 41 7 7 := ⟨RX7, TX7, rfl, inG7, by decide, tG_of (i := 274) (by decide +kernel) (by decide +kernel)⟩
theorem fl7_47 : FL RX7 47 7 8 := ⟨RX7, TX7, rfl, inG7, by decide, tG_of (i := 275) (by decide +kernel) (by decide +kernel)⟩
theorem fl7_51 : FL RX7 51 7 9 := ⟨RX7, TX7, rfl, inG7, by decide, tG_of (i := 276) (by decide +kernel) (by decide +kernel)⟩
theorem fl7_55 : FL RX7 55 7 10 := ⟨RX7, TX7, rfl, inG7, by decide, tG_of (i := 277) (by decide +kernel) (by decide +kernel)⟩
theorem fl7_62 : FL RX7 62 7 13 := ⟨RX7, TX7, rfl, inG7, by decide, tG_of (i := 280) (by decide +kernel) (by decide +kernel)⟩
theorem fl7_69 : FL RX7 69 7 14 := ⟨RX7, TX7, rfl, inG7, by decide, tG_of (i := 281) (by decide +kernel) (by decide +kernel)⟩
theorem fl7_76 : FL RX7 76 7 15 := ⟨RX7, TX7, rfl, inG7, by decide, tG_of (i := 282) (by decide +kernel) (by decide +kernel)⟩
theorem fl7_81 : FL RX7 81 7 1 := ⟨RX7, TX7, rfl, inG7, by decide, tG_of (i := 268) (by decide +kernel) (by decide +kernel)⟩
theorem fw7_81 : FW RX7 81 7 1 .int := ⟨RX7, TX7, tyX7, rfl, inG7, by decide, tG_of (i := 268) (by decide +kernel) (by decide +kernel), tyX7_ok, nmX7, by decide +kernel, by decide +kernel⟩
theorem fl7_89 : FL RX7 89 5 4 := ⟨RX5, TX5, rfl, inG5, by decide, tG_of (i := 33) (by decide +kernel) (by decide +kernel)⟩
theorem fl7_100 : FL RX7 100 7 11 := ⟨RX7, TX7, rfl, inG7, by decide, tG_of (i := 278) (by decide +kernel) (by decide +kernel)⟩
theorem fw7_100 : FW RX7 100 7 11 .int := ⟨RX7, TX7, tyX7, rfl, inG7, by decide, tG_of (i := 278) (by decide +kernel) (by decide +kernel), tyX7_ok, nmX7, by decide +kernel, by decide +kernel⟩
theorem fl7_103 : FL RX7 103 6 4 := ⟨RX6, TX6, rfl, inG6, by decide, tG_of (i := 70) (by decide +kernel) (by decide +kernel)⟩
theorem fl7_106 : FL RX7 106 6 1 := ⟨RX6, TX6, rfl, inG6, by decide, tG_of (i := 56) (by decide +kernel) (by decide +kernel)⟩
theorem fl7_109 : FL RX7 109 6 2 := ⟨RX6, TX6, rfl, inG6, by decide, tG_of (i := 61) (by decide +kernel) (by decide +kernel)⟩
theorem fl7_112 : FL RX7 112 6 3 := ⟨RX6, TX6, rfl, inG6, by decide, tG_of (i := 65) (by decide +kernel) (by decide +kernel)⟩
theorem fl7_115 : FL RX7 115 6 5 := ⟨RX6, TX6, rfl, inG6, by decide, tG_of (i := 75) (by decide +kernel) (by decide +kernel)⟩
theorem fl7_118 : FL RX7 118 6 6 := ⟨RX6, TX6, rfl, inG6, by decide, tG_of (i := 78) (by decide +kernel) (by decide +kernel)⟩
theorem fl7_121 : FL RX7 121 1 6 := ⟨RX1, TX1, rfl, inG1, by decide, tG_of (i := 145) (by decide +kernel) (by decide +kernel)⟩
theorem fl7_124 : FL RX7 124 1 7 := ⟨RX1, TX1, rfl, inG1, by decide, tG_of (i := 147) (by decide +kernel) (by decide +kernel)⟩
theorem fl7_127 : FL RX7 127 1 13 := ⟨RX1, TX1, rfl, inG1, by decide, tG_of (i := 159) (by decide +kernel) (by decide +kernel)⟩
theorem fl7_131 : FL RX7 131 1 8 := ⟨RX1, TX1, rfl, inG1, by decide, tG_of (i := 149) (by decide +kernel) (by decide +kernel)⟩
theorem fl7_134 : FL RX7 134 1 9 := ⟨RX1, TX1, rfl, inG1, by decide, tG_of (i := 151) (by decide +kernel) (by decide +kernel)⟩
theorem fl7_137 : FL RX7 137 1 10 := ⟨RX1, TX1, rfl, inG1, by decide, tG_of (i := 153) (by decide +kernel) (by decide +kernel)⟩
theorem fl7_140 : FL RX7 140 1 11 := ⟨RX1, TX1, rfl, inG1, by decide, tG_of (i := 155) (by decide +kernel) (by decide +kernel)⟩
theorem fl7_143 : FL RX7 143 1 5 := ⟨RX1, TX1, rfl, inG1, by decide, tG_of (i := 143) (by decide +kernel) (by decide +kernel)⟩
theorem fl7_146 : FL RX7 146 1 12 := ⟨RX1, TX1, rfl, inG1, by decide, tG_of (i := 157) (by decide +kernel) (by decide +kernel)⟩
theorem fl7_149 : FL RX7 149 2 4 := ⟨RX2, TX2, rfl, inG2, by decide, tG_of (i := 220) (by decide +kernel) (by decide +kernel)⟩
theorem fl7_152 : FL RX7 152 2 5 := ⟨RX2, TX2, rfl, inG2, by decide, tG_of (i := 222) (by decide +kernel) (by decide +kernel)⟩
theorem fl7_155 : FL RX7 155 3 2 := ⟨RX3, TX3, rfl, inG3, by decide, tG_of (i := 201) (by decide +kernel) (by decide +kernel)⟩
theorem fl7_163 : FL RX7 163 6 7 := ⟨RX6, TX6, rfl, inG6, by decide, tG_of (i := 81) (by decide +kernel) (by decide +kernel)⟩
theorem fl7_166 : FL RX7 166 6 8 := ⟨RX6, TX6, rfl, inG6, by decide, tG_of (i := 84) (by decide +kernel) (by decide +kernel)⟩
theorem fl7_169 : FL RX7 169 1 0 := ⟨RX1, TX1, rfl, inG1, by decide, tG_of (i := 135) (by decide +kernel) (by decide +kernel)⟩
theorem fl7_172 : FL RX7 172 6 10 := ⟨RX6, TX6, rfl, inG6, by decide, tG_of (i := 90) (by decide +kernel) (by decide +kernel)⟩
theorem fl7_178 : FL RX7 178 1 1 := ⟨RX1, TX1, rfl, inG1, by decide, tG_of (i := 137) (by decide +kernel) (by decide +kernel)⟩
theorem fl7_200 : FL RX7 200 1 4 := ⟨RX1, TX1, rfl, inG1, by decide, tG_of (i := 141) (by decide +kernel) (by decide +kernel)⟩
theorem fw7_200 : FW RX7 200 1 4 .int := ⟨RX1, TX1, tyX1, rfl, inG1, by decide, tG_of (i := 141) (by decide +kernel) (by decide +kernel), tyX1_ok, nmX1, by decide +kernel, by decide +kernel⟩
theorem fl7_210 : FL RX7 210 6 0 := ⟨RX6, TX6, rfl, inG6, by decide, tG_of (i := 54) (by decide +kernel) (by decide +kernel)⟩
theorem fl7_224 : FL RX7 224 0 0 := ⟨RX0, TX0, rfl, inG0, by decide, tG_of (i := 243) (by decide +kernel) (by decide +kernel)⟩
theorem fl7_244 : FL RX7 244 4 0 := ⟨RX4, TX4, rfl, inG4, by decide, tG_of (i := 254) (by decide +kernel) (by decide +kernel)⟩
theorem fl7_266 : FL RX7 266 7 12 := ⟨RX7, TX7, rfl, inG7, by decide, tG_of (i := 279) (by decide +kernel) (by decide +kernel)⟩
theorem fw7_266 : FW RX7 266 7 12 .int := ⟨RX7, TX7, tyX7, rfl, inG7, by decide, tG_of (i := 279) (by decide +kernel) (by decide +kernel), tyX7_ok, nmX7, by decide +kernel, by decide +kernel⟩
theorem fl0_9 : FL RX0 9 0 0 := ⟨RX0, TX0, rfl, inG0, by decide, tG_of (i := 242) (by decide +kernel) (by decide +kernel)⟩
theorem fl0_26 : FL RX0 26 6 4 := ⟨RX6, TX6, rfl, inG6, by decide, tG_of (i := 68) (by decide +kernel) (by decide +kernel)⟩
theorem fl1_9 : FL RX1 9 1 0 := ⟨RX1, TX1, rfl, inG1, by decide, tG_of (i := 134) (by decide +kernel) (by decide +kernel)⟩
theorem fl1_15 : FL RX1 15 1 1 := ⟨RX1, TX1, rfl, inG1, by decide, tG_of (i := 136) (by decide +kernel) (by decide +kernel)⟩
theorem fl1_18 : FL RX1 18 1 2 := ⟨RX1, TX1, rfl, inG1, by decide, tG_of (i := 138) (by decide +kernel) (by decide +kernel)⟩
theorem fl1_21 : FL RX1 21 1 3 := ⟨RX1, TX1, rfl, inG1, by decide, tG_of (i := 139) (by decide +kernel) (by decide +kernel)⟩
theorem fl1_30 : FL RX1 30 6 9 := ⟨RX6, TX6, rfl, inG6, by decide, tG_of (i := 87) (by decide +kernel) (by decide +kernel)⟩
theorem fl1_41 : FL RX1 41 1 4 := ⟨RX1, TX1, rfl, inG1, by decide, tG_of (i := 140) (by decide +kernel) (by decide +kernel)⟩
theorem fw1_41 : FW RX1 41 1 4 .int := ⟨RX1, TX1, tyX1, rfl, inG1, by decide, tG_of (i := 140) (by decide +kernel) (by decide +kernel), tyX1_ok, nmX1, by decide +kernel, by decide +kernel⟩
theorem fl1_45 : FL RX1 45 1 5 := ⟨RX1, TX1, rfl, inG1, by decide, tG_of (i := 142) (by decide +kernel) (by decide +kernel)⟩
theorem fw1_45 : FW RX1 45 1 5 .int := ⟨RX1, TX1, tyX1, rfl, inG1, by decide, tG_of (i := 142) (by decide +kernel) (by decide +kernel), tyX1_ok, nmX1, by decide +kernel, by decide +kernel⟩
theorem fl1_48 : FL RX1 48 1 6 := ⟨RX1, TX1, rfl, inG1, by decide, tG_of (i := 144) (by decide +kernel) (by decide +kernel)⟩
theorem fw1_48 : FW RX1 48 1 6 .int := ⟨RX1, TX1, tyX1, rfl, inG1, by decide, tG_of (i := 144) (by decide +kernel) (by decide +kernel), tyX1_ok, nmX1, by decide +kernel, by decide +kernel⟩
theorem fl1_51 : FL RX1 51 1 7 := ⟨RX1, TX1, rfl, inG1, by decide, tG_of (i := 146) (by decide +kernel) (by decide +kernel)⟩
theorem fw1_51 : FW RX1 51 1 7 .int := ⟨RX1, TX1, tyX1, rfl, inG1, by decide, tG_of (i := 146) (by decide +kernel) (by decide +kernel), tyX1_ok, nmX1, by decide +kernel, by decide +kernel⟩
theorem fl1_54 : FL RX1 54 1 8 := ⟨RX1, TX1, rfl, inG1, by decide, tG_of (i := 148) (by decide +kernel) (by decide +kernel)⟩
theorem fw1_54 : FW RX1 54 1 8 .int := ⟨RX1, TX1, tyX1, rfl, inG1, by decide, tG_of (i := 148) (by decide +kernel) (by decide +kernel), tyX1_ok, nmX1, by decide +kernel, by decide +kernel⟩
theorem fl1_57 : FL RX1 57 1 9 := ⟨RX1, TX1, rfl, inG1, by decide, tG_of (i := 150) (by decide +kernel) (by decide +kernel)⟩
theorem fw1_57 : FW RX1 57 1 9 .int := ⟨RX1, TX1, tyX1, rfl, inG1, by decide, tG_of (i := 150) (by decide +kernel) (by decide +kernel), tyX1_ok, nmX1, by decide +kernel, by decide +kernel⟩
theorem fl1_60 : FL RX1 60 1 10 := ⟨RX1, TX1, rfl, inG1, by decide, tG_of (i := 152) (by decide +kernel) (by decide +kernel)⟩
theorem fw1_60 : FW RX1 60 1 10 .int := ⟨RX1, TX1, tyX1, rfl, inG1, by decide, tG_of (i := 152) (by decide +kernel) (by decide +kernel), tyX1_ok, nmX1, by decide +kernel, by decide +kernel⟩
theorem fl1_63 : FL RX1 63 1 11 := ⟨RX1, TX1, rfl, inG1, by decide, tG_of (i := 154) (by decide +kernel) (by decide +kernel)⟩
theorem fw1_63 : FW RX1 63 1 11 .int := ⟨RX1, TX1, tyX1, rfl, inG1, by decide, tG_of (i := 154) (by decide +kernel) (by decide +kernel), tyX1_ok, nmX1, by decide +kernel, by decide +kernel⟩
theorem fl1_66 : FL RX1 66 1 12 := ⟨RX1, TX1, rfl, inG1, by decide, tG_of (i := 156) (by decide +kernel) (by decide +kernel)⟩
theorem fw1_66 : FW RX1 66 1 12 .int := ⟨RX1, TX1, tyX1, rfl, inG1, by decide, tG_of (i := 156) (by decide +kernel) (by decide +kernel), tyX1_ok, nmX1, by decide +kernel, by decide +kernel⟩
theorem fl1_69 : FL RX1 69 1 13 := ⟨RX1, TX1, rfl, inG1, by decide, tG_of (i := 158) (by decide +kernel) (by decide +kernel)⟩
theorem fw1_69 : FW RX1 69 1 13 .boolean := ⟨RX1, TX1, tyX1, rfl, inG1, by decide, tG_of (i := 158) (by decide +kernel) (by decide +kernel), tyX1_ok, nmX1, by decide +kernel, by decide +kernel⟩
theorem fl1_77 : FL RX1 77 6 4 := ⟨RX6, TX6, rfl, inG6, by decide, tG_of (i := 72) (by decide +kernel) (by decide +kernel)⟩
theorem fl1_92 : FL RX1 92 6 2 := ⟨RX6, TX6, rfl, inG6, by decide, tG_of (i := 63) (by decide +kernel) (by decide +kernel)⟩
theorem fl1_116 : FL RX1 116 6 1 := ⟨RX6, TX6, rfl, inG6, by decide, tG_of (i := 58) (by decide +kernel) (by decide +kernel)⟩
theorem fl2_9 : FL RX2 9 2 0 := ⟨RX2, TX2, rfl, inG2, by decide, tG_of (i := 215) (by decide +kernel) (by decide +kernel)⟩
theorem fl2_15 : FL RX2 15 2 1 := ⟨RX2, TX2, rfl, inG2, by decide, tG_of (i := 216) (by decide +kernel) (by decide +kernel)⟩
theorem fl2_18 : FL RX2 18 2 2 := ⟨RX2, TX2, rfl, inG2, by decide, tG_of (i := 217) (by decide +kernel) (by decide +kernel)⟩
theorem fl2_21 : FL RX2 21 2 3 := ⟨RX2, TX2, rfl, inG2, by decide, tG_of (i := 218) (by decide +kernel) (by decide +kernel)⟩
theorem fl2_24 : FL RX2 24 2 4 := ⟨RX2, TX2, rfl, inG2, by decide, tG_of (i := 219) (by decide +kernel) (by decide +kernel)⟩
theorem fw2_24 : FW RX2 24 2 4 .int := ⟨RX2, TX2, tyX2, rfl, inG2, by decide, tG_of (i := 219) (by decide +kernel) (by decide +kernel), tyX2_ok, nmX2, by decide +kernel, by decide +kernel⟩
theorem fl2_28 : FL RX2 28 2 5 := ⟨RX2, TX2, rfl, inG2, by decide, tG_of (i := 221) (by decide +kernel) (by decide +kernel)⟩
theorem fw2_28 : FW RX2 28 2 5 .int := ⟨RX2, TX2, tyX2, rfl, inG2, by decide, tG_of (i := 221) (by decide +kernel) (by decide +kernel), tyX2_ok, nmX2, by decide +kernel, by decide +kernel⟩
theorem fl3_11 : FL RX3 11 3 0 := ⟨RX3, TX3, rfl, inG3, by decide, tG_of (i := 198) (by decide +kernel) (by decide +kernel)⟩
theorem fl3_18 : FL RX3 18 3 2 := ⟨RX3, TX3, rfl, inG3, by decide, tG_of (i := 200) (by decide +kernel) (by decide +kernel)⟩
theorem fw3_18 : FW RX3 18 3 2 .int := ⟨RX3, TX3, tyX3, rfl, inG3, by decide, tG_of (i := 200) (by decide +kernel) (by decide +kernel), tyX3_ok, nmX3, by decide +kernel, by decide +kernel⟩
theorem fl3_22 : FL RX3 22 3 1 := ⟨RX3, TX3, rfl, inG3, by decide, tG_of (i := 199) (by decide +kernel) (by decide +kernel)⟩
theorem fw3_22 : FW RX3 22 3 1 .int := ⟨RX3, TX3, tyX3, rfl, inG3, by decide, tG_of (i := 199) (by decide +kernel) (by decide +kernel), tyX3_ok, nmX3, by decide +kernel, by decide +kernel⟩
theorem fl4_9 : FL RX4 9 4 0 := ⟨RX4, TX4, rfl, inG4, by decide, tG_of (i := 253) (by decide +kernel) (by decide +kernel)⟩
theorem fl4_15 : FL RX4 15 4 1 := ⟨RX4, TX4, rfl, inG4, by decide, tG_of (i := 255) (by decide +kernel) (by decide +kernel)⟩
theorem fw4_15 : FW RX4 15 4 1 .int := ⟨RX4, TX4, tyX4, rfl, inG4, by decide, tG_of (i := 255) (by decide +kernel) (by decide +kernel), tyX4_ok, nmX4, by decide +kernel, by decide +kernel⟩
theorem fl4_25 : FL RX4 25 4 2 := ⟨RX4, TX4, rfl, inG4, by decide, tG_of (i := 256) (by decide +kernel) (by decide +kernel)⟩
theorem fw4_25 : FW RX4 25 4 2 .int := ⟨RX4, TX4, tyX4, rfl, inG4, by decide, tG_of (i := 256) (by decide +kernel) (by decide +kernel), tyX4_ok, nmX4, by decide +kernel, by decide +kernel⟩
theorem fl4_28 : FL RX4 28 4 3 := ⟨RX4, TX4, rfl, inG4, by decide, tG_of (i := 257) (by decide +kernel) (by decide +kernel)⟩
theorem fw4_28 : FW RX4 28 4 3 .int := ⟨RX4, TX4, tyX4, rfl, inG4, by decide, tG_of (i := 257) (by decide +kernel) (by decide +kernel), tyX4_ok, nmX4, by decide +kernel, by decide +kernel⟩
theorem fl4_41 : FL RX4 41 6 7 := ⟨RX6, TX6, rfl, inG6, by decide, tG_of (i := 80) (by decide +kernel) (by decide +kernel)⟩
theorem fl4_48 : FL RX4 48 6 4 := ⟨RX6, TX6, rfl, inG6, by decide, tG_of (i := 69) (by decide +kernel) (by decide +kernel)⟩
theorem fl4_58 : FL RX4 58 6 2 := ⟨RX6, TX6, rfl, inG6, by decide, tG_of (i := 60) (by decide +kernel) (by decide +kernel)⟩
theorem fl5_9 : FL RX5 9 5 0 := ⟨RX5, TX5, rfl, inG5, by decide, tG_of (i := 28) (by decide +kernel) (by decide +kernel)⟩
theorem fw5_9 : FW RX5 9 5 0 (.array .char) := ⟨RX5, TX5, tyX5, rfl, inG5, by decide, tG_of (i := 28) (by decide +kernel) (by decide +kernel), tyX5_ok, nmX5, by decide +kernel, by decide +kernel⟩
theorem fl5_21 : FL RX5 21 5 1 := ⟨RX5, TX5, rfl, inG5, by decide, tG_of (i := 29) (by decide +kernel) (by decide +kernel)⟩
theorem fw5_21 : FW RX5 21 5 1 .int := ⟨RX5, TX5, tyX5, rfl, inG5, by decide, tG_of (i := 29) (by decide +kernel) (by decide +kernel), tyX5_ok, nmX5, by decide +kernel, by decide +kernel⟩
theorem fl5_25 : FL RX5 25 5 4 := ⟨RX5, TX5, rfl, inG5, by decide, tG_of (i := 32) (by decide +kernel) (by decide +kernel)⟩
theorem fw5_25 : FW RX5 25 5 4 .int := ⟨RX5, TX5, tyX5, rfl, inG5, by decide, tG_of (i := 32) (by decide +kernel) (by decide +kernel), tyX5_ok, nmX5, by decide +kernel, by decide +kernel⟩
theorem fl5_28 : FL RX5 28 5 2 := ⟨RX5, TX5, rfl, inG5, by decide, tG_of (i := 30) (by decide +kernel) (by decide +kernel)⟩
theorem fw5_28 : FW RX5 28 5 2 .int := ⟨RX5, TX5, tyX5, rfl, inG5, by decide, tG_of (i := 30) (by decide +kernel) (by decide +kernel), tyX5_ok, nmX5, by decide +kernel, by decide +kernel⟩
theorem fl5_51 : FL RX5 51 6 0 := ⟨RX6, TX6, rfl, inG6, by decide, tG_of (i := 53) (by decide +kernel) (by decide +kernel)⟩
theorem fw5_51 : FW RX5 51 6 0 .boolean := ⟨RX6, TX6, tyX6, rfl, inG6, by decide, tG_of (i := 53) (by decide +kernel) (by decide +kernel), tyX6_ok, nmX6, by decide +kernel, by decide +kernel⟩
theorem fl5_69 : FL RX5 69 6 5 := ⟨RX6, TX6, rfl, inG6, by decide, tG_of (i := 74) (by decide +kernel) (by decide +kernel)⟩
theorem fw5_69 : FW RX5 69 6 5 .int := ⟨RX6, TX6, tyX6, rfl, inG6, by decide, tG_of (i := 74) (by decide +kernel) (by decide +kernel), tyX6_ok, nmX6, by decide +kernel, by decide +kernel⟩
theorem fl5_72 : FL RX5 72 6 11 := ⟨RX6, TX6, rfl, inG6, by decide, tG_of (i := 93) (by decide +kernel) (by decide +kernel)⟩
theorem fl5_80 : FL RX5 80 6 6 := ⟨RX6, TX6, rfl, inG6, by decide, tG_of (i := 77) (by decide +kernel) (by decide +kernel)⟩
theorem fw5_80 : FW RX5 80 6 6 .int := ⟨RX6, TX6, tyX6, rfl, inG6, by decide, tG_of (i := 77) (by decide +kernel) (by decide +kernel), tyX6_ok, nmX6, by decide +kernel, by decide +kernel⟩
theorem fl5_83 : FL RX5 83 6 12 := ⟨RX6, TX6, rfl, inG6, by decide, tG_of (i := 95) (by decide +kernel) (by decide +kernel)⟩
theorem fl5_89 : FL RX5 89 6 4 := ⟨RX6, TX6, rfl, inG6, by decide, tG_of (i := 71) (by decide +kernel) (by decide +kernel)⟩
theorem fw5_89 : FW RX5 89 6 4 .int := ⟨RX6, TX6, tyX6, rfl, inG6, by decide, tG_of (i := 71) (by decide +kernel) (by decide +kernel), tyX6_ok, nmX6, by decide +kernel, by decide +kernel⟩
theorem fw5_95 : FW RX5 95 6 1 .int := ⟨RX6, TX6, tyX6, rfl, inG6, by decide, tG_of (i := 57) (by decide +kernel) (by decide +kernel), tyX6_ok, nmX6, by decide +kernel, by decide +kernel⟩
theorem fw5_98 : FW RX5 98 6 2 .int := ⟨RX6, TX6, tyX6, rfl, inG6, by decide, tG_of (i := 62) (by decide +kernel) (by decide +kernel), tyX6_ok, nmX6, by decide +kernel, by decide +kernel⟩
theorem fw5_101 : FW RX5 101 6 3 .int := ⟨RX6, TX6, tyX6, rfl, inG6, by decide, tG_of (i := 66) (by decide +kernel) (by decide +kernel), tyX6_ok, nmX6, by decide +kernel, by decide +kernel⟩
theorem fl5_104 : FL RX5 104 6 7 := ⟨RX6, TX6, rfl, inG6, by decide, tG_of (i := 82) (by decide +kernel) (by decide +kernel)⟩
theorem fl5_108 : FL RX5 108 6 8 := ⟨RX6, TX6, rfl, inG6, by decide, tG_of (i := 85) (by decide +kernel) (by decide +kernel)⟩
theorem fl5_111 : FL RX5 111 6 9 := ⟨RX6, TX6, rfl, inG6, by decide, tG_of (i := 88) (by decide +kernel) (by decide +kernel)⟩
theorem fl5_114 : FL RX5 114 6 10 := ⟨RX6, TX6, rfl, inG6, by decide, tG_of (i := 91) (by decide +kernel) (by decide +kernel)⟩
theorem fl5_121 : FL RX5 121 5 3 := ⟨RX5, TX5, rfl, inG5, by decide, tG_of (i := 31) (by decide +kernel) (by decide +kernel)⟩
theorem fw5_121 : FW RX5 121 5 3 .int := ⟨RX5, TX5, tyX5, rfl, inG5, by decide, tG_of (i := 31) (by decide +kernel) (by decide +kernel), tyX5_ok, nmX5, by decide +kernel, by decide +kernel⟩
theorem fl6_9 : FL RX6 9 6 7 := ⟨RX6, TX6, rfl, inG6, by decide, tG_of (i := 79) (by decide +kernel) (by decide +kernel)⟩
theorem fl6_15 : FL RX6 15 6 8 := ⟨RX6, TX6, rfl, inG6, by decide, tG_of (i := 83) (by decide +kernel) (by decide +kernel)⟩
theorem fl6_24 : FL RX6 24 6 11 := ⟨RX6, TX6, rfl, inG6, by decide, tG_of (i := 92) (by decide +kernel) (by decide +kernel)⟩
theorem fl6_28 : FL RX6 28 6 12 := ⟨RX6, TX6, rfl, inG6, by decide, tG_of (i := 94) (by decide +kernel) (by decide +kernel)⟩
theorem fw6_31 : FW RX6 31 6 0 .boolean := ⟨RX6, TX6, tyX6, rfl, inG6, by decide, tG_of (i := 52) (by decide +kernel) (by decide +kernel), tyX6_ok, nmX6, by decide +kernel, by decide +kernel⟩
theorem fw6_35 : FW RX6 35 6 1 .int := ⟨RX6, TX6, tyX6, rfl, inG6, by decide, tG_of (i := 55) (by decide +kernel) (by decide +kernel), tyX6_ok, nmX6, by decide +kernel, by decide +kernel⟩
theorem fw6_39 : FW RX6 39 6 2 .int := ⟨RX6, TX6, tyX6, rfl, inG6, by decide, tG_of (i := 59) (by decide +kernel) (by decide +kernel), tyX6_ok, nmX6, by decide +kernel, by decide +kernel⟩
theorem fw6_42 : FW RX6 42 6 3 .int := ⟨RX6, TX6, tyX6, rfl, inG6, by decide, tG_of (i := 64) (by decide +kernel) (by decide +kernel), tyX6_ok, nmX6, by decide +kernel, by decide +kernel⟩
theorem fl6_45 : FL RX6 45 6 4 := ⟨RX6, TX6, rfl, inG6, by decide, tG_of (i := 67) (by decide +kernel) (by decide +kernel)⟩
theorem fw6_45 : FW RX6 45 6 4 .int := ⟨RX6, TX6, tyX6, rfl, inG6, by decide, tG_of (i := 67) (by decide +kernel) (by decide +kernel), tyX6_ok, nmX6, by decide +kernel, by decide +kernel⟩
theorem fw6_48 : FW RX6 48 6 5 .int := ⟨RX6, TX6, tyX6, rfl, inG6, by decide, tG_of (i := 73) (by decide +kernel) (by decide +kernel), tyX6_ok, nmX6, by decide +kernel, by decide +kernel⟩
theorem fw6_51 : FW RX6 51 6 6 .int := ⟨RX6, TX6, tyX6, rfl, inG6, by decide, tG_of (i := 76) (by decide +kernel) (by decide +kernel), tyX6_ok, nmX6, by decide +kernel, by decide +kernel⟩
theorem fl8_7 : FL RX8 7 8 4 := ⟨RX8, TX8, rfl, inG8, by decide, tG_of (i := 719) (by decide +kernel) (by decide +kernel)⟩
theorem fl8_13 : FL RX8 13 8 5 := ⟨RX8, TX8, rfl, inG8, by decide, tG_of (i := 720) (by decide +kernel) (by decide +kernel)⟩
theorem fl8_16 : FL RX8 16 8 6 := ⟨RX8, TX8, rfl, inG8, by decide, tG_of (i := 721) (by decide +kernel) (by decide +kernel)⟩
theorem fl8_19 : FL RX8 19 8 8 := ⟨RX8, TX8, rfl, inG8, by decide, tG_of (i := 723) (by decide +kernel) (by decide +kernel)⟩
theorem fl8_22 : FL RX8 22 8 10 := ⟨RX8, TX8, rfl, inG8, by decide, tG_of (i := 725) (by decide +kernel) (by decide +kernel)⟩
theorem fl8_25 : FL RX8 25 8 11 := ⟨RX8, TX8, rfl, inG8, by decide, tG_of (i := 726) (by decide +kernel) (by decide +kernel)⟩
theorem fl8_28 : FL RX8 28 8 13 := ⟨RX8, TX8, rfl, inG8, by decide, tG_of (i := 728) (by decide +kernel) (by decide +kernel)⟩
theorem fl8_31 : FL RX8 31 8 15 := ⟨RX8, TX8, rfl, inG8, by decide, tG_of (i := 730) (by decide +kernel) (by decide +kernel)⟩
theorem fw8_31 : FW RX8 31 8 15 .int := ⟨RX8, TX8, tyX8, rfl, inG8, by decide, tG_of (i := 730) (by decide +kernel) (by decide +kernel), tyX8_ok, nmX8, by decide +kernel, by decide +kernel⟩
theorem fl8_35 : FL RX8 35 8 19 := ⟨RX8, TX8, rfl, inG8, by decide, tG_of (i := 734) (by decide +kernel) (by decide +kernel)⟩
theorem fl8_38 : FL RX8 38 8 21 := ⟨RX8, TX8, rfl, inG8, by decide, tG_of (i := 736) (by decide +kernel) (by decide +kernel)⟩
theorem fl8_41 : FL RX8 41 8 22 := ⟨RX8, TX8, rfl, inG8, by decide, tG_of (i := 737) (by decide +kernel) (by decide +kernel)⟩
theorem fl8_44 : FL RX8 44 8 23 := ⟨RX8, TX8, rfl, inG8, by decide, tG_of (i := 738) (by decide +kernel) (by decide +kernel)⟩
theorem fl8_47 : FL RX8 47 8 24 := ⟨RX8, TX8, rfl, inG8, by decide, tG_of (i := 739) (by decide +kernel) (by decide +kernel)⟩
theorem fl8_50 : FL RX8 50 8 26 := ⟨RX8, TX8, rfl, inG8, by decide, tG_of (i := 741) (by decide +kernel) (by decide +kernel)⟩
theorem fl8_53 : FL RX8 53 8 28 := ⟨RX8, TX8, rfl, inG8, by decide, tG_of (i := 743) (by decide +kernel) (by decide +kernel)⟩
theorem fl8_56 : FL RX8 56 8 30 := ⟨RX8, TX8, rfl, inG8, by decide, tG_of (i := 745) (by decide +kernel) (by decide +kernel)⟩
theorem fl8_59 : FL RX8 59 8 31 := ⟨RX8, TX8, rfl, inG8, by decide, tG_of (i := 746) (by decide +kernel) (by decide +kernel)⟩
theorem fl8_62 : FL RX8 62 8 32 := ⟨RX8, TX8, rfl, inG8, by decide, tG_of (i := 747) (by decide +kernel) (by decide +kernel)⟩
theorem fl8_66 : FL RX8 66 8 33 := ⟨RX8, TX8, rfl, inG8, by decide, tG_of (i := 748) (by decide +kernel) (by decide +kernel)⟩
theorem fl8_69 : FL RX8 69 8 34 := ⟨RX8, TX8, rfl, inG8, by decide, tG_of (i := 749) (by decide +kernel) (by decide +kernel)⟩
theorem fl8_72 : FL RX8 72 8 35 := ⟨RX8, TX8, rfl, inG8, by decide, tG_of (i := 750) (by decide +kernel) (by decide +kernel)⟩
theorem fl8_75 : FL RX8 75 8 38 := ⟨RX8, TX8, rfl, inG8, by decide, tG_of (i := 753) (by decide +kernel) (by decide +kernel)⟩
theorem fl8_78 : FL RX8 78 8 39 := ⟨RX8, TX8, rfl, inG8, by decide, tG_of (i := 754) (by decide +kernel) (by decide +kernel)⟩
theorem fl8_81 : FL RX8 81 8 41 := ⟨RX8, TX8, rfl, inG8, by decide, tG_of (i := 756) (by decide +kernel) (by decide +kernel)⟩
theorem fl8_84 : FL RX8 84 8 42 := ⟨RX8, TX8, rfl, inG8, by decide, tG_of (i := 757) (by decide +kernel) (by decide +kernel)⟩
theorem fl8_87 : FL RX8 87 8 43 := ⟨RX8, TX8, rfl, inG8, by decide, tG_of (i := 758) (by decide +kernel) (by decide +kernel)⟩
theorem fl8_90 : FL RX8 90 8 44 := ⟨RX8, TX8, rfl, inG8, by decide, tG_of (i := 759) (by decide +kernel) (by decide +kernel)⟩
theorem fl8_94 : FL RX8 94 8 3 := ⟨RX8, TX8, rfl, inG8, by decide, tG_of (i := 718) (by decide +kernel) (by decide +kernel)⟩
theorem fw8_94 : FW RX8 94 8 3 .int := ⟨RX8, TX8, tyX8, rfl, inG8, by decide, tG_of (i := 718) (by decide +kernel) (by decide +kernel), tyX8_ok, nmX8, by decide +kernel, by decide +kernel⟩
theorem fl8_104 : FL RX8 104 8 14 := ⟨RX8, TX8, rfl, inG8, by decide, tG_of (i := 729) (by decide +kernel) (by decide +kernel)⟩
theorem fw8_104 : FW RX8 104 8 14 .int := ⟨RX8, TX8, tyX8, rfl, inG8, by decide, tG_of (i := 729) (by decide +kernel) (by decide +kernel), tyX8_ok, nmX8, by decide +kernel, by decide +kernel⟩
theorem fl8_108 : FL RX8 108 8 16 := ⟨RX8, TX8, rfl, inG8, by decide, tG_of (i := 731) (by decide +kernel) (by decide +kernel)⟩
theorem fw8_108 : FW RX8 108 8 16 .int := ⟨RX8, TX8, tyX8, rfl, inG8, by decide, tG_of (i := 731) (by decide +kernel) (by decide +kernel), tyX8_ok, nmX8, by decide +kernel, by decide +kernel⟩
theorem fl8_123 : FL RX8 123 8 18 := ⟨RX8, TX8, rfl, inG8, by decide, tG_of (i := 733) (by decide +kernel) (by decide +kernel)⟩
theorem fw8_123 : FW RX8 123 8 18 .int := ⟨RX8, TX8, tyX8, rfl, inG8, by decide, tG_of (i := 733) (by decide +kernel) (by decide +kernel), tyX8_ok, nmX8, by decide +kernel, by decide +kernel⟩
theorem fl8_126 : FL RX8 126 8 17 := ⟨RX8, TX8, rfl, inG8, by decide, tG_of (i := 732) (by decide +kernel) (by decide +kernel)⟩
theorem fw8_126 : FW RX8 126 8 17 .int := ⟨RX8, TX8, tyX8, rfl, inG8, by decide, tG_of (i := 732) (by decide +kernel) (by decide +kernel), tyX8_ok, nmX8, by decide +kernel, by decide +kernel⟩
theorem fl8_136 : FL RX8 136 8 20 := ⟨RX8, TX8, rfl, inG8, by decide, tG_of (i := 735) (by decide +kernel) (by decide +kernel)⟩
theorem fw8_136 : FW RX8 136 8 20 .int := ⟨RX8, TX8, tyX8, rfl, inG8, by decide, tG_of (i := 735) (by decide +kernel) (by decide +kernel), tyX8_ok, nmX8, by decide +kernel, by decide +kernel⟩
theorem fl8_139 : FL RX8 139 8 25 := ⟨RX8, TX8, rfl, inG8, by decide, tG_of (i := 740) (by decide +kernel) (by decide +kernel)⟩
theorem fw8_139 : FW RX8 139 8 25 .int := ⟨RX8, TX8, tyX8, rfl, inG8, by decide, tG_of (i := 740) (by decide +kernel) (by decide +kernel), tyX8_ok, nmX8, by decide +kernel, by decide +kernel⟩
theorem fl8_142 : FL RX8 142 8 27 := ⟨RX8, TX8, rfl, inG8, by decide, tG_of (i := 742) (by decide +kernel) (by decide +kernel)⟩
theorem fw8_142 : FW RX8 142 8 27 .int := ⟨RX8, TX8, tyX8, rfl, inG8, by decide, tG_of (i := 742) (by decide +kernel) (by decide +kernel), tyX8_ok, nmX8, by decide +kernel, by decide +kernel⟩
theorem fl8_155 : FL RX8 155 8 0 := ⟨RX8, TX8, rfl, inG8, by decide, tG_of (i := 715) (by decide +kernel) (by decide +kernel)⟩
theorem fw8_155 : FW RX8 155 8 0 .int := ⟨RX8, TX8, tyX8, rfl, inG8, by decide, tG_of (i := 715) (by decide +kernel) (by decide +kernel), tyX8_ok, nmX8, by decide +kernel, by decide +kernel⟩
theorem fl8_158 : FL RX8 158 8 1 := ⟨RX8, TX8, rfl, inG8, by decide, tG_of (i := 716) (by decide +kernel) (by decide +kernel)⟩
theorem fw8_158 : FW RX8 158 8 1 .int := ⟨RX8, TX8, tyX8, rfl, inG8, by decide, tG_of (i := 716) (by decide +kernel) (by decide +kernel), tyX8_ok, nmX8, by decide +kernel, by decide +kernel⟩
theorem fl8_161 : FL RX8 161 8 2 := ⟨RX8, TX8, rfl, inG8, by decide, tG_of (i := 717) (by decide +kernel) (by decide +kernel)⟩
theorem fw8_161 : FW RX8 161 8 2 .int := ⟨RX8, TX8, tyX8, rfl, inG8, by decide, tG_of (i := 717) (by decide +kernel) (by decide +kernel), tyX8_ok, nmX8, by decide +kernel, by decide +kernel⟩
theorem fl8_164 : FL RX8 164 8 7 := ⟨RX8, TX8, rfl, inG8, by decide, tG_of (i := 722) (by decide +kernel) (by decide +kernel)⟩
theorem fw8_164 : FW RX8 164 8 7 .int := ⟨RX8, TX8, tyX8, rfl, inG8, by decide, tG_of (i := 722) (by decide +kernel) (by decide +kernel), tyX8_ok, nmX8, by decide +kernel, by decide +kernel⟩
theorem fl8_167 : FL RX8 167 8 9 := ⟨RX8, TX8, rfl, inG8, by decide, tG_of (i := 724) (by decide +kernel) (by decide +kernel)⟩
theorem fw8_167 : FW RX8 167 8 9 .int := ⟨RX8, TX8, tyX8, rfl, inG8, by decide, tG_of (i := 724) (by decide +kernel) (by decide +kernel), tyX8_ok, nmX8, by decide +kernel, by decide +kernel⟩
theorem fl8_176 : FL RX8 176 8 37 := ⟨RX8, TX8, rfl, inG8, by decide, tG_of (i := 752) (by decide +kernel) (by decide +kernel)⟩
theorem fw8_176 : FW RX8 176 8 37 .int := ⟨RX8, TX8, tyX8, rfl, inG8, by decide, tG_of (i := 752) (by decide +kernel) (by decide +kernel), tyX8_ok, nmX8, by decide +kernel, by decide +kernel⟩
theorem fl8_179 : FL RX8 179 8 40 := ⟨RX8, TX8, rfl, inG8, by decide, tG_of (i := 755) (by decide +kernel) (by decide +kernel)⟩
theorem fw8_179 : FW RX8 179 8 40 .int := ⟨RX8, TX8, tyX8, rfl, inG8, by decide, tG_of (i := 755) (by decide +kernel) (by decide +kernel), tyX8_ok, nmX8, by decide +kernel, by decide +kernel⟩
theorem fl8_182 : FL RX8 182 8 29 := ⟨RX8, TX8, rfl, inG8, by decide, tG_of (i := 744) (by decide +kernel) (by decide +kernel)⟩
theorem fw8_182 : FW RX8 182 8 29 .int := ⟨RX8, TX8, tyX8, rfl, inG8, by decide, tG_of (i := 744) (by decide +kernel) (by decide +kernel), tyX8_ok, nmX8, by decide +kernel, by decide +kernel⟩
theorem fl8_237 : FL RX8 237 8 12 := ⟨RX8, TX8, rfl, inG8, by decide, tG_of (i := 727) (by decide +kernel) (by decide +kernel)⟩
theorem fw8_237 : FW RX8 237 8 12 .int := ⟨RX8, TX8, tyX8, rfl, inG8, by decide, tG_of (i := 727) (by decide +kernel) (by decide +kernel), tyX8_ok, nmX8, by decide +kernel, by decide +kernel⟩
theorem fl8_284 : FL RX8 284 8 36 := ⟨RX8, TX8, rfl, inG8, by decide, tG_of (i := 751) (by decide +kernel) (by decide +kernel)⟩
theorem fw8_284 : FW RX8 284 8 36 .int := ⟨RX8, TX8, tyX8, rfl, inG8, by decide, tG_of (i := 751) (by decide +kernel) (by decide +kernel), tyX8_ok, nmX8, by decide +kernel, by decide +kernel⟩
theorem kk7_80 : Cond.constant RX7 80 (-1000000002) ∈ tG := tG_of (i := 320) (by decide +kernel) (by decide +kernel)
theorem kk7_84 : Cond.constant RX7 84 (-1000000004) ∈ tG := tG_of (i := 321) (by decide +kernel) (by decide +kernel)
theorem kk7_162 : Cond.constant RX7 162 (-1000000001) ∈ tG := tG_of (i := 422) (by decide +kernel) (by decide +kernel)
theorem kk7_206 : Cond.constant RX7 206 (-1000000003) ∈ tG := tG_of (i := 473) (by decide +kernel) (by decide +kernel)
theorem kk7_247 : Cond.constant RX7 247 1000000 ∈ tG := tG_of (i := 641) (by decide +kernel) (by decide +kernel)
theorem kk7_278 : Cond.constant RX7 278 65536 ∈ tG := tG_of (i := 534) (by decide +kernel) (by decide +kernel)
theorem kk4_47 : Cond.constant RX4 47 1000000 ∈ tG := tG_of (i := 625) (by decide +kernel) (by decide +kernel)
theorem kk8_103 : Cond.constant RX8 103 (-1000000002) ∈ tG := tG_of (i := 860) (by decide +kernel) (by decide +kernel)
theorem kk8_107 : Cond.constant RX8 107 (-1000000004) ∈ tG := tG_of (i := 861) (by decide +kernel) (by decide +kernel)
theorem kk8_189 : Cond.constant RX8 189 (-1000000001) ∈ tG := tG_of (i := 920) (by decide +kernel) (by decide +kernel)
theorem kk8_224 : Cond.constant RX8 224 (-1000000003) ∈ tG := tG_of (i := 962) (by decide +kernel) (by decide +kernel)
theorem kk8_246 : Cond.constant RX8 246 65536 ∈ tG := tG_of (i := 998) (by decide +kernel) (by decide +kernel)
theorem kk8_277 : Cond.constant RX8 277 1000000 ∈ tG := tG_of (i := 1070) (by decide +kernel) (by decide +kernel)
theorem kkJ6_265 : Cond.constant RJ6 265 1431655765 ∈ tG := tG_of (i := 509) (by decide +kernel) (by decide +kernel)
theorem kkJ6_266 : Cond.constant RJ6 266 858993459 ∈ tG := tG_of (i := 510) (by decide +kernel) (by decide +kernel)
theorem kkJ6_267 : Cond.constant RJ6 267 252645135 ∈ tG := tG_of (i := 511) (by decide +kernel) (by decide +kernel)
theorem kl7_272 : Cond.constantLong RX7 272 1103515245 ∈ tG := tG_of (i := 531) (by decide +kernel) (by decide +kernel)
theorem kl7_274 : Cond.constantLong RX7 274 12345 ∈ tG := tG_of (i := 532) (by decide +kernel) (by decide +kernel)
theorem kl7_276 : Cond.constantLong RX7 276 2147483647 ∈ tG := tG_of (i := 533) (by decide +kernel) (by decide +kernel)
theorem kl8_101 : Cond.constantLong RX8 101 255 ∈ tG := tG_of (i := 856) (by decide +kernel) (by decide +kernel)
theorem kl8_115 : Cond.constantLong RX8 115 48 ∈ tG := tG_of (i := 890) (by decide +kernel) (by decide +kernel)
theorem kl8_117 : Cond.constantLong RX8 117 57 ∈ tG := tG_of (i := 891) (by decide +kernel) (by decide +kernel)
theorem kl8_208 : Cond.constantLong RX8 208 9999 ∈ tG := tG_of (i := 925) (by decide +kernel) (by decide +kernel)
theorem kl8_222 : Cond.constantLong RX8 222 99 ∈ tG := tG_of (i := 961) (by decide +kernel) (by decide +kernel)
theorem kl8_235 : Cond.constantLong RX8 235 (-1) ∈ tG := tG_of (i := 986) (by decide +kernel) (by decide +kernel)
theorem kl8_240 : Cond.constantLong RX8 240 1103515245 ∈ tG := tG_of (i := 995) (by decide +kernel) (by decide +kernel)
theorem kl8_242 : Cond.constantLong RX8 242 12345 ∈ tG := tG_of (i := 996) (by decide +kernel) (by decide +kernel)
theorem kl8_244 : Cond.constantLong RX8 244 2147483648 ∈ tG := tG_of (i := 997) (by decide +kernel) (by decide +kernel)
theorem kl8_256 : Cond.constantLong RX8 256 60 ∈ tG := tG_of (i := 1019) (by decide +kernel) (by decide +kernel)
theorem kl8_273 : Cond.constantLong RX8 273 30 ∈ tG := tG_of (i := 1047) (by decide +kernel) (by decide +kernel)
theorem kl8_275 : Cond.constantLong RX8 275 999 ∈ tG := tG_of (i := 1052) (by decide +kernel) (by decide +kernel)
theorem kl8_296 : Cond.constantLong RX8 296 10 ∈ tG := tG_of (i := 1061) (by decide +kernel) (by decide +kernel)
theorem kl8_301 : Cond.constantLong RX8 301 2 ∈ tG := tG_of (i := 1095) (by decide +kernel) (by decide +kernel)
theorem ml7_85 : Cond.methodLink RX7 85 yX5_read ∈ tG := tG_of (i := 326) (by decide +kernel) (by decide +kernel)
theorem ml7_92 : Cond.methodLink RX7 92 yX1_begin ∈ tG := tG_of (i := 391) (by decide +kernel) (by decide +kernel)
theorem ml7_96 : Cond.methodLink RX7 96 yX2_clear ∈ tG := tG_of (i := 398) (by decide +kernel) (by decide +kernel)
theorem ml7_99 : Cond.methodLink RX7 99 yX3_clear ∈ tG := tG_of (i := 402) (by decide +kernel) (by decide +kernel)
theorem ml7_158 : Cond.methodLink RX7 158 yX6_has ∈ tG := tG_of (i := 418) (by decide +kernel) (by decide +kernel)
theorem ml7_175 : Cond.methodLink RX7 175 yX1_staysAway ∈ tG := tG_of (i := 423) (by decide +kernel) (by decide +kernel)
theorem ml7_181 : Cond.methodLink RX7 181 yX1_comers ∈ tG := tG_of (i := 431) (by decide +kernel) (by decide +kernel)
theorem ml7_185 : Cond.methodLink RX7 185 yX1_blessedOn ∈ tG := tG_of (i := 457) (by decide +kernel) (by decide +kernel)
theorem ml7_189 : Cond.methodLink RX7 189 yX7_refusalOfDays ∈ tG := tG_of (i := 469) (by decide +kernel) (by decide +kernel)
theorem ml7_192 : Cond.methodLink RX7 192 yX3_push ∈ tG := tG_of (i := 474) (by decide +kernel) (by decide +kernel)
theorem ml7_196 : Cond.methodLink RX7 196 yX1_live ∈ tG := tG_of (i := 486) (by decide +kernel) (by decide +kernel)
theorem ml7_203 : Cond.methodLink RX7 203 yX7_shiftByDraws ∈ tG := tG_of (i := 523) (by decide +kernel) (by decide +kernel)
theorem ml7_207 : Cond.methodLink RX7 207 yX3_pop ∈ tG := tG_of (i := 539) (by decide +kernel) (by decide +kernel)
theorem ml7_213 : Cond.methodLink RX7 213 yX1_goOnFrom ∈ tG := tG_of (i := 547) (by decide +kernel) (by decide +kernel)
theorem ml7_216 : Cond.methodLink RX7 216 yX6_all ∈ tG := tG_of (i := 556) (by decide +kernel) (by decide +kernel)
theorem ml7_220 : Cond.methodLink RX7 220 yX0_find ∈ tG := tG_of (i := 560) (by decide +kernel) (by decide +kernel)
theorem ml7_225 : Cond.methodLink RX7 225 yJ6_bitCount_0f7a4 ∈ tG := tG_of (i := 506) (by decide +kernel) (by decide +kernel)
theorem ml7_230 : Cond.methodLink RX7 230 yX7_isPeaceful ∈ tG := tG_of (i := 585) (by decide +kernel) (by decide +kernel)
theorem ml7_234 : Cond.methodLink RX7 234 yX1_comersByCalendar ∈ tG := tG_of (i := 593) (by decide +kernel) (by decide +kernel)
theorem ml7_237 : Cond.methodLink RX7 237 yX7_isLargeEnough ∈ tG := tG_of (i := 598) (by decide +kernel) (by decide +kernel)
theorem ml7_240 : Cond.methodLink RX7 240 yX4_make ∈ tG := tG_of (i := 606) (by decide +kernel) (by decide +kernel)
theorem ml7_248 : Cond.methodLink RX7 248 yX2_addSeen ∈ tG := tG_of (i := 646) (by decide +kernel) (by decide +kernel)
theorem ml7_251 : Cond.methodLink RX7 251 yX2_fitting ∈ tG := tG_of (i := 654) (by decide +kernel) (by decide +kernel)
theorem ml7_255 : Cond.methodLink RX7 255 yX7_dayToLookAt ∈ tG := tG_of (i := 667) (by decide +kernel) (by decide +kernel)
theorem ml7_259 : Cond.methodLink RX7 259 yX2_addEntry ∈ tG := tG_of (i := 677) (by decide +kernel) (by decide +kernel)
theorem ml7_262 : Cond.methodLink RX7 262 yX2_firstWrong ∈ tG := tG_of (i := 689) (by decide +kernel) (by decide +kernel)
theorem ml7_269 : Cond.methodLink RX7 269 yX1_copy ∈ tG := tG_of (i := 703) (by decide +kernel) (by decide +kernel)
theorem ml7_279 : Cond.methodLink RX7 279 yX7_draw ∈ tG := tG_of (i := 527) (by decide +kernel) (by decide +kernel)
theorem ml7_282 : Cond.methodLink RX7 282 yX6_periodOf ∈ tG := tG_of (i := 671) (by decide +kernel) (by decide +kernel)
theorem ml7_285 : Cond.methodLink RX7 285 yX1_outcomeWith ∈ tG := tG_of (i := 672) (by decide +kernel) (by decide +kernel)
theorem ml0_15 : Cond.methodLink RX0 15 yX0_comesOften ∈ tG := tG_of (i := 564) (by decide +kernel) (by decide +kernel)
theorem ml0_19 : Cond.methodLink RX0 19 yX0_canPassEachOther ∈ tG := tG_of (i := 568) (by decide +kernel) (by decide +kernel)
theorem ml0_22 : Cond.methodLink RX0 22 yX0_place ∈ tG := tG_of (i := 575) (by decide +kernel) (by decide +kernel)
theorem ml0_32 : Cond.methodLink RX0 32 yX6_periodOf ∈ tG := tG_of (i := 567) (by decide +kernel) (by decide +kernel)
theorem ml0_36 : Cond.methodLink RX0 36 yX0_commonDivisor ∈ tG := tG_of (i := 571) (by decide +kernel) (by decide +kernel)
theorem ml0_40 : Cond.methodLink RX0 40 yX0_meetsOneBefore ∈ tG := tG_of (i := 578) (by decide +kernel) (by decide +kernel)
theorem ml0_44 : Cond.methodLink RX0 44 Lib.Math.min.name ∈ tG := tG_of (i := 574) (by decide +kernel) (by decide +kernel)
theorem ml1_24 : Cond.methodLink RX1 24 yJ7_fill_53178 ∈ tG := tG_of (i := 131) (by decide +kernel) (by decide +kernel)
theorem ml1_35 : Cond.methodLink RX1 35 arraycopyName ∈ tG := tG_of (i := 395) (by decide +kernel) (by decide +kernel)
theorem ml1_73 : Cond.methodLink RX1 73 yX1_goOnFrom ∈ tG := tG_of (i := 482) (by decide +kernel) (by decide +kernel)
theorem ml1_80 : Cond.methodLink RX1 80 yX1_staysAway ∈ tG := tG_of (i := 439) (by decide +kernel) (by decide +kernel)
theorem ml1_84 : Cond.methodLink RX1 84 yX6_brings ∈ tG := tG_of (i := 440) (by decide +kernel) (by decide +kernel)
theorem ml1_88 : Cond.methodLink RX1 88 yX1_comersByCalendar ∈ tG := tG_of (i := 435) (by decide +kernel) (by decide +kernel)
theorem ml1_99 : Cond.methodLink RX1 99 yX1_comers ∈ tG := tG_of (i := 490) (by decide +kernel) (by decide +kernel)
theorem ml1_102 : Cond.methodLink RX1 102 yX6_feetOf ∈ tG := tG_of (i := 491) (by decide +kernel) (by decide +kernel)
theorem ml1_105 : Cond.methodLink RX1 105 yX1_firstThroughInn ∈ tG := tG_of (i := 495) (by decide +kernel) (by decide +kernel)
theorem ml1_109 : Cond.methodLink RX1 109 yX1_close ∈ tG := tG_of (i := 499) (by decide +kernel) (by decide +kernel)
theorem ml1_119 : Cond.methodLink RX1 119 yX1_isLatest ∈ tG := tG_of (i := 461) (by decide +kernel) (by decide +kernel)
theorem ml2_31 : Cond.methodLink RX2 31 yX6_periodOf ∈ tG := tG_of (i := 658) (by decide +kernel) (by decide +kernel)
theorem ml2_37 : Cond.methodLink RX2 37 yX2_fits ∈ tG := tG_of (i := 659) (by decide +kernel) (by decide +kernel)
theorem ml2_41 : Cond.methodLink RX2 41 yX1_outcomeWith ∈ tG := tG_of (i := 663) (by decide +kernel) (by decide +kernel)
theorem ml2_47 : Cond.methodLink RX2 47 yX1_isLatest ∈ tG := tG_of (i := 693) (by decide +kernel) (by decide +kernel)
theorem ml2_51 : Cond.methodLink RX2 51 yX1_blessedOn ∈ tG := tG_of (i := 694) (by decide +kernel) (by decide +kernel)
theorem ml3_25 : Cond.methodLink RX3 25 yX1_copy ∈ tG := tG_of (i := 478) (by decide +kernel) (by decide +kernel)
theorem ml4_19 : Cond.methodLink RX4 19 Lib.Math.min.name ∈ tG := tG_of (i := 610) (by decide +kernel) (by decide +kernel)
theorem ml4_31 : Cond.methodLink RX4 31 yX6_isFog ∈ tG := tG_of (i := 611) (by decide +kernel) (by decide +kernel)
theorem ml4_37 : Cond.methodLink RX4 37 yX4_choose ∈ tG := tG_of (i := 615) (by decide +kernel) (by decide +kernel)
theorem ml4_44 : Cond.methodLink RX4 44 yX4_freeOn ∈ tG := tG_of (i := 619) (by decide +kernel) (by decide +kernel)
theorem ml4_51 : Cond.methodLink RX4 51 yX4_leastFrom ∈ tG := tG_of (i := 626) (by decide +kernel) (by decide +kernel)
theorem ml4_54 : Cond.methodLink RX4 54 yX6_all ∈ tG := tG_of (i := 623) (by decide +kernel) (by decide +kernel)
theorem ml4_61 : Cond.methodLink RX4 61 Lib.Math.max.name ∈ tG := tG_of (i := 624) (by decide +kernel) (by decide +kernel)
theorem ml4_64 : Cond.methodLink RX4 64 yX4_nearestOf ∈ tG := tG_of (i := 630) (by decide +kernel) (by decide +kernel)
theorem ml4_68 : Cond.methodLink RX4 68 yX4_leastWith ∈ tG := tG_of (i := 633) (by decide +kernel) (by decide +kernel)
theorem ml5_15 : Cond.methodLink RX5 15 Lib.Math.min.name ∈ tG := tG_of (i := 330) (by decide +kernel) (by decide +kernel)
theorem ml5_31 : Cond.methodLink RX5 31 yX6_clear ∈ tG := tG_of (i := 333) (by decide +kernel) (by decide +kernel)
theorem ml5_36 : Cond.methodLink RX5 36 yX5_skipBlanks ∈ tG := tG_of (i := 340) (by decide +kernel) (by decide +kernel)
theorem ml5_39 : Cond.methodLink RX5 39 yX5_readClause ∈ tG := tG_of (i := 348) (by decide +kernel) (by decide +kernel)
theorem ml5_43 : Cond.methodLink RX5 43 yX5_letterHere ∈ tG := tG_of (i := 344) (by decide +kernel) (by decide +kernel)
theorem ml5_47 : Cond.methodLink RX5 47 yX5_isWord ∈ tG := tG_of (i := 352) (by decide +kernel) (by decide +kernel)
theorem ml5_55 : Cond.methodLink RX5 55 yX5_blame ∈ tG := tG_of (i := 355) (by decide +kernel) (by decide +kernel)
theorem ml5_59 : Cond.methodLink RX5 59 yX5_isTooMany ∈ tG := tG_of (i := 359) (by decide +kernel) (by decide +kernel)
theorem ml5_63 : Cond.methodLink RX5 63 yX5_readHermit ∈ tG := tG_of (i := 362) (by decide +kernel) (by decide +kernel)
theorem ml5_66 : Cond.methodLink RX5 66 yX5_readVillage ∈ tG := tG_of (i := 373) (by decide +kernel) (by decide +kernel)
theorem ml5_76 : Cond.methodLink RX5 76 yX5_readMarkedDay ∈ tG := tG_of (i := 377) (by decide +kernel) (by decide +kernel)
theorem ml5_86 : Cond.methodLink RX5 86 yX5_readEnd ∈ tG := tG_of (i := 387) (by decide +kernel) (by decide +kernel)
theorem ml5_92 : Cond.methodLink RX5 92 yX5_readNumber ∈ tG := tG_of (i := 366) (by decide +kernel) (by decide +kernel)
theorem ml5_117 : Cond.methodLink RX5 117 yX6_isMarked ∈ tG := tG_of (i := 381) (by decide +kernel) (by decide +kernel)
theorem ml5_124 : Cond.methodLink RX5 124 yX6_mark ∈ tG := tG_of (i := 384) (by decide +kernel) (by decide +kernel)
theorem ml5_128 : Cond.methodLink RX5 128 yX5_isFigure ∈ tG := tG_of (i := 370) (by decide +kernel) (by decide +kernel)
theorem ml6_54 : Cond.methodLink RX6 54 yJ7_fill_d0a16 ∈ tG := tG_of (i := 337) (by decide +kernel) (by decide +kernel)
theorem ml6_60 : Cond.methodLink RX6 60 Lib.Math.max.name ∈ tG := tG_of (i := 449) (by decide +kernel) (by decide +kernel)
theorem ml6_66 : Cond.methodLink RX6 66 yX6_isMarked ∈ tG := tG_of (i := 452) (by decide +kernel) (by decide +kernel)
theorem ml6_70 : Cond.methodLink RX6 70 yX6_has ∈ tG := tG_of (i := 444) (by decide +kernel) (by decide +kernel)
theorem ml6_74 : Cond.methodLink RX6 74 yX6_periodOf ∈ tG := tG_of (i := 445) (by decide +kernel) (by decide +kernel)
theorem ml8_97 : Cond.methodLink RX8 97 yX8_in ∈ tG := tG_of (i := 857) (by decide +kernel) (by decide +kernel)
theorem ml8_111 : Cond.methodLink RX8 111 yX8_here ∈ tG := tG_of (i := 866) (by decide +kernel) (by decide +kernel)
theorem ml8_119 : Cond.methodLink RX8 119 yX8_fails ∈ tG := tG_of (i := 874) (by decide +kernel) (by decide +kernel)
theorem ml8_129 : Cond.methodLink RX8 129 yX8_takeNumber ∈ tG := tG_of (i := 886) (by decide +kernel) (by decide +kernel)
theorem ml8_132 : Cond.methodLink RX8 132 yX8_into ∈ tG := tG_of (i := 882) (by decide +kernel) (by decide +kernel)
theorem ml8_145 : Cond.methodLink RX8 145 yX8_takeHermit ∈ tG := tG_of (i := 878) (by decide +kernel) (by decide +kernel)
theorem ml8_148 : Cond.methodLink RX8 148 yX8_takeVillage ∈ tG := tG_of (i := 892) (by decide +kernel) (by decide +kernel)
theorem ml8_151 : Cond.methodLink RX8 151 yX8_takeDay ∈ tG := tG_of (i := 896) (by decide +kernel) (by decide +kernel)
theorem ml8_170 : Cond.methodLink RX8 170 yX8_takeClause ∈ tG := tG_of (i := 870) (by decide +kernel) (by decide +kernel)
theorem ml8_173 : Cond.methodLink RX8 173 yX8_takeRead ∈ tG := tG_of (i := 900) (by decide +kernel) (by decide +kernel)
theorem ml8_185 : Cond.methodLink RX8 185 yX8_isVillage ∈ tG := tG_of (i := 916) (by decide +kernel) (by decide +kernel)
theorem ml8_190 : Cond.methodLink RX8 190 yX8_isFeast ∈ tG := tG_of (i := 941) (by decide +kernel) (by decide +kernel)
theorem ml8_193 : Cond.methodLink RX8 193 yX8_isFog ∈ tG := tG_of (i := 945) (by decide +kernel) (by decide +kernel)
theorem ml8_196 : Cond.methodLink RX8 196 yX8_has ∈ tG := tG_of (i := 934) (by decide +kernel) (by decide +kernel)
theorem ml8_200 : Cond.methodLink RX8 200 yX8_goesBy ∈ tG := tG_of (i := 937) (by decide +kernel) (by decide +kernel)
theorem ml8_204 : Cond.methodLink RX8 204 yX8_goers ∈ tG := tG_of (i := 930) (by decide +kernel) (by decide +kernel)
theorem ml8_210 : Cond.methodLink RX8 210 yX8_comers ∈ tG := tG_of (i := 926) (by decide +kernel) (by decide +kernel)
theorem ml8_213 : Cond.methodLink RX8 213 yX8_fromRow ∈ tG := tG_of (i := 971) (by decide +kernel) (by decide +kernel)
theorem ml8_216 : Cond.methodLink RX8 216 yX8_bits ∈ tG := tG_of (i := 975) (by decide +kernel) (by decide +kernel)
theorem ml8_219 : Cond.methodLink RX8 219 yX8_least ∈ tG := tG_of (i := 978) (by decide +kernel) (by decide +kernel)
theorem ml8_225 : Cond.methodLink RX8 225 yX8_daysRefused ∈ tG := tG_of (i := 957) (by decide +kernel) (by decide +kernel)
theorem ml8_228 : Cond.methodLink RX8 228 yX8_remember ∈ tG := tG_of (i := 963) (by decide +kernel) (by decide +kernel)
theorem ml8_231 : Cond.methodLink RX8 231 yX8_pass ∈ tG := tG_of (i := 967) (by decide +kernel) (by decide +kernel)
theorem ml8_247 : Cond.methodLink RX8 247 yX8_draw ∈ tG := tG_of (i := 991) (by decide +kernel) (by decide +kernel)
theorem ml8_250 : Cond.methodLink RX8 250 yX8_save ∈ tG := tG_of (i := 1007) (by decide +kernel) (by decide +kernel)
theorem ml8_253 : Cond.methodLink RX8 253 yX8_putBack ∈ tG := tG_of (i := 1011) (by decide +kernel) (by decide +kernel)
theorem ml8_258 : Cond.methodLink RX8 258 yX8_common ∈ tG := tG_of (i := 1040) (by decide +kernel) (by decide +kernel)
theorem ml8_261 : Cond.methodLink RX8 261 yX8_next ∈ tG := tG_of (i := 1028) (by decide +kernel) (by decide +kernel)
theorem ml8_264 : Cond.methodLink RX8 264 yX8_before ∈ tG := tG_of (i := 1032) (by decide +kernel) (by decide +kernel)
theorem ml8_267 : Cond.methodLink RX8 267 yX8_isFree ∈ tG := tG_of (i := 1036) (by decide +kernel) (by decide +kernel)
theorem ml8_270 : Cond.methodLink RX8 270 yX8_findCertain ∈ tG := tG_of (i := 1024) (by decide +kernel) (by decide +kernel)
theorem ml8_278 : Cond.methodLink RX8 278 yX8_mayGo ∈ tG := tG_of (i := 1071) (by decide +kernel) (by decide +kernel)
theorem ml8_281 : Cond.methodLink RX8 281 yX8_findLow ∈ tG := tG_of (i := 1066) (by decide +kernel) (by decide +kernel)
theorem ml8_287 : Cond.methodLink RX8 287 yX8_wasChosen ∈ tG := tG_of (i := 1075) (by decide +kernel) (by decide +kernel)
theorem ml8_290 : Cond.methodLink RX8 290 yX8_spent ∈ tG := tG_of (i := 1079) (by decide +kernel) (by decide +kernel)
theorem ml8_293 : Cond.methodLink RX8 293 yX8_latest ∈ tG := tG_of (i := 1083) (by decide +kernel) (by decide +kernel)
theorem ml8_298 : Cond.methodLink RX8 298 yX8_findFeet ∈ tG := tG_of (i := 1062) (by decide +kernel) (by decide +kernel)
theorem ml8_303 : Cond.methodLink RX8 303 yX8_howBy ∈ tG := tG_of (i := 1104) (by decide +kernel) (by decide +kernel)
theorem ml8_307 : Cond.methodLink RX8 307 yX8_offsetsOf ∈ tG := tG_of (i := 1100) (by decide +kernel) (by decide +kernel)
theorem ml8_310 : Cond.methodLink RX8 310 yX8_blessed ∈ tG := tG_of (i := 1120) (by decide +kernel) (by decide +kernel)
theorem ms6_bitCount_0f7a4 : MS yJ6_bitCount_0f7a4 cJ6_bitCount_0f7a4 1 (some .int) 1 := ⟨⟨tG_of (i := 508) (by decide +kernel) (by decide +kernel), tG_of (i := 13) (by decide +kernel) (by decide +kernel), by decide +kernel, by decide +kernel, by decide +kernel⟩, tG_of (i := 507) (by decide +kernel) (by decide +kernel)⟩
theorem ms7_fill_53178 : MS yJ7_fill_53178 cJ7_fill_53178 4 none 2 := ⟨⟨tG_of (i := 133) (by decide +kernel) (by decide +kernel), tG_of (i := 5) (by decide +kernel) (by decide +kernel), by decide +kernel, by decide +kernel, by decide +kernel⟩, tG_of (i := 132) (by decide +kernel) (by decide +kernel)⟩
theorem ms7_fill_d0a16 : MS yJ7_fill_d0a16 cJ7_fill_d0a16 5 none 2 := ⟨⟨tG_of (i := 339) (by decide +kernel) (by decide +kernel), tG_of (i := 5) (by decide +kernel) (by decide +kernel), by decide +kernel, by decide +kernel, by decide +kernel⟩, tG_of (i := 338) (by decide +kernel) (by decide +kernel)⟩
theorem ms0_canPassEachOther : MS yX0_canPassEachOther cX0_canPassEachOther 5 (some .boolean) 2 := ⟨⟨tG_of (i := 570) (by decide +kernel) (by decide +kernel), tG_of (i := 8) (by decide +kernel) (by decide +kernel), by decide +kernel, by decide +kernel, by decide +kernel⟩, tG_of (i := 569) (by decide +kernel) (by decide +kernel)⟩
theorem ms0_comesOften : MS yX0_comesOften cX0_comesOften 4 (some .boolean) 2 := ⟨⟨tG_of (i := 566) (by decide +kernel) (by decide +kernel), tG_of (i := 8) (by decide +kernel) (by decide +kernel), by decide +kernel, by decide +kernel, by decide +kernel⟩, tG_of (i := 565) (by decide +kernel) (by decide +kernel)⟩
theorem ms0_commonDivisor : MS yX0_commonDivisor cX0_commonDivisor 3 (some .int) 2 := ⟨⟨tG_of (i := 573) (by decide +kernel) (by decide +kernel), tG_of (i := 8) (by decide +kernel) (by decide +kernel), by decide +kernel, by decide +kernel, by decide +kernel⟩, tG_of (i := 572) (by decide +kernel) (by decide +kernel)⟩
theorem mv0_find : MV yX0_find cX0_find 3 (some .boolean) 2 0 := ⟨⟨tG_of (i := 563) (by decide +kernel) (by decide +kernel), tG_of (i := 8) (by decide +kernel) (by decide +kernel), by decide +kernel, by decide +kernel, by decide +kernel⟩, tG_of (i := 561) (by decide +kernel) (by decide +kernel), tG_of (i := 562) (by decide +kernel) (by decide +kernel), TX0, _, rfl⟩
theorem ms0_meetsOneBefore : MS yX0_meetsOneBefore cX0_meetsOneBefore 7 (some .boolean) 5 := ⟨⟨tG_of (i := 580) (by decide +kernel) (by decide +kernel), tG_of (i := 8) (by decide +kernel) (by decide +kernel), by decide +kernel, by decide +kernel, by decide +kernel⟩, tG_of (i := 579) (by decide +kernel) (by decide +kernel)⟩
theorem ms0_place : MS yX0_place cX0_place 5 (some .boolean) 4 := ⟨⟨tG_of (i := 577) (by decide +kernel) (by decide +kernel), tG_of (i := 8) (by decide +kernel) (by decide +kernel), by decide +kernel, by decide +kernel, by decide +kernel⟩, tG_of (i := 576) (by decide +kernel) (by decide +kernel)⟩
theorem mv1_begin : MV yX1_begin cX1_begin 2 none 1 1 := ⟨⟨tG_of (i := 394) (by decide +kernel) (by decide +kernel), tG_of (i := 4) (by decide +kernel) (by decide +kernel), by decide +kernel, by decide +kernel, by decide +kernel⟩, tG_of (i := 392) (by decide +kernel) (by decide +kernel), tG_of (i := 393) (by decide +kernel) (by decide +kernel), TX1, _, rfl⟩
theorem mv1_blessedOn : MV yX1_blessedOn cX1_blessedOn 3 (some .int) 1 1 := ⟨⟨tG_of (i := 460) (by decide +kernel) (by decide +kernel), tG_of (i := 4) (by decide +kernel) (by decide +kernel), by decide +kernel, by decide +kernel, by decide +kernel⟩, tG_of (i := 458) (by decide +kernel) (by decide +kernel), tG_of (i := 459) (by decide +kernel) (by decide +kernel), TX1, _, rfl⟩
theorem mv1_close : MV yX1_close cX1_close 4 none 2 1 := ⟨⟨tG_of (i := 502) (by decide +kernel) (by decide +kernel), tG_of (i := 4) (by decide +kernel) (by decide +kernel), by decide +kernel, by decide +kernel, by decide +kernel⟩, tG_of (i := 501) (by decide +kernel) (by decide +kernel), tG_sel (i := 11) (by decide +kernel) (by decide +kernel), TX1, _, rfl⟩
theorem mv1_comers : MV yX1_comers cX1_comers 6 (some .int) 2 1 := ⟨⟨tG_of (i := 434) (by decide +kernel) (by decide +kernel), tG_of (i := 4) (by decide +kernel) (by decide +kernel), by decide +kernel, by decide +kernel, by decide +kernel⟩, tG_of (i := 432) (by decide +kernel) (by decide +kernel), tG_of (i := 433) (by decide +kernel) (by decide +kernel), TX1, _, rfl⟩
theorem mv1_comersByCalendar : MV yX1_comersByCalendar cX1_comersByCalendar 5 (some .int) 2 1 := ⟨⟨tG_of (i := 438) (by decide +kernel) (by decide +kernel), tG_of (i := 4) (by decide +kernel) (by decide +kernel), by decide +kernel, by decide +kernel, by decide +kernel⟩, tG_of (i := 436) (by decide +kernel) (by decide +kernel), tG_of (i := 437) (by decide +kernel) (by decide +kernel), TX1, _, rfl⟩
theorem mv1_copy : MV yX1_copy cX1_copy 2 none 1 1 := ⟨⟨tG_of (i := 481) (by decide +kernel) (by decide +kernel), tG_of (i := 4) (by decide +kernel) (by decide +kernel), by decide +kernel, by decide +kernel, by decide +kernel⟩, tG_of (i := 479) (by decide +kernel) (by decide +kernel), tG_of (i := 480) (by decide +kernel) (by decide +kernel), TX1, _, rfl⟩
theorem mv1_firstThroughInn : MV yX1_firstThroughInn cX1_firstThroughInn 5 (some .int) 2 1 := ⟨⟨tG_of (i := 498) (by decide +kernel) (by decide +kernel), tG_of (i := 4) (by decide +kernel) (by decide +kernel), by decide +kernel, by decide +kernel, by decide +kernel⟩, tG_of (i := 497) (by decide +kernel) (by decide +kernel), tG_sel (i := 10) (by decide +kernel) (by decide +kernel), TX1, _, rfl⟩
theorem mv1_goOnFrom : MV yX1_goOnFrom cX1_goOnFrom 2 none 1 1 := ⟨⟨tG_of (i := 485) (by decide +kernel) (by decide +kernel), tG_of (i := 4) (by decide +kernel) (by decide +kernel), by decide +kernel, by decide +kernel, by decide +kernel⟩, tG_of (i := 483) (by decide +kernel) (by decide +kernel), tG_of (i := 484) (by decide +kernel) (by decide +kernel), TX1, _, rfl⟩
theorem mv1_isLatest : MV yX1_isLatest cX1_isLatest 2 (some .boolean) 1 1 := ⟨⟨tG_of (i := 464) (by decide +kernel) (by decide +kernel), tG_of (i := 4) (by decide +kernel) (by decide +kernel), by decide +kernel, by decide +kernel, by decide +kernel⟩, tG_of (i := 462) (by decide +kernel) (by decide +kernel), tG_of (i := 463) (by decide +kernel) (by decide +kernel), TX1, _, rfl⟩
theorem mv1_live : MV yX1_live cX1_live 5 none 2 1 := ⟨⟨tG_of (i := 489) (by decide +kernel) (by decide +kernel), tG_of (i := 4) (by decide +kernel) (by decide +kernel), by decide +kernel, by decide +kernel, by decide +kernel⟩, tG_of (i := 487) (by decide +kernel) (by decide +kernel), tG_of (i := 488) (by decide +kernel) (by decide +kernel), TX1, _, rfl⟩
theorem mv1_outcomeWith : MV yX1_outcomeWith cX1_outcomeWith 6 (some .int) 4 1 := ⟨⟨tG_of (i := 666) (by decide +kernel) (by decide +kernel), tG_of (i := 4) (by decide +kernel) (by decide +kernel), by decide +kernel, by decide +kernel, by decide +kernel⟩, tG_of (i := 664) (by decide +kernel) (by decide +kernel), tG_of (i := 665) (by decide +kernel) (by decide +kernel), TX1, _, rfl⟩
theorem mv1_staysAway : MV yX1_staysAway cX1_staysAway 2 (some .boolean) 1 1 := ⟨⟨tG_of (i := 426) (by decide +kernel) (by decide +kernel), tG_of (i := 4) (by decide +kernel) (by decide +kernel), by decide +kernel, by decide +kernel, by decide +kernel⟩, tG_of (i := 424) (by decide +kernel) (by decide +kernel), tG_of (i := 425) (by decide +kernel) (by decide +kernel), TX1, _, rfl⟩
theorem mv2_addEntry : MV yX2_addEntry cX2_addEntry 3 (some .boolean) 2 2 := ⟨⟨tG_of (i := 680) (by decide +kernel) (by decide +kernel), tG_of (i := 7) (by decide +kernel) (by decide +kernel), by decide +kernel, by decide +kernel, by decide +kernel⟩, tG_of (i := 678) (by decide +kernel) (by decide +kernel), tG_of (i := 679) (by decide +kernel) (by decide +kernel), TX2, _, rfl⟩
theorem mv2_addSeen : MV yX2_addSeen cX2_addSeen 3 (some .boolean) 2 2 := ⟨⟨tG_of (i := 649) (by decide +kernel) (by decide +kernel), tG_of (i := 7) (by decide +kernel) (by decide +kernel), by decide +kernel, by decide +kernel, by decide +kernel⟩, tG_of (i := 647) (by decide +kernel) (by decide +kernel), tG_of (i := 648) (by decide +kernel) (by decide +kernel), TX2, _, rfl⟩
theorem mv2_clear : MV yX2_clear cX2_clear 1 none 0 2 := ⟨⟨tG_of (i := 401) (by decide +kernel) (by decide +kernel), tG_of (i := 7) (by decide +kernel) (by decide +kernel), by decide +kernel, by decide +kernel, by decide +kernel⟩, tG_of (i := 399) (by decide +kernel) (by decide +kernel), tG_of (i := 400) (by decide +kernel) (by decide +kernel), TX2, _, rfl⟩
theorem mv2_firstWrong : MV yX2_firstWrong cX2_firstWrong 4 (some .int) 1 2 := ⟨⟨tG_of (i := 692) (by decide +kernel) (by decide +kernel), tG_of (i := 7) (by decide +kernel) (by decide +kernel), by decide +kernel, by decide +kernel, by decide +kernel⟩, tG_of (i := 690) (by decide +kernel) (by decide +kernel), tG_of (i := 691) (by decide +kernel) (by decide +kernel), TX2, _, rfl⟩
theorem mv2_fits : MV yX2_fits cX2_fits 6 (some .boolean) 4 2 := ⟨⟨tG_of (i := 662) (by decide +kernel) (by decide +kernel), tG_of (i := 7) (by decide +kernel) (by decide +kernel), by decide +kernel, by decide +kernel, by decide +kernel⟩, tG_of (i := 661) (by decide +kernel) (by decide +kernel), tG_sel (i := 20) (by decide +kernel) (by decide +kernel), TX2, _, rfl⟩
theorem mv2_fitting : MV yX2_fitting cX2_fitting 6 (some .int) 3 2 := ⟨⟨tG_of (i := 657) (by decide +kernel) (by decide +kernel), tG_of (i := 7) (by decide +kernel) (by decide +kernel), by decide +kernel, by decide +kernel, by decide +kernel⟩, tG_of (i := 655) (by decide +kernel) (by decide +kernel), tG_of (i := 656) (by decide +kernel) (by decide +kernel), TX2, _, rfl⟩
theorem mv3_clear : MV yX3_clear cX3_clear 1 none 0 3 := ⟨⟨tG_of (i := 405) (by decide +kernel) (by decide +kernel), tG_of (i := 6) (by decide +kernel) (by decide +kernel), by decide +kernel, by decide +kernel, by decide +kernel⟩, tG_of (i := 403) (by decide +kernel) (by decide +kernel), tG_of (i := 404) (by decide +kernel) (by decide +kernel), TX3, _, rfl⟩
theorem mv3_pop : MV yX3_pop cX3_pop 4 none 1 3 := ⟨⟨tG_of (i := 542) (by decide +kernel) (by decide +kernel), tG_of (i := 6) (by decide +kernel) (by decide +kernel), by decide +kernel, by decide +kernel, by decide +kernel⟩, tG_of (i := 540) (by decide +kernel) (by decide +kernel), tG_of (i := 541) (by decide +kernel) (by decide +kernel), TX3, _, rfl⟩
theorem mv3_push : MV yX3_push cX3_push 3 none 1 3 := ⟨⟨tG_of (i := 477) (by decide +kernel) (by decide +kernel), tG_of (i := 6) (by decide +kernel) (by decide +kernel), by decide +kernel, by decide +kernel, by decide +kernel⟩, tG_of (i := 475) (by decide +kernel) (by decide +kernel), tG_of (i := 476) (by decide +kernel) (by decide +kernel), TX3, _, rfl⟩
theorem mv4_choose : MV yX4_choose cX4_choose 8 (some .int) 2 4 := ⟨⟨tG_of (i := 618) (by decide +kernel) (by decide +kernel), tG_of (i := 9) (by decide +kernel) (by decide +kernel), by decide +kernel, by decide +kernel, by decide +kernel⟩, tG_of (i := 617) (by decide +kernel) (by decide +kernel), tG_sel (i := 16) (by decide +kernel) (by decide +kernel), TX4, _, rfl⟩
theorem mv4_freeOn : MV yX4_freeOn cX4_freeOn 6 (some .int) 2 4 := ⟨⟨tG_of (i := 622) (by decide +kernel) (by decide +kernel), tG_of (i := 9) (by decide +kernel) (by decide +kernel), by decide +kernel, by decide +kernel, by decide +kernel⟩, tG_of (i := 621) (by decide +kernel) (by decide +kernel), tG_sel (i := 17) (by decide +kernel) (by decide +kernel), TX4, _, rfl⟩
theorem mv4_leastFrom : MV yX4_leastFrom cX4_leastFrom 7 (some .int) 2 4 := ⟨⟨tG_of (i := 629) (by decide +kernel) (by decide +kernel), tG_of (i := 9) (by decide +kernel) (by decide +kernel), by decide +kernel, by decide +kernel, by decide +kernel⟩, tG_of (i := 628) (by decide +kernel) (by decide +kernel), tG_sel (i := 18) (by decide +kernel) (by decide +kernel), TX4, _, rfl⟩
theorem mv4_leastWith : MV yX4_leastWith cX4_leastWith 4 (some .int) 3 4 := ⟨⟨tG_of (i := 636) (by decide +kernel) (by decide +kernel), tG_of (i := 9) (by decide +kernel) (by decide +kernel), by decide +kernel, by decide +kernel, by decide +kernel⟩, tG_of (i := 635) (by decide +kernel) (by decide +kernel), tG_sel (i := 19) (by decide +kernel) (by decide +kernel), TX4, _, rfl⟩
theorem mv4_make : MV yX4_make cX4_make 7 (some .int) 3 4 := ⟨⟨tG_of (i := 609) (by decide +kernel) (by decide +kernel), tG_of (i := 9) (by decide +kernel) (by decide +kernel), by decide +kernel, by decide +kernel, by decide +kernel⟩, tG_of (i := 607) (by decide +kernel) (by decide +kernel), tG_of (i := 608) (by decide +kernel) (by decide +kernel), TX4, _, rfl⟩
theorem ms4_nearestOf : MS yX4_nearestOf cX4_nearestOf 5 (some .int) 3 := ⟨⟨tG_of (i := 632) (by decide +kernel) (by decide +kernel), tG_of (i := 9) (by decide +kernel) (by decide +kernel), by decide +kernel, by decide +kernel, by decide +kernel⟩, tG_of (i := 631) (by decide +kernel) (by decide +kernel)⟩
theorem mv5_blame : MV yX5_blame cX5_blame 3 none 2 5 := ⟨⟨tG_of (i := 358) (by decide +kernel) (by decide +kernel), tG_of (i := 2) (by decide +kernel) (by decide +kernel), by decide +kernel, by decide +kernel, by decide +kernel⟩, tG_of (i := 357) (by decide +kernel) (by decide +kernel), tG_sel (i := 3) (by decide +kernel) (by decide +kernel), TX5, _, rfl⟩
theorem ms5_isFigure : MS yX5_isFigure cX5_isFigure 1 (some .boolean) 1 := ⟨⟨tG_of (i := 372) (by decide +kernel) (by decide +kernel), tG_of (i := 2) (by decide +kernel) (by decide +kernel), by decide +kernel, by decide +kernel, by decide +kernel⟩, tG_of (i := 371) (by decide +kernel) (by decide +kernel)⟩
theorem ms5_isTooMany : MS yX5_isTooMany cX5_isTooMany 2 (some .boolean) 2 := ⟨⟨tG_of (i := 361) (by decide +kernel) (by decide +kernel), tG_of (i := 2) (by decide +kernel) (by decide +kernel), by decide +kernel, by decide +kernel, by decide +kernel⟩, tG_of (i := 360) (by decide +kernel) (by decide +kernel)⟩
theorem ms5_isWord : MS yX5_isWord cX5_isWord 1 (some .boolean) 1 := ⟨⟨tG_of (i := 354) (by decide +kernel) (by decide +kernel), tG_of (i := 2) (by decide +kernel) (by decide +kernel), by decide +kernel, by decide +kernel, by decide +kernel⟩, tG_of (i := 353) (by decide +kernel) (by decide +kernel)⟩
theorem mv5_letterHere : MV yX5_letterHere cX5_letterHere 1 (some .char) 0 5 := ⟨⟨tG_of (i := 347) (by decide +kernel) (by decide +kernel), tG_of (i := 2) (by decide +kernel) (by decide +kernel), by decide +kernel, by decide +kernel, by decide +kernel⟩, tG_of (i := 346) (by decide +kernel) (by decide +kernel), tG_sel (i := 1) (by decide +kernel) (by decide +kernel), TX5, _, rfl⟩
theorem mv5_read : MV yX5_read cX5_read 5 (some .int) 3 5 := ⟨⟨tG_of (i := 329) (by decide +kernel) (by decide +kernel), tG_of (i := 2) (by decide +kernel) (by decide +kernel), by decide +kernel, by decide +kernel, by decide +kernel⟩, tG_of (i := 327) (by decide +kernel) (by decide +kernel), tG_of (i := 328) (by decide +kernel) (by decide +kernel), TX5, _, rfl⟩
theorem mv5_readClause : MV yX5_readClause cX5_readClause 3 none 1 5 := ⟨⟨tG_of (i := 351) (by decide +kernel) (by decide +kernel), tG_of (i := 2) (by decide +kernel) (by decide +kernel), by decide +kernel, by decide +kernel, by decide +kernel⟩, tG_of (i := 350) (by decide +kernel) (by decide +kernel), tG_sel (i := 2) (by decide +kernel) (by decide +kernel), TX5, _, rfl⟩
theorem mv5_readEnd : MV yX5_readEnd cX5_readEnd 1 none 0 5 := ⟨⟨tG_of (i := 390) (by decide +kernel) (by decide +kernel), tG_of (i := 2) (by decide +kernel) (by decide +kernel), by decide +kernel, by decide +kernel, by decide +kernel⟩, tG_of (i := 389) (by decide +kernel) (by decide +kernel), tG_sel (i := 8) (by decide +kernel) (by decide +kernel), TX5, _, rfl⟩
theorem mv5_readHermit : MV yX5_readHermit cX5_readHermit 2 none 1 5 := ⟨⟨tG_of (i := 365) (by decide +kernel) (by decide +kernel), tG_of (i := 2) (by decide +kernel) (by decide +kernel), by decide +kernel, by decide +kernel, by decide +kernel⟩, tG_of (i := 364) (by decide +kernel) (by decide +kernel), tG_sel (i := 4) (by decide +kernel) (by decide +kernel), TX5, _, rfl⟩
theorem mv5_readMarkedDay : MV yX5_readMarkedDay cX5_readMarkedDay 3 (some .int) 1 5 := ⟨⟨tG_of (i := 380) (by decide +kernel) (by decide +kernel), tG_of (i := 2) (by decide +kernel) (by decide +kernel), by decide +kernel, by decide +kernel, by decide +kernel⟩, tG_of (i := 379) (by decide +kernel) (by decide +kernel), tG_sel (i := 7) (by decide +kernel) (by decide +kernel), TX5, _, rfl⟩
theorem mv5_readNumber : MV yX5_readNumber cX5_readNumber 5 (some .int) 2 5 := ⟨⟨tG_of (i := 369) (by decide +kernel) (by decide +kernel), tG_of (i := 2) (by decide +kernel) (by decide +kernel), by decide +kernel, by decide +kernel, by decide +kernel⟩, tG_of (i := 368) (by decide +kernel) (by decide +kernel), tG_sel (i := 5) (by decide +kernel) (by decide +kernel), TX5, _, rfl⟩
theorem mv5_readVillage : MV yX5_readVillage cX5_readVillage 3 none 1 5 := ⟨⟨tG_of (i := 376) (by decide +kernel) (by decide +kernel), tG_of (i := 2) (by decide +kernel) (by decide +kernel), by decide +kernel, by decide +kernel, by decide +kernel⟩, tG_of (i := 375) (by decide +kernel) (by decide +kernel), tG_sel (i := 6) (by decide +kernel) (by decide +kernel), TX5, _, rfl⟩
theorem mv5_skipBlanks : MV yX5_skipBlanks cX5_skipBlanks 2 none 0 5 := ⟨⟨tG_of (i := 343) (by decide +kernel) (by decide +kernel), tG_of (i := 2) (by decide +kernel) (by decide +kernel), by decide +kernel, by decide +kernel, by decide +kernel⟩, tG_of (i := 342) (by decide +kernel) (by decide +kernel), tG_sel (i := 0) (by decide +kernel) (by decide +kernel), TX5, _, rfl⟩
theorem mv6_all : MV yX6_all cX6_all 1 (some .int) 0 6 := ⟨⟨tG_of (i := 559) (by decide +kernel) (by decide +kernel), tG_of (i := 3) (by decide +kernel) (by decide +kernel), by decide +kernel, by decide +kernel, by decide +kernel⟩, tG_of (i := 557) (by decide +kernel) (by decide +kernel), tG_of (i := 558) (by decide +kernel) (by decide +kernel), TX6, _, rfl⟩
theorem mv6_brings : MV yX6_brings cX6_brings 4 (some .boolean) 3 6 := ⟨⟨tG_of (i := 443) (by decide +kernel) (by decide +kernel), tG_of (i := 3) (by decide +kernel) (by decide +kernel), by decide +kernel, by decide +kernel, by decide +kernel⟩, tG_of (i := 441) (by decide +kernel) (by decide +kernel), tG_of (i := 442) (by decide +kernel) (by decide +kernel), TX6, _, rfl⟩
theorem mv6_clear : MV yX6_clear cX6_clear 1 none 0 6 := ⟨⟨tG_of (i := 336) (by decide +kernel) (by decide +kernel), tG_of (i := 3) (by decide +kernel) (by decide +kernel), by decide +kernel, by decide +kernel, by decide +kernel⟩, tG_of (i := 334) (by decide +kernel) (by decide +kernel), tG_of (i := 335) (by decide +kernel) (by decide +kernel), TX6, _, rfl⟩
theorem mv6_feetOf : MV yX6_feetOf cX6_feetOf 4 (some .int) 1 6 := ⟨⟨tG_of (i := 494) (by decide +kernel) (by decide +kernel), tG_of (i := 3) (by decide +kernel) (by decide +kernel), by decide +kernel, by decide +kernel, by decide +kernel⟩, tG_of (i := 492) (by decide +kernel) (by decide +kernel), tG_of (i := 493) (by decide +kernel) (by decide +kernel), TX6, _, rfl⟩
theorem mv6_has : MV yX6_has cX6_has 2 (some .boolean) 1 6 := ⟨⟨tG_of (i := 421) (by decide +kernel) (by decide +kernel), tG_of (i := 3) (by decide +kernel) (by decide +kernel), by decide +kernel, by decide +kernel, by decide +kernel⟩, tG_of (i := 419) (by decide +kernel) (by decide +kernel), tG_of (i := 420) (by decide +kernel) (by decide +kernel), TX6, _, rfl⟩
theorem mv6_isFog : MV yX6_isFog cX6_isFog 2 (some .boolean) 1 6 := ⟨⟨tG_of (i := 614) (by decide +kernel) (by decide +kernel), tG_of (i := 3) (by decide +kernel) (by decide +kernel), by decide +kernel, by decide +kernel, by decide +kernel⟩, tG_of (i := 612) (by decide +kernel) (by decide +kernel), tG_of (i := 613) (by decide +kernel) (by decide +kernel), TX6, _, rfl⟩
theorem ms6_isMarked : MS yX6_isMarked cX6_isMarked 3 (some .boolean) 2 := ⟨⟨tG_of (i := 383) (by decide +kernel) (by decide +kernel), tG_of (i := 3) (by decide +kernel) (by decide +kernel), by decide +kernel, by decide +kernel, by decide +kernel⟩, tG_of (i := 382) (by decide +kernel) (by decide +kernel)⟩
theorem ms6_mark : MS yX6_mark cX6_mark 3 none 2 := ⟨⟨tG_of (i := 386) (by decide +kernel) (by decide +kernel), tG_of (i := 3) (by decide +kernel) (by decide +kernel), by decide +kernel, by decide +kernel, by decide +kernel⟩, tG_of (i := 385) (by decide +kernel) (by decide +kernel)⟩
theorem mv6_periodOf : MV yX6_periodOf cX6_periodOf 2 (some .int) 1 6 := ⟨⟨tG_of (i := 448) (by decide +kernel) (by decide +kernel), tG_of (i := 3) (by decide +kernel) (by decide +kernel), by decide +kernel, by decide +kernel, by decide +kernel⟩, tG_of (i := 446) (by decide +kernel) (by decide +kernel), tG_of (i := 447) (by decide +kernel) (by decide +kernel), TX6, _, rfl⟩
theorem mv7_dayToLookAt : MV yX7_dayToLookAt cX7_dayToLookAt 6 (some .int) 2 7 := ⟨⟨tG_of (i := 670) (by decide +kernel) (by decide +kernel), tG_of (i := 1) (by decide +kernel) (by decide +kernel), by decide +kernel, by decide +kernel, by decide +kernel⟩, tG_of (i := 669) (by decide +kernel) (by decide +kernel), tG_sel (i := 21) (by decide +kernel) (by decide +kernel), TX7, _, rfl⟩
theorem mv7_draw : MV yX7_draw cX7_draw 2 (some .int) 1 7 := ⟨⟨tG_of (i := 530) (by decide +kernel) (by decide +kernel), tG_of (i := 1) (by decide +kernel) (by decide +kernel), by decide +kernel, by decide +kernel, by decide +kernel⟩, tG_of (i := 529) (by decide +kernel) (by decide +kernel), tG_sel (i := 13) (by decide +kernel) (by decide +kernel), TX7, _, rfl⟩
theorem ms7_firstOf : MS yX7_firstOf cX7_firstOf 2 (some .int) 1 := ⟨⟨tG_of (i := 514) (by decide +kernel) (by decide +kernel), tG_of (i := 1) (by decide +kernel) (by decide +kernel), by decide +kernel, by decide +kernel, by decide +kernel⟩, tG_of (i := 513) (by decide +kernel) (by decide +kernel)⟩
theorem mv7_isLargeEnough : MV yX7_isLargeEnough cX7_isLargeEnough 4 (some .boolean) 2 7 := ⟨⟨tG_of (i := 601) (by decide +kernel) (by decide +kernel), tG_of (i := 1) (by decide +kernel) (by decide +kernel), by decide +kernel, by decide +kernel, by decide +kernel⟩, tG_of (i := 600) (by decide +kernel) (by decide +kernel), tG_sel (i := 15) (by decide +kernel) (by decide +kernel), TX7, _, rfl⟩
theorem mv7_isPeaceful : MV yX7_isPeaceful cX7_isPeaceful 4 (some .boolean) 2 7 := ⟨⟨tG_of (i := 588) (by decide +kernel) (by decide +kernel), tG_of (i := 1) (by decide +kernel) (by decide +kernel), by decide +kernel, by decide +kernel, by decide +kernel⟩, tG_of (i := 587) (by decide +kernel) (by decide +kernel), tG_sel (i := 14) (by decide +kernel) (by decide +kernel), TX7, _, rfl⟩
theorem ms7_outcomeOf : MS yX7_outcomeOf cX7_outcomeOf 2 (some .int) 1 := ⟨⟨tG_of (i := 505) (by decide +kernel) (by decide +kernel), tG_of (i := 1) (by decide +kernel) (by decide +kernel), by decide +kernel, by decide +kernel, by decide +kernel⟩, tG_of (i := 504) (by decide +kernel) (by decide +kernel)⟩
theorem mv7_refusalOfDays : MV yX7_refusalOfDays cX7_refusalOfDays 2 (some .int) 1 7 := ⟨⟨tG_of (i := 472) (by decide +kernel) (by decide +kernel), tG_of (i := 1) (by decide +kernel) (by decide +kernel), by decide +kernel, by decide +kernel, by decide +kernel⟩, tG_of (i := 471) (by decide +kernel) (by decide +kernel), tG_sel (i := 9) (by decide +kernel) (by decide +kernel), TX7, _, rfl⟩
theorem mv7_shiftByDraws : MV yX7_shiftByDraws cX7_shiftByDraws 2 none 0 7 := ⟨⟨tG_of (i := 526) (by decide +kernel) (by decide +kernel), tG_of (i := 1) (by decide +kernel) (by decide +kernel), by decide +kernel, by decide +kernel, by decide +kernel⟩, tG_of (i := 525) (by decide +kernel) (by decide +kernel), tG_sel (i := 12) (by decide +kernel) (by decide +kernel), TX7, _, rfl⟩
theorem mv8_before : MV yX8_before cX8_before 4 (some .int) 2 8 := ⟨⟨tG_of (i := 1035) (by decide +kernel) (by decide +kernel), tG_of (i := 10) (by decide +kernel) (by decide +kernel), by decide +kernel, by decide +kernel, by decide +kernel⟩, tG_of (i := 1034) (by decide +kernel) (by decide +kernel), tG_sel (i := 47) (by decide +kernel) (by decide +kernel), TX8, _, rfl⟩
theorem ms8_bits : MS yX8_bits cX8_bits 3 (some .int) 1 := ⟨⟨tG_of (i := 977) (by decide +kernel) (by decide +kernel), tG_of (i := 10) (by decide +kernel) (by decide +kernel), by decide +kernel, by decide +kernel, by decide +kernel⟩, tG_of (i := 976) (by decide +kernel) (by decide +kernel)⟩
theorem mv8_blessed : MV yX8_blessed cX8_blessed 2 (some .int) 1 8 := ⟨⟨tG_of (i := 952) (by decide +kernel) (by decide +kernel), tG_of (i := 10) (by decide +kernel) (by decide +kernel), by decide +kernel, by decide +kernel, by decide +kernel⟩, tG_of (i := 950) (by decide +kernel) (by decide +kernel), tG_of (i := 951) (by decide +kernel) (by decide +kernel), TX8, _, rfl⟩
theorem mv8_comers : MV yX8_comers cX8_comers 5 (some .int) 1 8 := ⟨⟨tG_of (i := 929) (by decide +kernel) (by decide +kernel), tG_of (i := 10) (by decide +kernel) (by decide +kernel), by decide +kernel, by decide +kernel, by decide +kernel⟩, tG_of (i := 928) (by decide +kernel) (by decide +kernel), tG_sel (i := 32) (by decide +kernel) (by decide +kernel), TX8, _, rfl⟩
theorem ms8_common : MS yX8_common cX8_common 5 (some .int) 2 := ⟨⟨tG_of (i := 1042) (by decide +kernel) (by decide +kernel), tG_of (i := 10) (by decide +kernel) (by decide +kernel), by decide +kernel, by decide +kernel, by decide +kernel⟩, tG_of (i := 1041) (by decide +kernel) (by decide +kernel)⟩
theorem mv8_daysRefused : MV yX8_daysRefused cX8_daysRefused 2 (some .int) 1 8 := ⟨⟨tG_of (i := 960) (by decide +kernel) (by decide +kernel), tG_of (i := 10) (by decide +kernel) (by decide +kernel), by decide +kernel, by decide +kernel, by decide +kernel⟩, tG_of (i := 959) (by decide +kernel) (by decide +kernel), tG_sel (i := 37) (by decide +kernel) (by decide +kernel), TX8, _, rfl⟩
theorem mv8_draw : MV yX8_draw cX8_draw 2 (some .int) 1 8 := ⟨⟨tG_of (i := 994) (by decide +kernel) (by decide +kernel), tG_of (i := 10) (by decide +kernel) (by decide +kernel), by decide +kernel, by decide +kernel, by decide +kernel⟩, tG_of (i := 993) (by decide +kernel) (by decide +kernel), tG_sel (i := 42) (by decide +kernel) (by decide +kernel), TX8, _, rfl⟩
theorem mv8_fails : MV yX8_fails cX8_fails 3 (some .int) 2 8 := ⟨⟨tG_of (i := 877) (by decide +kernel) (by decide +kernel), tG_of (i := 10) (by decide +kernel) (by decide +kernel), by decide +kernel, by decide +kernel, by decide +kernel⟩, tG_of (i := 876) (by decide +kernel) (by decide +kernel), tG_sel (i := 24) (by decide +kernel) (by decide +kernel), TX8, _, rfl⟩
theorem mv8_findCertain : MV yX8_findCertain cX8_findCertain 4 (some .boolean) 1 8 := ⟨⟨tG_of (i := 1027) (by decide +kernel) (by decide +kernel), tG_of (i := 10) (by decide +kernel) (by decide +kernel), by decide +kernel, by decide +kernel, by decide +kernel⟩, tG_of (i := 1026) (by decide +kernel) (by decide +kernel), tG_sel (i := 45) (by decide +kernel) (by decide +kernel), TX8, _, rfl⟩
theorem mv8_findFeet : MV yX8_findFeet cX8_findFeet 5 none 1 8 := ⟨⟨tG_of (i := 1065) (by decide +kernel) (by decide +kernel), tG_of (i := 10) (by decide +kernel) (by decide +kernel), by decide +kernel, by decide +kernel, by decide +kernel⟩, tG_of (i := 1064) (by decide +kernel) (by decide +kernel), tG_sel (i := 49) (by decide +kernel) (by decide +kernel), TX8, _, rfl⟩
theorem mv8_findLow : MV yX8_findLow cX8_findLow 8 none 1 8 := ⟨⟨tG_of (i := 1069) (by decide +kernel) (by decide +kernel), tG_of (i := 10) (by decide +kernel) (by decide +kernel), by decide +kernel, by decide +kernel, by decide +kernel⟩, tG_of (i := 1068) (by decide +kernel) (by decide +kernel), tG_sel (i := 50) (by decide +kernel) (by decide +kernel), TX8, _, rfl⟩
theorem mv8_fromRow : MV yX8_fromRow cX8_fromRow 5 (some .int) 2 8 := ⟨⟨tG_of (i := 974) (by decide +kernel) (by decide +kernel), tG_of (i := 10) (by decide +kernel) (by decide +kernel), by decide +kernel, by decide +kernel, by decide +kernel⟩, tG_of (i := 973) (by decide +kernel) (by decide +kernel), tG_sel (i := 40) (by decide +kernel) (by decide +kernel), TX8, _, rfl⟩
theorem mv8_goers : MV yX8_goers cX8_goers 4 (some .int) 1 8 := ⟨⟨tG_of (i := 933) (by decide +kernel) (by decide +kernel), tG_of (i := 10) (by decide +kernel) (by decide +kernel), by decide +kernel, by decide +kernel, by decide +kernel⟩, tG_of (i := 932) (by decide +kernel) (by decide +kernel), tG_sel (i := 33) (by decide +kernel) (by decide +kernel), TX8, _, rfl⟩
theorem mv8_goesBy : MV yX8_goesBy cX8_goesBy 5 (some .boolean) 3 8 := ⟨⟨tG_of (i := 940) (by decide +kernel) (by decide +kernel), tG_of (i := 10) (by decide +kernel) (by decide +kernel), by decide +kernel, by decide +kernel, by decide +kernel⟩, tG_of (i := 939) (by decide +kernel) (by decide +kernel), tG_sel (i := 34) (by decide +kernel) (by decide +kernel), TX8, _, rfl⟩
theorem ms8_has : MS yX8_has cX8_has 2 (some .boolean) 2 := ⟨⟨tG_of (i := 936) (by decide +kernel) (by decide +kernel), tG_of (i := 10) (by decide +kernel) (by decide +kernel), by decide +kernel, by decide +kernel, by decide +kernel⟩, tG_of (i := 935) (by decide +kernel) (by decide +kernel)⟩
theorem mv8_here : MV yX8_here cX8_here 1 (some .int) 0 8 := ⟨⟨tG_of (i := 869) (by decide +kernel) (by decide +kernel), tG_of (i := 10) (by decide +kernel) (by decide +kernel), by decide +kernel, by decide +kernel, by decide +kernel⟩, tG_of (i := 868) (by decide +kernel) (by decide +kernel), tG_sel (i := 22) (by decide +kernel) (by decide +kernel), TX8, _, rfl⟩
theorem mv8_howBy : MV yX8_howBy cX8_howBy 5 (some .int) 3 8 := ⟨⟨tG_of (i := 1107) (by decide +kernel) (by decide +kernel), tG_of (i := 10) (by decide +kernel) (by decide +kernel), by decide +kernel, by decide +kernel, by decide +kernel⟩, tG_of (i := 1106) (by decide +kernel) (by decide +kernel), tG_sel (i := 56) (by decide +kernel) (by decide +kernel), TX8, _, rfl⟩
theorem ms8_in : MS yX8_in cX8_in 6 (some .boolean) 3 := ⟨⟨tG_of (i := 859) (by decide +kernel) (by decide +kernel), tG_of (i := 10) (by decide +kernel) (by decide +kernel), by decide +kernel, by decide +kernel, by decide +kernel⟩, tG_of (i := 858) (by decide +kernel) (by decide +kernel)⟩
theorem mv8_into : MV yX8_into cX8_into 6 (some .int) 4 8 := ⟨⟨tG_of (i := 885) (by decide +kernel) (by decide +kernel), tG_of (i := 10) (by decide +kernel) (by decide +kernel), by decide +kernel, by decide +kernel, by decide +kernel⟩, tG_of (i := 884) (by decide +kernel) (by decide +kernel), tG_sel (i := 26) (by decide +kernel) (by decide +kernel), TX8, _, rfl⟩
theorem mv8_isFeast : MV yX8_isFeast cX8_isFeast 4 (some .boolean) 1 8 := ⟨⟨tG_of (i := 944) (by decide +kernel) (by decide +kernel), tG_of (i := 10) (by decide +kernel) (by decide +kernel), by decide +kernel, by decide +kernel, by decide +kernel⟩, tG_of (i := 943) (by decide +kernel) (by decide +kernel), tG_sel (i := 35) (by decide +kernel) (by decide +kernel), TX8, _, rfl⟩
theorem mv8_isFog : MV yX8_isFog cX8_isFog 4 (some .boolean) 1 8 := ⟨⟨tG_of (i := 948) (by decide +kernel) (by decide +kernel), tG_of (i := 10) (by decide +kernel) (by decide +kernel), by decide +kernel, by decide +kernel, by decide +kernel⟩, tG_of (i := 947) (by decide +kernel) (by decide +kernel), tG_sel (i := 36) (by decide +kernel) (by decide +kernel), TX8, _, rfl⟩
theorem mv8_isFree : MV yX8_isFree cX8_isFree 6 (some .boolean) 2 8 := ⟨⟨tG_of (i := 1039) (by decide +kernel) (by decide +kernel), tG_of (i := 10) (by decide +kernel) (by decide +kernel), by decide +kernel, by decide +kernel, by decide +kernel⟩, tG_of (i := 1038) (by decide +kernel) (by decide +kernel), tG_sel (i := 48) (by decide +kernel) (by decide +kernel), TX8, _, rfl⟩
theorem mv8_isVillage : MV yX8_isVillage cX8_isVillage 2 (some .boolean) 1 8 := ⟨⟨tG_of (i := 919) (by decide +kernel) (by decide +kernel), tG_of (i := 10) (by decide +kernel) (by decide +kernel), by decide +kernel, by decide +kernel, by decide +kernel⟩, tG_of (i := 918) (by decide +kernel) (by decide +kernel), tG_sel (i := 31) (by decide +kernel) (by decide +kernel), TX8, _, rfl⟩
theorem mv8_latest : MV yX8_latest cX8_latest 6 (some .int) 1 8 := ⟨⟨tG_of (i := 1086) (by decide +kernel) (by decide +kernel), tG_of (i := 10) (by decide +kernel) (by decide +kernel), by decide +kernel, by decide +kernel, by decide +kernel⟩, tG_of (i := 1085) (by decide +kernel) (by decide +kernel), tG_sel (i := 54) (by decide +kernel) (by decide +kernel), TX8, _, rfl⟩
theorem mv8_least : MV yX8_least cX8_least 3 (some .int) 1 8 := ⟨⟨tG_of (i := 981) (by decide +kernel) (by decide +kernel), tG_of (i := 10) (by decide +kernel) (by decide +kernel), by decide +kernel, by decide +kernel, by decide +kernel⟩, tG_of (i := 980) (by decide +kernel) (by decide +kernel), tG_sel (i := 41) (by decide +kernel) (by decide +kernel), TX8, _, rfl⟩
theorem mv8_mayGo : MV yX8_mayGo cX8_mayGo 3 (some .boolean) 2 8 := ⟨⟨tG_of (i := 1074) (by decide +kernel) (by decide +kernel), tG_of (i := 10) (by decide +kernel) (by decide +kernel), by decide +kernel, by decide +kernel, by decide +kernel⟩, tG_of (i := 1073) (by decide +kernel) (by decide +kernel), tG_sel (i := 51) (by decide +kernel) (by decide +kernel), TX8, _, rfl⟩
theorem mv8_next : MV yX8_next cX8_next 4 (some .int) 2 8 := ⟨⟨tG_of (i := 1031) (by decide +kernel) (by decide +kernel), tG_of (i := 10) (by decide +kernel) (by decide +kernel), by decide +kernel, by decide +kernel, by decide +kernel⟩, tG_of (i := 1030) (by decide +kernel) (by decide +kernel), tG_sel (i := 46) (by decide +kernel) (by decide +kernel), TX8, _, rfl⟩
theorem mv8_offsetsOf : MV yX8_offsetsOf cX8_offsetsOf 6 (some .int) 1 8 := ⟨⟨tG_of (i := 1103) (by decide +kernel) (by decide +kernel), tG_of (i := 10) (by decide +kernel) (by decide +kernel), by decide +kernel, by decide +kernel, by decide +kernel⟩, tG_of (i := 1102) (by decide +kernel) (by decide +kernel), tG_sel (i := 55) (by decide +kernel) (by decide +kernel), TX8, _, rfl⟩
theorem mv8_pass : MV yX8_pass cX8_pass 7 none 1 8 := ⟨⟨tG_of (i := 970) (by decide +kernel) (by decide +kernel), tG_of (i := 10) (by decide +kernel) (by decide +kernel), by decide +kernel, by decide +kernel, by decide +kernel⟩, tG_of (i := 969) (by decide +kernel) (by decide +kernel), tG_sel (i := 39) (by decide +kernel) (by decide +kernel), TX8, _, rfl⟩
theorem mv8_putBack : MV yX8_putBack cX8_putBack 2 none 0 8 := ⟨⟨tG_of (i := 1014) (by decide +kernel) (by decide +kernel), tG_of (i := 10) (by decide +kernel) (by decide +kernel), by decide +kernel, by decide +kernel, by decide +kernel⟩, tG_of (i := 1013) (by decide +kernel) (by decide +kernel), tG_sel (i := 44) (by decide +kernel) (by decide +kernel), TX8, _, rfl⟩
theorem mv8_remember : MV yX8_remember cX8_remember 2 none 0 8 := ⟨⟨tG_of (i := 966) (by decide +kernel) (by decide +kernel), tG_of (i := 10) (by decide +kernel) (by decide +kernel), by decide +kernel, by decide +kernel, by decide +kernel⟩, tG_of (i := 965) (by decide +kernel) (by decide +kernel), tG_sel (i := 38) (by decide +kernel) (by decide +kernel), TX8, _, rfl⟩
theorem mv8_save : MV yX8_save cX8_save 2 none 0 8 := ⟨⟨tG_of (i := 1010) (by decide +kernel) (by decide +kernel), tG_of (i := 10) (by decide +kernel) (by decide +kernel), by decide +kernel, by decide +kernel, by decide +kernel⟩, tG_of (i := 1009) (by decide +kernel) (by decide +kernel), tG_sel (i := 43) (by decide +kernel) (by decide +kernel), TX8, _, rfl⟩
theorem mv8_spent : MV yX8_spent cX8_spent 4 (some .int) 1 8 := ⟨⟨tG_of (i := 1082) (by decide +kernel) (by decide +kernel), tG_of (i := 10) (by decide +kernel) (by decide +kernel), by decide +kernel, by decide +kernel, by decide +kernel⟩, tG_of (i := 1081) (by decide +kernel) (by decide +kernel), tG_sel (i := 53) (by decide +kernel) (by decide +kernel), TX8, _, rfl⟩
theorem mv8_takeClause : MV yX8_takeClause cX8_takeClause 5 (some .int) 0 8 := ⟨⟨tG_of (i := 873) (by decide +kernel) (by decide +kernel), tG_of (i := 10) (by decide +kernel) (by decide +kernel), by decide +kernel, by decide +kernel, by decide +kernel⟩, tG_of (i := 872) (by decide +kernel) (by decide +kernel), tG_sel (i := 23) (by decide +kernel) (by decide +kernel), TX8, _, rfl⟩
theorem mv8_takeDay : MV yX8_takeDay cX8_takeDay 5 (some .int) 2 8 := ⟨⟨tG_of (i := 899) (by decide +kernel) (by decide +kernel), tG_of (i := 10) (by decide +kernel) (by decide +kernel), by decide +kernel, by decide +kernel, by decide +kernel⟩, tG_of (i := 898) (by decide +kernel) (by decide +kernel), tG_sel (i := 29) (by decide +kernel) (by decide +kernel), TX8, _, rfl⟩
theorem mv8_takeHermit : MV yX8_takeHermit cX8_takeHermit 2 (some .int) 0 8 := ⟨⟨tG_of (i := 881) (by decide +kernel) (by decide +kernel), tG_of (i := 10) (by decide +kernel) (by decide +kernel), by decide +kernel, by decide +kernel, by decide +kernel⟩, tG_of (i := 880) (by decide +kernel) (by decide +kernel), tG_sel (i := 25) (by decide +kernel) (by decide +kernel), TX8, _, rfl⟩
theorem mv8_takeNumber : MV yX8_takeNumber cX8_takeNumber 4 (some .int) 2 8 := ⟨⟨tG_of (i := 889) (by decide +kernel) (by decide +kernel), tG_of (i := 10) (by decide +kernel) (by decide +kernel), by decide +kernel, by decide +kernel, by decide +kernel⟩, tG_of (i := 888) (by decide +kernel) (by decide +kernel), tG_sel (i := 27) (by decide +kernel) (by decide +kernel), TX8, _, rfl⟩
theorem mv8_takeRead : MV yX8_takeRead cX8_takeRead 2 none 0 8 := ⟨⟨tG_of (i := 903) (by decide +kernel) (by decide +kernel), tG_of (i := 10) (by decide +kernel) (by decide +kernel), by decide +kernel, by decide +kernel, by decide +kernel⟩, tG_of (i := 902) (by decide +kernel) (by decide +kernel), tG_sel (i := 30) (by decide +kernel) (by decide +kernel), TX8, _, rfl⟩
theorem mv8_takeVillage : MV yX8_takeVillage cX8_takeVillage 3 (some .int) 0 8 := ⟨⟨tG_of (i := 895) (by decide +kernel) (by decide +kernel), tG_of (i := 10) (by decide +kernel) (by decide +kernel), by decide +kernel, by decide +kernel, by decide +kernel⟩, tG_of (i := 894) (by decide +kernel) (by decide +kernel), tG_sel (i := 28) (by decide +kernel) (by decide +kernel), TX8, _, rfl⟩
theorem mv8_wasChosen : MV yX8_wasChosen cX8_wasChosen 5 (some .boolean) 2 8 := ⟨⟨tG_of (i := 1078) (by decide +kernel) (by decide +kernel), tG_of (i := 10) (by decide +kernel) (by decide +kernel), by decide +kernel, by decide +kernel, by decide +kernel⟩, tG_of (i := 1077) (by decide +kernel) (by decide +kernel), tG_sel (i := 52) (by decide +kernel) (by decide +kernel), TX8, _, rfl⟩
theorem wNat : Cond.native arraycopyName ∈ tG := tG_of (i := 397) (by decide +kernel) (by decide +kernel)
theorem wSta : Cond.static arraycopyName ∈ tG := tG_of (i := 396) (by decide +kernel) (by decide +kernel)
theorem wIni : Cond.initialized "java/lang/System" ∈ tG := tG_of (i := 12) (by decide +kernel) (by decide +kernel)
theorem ob0 : Ob 0 1 := ⟨rfl, by decide +kernel⟩
theorem ar0_0 : Ar 0 0 0 8 := ⟨by decide +kernel, by decide +kernel⟩
theorem ar0_1 : Ar 0 1 0 8 := ⟨by decide +kernel, by decide +kernel⟩
theorem ar0_2 : Ar 0 2 0 17 := ⟨by decide +kernel, by decide +kernel⟩
theorem ar0_3 : Ar 0 3 0 60 := ⟨by decide +kernel, by decide +kernel⟩
theorem ob1 : Ob 1 1 := ⟨rfl, by decide +kernel⟩
theorem ar1_0 : Ar 1 0 0 8 := ⟨by decide +kernel, by decide +kernel⟩
theorem ar1_1 : Ar 1 1 0 8 := ⟨by decide +kernel, by decide +kernel⟩
theorem ar1_2 : Ar 1 2 0 17 := ⟨by decide +kernel, by decide +kernel⟩
theorem ar1_3 : Ar 1 3 0 60 := ⟨by decide +kernel, by decide +kernel⟩
theorem ob26 : Ob 26 7 := ⟨rfl, by decide +kernel⟩
theorem ar26_0 : Ar 26 0 2 240 := ⟨by decide +kernel, by decide +kernel⟩
theorem ar26_9 : Ar 26 9 4 2 := ⟨by decide +kernel, by decide +kernel⟩
theorem ar26_10 : Ar 26 10 0 2 := ⟨by decide +kernel, by decide +kernel⟩
theorem ob27 : Ob 27 5 := ⟨rfl, by decide +kernel⟩
theorem ar27_5 : Ar 27 5 2 0 := ⟨by decide +kernel, by decide +kernel⟩
theorem ob28 : Ob 28 3 := ⟨rfl, by decide +kernel⟩
theorem ar28_0 : Ar 28 0 4 20 := ⟨by decide +kernel, by decide +kernel⟩
theorem ob29 : Ob 29 2 := ⟨rfl, by decide +kernel⟩
theorem ar29_0 : Ar 29 0 0 10 := ⟨by decide +kernel, by decide +kernel⟩
theorem ar29_1 : Ar 29 1 0 10 := ⟨by decide +kernel, by decide +kernel⟩
theorem ar29_2 : Ar 29 2 0 15 := ⟨by decide +kernel, by decide +kernel⟩
theorem ar29_3 : Ar 29 3 0 15 := ⟨by decide +kernel, by decide +kernel⟩
theorem ob30 : Ob 30 0 := ⟨rfl, by decide +kernel⟩
theorem ar30_0 : Ar 30 0 0 8 := ⟨by decide +kernel, by decide +kernel⟩
theorem ob31 : Ob 31 4 := ⟨rfl, by decide +kernel⟩
theorem ar31_0 : Ar 31 0 0 10 := ⟨by decide +kernel, by decide +kernel⟩
theorem ob32 : Ob 32 8 := ⟨rfl, by decide +kernel⟩
theorem ar32_4 : Ar 32 4 0 8 := ⟨by decide +kernel, by decide +kernel⟩
theorem ar32_5 : Ar 32 5 0 8 := ⟨by decide +kernel, by decide +kernel⟩
theorem ar32_6 : Ar 32 6 0 8 := ⟨by decide +kernel, by decide +kernel⟩
theorem ar32_8 : Ar 32 8 0 8 := ⟨by decide +kernel, by decide +kernel⟩
theorem ar32_10 : Ar 32 10 0 8 := ⟨by decide +kernel, by decide +kernel⟩
theorem ar32_11 : Ar 32 11 0 103 := ⟨by decide +kernel, by decide +kernel⟩
theorem ar32_13 : Ar 32 13 0 240 := ⟨by decide +kernel, by decide +kernel⟩
theorem ar32_19 : Ar 32 19 0 3 := ⟨by decide +kernel, by decide +kernel⟩
theorem ar32_21 : Ar 32 21 0 8 := ⟨by decide +kernel, by decide +kernel⟩
theorem ar32_22 : Ar 32 22 0 8 := ⟨by decide +kernel, by decide +kernel⟩
theorem ar32_23 : Ar 32 23 0 8 := ⟨by decide +kernel, by decide +kernel⟩
theorem ar32_24 : Ar 32 24 0 8 := ⟨by decide +kernel, by decide +kernel⟩
theorem ar32_26 : Ar 32 26 0 8 := ⟨by decide +kernel, by decide +kernel⟩
theorem ar32_28 : Ar 32 28 0 8 := ⟨by decide +kernel, by decide +kernel⟩
theorem ar32_30 : Ar 32 30 0 2060 := ⟨by decide +kernel, by decide +kernel⟩
theorem ar32_31 : Ar 32 31 0 103 := ⟨by decide +kernel, by decide +kernel⟩
theorem ar32_32 : Ar 32 32 0 8 := ⟨by decide +kernel, by decide +kernel⟩
theorem ar32_33 : Ar 32 33 0 72171 := ⟨by decide +kernel, by decide +kernel⟩
theorem ar32_34 : Ar 32 34 0 10 := ⟨by decide +kernel, by decide +kernel⟩
theorem ar32_35 : Ar 32 35 0 10 := ⟨by decide +kernel, by decide +kernel⟩
theorem ar32_38 : Ar 32 38 0 10 := ⟨by decide +kernel, by decide +kernel⟩
theorem ar32_39 : Ar 32 39 0 10 := ⟨by decide +kernel, by decide +kernel⟩
theorem ar32_41 : Ar 32 41 0 15 := ⟨by decide +kernel, by decide +kernel⟩
theorem ar32_42 : Ar 32 42 0 15 := ⟨by decide +kernel, by decide +kernel⟩
theorem ar32_43 : Ar 32 43 0 208 := ⟨by decide +kernel, by decide +kernel⟩
theorem ar32_44 : Ar 32 44 3 2 := ⟨by decide +kernel, by decide +kernel⟩
theorem layC1 : ∀ q ∈ lay, q.2 = 0 → kc q.1 = 1 → (q.1, 1) ∈ lay ∧ (q.1, 2) ∈ lay ∧ (q.1, 3) ∈ lay ∧ (q.1, 4) ∈ lay := by decide +kernel
theorem arC1_0 {d : Nat} (h : Ob d 1) : Ar d 0 0 8 := ⟨by unfold ak; rw [h.1]; rfl, (layC1 (d, 0) h.2 rfl h.1).1⟩
theorem arC1_1 {d : Nat} (h : Ob d 1) : Ar d 1 0 8 := ⟨by unfold ak; rw [h.1]; rfl, (layC1 (d, 0) h.2 rfl h.1).2.1⟩
theorem arC1_2 {d : Nat} (h : Ob d 1) : Ar d 2 0 17 := ⟨by unfold ak; rw [h.1]; rfl, (layC1 (d, 0) h.2 rfl h.1).2.2.1⟩
theorem arC1_3 {d : Nat} (h : Ob d 1) : Ar d 3 0 60 := ⟨by unfold ak; rw [h.1]; rfl, (layC1 (d, 0) h.2 rfl h.1).2.2.2⟩
theorem grC1 {d : Nat} (h : Ob d 1) (k : Nat) : gr d k = (d, k + 1) := by
  have h1 : d ≠ 26 := fun z => by have h2 := h.1; rw [z] at h2; exact absurd h2 (by decide)
  simp [gr, h1]
theorem layC6 : ∀ q ∈ lay, q.2 = 0 → kc q.1 = 6 → (q.1, 8) ∈ lay ∧ (q.1, 9) ∈ lay ∧ (q.1, 10) ∈ lay ∧ (q.1, 11) ∈ lay ∧ (q.1, 12) ∈ lay ∧ (q.1, 13) ∈ lay := by decide +kernel
theorem arC6_7 {d : Nat} (h : Ob d 6) : Ar d 7 0 8 := ⟨by unfold ak; rw [h.1]; rfl, (layC6 (d, 0) h.2 rfl h.1).1⟩
theorem arC6_8 {d : Nat} (h : Ob d 6) : Ar d 8 0 8 := ⟨by unfold ak; rw [h.1]; rfl, (layC6 (d, 0) h.2 rfl h.1).2.1⟩
theorem arC6_9 {d : Nat} (h : Ob d 6) : Ar d 9 0 8 := ⟨by unfold ak; rw [h.1]; rfl, (layC6 (d, 0) h.2 rfl h.1).2.2.1⟩
theorem arC6_10 {d : Nat} (h : Ob d 6) : Ar d 10 0 8 := ⟨by unfold ak; rw [h.1]; rfl, (layC6 (d, 0) h.2 rfl h.1).2.2.2.1⟩
theorem arC6_11 {d : Nat} (h : Ob d 6) : Ar d 11 1 16 := ⟨by unfold ak; rw [h.1]; rfl, (layC6 (d, 0) h.2 rfl h.1).2.2.2.2.1⟩
theorem arC6_12 {d : Nat} (h : Ob d 6) : Ar d 12 1 16 := ⟨by unfold ak; rw [h.1]; rfl, (layC6 (d, 0) h.2 rfl h.1).2.2.2.2.2⟩
theorem grC6 {d : Nat} (h : Ob d 6) (k : Nat) : gr d k = (d, k + 1) := by
  have h1 : d ≠ 26 := fun z => by have h2 := h.1; rw [z] at h2; exact absurd h2 (by decide)
  simp [gr, h1]
theorem obK {i : Int32} (h : ¬ (i < 0 ∨ 20 ≤ i.toNatClampNeg)) : Ob (rb 28 + i.toNatClampNeg) 1 := by
  have h1 : i.toNatClampNeg < 20 := by omega
  generalize i.toNatClampNeg = j at h1
  have h2 : ∀ j, j < 20 → kc (rb 28 + j) = 1 ∧ (rb 28 + j, 0) ∈ lay := by decide +kernel
  exact h2 j h1
theorem obM {i : Int32} (h : ¬ (i < 0 ∨ 2 ≤ i.toNatClampNeg)) : Ob (rb 26 + i.toNatClampNeg) 1 := by
  have h1 : i.toNatClampNeg < 2 := by omega
  generalize i.toNatClampNeg = j at h1
  have h2 : ∀ j, j < 2 → kc (rb 26 + j) = 1 ∧ (rb 26 + j, 0) ∈ lay := by decide +kernel
  exact h2 j h1
