theorem dX8_takeNumber_7 : decode cX8_takeNumber 7 = .ok (.ldc2_w 115, 3) := by decide +kernel
theorem dX8_takeNumber_10 : decode cX8_takeNumber 10 = .ok (.ldc2_w 117, 3) := by decide +kernel
theorem dX8_takeNumber_13 : decode cX8_takeNumber 13 = .ok (.invokestatic 97, 3) := by decide +kernel
theorem dX8_takeNumber_16 : decode cX8_takeNumber 16 = .ok (.ifCond .ne 13, 3) := by decide +kernel
theorem dX8_takeNumber_19 : decode cX8_takeNumber 19 = .ok (.aload_n 0, 1) := by decide +kernel
theorem dX8_takeNumber_20 : decode cX8_takeNumber 20 = .ok (.iconst 1, 1) := by decide +kernel
theorem dX8_takeNumber_21 : decode cX8_takeNumber 21 = .ok (.aload_n 0, 1) := by decide +kernel
theorem dX8_takeNumber_22 : decode cX8_takeNumber 22 = .ok (.getfield 108, 3) := by decide +kernel
theorem dX8_takeNumber_25 : decode cX8_takeNumber 25 = .ok (.invokevirtual 119, 3) := by decide +kernel
theorem dX8_takeNumber_28 : decode cX8_takeNumber 28 = .ok (.ireturn, 1) := by decide +kernel
theorem dX8_takeNumber_29 : decode cX8_takeNumber 29 = .ok (.aload_n 0, 1) := by decide +kernel
theorem dX8_takeNumber_30 : decode cX8_takeNumber 30 = .ok (.aload_n 0, 1) := by decide +kernel
theorem dX8_takeNumber_31 : decode cX8_takeNumber 31 = .ok (.getfield 108, 3) := by decide +kernel
theorem dX8_takeNumber_34 : decode cX8_takeNumber 34 = .ok (.putfield 123, 3) := by decide +kernel
theorem dX8_takeNumber_37 : decode cX8_takeNumber 37 = .ok (.aload_n 0, 1) := by decide +kernel
theorem dX8_takeNumber_38 : decode cX8_takeNumber 38 = .ok (.iconst 0, 1) := by decide +kernel
theorem dX8_takeNumber_39 : decode cX8_takeNumber 39 = .ok (.putfield 126, 3) := by decide +kernel
theorem dX8_takeNumber_42 : decode cX8_takeNumber 42 = .ok (.aload_n 0, 1) := by decide +kernel
theorem dX8_takeNumber_43 : decode cX8_takeNumber 43 = .ok (.getfield 108, 3) := by decide +kernel
theorem dX8_takeNumber_46 : decode cX8_takeNumber 46 = .ok (.aload_n 0, 1) := by decide +kernel
theorem dX8_takeNumber_47 : decode cX8_takeNumber 47 = .ok (.getfield 104, 3) := by decide +kernel
theorem dX8_takeNumber_50 : decode cX8_takeNumber 50 = .ok (.if_icmp .ge 79, 3) := by decide +kernel
theorem dX8_takeNumber_53 : decode cX8_takeNumber 53 = .ok (.aload_n 0, 1) := by decide +kernel
theorem dX8_takeNumber_54 : decode cX8_takeNumber 54 = .ok (.getfield 28, 3) := by decide +kernel
theorem dX8_takeNumber_57 : decode cX8_takeNumber 57 = .ok (.aload_n 0, 1) := by decide +kernel
theorem dX8_takeNumber_58 : decode cX8_takeNumber 58 = .ok (.getfield 108, 3) := by decide +kernel
theorem dX8_takeNumber_61 : decode cX8_takeNumber 61 = .ok (.iaload, 1) := by decide +kernel
theorem dX8_takeNumber_62 : decode cX8_takeNumber 62 = .ok (.i2l, 1) := by decide +kernel
theorem dX8_takeNumber_63 : decode cX8_takeNumber 63 = .ok (.ldc2_w 115, 3) := by decide +kernel
theorem dX8_takeNumber_66 : decode cX8_takeNumber 66 = .ok (.ldc2_w 117, 3) := by decide +kernel
theorem dX8_takeNumber_69 : decode cX8_takeNumber 69 = .ok (.invokestatic 97, 3) := by decide +kernel
theorem dX8_takeNumber_72 : decode cX8_takeNumber 72 = .ok (.ifCond .eq 57, 3) := by decide +kernel
theorem dX8_takeNumber_75 : decode cX8_takeNumber 75 = .ok (.aload_n 0, 1) := by decide +kernel
theorem dX8_takeNumber_76 : decode cX8_takeNumber 76 = .ok (.aload_n 0, 1) := by decide +kernel
theorem dX8_takeNumber_77 : decode cX8_takeNumber 77 = .ok (.getfield 126, 3) := by decide +kernel
theorem dX8_takeNumber_80 : decode cX8_takeNumber 80 = .ok (.sipush 10000, 3) := by decide +kernel
theorem dX8_takeNumber_83 : decode cX8_takeNumber 83 = .ok (.if_icmp .le 10, 3) := by decide +kernel
theorem dX8_takeNumber_86 : decode cX8_takeNumber 86 = .ok (.aload_n 0, 1) := by decide +kernel
theorem dX8_takeNumber_87 : decode cX8_takeNumber 87 = .ok (.getfield 126, 3) := by decide +kernel
theorem dX8_takeNumber_90 : decode cX8_takeNumber 90 = .ok (.goto 23, 3) := by decide +kernel
theorem dX8_takeNumber_93 : decode cX8_takeNumber 93 = .ok (.bipush 10, 2) := by decide +kernel
theorem dX8_takeNumber_95 : decode cX8_takeNumber 95 = .ok (.aload_n 0, 1) := by decide +kernel
theorem dX8_takeNumber_96 : decode cX8_takeNumber 96 = .ok (.getfield 126, 3) := by decide +kernel
theorem dX8_takeNumber_99 : decode cX8_takeNumber 99 = .ok (.imul, 1) := by decide +kernel
theorem dX8_takeNumber_100 : decode cX8_takeNumber 100 = .ok (.aload_n 0, 1) := by decide +kernel
theorem dX8_takeNumber_101 : decode cX8_takeNumber 101 = .ok (.getfield 28, 3) := by decide +kernel
theorem dX8_takeNumber_104 : decode cX8_takeNumber 104 = .ok (.aload_n 0, 1) := by decide +kernel
theorem dX8_takeNumber_105 : decode cX8_takeNumber 105 = .ok (.getfield 108, 3) := by decide +kernel
theorem dX8_takeNumber_108 : decode cX8_takeNumber 108 = .ok (.iaload, 1) := by decide +kernel
theorem dX8_takeNumber_109 : decode cX8_takeNumber 109 = .ok (.iadd, 1) := by decide +kernel
theorem dX8_takeNumber_110 : decode cX8_takeNumber 110 = .ok (.bipush 48, 2) := by decide +kernel
theorem dX8_takeNumber_112 : decode cX8_takeNumber 112 = .ok (.isub, 1) := by decide +kernel
theorem dX8_takeNumber_113 : decode cX8_takeNumber 113 = .ok (.putfield 126, 3) := by decide +kernel
theorem dX8_takeNumber_116 : decode cX8_takeNumber 116 = .ok (.aload_n 0, 1) := by decide +kernel
theorem dX8_takeNumber_117 : decode cX8_takeNumber 117 = .ok (.dup, 1) := by decide +kernel
theorem dX8_takeNumber_118 : decode cX8_takeNumber 118 = .ok (.getfield 108, 3) := by decide +kernel
theorem dX8_takeNumber_121 : decode cX8_takeNumber 121 = .ok (.iconst 1, 1) := by decide +kernel
theorem dX8_takeNumber_122 : decode cX8_takeNumber 122 = .ok (.iadd, 1) := by decide +kernel
theorem dX8_takeNumber_123 : decode cX8_takeNumber 123 = .ok (.putfield 108, 3) := by decide +kernel
theorem dX8_takeNumber_126 : decode cX8_takeNumber 126 = .ok (.goto (-84), 3) := by decide +kernel
theorem dX8_takeNumber_129 : decode cX8_takeNumber 129 = .ok (.aload_n 0, 1) := by decide +kernel
theorem dX8_takeNumber_130 : decode cX8_takeNumber 130 = .ok (.getfield 108, 3) := by decide +kernel
theorem dX8_takeNumber_133 : decode cX8_takeNumber 133 = .ok (.aload_n 0, 1) := by decide +kernel
theorem dX8_takeNumber_134 : decode cX8_takeNumber 134 = .ok (.getfield 123, 3) := by decide +kernel
theorem dX8_takeNumber_137 : decode cX8_takeNumber 137 = .ok (.isub, 1) := by decide +kernel
theorem dX8_takeNumber_138 : decode cX8_takeNumber 138 = .ok (.iconst 3, 1) := by decide +kernel
theorem dX8_takeNumber_139 : decode cX8_takeNumber 139 = .ok (.if_icmp .gt 18, 3) := by decide +kernel
theorem dX8_takeNumber_142 : decode cX8_takeNumber 142 = .ok (.aload_n 0, 1) := by decide +kernel
theorem dX8_takeNumber_143 : decode cX8_takeNumber 143 = .ok (.getfield 126, 3) := by decide +kernel
theorem dX8_takeNumber_146 : decode cX8_takeNumber 146 = .ok (.i2l, 1) := by decide +kernel
theorem dX8_takeNumber_147 : decode cX8_takeNumber 147 = .ok (.iload_n 1, 1) := by decide +kernel
theorem dX8_takeNumber_148 : decode cX8_takeNumber 148 = .ok (.i2l, 1) := by decide +kernel
theorem dX8_takeNumber_149 : decode cX8_takeNumber 149 = .ok (.iload_n 2, 1) := by decide +kernel
theorem dX8_takeNumber_150 : decode cX8_takeNumber 150 = .ok (.i2l, 1) := by decide +kernel
theorem dX8_takeNumber_151 : decode cX8_takeNumber 151 = .ok (.invokestatic 97, 3) := by decide +kernel
theorem dX8_takeNumber_154 : decode cX8_takeNumber 154 = .ok (.ifCond .ne 15, 3) := by decide +kernel
theorem dX8_takeNumber_157 : decode cX8_takeNumber 157 = .ok (.aload_n 0, 1) := by decide +kernel
theorem dX8_takeNumber_158 : decode cX8_takeNumber 158 = .ok (.iconst 2, 1) := by decide +kernel
theorem dX8_takeNumber_159 : decode cX8_takeNumber 159 = .ok (.aload_n 0, 1) := by decide +kernel
theorem dX8_takeNumber_160 : decode cX8_takeNumber 160 = .ok (.getfield 123, 3) := by decide +kernel
theorem dX8_takeNumber_163 : decode cX8_takeNumber 163 = .ok (.invokevirtual 119, 3) := by decide +kernel
theorem dX8_takeNumber_166 : decode cX8_takeNumber 166 = .ok (.goto 4, 3) := by decide +kernel
theorem dX8_takeNumber_169 : decode cX8_takeNumber 169 = .ok (.iconst 0, 1) := by decide +kernel
theorem dX8_takeNumber_170 : decode cX8_takeNumber 170 = .ok (.ireturn, 1) := by decide +kernel
theorem dX8_into_0 : decode cX8_into 0 = .ok (.aload_n 0, 1) := by decide +kernel
theorem dX8_into_1 : decode cX8_into 1 = .ok (.iload_n 3, 1) := by decide +kernel
theorem dX8_into_2 : decode cX8_into 2 = .ok (.iload 4, 2) := by decide +kernel
theorem dX8_into_4 : decode cX8_into 4 = .ok (.invokevirtual 129, 3) := by decide +kernel
theorem dX8_into_7 : decode cX8_into 7 = .ok (.istore 5, 2) := by decide +kernel
theorem dX8_into_9 : decode cX8_into 9 = .ok (.aload_n 1, 1) := by decide +kernel
theorem dX8_into_10 : decode cX8_into 10 = .ok (.iload_n 2, 1) := by decide +kernel
theorem dX8_into_11 : decode cX8_into 11 = .ok (.aload_n 0, 1) := by decide +kernel
theorem dX8_into_12 : decode cX8_into 12 = .ok (.getfield 126, 3) := by decide +kernel
theorem dX8_into_15 : decode cX8_into 15 = .ok (.iastore, 1) := by decide +kernel
theorem dX8_into_16 : decode cX8_into 16 = .ok (.iload 5, 2) := by decide +kernel
theorem dX8_into_18 : decode cX8_into 18 = .ok (.ireturn, 1) := by decide +kernel
theorem dX8_takeHermit_0 : decode cX8_takeHermit 0 = .ok (.aload_n 0, 1) := by decide +kernel
theorem dX8_takeHermit_1 : decode cX8_takeHermit 1 = .ok (.aload_n 0, 1) := by decide +kernel
theorem dX8_takeHermit_2 : decode cX8_takeHermit 2 = .ok (.getfield 35, 3) := by decide +kernel
theorem dX8_takeHermit_5 : decode cX8_takeHermit 5 = .ok (.iconst 0, 1) := by decide +kernel
theorem dX8_takeHermit_6 : decode cX8_takeHermit 6 = .ok (.iconst 1, 1) := by decide +kernel
theorem dX8_takeHermit_7 : decode cX8_takeHermit 7 = .ok (.bipush 9, 2) := by decide +kernel
theorem dX8_takeHermit_9 : decode cX8_takeHermit 9 = .ok (.invokevirtual 132, 3) := by decide +kernel
theorem dX8_takeHermit_12 : decode cX8_takeHermit 12 = .ok (.istore_n 1, 1) := by decide +kernel
theorem dX8_takeHermit_13 : decode cX8_takeHermit 13 = .ok (.iload_n 1, 1) := by decide +kernel
theorem dX8_takeHermit_14 : decode cX8_takeHermit 14 = .ok (.ifCond .le 7, 3) := by decide +kernel
theorem dX8_takeHermit_17 : decode cX8_takeHermit 17 = .ok (.iload_n 1, 1) := by decide +kernel
theorem dX8_takeHermit_18 : decode cX8_takeHermit 18 = .ok (.goto 15, 3) := by decide +kernel
theorem dX8_takeHermit_21 : decode cX8_takeHermit 21 = .ok (.aload_n 0, 1) := by decide +kernel
theorem dX8_takeHermit_22 : decode cX8_takeHermit 22 = .ok (.aload_n 0, 1) := by decide +kernel
theorem dX8_takeHermit_23 : decode cX8_takeHermit 23 = .ok (.getfield 35, 3) := by decide +kernel
theorem dX8_takeHermit_26 : decode cX8_takeHermit 26 = .ok (.iconst 1, 1) := by decide +kernel
theorem dX8_takeHermit_27 : decode cX8_takeHermit 27 = .ok (.iconst 0, 1) := by decide +kernel
theorem dX8_takeHermit_28 : decode cX8_takeHermit 28 = .ok (.bipush 30, 2) := by decide +kernel
theorem dX8_takeHermit_30 : decode cX8_takeHermit 30 = .ok (.invokevirtual 132, 3) := by decide +kernel
theorem dX8_takeHermit_33 : decode cX8_takeHermit 33 = .ok (.istore_n 1, 1) := by decide +kernel
theorem dX8_takeHermit_34 : decode cX8_takeHermit 34 = .ok (.iload_n 1, 1) := by decide +kernel
theorem dX8_takeHermit_35 : decode cX8_takeHermit 35 = .ok (.ifCond .le 7, 3) := by decide +kernel
theorem dX8_takeHermit_38 : decode cX8_takeHermit 38 = .ok (.iload_n 1, 1) := by decide +kernel
theorem dX8_takeHermit_39 : decode cX8_takeHermit 39 = .ok (.goto 15, 3) := by decide +kernel
theorem dX8_takeHermit_42 : decode cX8_takeHermit 42 = .ok (.aload_n 0, 1) := by decide +kernel
theorem dX8_takeHermit_43 : decode cX8_takeHermit 43 = .ok (.aload_n 0, 1) := by decide +kernel
theorem dX8_takeHermit_44 : decode cX8_takeHermit 44 = .ok (.getfield 35, 3) := by decide +kernel
theorem dX8_takeHermit_47 : decode cX8_takeHermit 47 = .ok (.iconst 2, 1) := by decide +kernel
theorem dX8_takeHermit_48 : decode cX8_takeHermit 48 = .ok (.iconst 0, 1) := by decide +kernel
theorem dX8_takeHermit_49 : decode cX8_takeHermit 49 = .ok (.bipush 9, 2) := by decide +kernel
theorem dX8_takeHermit_51 : decode cX8_takeHermit 51 = .ok (.invokevirtual 132, 3) := by decide +kernel
theorem dX8_takeHermit_54 : decode cX8_takeHermit 54 = .ok (.ireturn, 1) := by decide +kernel
theorem dX8_takeVillage_0 : decode cX8_takeVillage 0 = .ok (.aload_n 0, 1) := by decide +kernel
theorem dX8_takeVillage_1 : decode cX8_takeVillage 1 = .ok (.getfield 136, 3) := by decide +kernel
theorem dX8_takeVillage_4 : decode cX8_takeVillage 4 = .ok (.istore_n 1, 1) := by decide +kernel
theorem dX8_takeVillage_5 : decode cX8_takeVillage 5 = .ok (.aload_n 0, 1) := by decide +kernel
theorem dX8_takeVillage_6 : decode cX8_takeVillage 6 = .ok (.dup, 1) := by decide +kernel
theorem dX8_takeVillage_7 : decode cX8_takeVillage 7 = .ok (.getfield 136, 3) := by decide +kernel
theorem dX8_takeVillage_10 : decode cX8_takeVillage 10 = .ok (.iconst 1, 1) := by decide +kernel
theorem dX8_takeVillage_11 : decode cX8_takeVillage 11 = .ok (.iadd, 1) := by decide +kernel
theorem dX8_takeVillage_12 : decode cX8_takeVillage 12 = .ok (.putfield 136, 3) := by decide +kernel
theorem dX8_takeVillage_15 : decode cX8_takeVillage 15 = .ok (.aload_n 0, 1) := by decide +kernel
theorem dX8_takeVillage_16 : decode cX8_takeVillage 16 = .ok (.aload_n 0, 1) := by decide +kernel
theorem dX8_takeVillage_17 : decode cX8_takeVillage 17 = .ok (.getfield 38, 3) := by decide +kernel
theorem dX8_takeVillage_20 : decode cX8_takeVillage 20 = .ok (.iload_n 1, 1) := by decide +kernel
theorem dX8_takeVillage_21 : decode cX8_takeVillage 21 = .ok (.iconst 0, 1) := by decide +kernel
theorem dX8_takeVillage_22 : decode cX8_takeVillage 22 = .ok (.bipush 9, 2) := by decide +kernel
theorem dX8_takeVillage_24 : decode cX8_takeVillage 24 = .ok (.invokevirtual 132, 3) := by decide +kernel
theorem dX8_takeVillage_27 : decode cX8_takeVillage 27 = .ok (.istore_n 2, 1) := by decide +kernel
theorem dX8_takeVillage_28 : decode cX8_takeVillage 28 = .ok (.iload_n 2, 1) := by decide +kernel
theorem dX8_takeVillage_29 : decode cX8_takeVillage 29 = .ok (.ifCond .le 7, 3) := by decide +kernel
theorem dX8_takeVillage_32 : decode cX8_takeVillage 32 = .ok (.iload_n 2, 1) := by decide +kernel
theorem dX8_takeVillage_33 : decode cX8_takeVillage 33 = .ok (.goto 15, 3) := by decide +kernel
theorem dX8_takeVillage_36 : decode cX8_takeVillage 36 = .ok (.aload_n 0, 1) := by decide +kernel
theorem dX8_takeVillage_37 : decode cX8_takeVillage 37 = .ok (.aload_n 0, 1) := by decide +kernel
theorem dX8_takeVillage_38 : decode cX8_takeVillage 38 = .ok (.getfield 41, 3) := by decide +kernel
theorem dX8_takeVillage_41 : decode cX8_takeVillage 41 = .ok (.iload_n 1, 1) := by decide +kernel
theorem dX8_takeVillage_42 : decode cX8_takeVillage 42 = .ok (.iconst 1, 1) := by decide +kernel
theorem dX8_takeVillage_43 : decode cX8_takeVillage 43 = .ok (.bipush 9, 2) := by decide +kernel
theorem dX8_takeVillage_45 : decode cX8_takeVillage 45 = .ok (.invokevirtual 132, 3) := by decide +kernel
theorem dX8_takeVillage_48 : decode cX8_takeVillage 48 = .ok (.istore_n 2, 1) := by decide +kernel
theorem dX8_takeVillage_49 : decode cX8_takeVillage 49 = .ok (.iload_n 2, 1) := by decide +kernel
theorem dX8_takeVillage_50 : decode cX8_takeVillage 50 = .ok (.ifCond .le 7, 3) := by decide +kernel
theorem dX8_takeVillage_53 : decode cX8_takeVillage 53 = .ok (.iload_n 2, 1) := by decide +kernel
theorem dX8_takeVillage_54 : decode cX8_takeVillage 54 = .ok (.goto 21, 3) := by decide +kernel
theorem dX8_takeVillage_57 : decode cX8_takeVillage 57 = .ok (.aload_n 0, 1) := by decide +kernel
theorem dX8_takeVillage_58 : decode cX8_takeVillage 58 = .ok (.aload_n 0, 1) := by decide +kernel
theorem dX8_takeVillage_59 : decode cX8_takeVillage 59 = .ok (.getfield 44, 3) := by decide +kernel
theorem dX8_takeVillage_62 : decode cX8_takeVillage 62 = .ok (.iload_n 1, 1) := by decide +kernel
theorem dX8_takeVillage_63 : decode cX8_takeVillage 63 = .ok (.iconst 0, 1) := by decide +kernel
theorem dX8_takeVillage_64 : decode cX8_takeVillage 64 = .ok (.aload_n 0, 1) := by decide +kernel
theorem dX8_takeVillage_65 : decode cX8_takeVillage 65 = .ok (.getfield 41, 3) := by decide +kernel
theorem dX8_takeVillage_68 : decode cX8_takeVillage 68 = .ok (.iload_n 1, 1) := by decide +kernel
theorem dX8_takeVillage_69 : decode cX8_takeVillage 69 = .ok (.iaload, 1) := by decide +kernel
theorem dX8_takeVillage_70 : decode cX8_takeVillage 70 = .ok (.iconst 1, 1) := by decide +kernel
theorem dX8_takeVillage_71 : decode cX8_takeVillage 71 = .ok (.isub, 1) := by decide +kernel
theorem dX8_takeVillage_72 : decode cX8_takeVillage 72 = .ok (.invokevirtual 132, 3) := by decide +kernel
theorem dX8_takeVillage_75 : decode cX8_takeVillage 75 = .ok (.istore_n 2, 1) := by decide +kernel
theorem dX8_takeVillage_76 : decode cX8_takeVillage 76 = .ok (.iload_n 2, 1) := by decide +kernel
theorem dX8_takeVillage_77 : decode cX8_takeVillage 77 = .ok (.ifCond .le 7, 3) := by decide +kernel
theorem dX8_takeVillage_80 : decode cX8_takeVillage 80 = .ok (.iload_n 2, 1) := by decide +kernel
theorem dX8_takeVillage_81 : decode cX8_takeVillage 81 = .ok (.goto 15, 3) := by decide +kernel
theorem dX8_takeVillage_84 : decode cX8_takeVillage 84 = .ok (.aload_n 0, 1) := by decide +kernel
theorem dX8_takeVillage_85 : decode cX8_takeVillage 85 = .ok (.aload_n 0, 1) := by decide +kernel
theorem dX8_takeVillage_86 : decode cX8_takeVillage 86 = .ok (.getfield 47, 3) := by decide +kernel
theorem dX8_takeVillage_89 : decode cX8_takeVillage 89 = .ok (.iload_n 1, 1) := by decide +kernel
theorem dX8_takeVillage_90 : decode cX8_takeVillage 90 = .ok (.iconst 0, 1) := by decide +kernel
theorem dX8_takeVillage_91 : decode cX8_takeVillage 91 = .ok (.bipush 100, 2) := by decide +kernel
theorem dX8_takeVillage_93 : decode cX8_takeVillage 93 = .ok (.invokevirtual 132, 3) := by decide +kernel
theorem dX8_takeVillage_96 : decode cX8_takeVillage 96 = .ok (.ireturn, 1) := by decide +kernel
theorem dX8_takeDay_0 : decode cX8_takeDay 0 = .ok (.aload_n 0, 1) := by decide +kernel
theorem dX8_takeDay_1 : decode cX8_takeDay 1 = .ok (.aload_n 1, 1) := by decide +kernel
theorem dX8_takeDay_2 : decode cX8_takeDay 2 = .ok (.iload_n 2, 1) := by decide +kernel
theorem dX8_takeDay_3 : decode cX8_takeDay 3 = .ok (.iconst 0, 1) := by decide +kernel
theorem dX8_takeDay_4 : decode cX8_takeDay 4 = .ok (.sipush 999, 3) := by decide +kernel
theorem dX8_takeDay_7 : decode cX8_takeDay 7 = .ok (.invokevirtual 132, 3) := by decide +kernel
theorem dX8_takeDay_10 : decode cX8_takeDay 10 = .ok (.istore_n 3, 1) := by decide +kernel
theorem dX8_takeDay_11 : decode cX8_takeDay 11 = .ok (.iconst 0, 1) := by decide +kernel
theorem dX8_takeDay_12 : decode cX8_takeDay 12 = .ok (.istore 4, 2) := by decide +kernel
theorem dX8_takeDay_14 : decode cX8_takeDay 14 = .ok (.iload 4, 2) := by decide +kernel
theorem dX8_takeDay_16 : decode cX8_takeDay 16 = .ok (.iload_n 2, 1) := by decide +kernel
theorem dX8_takeDay_17 : decode cX8_takeDay 17 = .ok (.if_icmp .ge 38, 3) := by decide +kernel
theorem dX8_takeDay_20 : decode cX8_takeDay 20 = .ok (.iload_n 3, 1) := by decide +kernel
theorem dX8_takeDay_21 : decode cX8_takeDay 21 = .ok (.ifCond .ne 34, 3) := by decide +kernel
theorem dX8_takeDay_24 : decode cX8_takeDay 24 = .ok (.aload_n 1, 1) := by decide +kernel
theorem dX8_takeDay_25 : decode cX8_takeDay 25 = .ok (.iload 4, 2) := by decide +kernel
theorem dX8_takeDay_27 : decode cX8_takeDay 27 = .ok (.iaload, 1) := by decide +kernel
theorem dX8_takeDay_28 : decode cX8_takeDay 28 = .ok (.aload_n 0, 1) := by decide +kernel
theorem dX8_takeDay_29 : decode cX8_takeDay 29 = .ok (.getfield 126, 3) := by decide +kernel
theorem dX8_takeDay_32 : decode cX8_takeDay 32 = .ok (.if_icmp .ne 15, 3) := by decide +kernel
theorem dX8_takeDay_35 : decode cX8_takeDay 35 = .ok (.aload_n 0, 1) := by decide +kernel
theorem dX8_takeDay_36 : decode cX8_takeDay 36 = .ok (.iconst 4, 1) := by decide +kernel
theorem dX8_takeDay_37 : decode cX8_takeDay 37 = .ok (.aload_n 0, 1) := by decide +kernel
theorem dX8_takeDay_38 : decode cX8_takeDay 38 = .ok (.getfield 123, 3) := by decide +kernel
theorem dX8_takeDay_41 : decode cX8_takeDay 41 = .ok (.invokevirtual 119, 3) := by decide +kernel
theorem dX8_takeDay_44 : decode cX8_takeDay 44 = .ok (.goto 4, 3) := by decide +kernel
theorem dX8_takeDay_47 : decode cX8_takeDay 47 = .ok (.iconst 0, 1) := by decide +kernel
theorem dX8_takeDay_48 : decode cX8_takeDay 48 = .ok (.istore_n 3, 1) := by decide +kernel
theorem dX8_takeDay_49 : decode cX8_takeDay 49 = .ok (.iinc 4 1, 3) := by decide +kernel
theorem dX8_takeDay_52 : decode cX8_takeDay 52 = .ok (.goto (-38), 3) := by decide +kernel
theorem dX8_takeDay_55 : decode cX8_takeDay 55 = .ok (.iload_n 3, 1) := by decide +kernel
theorem dX8_takeDay_56 : decode cX8_takeDay 56 = .ok (.ireturn, 1) := by decide +kernel
theorem dX8_takeClause_0 : decode cX8_takeClause 0 = .ok (.aload_n 0, 1) := by decide +kernel
theorem dX8_takeClause_1 : decode cX8_takeClause 1 = .ok (.invokevirtual 111, 3) := by decide +kernel
theorem dX8_takeClause_4 : decode cX8_takeClause 4 = .ok (.istore_n 1, 1) := by decide +kernel
theorem dX8_takeClause_5 : decode cX8_takeClause 5 = .ok (.iload_n 1, 1) := by decide +kernel
theorem dX8_takeClause_6 : decode cX8_takeClause 6 = .ok (.bipush 104, 2) := by decide +kernel
theorem dX8_takeClause_8 : decode cX8_takeClause 8 = .ok (.if_icmp .ne 7, 3) := by decide +kernel
theorem dX8_takeClause_11 : decode cX8_takeClause 11 = .ok (.iconst 0, 1) := by decide +kernel
theorem dX8_takeClause_12 : decode cX8_takeClause 12 = .ok (.goto 34, 3) := by decide +kernel
theorem dX8_takeClause_15 : decode cX8_takeClause 15 = .ok (.iload_n 1, 1) := by decide +kernel
theorem dX8_takeClause_16 : decode cX8_takeClause 16 = .ok (.bipush 118, 2) := by decide +kernel
theorem dX8_takeClause_18 : decode cX8_takeClause 18 = .ok (.if_icmp .ne 7, 3) := by decide +kernel
theorem dX8_takeClause_21 : decode cX8_takeClause 21 = .ok (.iconst 1, 1) := by decide +kernel
theorem dX8_takeClause_22 : decode cX8_takeClause 22 = .ok (.goto 24, 3) := by decide +kernel
theorem dX8_takeClause_25 : decode cX8_takeClause 25 = .ok (.iload_n 1, 1) := by decide +kernel
theorem dX8_takeClause_26 : decode cX8_takeClause 26 = .ok (.bipush 102, 2) := by decide +kernel
theorem dX8_takeClause_28 : decode cX8_takeClause 28 = .ok (.if_icmp .ne 7, 3) := by decide +kernel
theorem dX8_takeClause_31 : decode cX8_takeClause 31 = .ok (.iconst 2, 1) := by decide +kernel
theorem dX8_takeClause_32 : decode cX8_takeClause 32 = .ok (.goto 14, 3) := by decide +kernel
theorem dX8_takeClause_35 : decode cX8_takeClause 35 = .ok (.iload_n 1, 1) := by decide +kernel
theorem dX8_takeClause_36 : decode cX8_takeClause 36 = .ok (.bipush 103, 2) := by decide +kernel
theorem dX8_takeClause_38 : decode cX8_takeClause 38 = .ok (.if_icmp .ne 7, 3) := by decide +kernel
theorem dX8_takeClause_41 : decode cX8_takeClause 41 = .ok (.iconst 3, 1) := by decide +kernel
theorem dX8_takeClause_42 : decode cX8_takeClause 42 = .ok (.goto 4, 3) := by decide +kernel
theorem dX8_takeClause_45 : decode cX8_takeClause 45 = .ok (.iconst (-1), 1) := by decide +kernel
theorem dX8_takeClause_46 : decode cX8_takeClause 46 = .ok (.istore_n 2, 1) := by decide +kernel
theorem dX8_takeClause_47 : decode cX8_takeClause 47 = .ok (.iload_n 2, 1) := by decide +kernel
theorem dX8_takeClause_48 : decode cX8_takeClause 48 = .ok (.ifCond .lt 16, 3) := by decide +kernel
theorem dX8_takeClause_51 : decode cX8_takeClause 51 = .ok (.iload_n 2, 1) := by decide +kernel
theorem dX8_takeClause_52 : decode cX8_takeClause 52 = .ok (.ifCond .le 22, 3) := by decide +kernel
theorem dX8_takeClause_55 : decode cX8_takeClause 55 = .ok (.aload_n 0, 1) := by decide +kernel
theorem dX8_takeClause_56 : decode cX8_takeClause 56 = .ok (.getfield 35, 3) := by decide +kernel
theorem dX8_takeClause_59 : decode cX8_takeClause 59 = .ok (.iconst 0, 1) := by decide +kernel
theorem dX8_takeClause_60 : decode cX8_takeClause 60 = .ok (.iaload, 1) := by decide +kernel
theorem dX8_takeClause_61 : decode cX8_takeClause 61 = .ok (.ifCond .ne 13, 3) := by decide +kernel
theorem dX8_takeClause_64 : decode cX8_takeClause 64 = .ok (.aload_n 0, 1) := by decide +kernel
theorem dX8_takeClause_65 : decode cX8_takeClause 65 = .ok (.iconst 1, 1) := by decide +kernel
theorem dX8_takeClause_66 : decode cX8_takeClause 66 = .ok (.aload_n 0, 1) := by decide +kernel
theorem dX8_takeClause_67 : decode cX8_takeClause 67 = .ok (.getfield 108, 3) := by decide +kernel
theorem dX8_takeClause_70 : decode cX8_takeClause 70 = .ok (.invokevirtual 119, 3) := by decide +kernel
theorem dX8_takeClause_73 : decode cX8_takeClause 73 = .ok (.ireturn, 1) := by decide +kernel
theorem dX8_takeClause_74 : decode cX8_takeClause 74 = .ok (.iload_n 2, 1) := by decide +kernel
theorem dX8_takeClause_75 : decode cX8_takeClause 75 = .ok (.ifCond .ne 20, 3) := by decide +kernel
theorem dX8_takeClause_78 : decode cX8_takeClause 78 = .ok (.aload_n 0, 1) := by decide +kernel
theorem dX8_takeClause_79 : decode cX8_takeClause 79 = .ok (.getfield 35, 3) := by decide +kernel
theorem dX8_takeClause_82 : decode cX8_takeClause 82 = .ok (.iconst 0, 1) := by decide +kernel
theorem dX8_takeClause_83 : decode cX8_takeClause 83 = .ok (.iaload, 1) := by decide +kernel
theorem dX8_takeClause_84 : decode cX8_takeClause 84 = .ok (.ifCond .le 7, 3) := by decide +kernel
theorem dX8_takeClause_87 : decode cX8_takeClause 87 = .ok (.iconst 1, 1) := by decide +kernel
theorem dX8_takeClause_88 : decode cX8_takeClause 88 = .ok (.goto 65, 3) := by decide +kernel
theorem dX8_takeClause_91 : decode cX8_takeClause 91 = .ok (.iconst 0, 1) := by decide +kernel
theorem dX8_takeClause_92 : decode cX8_takeClause 92 = .ok (.goto 61, 3) := by decide +kernel
theorem dX8_takeClause_95 : decode cX8_takeClause 95 = .ok (.iload_n 2, 1) := by decide +kernel
theorem dX8_takeClause_96 : decode cX8_takeClause 96 = .ok (.iconst 1, 1) := by decide +kernel
theorem dX8_takeClause_97 : decode cX8_takeClause 97 = .ok (.if_icmp .ne 20, 3) := by decide +kernel
theorem dX8_takeClause_100 : decode cX8_takeClause 100 = .ok (.aload_n 0, 1) := by decide +kernel
theorem dX8_takeClause_101 : decode cX8_takeClause 101 = .ok (.getfield 136, 3) := by decide +kernel
theorem dX8_takeClause_104 : decode cX8_takeClause 104 = .ok (.bipush 8, 2) := by decide +kernel
theorem dX8_takeClause_106 : decode cX8_takeClause 106 = .ok (.if_icmp .ne 7, 3) := by decide +kernel
theorem dX8_takeClause_109 : decode cX8_takeClause 109 = .ok (.iconst 1, 1) := by decide +kernel
theorem dX8_takeClause_110 : decode cX8_takeClause 110 = .ok (.goto 43, 3) := by decide +kernel
theorem dX8_takeClause_113 : decode cX8_takeClause 113 = .ok (.iconst 0, 1) := by decide +kernel
theorem dX8_takeClause_114 : decode cX8_takeClause 114 = .ok (.goto 39, 3) := by decide +kernel
theorem dX8_takeClause_117 : decode cX8_takeClause 117 = .ok (.iload_n 2, 1) := by decide +kernel
theorem dX8_takeClause_118 : decode cX8_takeClause 118 = .ok (.iconst 2, 1) := by decide +kernel
theorem dX8_takeClause_119 : decode cX8_takeClause 119 = .ok (.if_icmp .ne 20, 3) := by decide +kernel
theorem dX8_takeClause_122 : decode cX8_takeClause 122 = .ok (.aload_n 0, 1) := by decide +kernel
theorem dX8_takeClause_123 : decode cX8_takeClause 123 = .ok (.getfield 139, 3) := by decide +kernel
theorem dX8_takeClause_126 : decode cX8_takeClause 126 = .ok (.bipush 8, 2) := by decide +kernel
theorem dX8_takeClause_128 : decode cX8_takeClause 128 = .ok (.if_icmp .ne 7, 3) := by decide +kernel
theorem dX8_takeClause_131 : decode cX8_takeClause 131 = .ok (.iconst 1, 1) := by decide +kernel
theorem dX8_takeClause_132 : decode cX8_takeClause 132 = .ok (.goto 21, 3) := by decide +kernel
theorem dX8_takeClause_135 : decode cX8_takeClause 135 = .ok (.iconst 0, 1) := by decide +kernel
theorem dX8_takeClause_136 : decode cX8_takeClause 136 = .ok (.goto 17, 3) := by decide +kernel
theorem dX8_takeClause_139 : decode cX8_takeClause 139 = .ok (.aload_n 0, 1) := by decide +kernel
theorem dX8_takeClause_140 : decode cX8_takeClause 140 = .ok (.getfield 142, 3) := by decide +kernel
theorem dX8_takeClause_143 : decode cX8_takeClause 143 = .ok (.bipush 8, 2) := by decide +kernel
theorem dX8_takeClause_145 : decode cX8_takeClause 145 = .ok (.if_icmp .ne 7, 3) := by decide +kernel
theorem dX8_takeClause_148 : decode cX8_takeClause 148 = .ok (.iconst 1, 1) := by decide +kernel
theorem dX8_takeClause_149 : decode cX8_takeClause 149 = .ok (.goto 4, 3) := by decide +kernel
theorem dX8_takeClause_152 : decode cX8_takeClause 152 = .ok (.iconst 0, 1) := by decide +kernel
theorem dX8_takeClause_153 : decode cX8_takeClause 153 = .ok (.istore_n 3, 1) := by decide +kernel
theorem dX8_takeClause_154 : decode cX8_takeClause 154 = .ok (.iload_n 3, 1) := by decide +kernel
theorem dX8_takeClause_155 : decode cX8_takeClause 155 = .ok (.ifCond .eq 13, 3) := by decide +kernel
theorem dX8_takeClause_158 : decode cX8_takeClause 158 = .ok (.aload_n 0, 1) := by decide +kernel
theorem dX8_takeClause_159 : decode cX8_takeClause 159 = .ok (.iconst 3, 1) := by decide +kernel
theorem dX8_takeClause_160 : decode cX8_takeClause 160 = .ok (.aload_n 0, 1) := by decide +kernel
theorem dX8_takeClause_161 : decode cX8_takeClause 161 = .ok (.getfield 108, 3) := by decide +kernel
theorem dX8_takeClause_164 : decode cX8_takeClause 164 = .ok (.invokevirtual 119, 3) := by decide +kernel
theorem dX8_takeClause_167 : decode cX8_takeClause 167 = .ok (.ireturn, 1) := by decide +kernel
theorem dX8_takeClause_168 : decode cX8_takeClause 168 = .ok (.aload_n 0, 1) := by decide +kernel
theorem dX8_takeClause_169 : decode cX8_takeClause 169 = .ok (.dup, 1) := by decide +kernel
theorem dX8_takeClause_170 : decode cX8_takeClause 170 = .ok (.getfield 108, 3) := by decide +kernel
theorem dX8_takeClause_173 : decode cX8_takeClause 173 = .ok (.iconst 1, 1) := by decide +kernel
theorem dX8_takeClause_174 : decode cX8_takeClause 174 = .ok (.iadd, 1) := by decide +kernel
theorem dX8_takeClause_175 : decode cX8_takeClause 175 = .ok (.putfield 108, 3) := by decide +kernel
theorem dX8_takeClause_178 : decode cX8_takeClause 178 = .ok (.iload_n 2, 1) := by decide +kernel
theorem dX8_takeClause_179 : decode cX8_takeClause 179 = .ok (.ifCond .ne 10, 3) := by decide +kernel
theorem dX8_takeClause_182 : decode cX8_takeClause 182 = .ok (.aload_n 0, 1) := by decide +kernel
theorem dX8_takeClause_183 : decode cX8_takeClause 183 = .ok (.invokevirtual 145, 3) := by decide +kernel
theorem dX8_takeClause_186 : decode cX8_takeClause 186 = .ok (.goto 47, 3) := by decide +kernel
theorem dX8_takeClause_189 : decode cX8_takeClause 189 = .ok (.iload_n 2, 1) := by decide +kernel
theorem dX8_takeClause_190 : decode cX8_takeClause 190 = .ok (.iconst 1, 1) := by decide +kernel
theorem dX8_takeClause_191 : decode cX8_takeClause 191 = .ok (.if_icmp .ne 10, 3) := by decide +kernel
theorem dX8_takeClause_194 : decode cX8_takeClause 194 = .ok (.aload_n 0, 1) := by decide +kernel
theorem dX8_takeClause_195 : decode cX8_takeClause 195 = .ok (.invokevirtual 148, 3) := by decide +kernel
theorem dX8_takeClause_198 : decode cX8_takeClause 198 = .ok (.goto 35, 3) := by decide +kernel
theorem dX8_takeClause_201 : decode cX8_takeClause 201 = .ok (.iload_n 2, 1) := by decide +kernel
theorem dX8_takeClause_202 : decode cX8_takeClause 202 = .ok (.iconst 2, 1) := by decide +kernel
theorem dX8_takeClause_203 : decode cX8_takeClause 203 = .ok (.if_icmp .ne 18, 3) := by decide +kernel
theorem dX8_takeClause_206 : decode cX8_takeClause 206 = .ok (.aload_n 0, 1) := by decide +kernel
theorem dX8_takeClause_207 : decode cX8_takeClause 207 = .ok (.aload_n 0, 1) := by decide +kernel
theorem dX8_takeClause_208 : decode cX8_takeClause 208 = .ok (.getfield 50, 3) := by decide +kernel
theorem dX8_takeClause_211 : decode cX8_takeClause 211 = .ok (.aload_n 0, 1) := by decide +kernel
theorem dX8_takeClause_212 : decode cX8_takeClause 212 = .ok (.getfield 139, 3) := by decide +kernel
theorem dX8_takeClause_215 : decode cX8_takeClause 215 = .ok (.invokevirtual 151, 3) := by decide +kernel
theorem dX8_takeClause_218 : decode cX8_takeClause 218 = .ok (.goto 15, 3) := by decide +kernel
theorem dX8_takeClause_221 : decode cX8_takeClause 221 = .ok (.aload_n 0, 1) := by decide +kernel
theorem dX8_takeClause_222 : decode cX8_takeClause 222 = .ok (.aload_n 0, 1) := by decide +kernel
theorem dX8_takeClause_223 : decode cX8_takeClause 223 = .ok (.getfield 53, 3) := by decide +kernel
theorem dX8_takeClause_226 : decode cX8_takeClause 226 = .ok (.aload_n 0, 1) := by decide +kernel
theorem dX8_takeClause_227 : decode cX8_takeClause 227 = .ok (.getfield 142, 3) := by decide +kernel
theorem dX8_takeClause_230 : decode cX8_takeClause 230 = .ok (.invokevirtual 151, 3) := by decide +kernel
theorem dX8_takeClause_233 : decode cX8_takeClause 233 = .ok (.istore 4, 2) := by decide +kernel
theorem dX8_takeClause_235 : decode cX8_takeClause 235 = .ok (.aload_n 0, 1) := by decide +kernel
theorem dX8_takeClause_236 : decode cX8_takeClause 236 = .ok (.dup, 1) := by decide +kernel
theorem dX8_takeClause_237 : decode cX8_takeClause 237 = .ok (.getfield 139, 3) := by decide +kernel
theorem dX8_takeClause_240 : decode cX8_takeClause 240 = .ok (.iload_n 2, 1) := by decide +kernel
theorem dX8_takeClause_241 : decode cX8_takeClause 241 = .ok (.iconst 2, 1) := by decide +kernel
theorem dX8_takeClause_242 : decode cX8_takeClause 242 = .ok (.if_icmp .ne 7, 3) := by decide +kernel
theorem dX8_takeClause_245 : decode cX8_takeClause 245 = .ok (.iconst 1, 1) := by decide +kernel
theorem dX8_takeClause_246 : decode cX8_takeClause 246 = .ok (.goto 4, 3) := by decide +kernel
theorem dX8_takeClause_249 : decode cX8_takeClause 249 = .ok (.iconst 0, 1) := by decide +kernel
theorem dX8_takeClause_250 : decode cX8_takeClause 250 = .ok (.iadd, 1) := by decide +kernel
theorem dX8_takeClause_251 : decode cX8_takeClause 251 = .ok (.putfield 139, 3) := by decide +kernel
theorem dX8_takeClause_254 : decode cX8_takeClause 254 = .ok (.aload_n 0, 1) := by decide +kernel
theorem dX8_takeClause_255 : decode cX8_takeClause 255 = .ok (.dup, 1) := by decide +kernel
theorem dX8_takeClause_256 : decode cX8_takeClause 256 = .ok (.getfield 142, 3) := by decide +kernel
theorem dX8_takeClause_259 : decode cX8_takeClause 259 = .ok (.iload_n 2, 1) := by decide +kernel
theorem dX8_takeClause_260 : decode cX8_takeClause 260 = .ok (.iconst 3, 1) := by decide +kernel
theorem dX8_takeClause_261 : decode cX8_takeClause 261 = .ok (.if_icmp .ne 7, 3) := by decide +kernel
theorem dX8_takeClause_264 : decode cX8_takeClause 264 = .ok (.iconst 1, 1) := by decide +kernel
theorem dX8_takeClause_265 : decode cX8_takeClause 265 = .ok (.goto 4, 3) := by decide +kernel
theorem dX8_takeClause_268 : decode cX8_takeClause 268 = .ok (.iconst 0, 1) := by decide +kernel
theorem dX8_takeClause_269 : decode cX8_takeClause 269 = .ok (.iadd, 1) := by decide +kernel
theorem dX8_takeClause_270 : decode cX8_takeClause 270 = .ok (.putfield 142, 3) := by decide +kernel
theorem dX8_takeClause_273 : decode cX8_takeClause 273 = .ok (.iload 4, 2) := by decide +kernel
theorem dX8_takeClause_275 : decode cX8_takeClause 275 = .ok (.ifCond .ne 22, 3) := by decide +kernel
theorem dX8_takeClause_278 : decode cX8_takeClause 278 = .ok (.aload_n 0, 1) := by decide +kernel
theorem dX8_takeClause_279 : decode cX8_takeClause 279 = .ok (.invokevirtual 111, 3) := by decide +kernel
theorem dX8_takeClause_282 : decode cX8_takeClause 282 = .ok (.bipush 59, 2) := by decide +kernel
theorem dX8_takeClause_284 : decode cX8_takeClause 284 = .ok (.if_icmp .eq 13, 3) := by decide +kernel
theorem dX8_takeClause_287 : decode cX8_takeClause 287 = .ok (.aload_n 0, 1) := by decide +kernel
theorem dX8_takeClause_288 : decode cX8_takeClause 288 = .ok (.iconst 1, 1) := by decide +kernel
theorem dX8_takeClause_289 : decode cX8_takeClause 289 = .ok (.aload_n 0, 1) := by decide +kernel
theorem dX8_takeClause_290 : decode cX8_takeClause 290 = .ok (.getfield 108, 3) := by decide +kernel
theorem dX8_takeClause_293 : decode cX8_takeClause 293 = .ok (.invokevirtual 119, 3) := by decide +kernel
theorem dX8_takeClause_296 : decode cX8_takeClause 296 = .ok (.ireturn, 1) := by decide +kernel
theorem dX8_takeClause_297 : decode cX8_takeClause 297 = .ok (.aload_n 0, 1) := by decide +kernel
theorem dX8_takeClause_298 : decode cX8_takeClause 298 = .ok (.dup, 1) := by decide +kernel
theorem dX8_takeClause_299 : decode cX8_takeClause 299 = .ok (.getfield 108, 3) := by decide +kernel
theorem dX8_takeClause_302 : decode cX8_takeClause 302 = .ok (.iconst 1, 1) := by decide +kernel
theorem dX8_takeClause_303 : decode cX8_takeClause 303 = .ok (.iadd, 1) := by decide +kernel
theorem dX8_takeClause_304 : decode cX8_takeClause 304 = .ok (.putfield 108, 3) := by decide +kernel
theorem dX8_takeClause_307 : decode cX8_takeClause 307 = .ok (.iload 4, 2) := by decide +kernel
theorem dX8_takeClause_309 : decode cX8_takeClause 309 = .ok (.ireturn, 1) := by decide +kernel
theorem dX8_takeRead_0 : decode cX8_takeRead 0 = .ok (.aload_n 0, 1) := by decide +kernel
theorem dX8_takeRead_1 : decode cX8_takeRead 1 = .ok (.aload_n 0, 1) := by decide +kernel
theorem dX8_takeRead_2 : decode cX8_takeRead 2 = .ok (.getfield 35, 3) := by decide +kernel
theorem dX8_takeRead_5 : decode cX8_takeRead 5 = .ok (.iconst 0, 1) := by decide +kernel
theorem dX8_takeRead_6 : decode cX8_takeRead 6 = .ok (.iaload, 1) := by decide +kernel
theorem dX8_takeRead_7 : decode cX8_takeRead 7 = .ok (.putfield 155, 3) := by decide +kernel
theorem dX8_takeRead_10 : decode cX8_takeRead 10 = .ok (.aload_n 0, 1) := by decide +kernel
theorem dX8_takeRead_11 : decode cX8_takeRead 11 = .ok (.aload_n 0, 1) := by decide +kernel
theorem dX8_takeRead_12 : decode cX8_takeRead 12 = .ok (.getfield 35, 3) := by decide +kernel
theorem dX8_takeRead_15 : decode cX8_takeRead 15 = .ok (.iconst 1, 1) := by decide +kernel
theorem dX8_takeRead_16 : decode cX8_takeRead 16 = .ok (.iaload, 1) := by decide +kernel
theorem dX8_takeRead_17 : decode cX8_takeRead 17 = .ok (.putfield 158, 3) := by decide +kernel
theorem dX8_takeRead_20 : decode cX8_takeRead 20 = .ok (.aload_n 0, 1) := by decide +kernel
theorem dX8_takeRead_21 : decode cX8_takeRead 21 = .ok (.aload_n 0, 1) := by decide +kernel
theorem dX8_takeRead_22 : decode cX8_takeRead 22 = .ok (.getfield 35, 3) := by decide +kernel
theorem dX8_takeRead_25 : decode cX8_takeRead 25 = .ok (.iconst 2, 1) := by decide +kernel
theorem dX8_takeRead_26 : decode cX8_takeRead 26 = .ok (.iaload, 1) := by decide +kernel
theorem dX8_takeRead_27 : decode cX8_takeRead 27 = .ok (.putfield 161, 3) := by decide +kernel
theorem dX8_takeRead_30 : decode cX8_takeRead 30 = .ok (.aload_n 0, 1) := by decide +kernel
theorem dX8_takeRead_31 : decode cX8_takeRead 31 = .ok (.aload_n 0, 1) := by decide +kernel
theorem dX8_takeRead_32 : decode cX8_takeRead 32 = .ok (.getfield 136, 3) := by decide +kernel
theorem dX8_takeRead_35 : decode cX8_takeRead 35 = .ok (.putfield 94, 3) := by decide +kernel
theorem dX8_takeRead_38 : decode cX8_takeRead 38 = .ok (.aload_n 0, 1) := by decide +kernel
theorem dX8_takeRead_39 : decode cX8_takeRead 39 = .ok (.aload_n 0, 1) := by decide +kernel
theorem dX8_takeRead_40 : decode cX8_takeRead 40 = .ok (.getfield 139, 3) := by decide +kernel
theorem dX8_takeRead_43 : decode cX8_takeRead 43 = .ok (.putfield 164, 3) := by decide +kernel
theorem dX8_takeRead_46 : decode cX8_takeRead 46 = .ok (.aload_n 0, 1) := by decide +kernel
theorem dX8_takeRead_47 : decode cX8_takeRead 47 = .ok (.aload_n 0, 1) := by decide +kernel
theorem dX8_takeRead_48 : decode cX8_takeRead 48 = .ok (.getfield 142, 3) := by decide +kernel
theorem dX8_takeRead_51 : decode cX8_takeRead 51 = .ok (.putfield 167, 3) := by decide +kernel
theorem dX8_takeRead_54 : decode cX8_takeRead 54 = .ok (.iconst 0, 1) := by decide +kernel
theorem dX8_takeRead_55 : decode cX8_takeRead 55 = .ok (.istore_n 1, 1) := by decide +kernel
theorem dX8_takeRead_56 : decode cX8_takeRead 56 = .ok (.iload_n 1, 1) := by decide +kernel
theorem dX8_takeRead_57 : decode cX8_takeRead 57 = .ok (.bipush 103, 2) := by decide +kernel
theorem dX8_takeRead_59 : decode cX8_takeRead 59 = .ok (.if_icmp .ge 26, 3) := by decide +kernel
theorem dX8_takeRead_62 : decode cX8_takeRead 62 = .ok (.aload_n 0, 1) := by decide +kernel
theorem dX8_takeRead_63 : decode cX8_takeRead 63 = .ok (.getfield 25, 3) := by decide +kernel
theorem dX8_takeRead_66 : decode cX8_takeRead 66 = .ok (.iload_n 1, 1) := by decide +kernel
theorem dX8_takeRead_67 : decode cX8_takeRead 67 = .ok (.iload_n 1, 1) := by decide +kernel
theorem dX8_takeRead_68 : decode cX8_takeRead 68 = .ok (.bipush 18, 2) := by decide +kernel
theorem dX8_takeRead_70 : decode cX8_takeRead 70 = .ok (.if_icmp .ge 7, 3) := by decide +kernel
theorem dX8_takeRead_73 : decode cX8_takeRead 73 = .ok (.iconst 0, 1) := by decide +kernel
theorem dX8_takeRead_74 : decode cX8_takeRead 74 = .ok (.goto 4, 3) := by decide +kernel
theorem dX8_takeRead_77 : decode cX8_takeRead 77 = .ok (.iconst (-1), 1) := by decide +kernel
theorem dX8_takeRead_78 : decode cX8_takeRead 78 = .ok (.iastore, 1) := by decide +kernel
theorem dX8_takeRead_79 : decode cX8_takeRead 79 = .ok (.iinc 1 1, 3) := by decide +kernel
theorem dX8_takeRead_82 : decode cX8_takeRead 82 = .ok (.goto (-26), 3) := by decide +kernel
theorem dX8_takeRead_85 : decode cX8_takeRead 85 = .ok (.iconst 0, 1) := by decide +kernel
theorem dX8_takeRead_86 : decode cX8_takeRead 86 = .ok (.istore_n 1, 1) := by decide +kernel
theorem dX8_takeRead_87 : decode cX8_takeRead 87 = .ok (.iload_n 1, 1) := by decide +kernel
theorem dX8_takeRead_88 : decode cX8_takeRead 88 = .ok (.aload_n 0, 1) := by decide +kernel
theorem dX8_takeRead_89 : decode cX8_takeRead 89 = .ok (.getfield 94, 3) := by decide +kernel
theorem dX8_takeRead_92 : decode cX8_takeRead 92 = .ok (.if_icmp .ge 60, 3) := by decide +kernel
theorem dX8_takeRead_95 : decode cX8_takeRead 95 = .ok (.aload_n 0, 1) := by decide +kernel
theorem dX8_takeRead_96 : decode cX8_takeRead 96 = .ok (.getfield 7, 3) := by decide +kernel
theorem dX8_takeRead_99 : decode cX8_takeRead 99 = .ok (.iload_n 1, 1) := by decide +kernel
theorem dX8_takeRead_100 : decode cX8_takeRead 100 = .ok (.aload_n 0, 1) := by decide +kernel
theorem dX8_takeRead_101 : decode cX8_takeRead 101 = .ok (.getfield 38, 3) := by decide +kernel
theorem dX8_takeRead_104 : decode cX8_takeRead 104 = .ok (.iload_n 1, 1) := by decide +kernel
theorem dX8_takeRead_105 : decode cX8_takeRead 105 = .ok (.iaload, 1) := by decide +kernel
theorem dX8_takeRead_106 : decode cX8_takeRead 106 = .ok (.iastore, 1) := by decide +kernel
theorem dX8_takeRead_107 : decode cX8_takeRead 107 = .ok (.aload_n 0, 1) := by decide +kernel
theorem dX8_takeRead_108 : decode cX8_takeRead 108 = .ok (.getfield 13, 3) := by decide +kernel
theorem dX8_takeRead_111 : decode cX8_takeRead 111 = .ok (.iload_n 1, 1) := by decide +kernel
theorem dX8_takeRead_112 : decode cX8_takeRead 112 = .ok (.aload_n 0, 1) := by decide +kernel
theorem dX8_takeRead_113 : decode cX8_takeRead 113 = .ok (.getfield 41, 3) := by decide +kernel
theorem dX8_takeRead_116 : decode cX8_takeRead 116 = .ok (.iload_n 1, 1) := by decide +kernel
theorem dX8_takeRead_117 : decode cX8_takeRead 117 = .ok (.iaload, 1) := by decide +kernel
theorem dX8_takeRead_118 : decode cX8_takeRead 118 = .ok (.iastore, 1) := by decide +kernel
theorem dX8_takeRead_119 : decode cX8_takeRead 119 = .ok (.aload_n 0, 1) := by decide +kernel
theorem dX8_takeRead_120 : decode cX8_takeRead 120 = .ok (.getfield 16, 3) := by decide +kernel
theorem dX8_takeRead_123 : decode cX8_takeRead 123 = .ok (.iload_n 1, 1) := by decide +kernel
theorem dX8_takeRead_124 : decode cX8_takeRead 124 = .ok (.aload_n 0, 1) := by decide +kernel
theorem dX8_takeRead_125 : decode cX8_takeRead 125 = .ok (.getfield 47, 3) := by decide +kernel
theorem dX8_takeRead_128 : decode cX8_takeRead 128 = .ok (.iload_n 1, 1) := by decide +kernel
theorem dX8_takeRead_129 : decode cX8_takeRead 129 = .ok (.iaload, 1) := by decide +kernel
theorem dX8_takeRead_130 : decode cX8_takeRead 130 = .ok (.iastore, 1) := by decide +kernel
theorem dX8_takeRead_131 : decode cX8_takeRead 131 = .ok (.aload_n 0, 1) := by decide +kernel
theorem dX8_takeRead_132 : decode cX8_takeRead 132 = .ok (.getfield 25, 3) := by decide +kernel
theorem dX8_takeRead_135 : decode cX8_takeRead 135 = .ok (.bipush 10, 2) := by decide +kernel
theorem dX8_takeRead_137 : decode cX8_takeRead 137 = .ok (.iload_n 1, 1) := by decide +kernel
theorem dX8_takeRead_138 : decode cX8_takeRead 138 = .ok (.iadd, 1) := by decide +kernel
theorem dX8_takeRead_139 : decode cX8_takeRead 139 = .ok (.aload_n 0, 1) := by decide +kernel
theorem dX8_takeRead_140 : decode cX8_takeRead 140 = .ok (.getfield 44, 3) := by decide +kernel
theorem dX8_takeRead_143 : decode cX8_takeRead 143 = .ok (.iload_n 1, 1) := by decide +kernel
theorem dX8_takeRead_144 : decode cX8_takeRead 144 = .ok (.iaload, 1) := by decide +kernel
theorem dX8_takeRead_145 : decode cX8_takeRead 145 = .ok (.iastore, 1) := by decide +kernel
theorem dX8_takeRead_146 : decode cX8_takeRead 146 = .ok (.iinc 1 1, 3) := by decide +kernel
theorem dX8_takeRead_149 : decode cX8_takeRead 149 = .ok (.goto (-62), 3) := by decide +kernel
theorem dX8_takeRead_152 : decode cX8_takeRead 152 = .ok (.iconst 0, 1) := by decide +kernel
theorem dX8_takeRead_153 : decode cX8_takeRead 153 = .ok (.istore_n 1, 1) := by decide +kernel
theorem dX8_takeRead_154 : decode cX8_takeRead 154 = .ok (.iload_n 1, 1) := by decide +kernel
theorem dX8_takeRead_155 : decode cX8_takeRead 155 = .ok (.bipush 8, 2) := by decide +kernel
theorem dX8_takeRead_157 : decode cX8_takeRead 157 = .ok (.if_icmp .ge 33, 3) := by decide +kernel
theorem dX8_takeRead_160 : decode cX8_takeRead 160 = .ok (.aload_n 0, 1) := by decide +kernel
theorem dX8_takeRead_161 : decode cX8_takeRead 161 = .ok (.getfield 19, 3) := by decide +kernel
theorem dX8_takeRead_164 : decode cX8_takeRead 164 = .ok (.iload_n 1, 1) := by decide +kernel
theorem dX8_takeRead_165 : decode cX8_takeRead 165 = .ok (.aload_n 0, 1) := by decide +kernel
theorem dX8_takeRead_166 : decode cX8_takeRead 166 = .ok (.getfield 50, 3) := by decide +kernel
theorem dX8_takeRead_169 : decode cX8_takeRead 169 = .ok (.iload_n 1, 1) := by decide +kernel
theorem dX8_takeRead_170 : decode cX8_takeRead 170 = .ok (.iaload, 1) := by decide +kernel
theorem dX8_takeRead_171 : decode cX8_takeRead 171 = .ok (.iastore, 1) := by decide +kernel
theorem dX8_takeRead_172 : decode cX8_takeRead 172 = .ok (.aload_n 0, 1) := by decide +kernel
theorem dX8_takeRead_173 : decode cX8_takeRead 173 = .ok (.getfield 22, 3) := by decide +kernel
theorem dX8_takeRead_176 : decode cX8_takeRead 176 = .ok (.iload_n 1, 1) := by decide +kernel
theorem dX8_takeRead_177 : decode cX8_takeRead 177 = .ok (.aload_n 0, 1) := by decide +kernel
theorem dX8_takeRead_178 : decode cX8_takeRead 178 = .ok (.getfield 53, 3) := by decide +kernel
theorem dX8_takeRead_181 : decode cX8_takeRead 181 = .ok (.iload_n 1, 1) := by decide +kernel
theorem dX8_takeRead_182 : decode cX8_takeRead 182 = .ok (.iaload, 1) := by decide +kernel
theorem dX8_takeRead_183 : decode cX8_takeRead 183 = .ok (.iastore, 1) := by decide +kernel
theorem dX8_takeRead_184 : decode cX8_takeRead 184 = .ok (.iinc 1 1, 3) := by decide +kernel
theorem dX8_takeRead_187 : decode cX8_takeRead 187 = .ok (.goto (-33), 3) := by decide +kernel
theorem dX8_takeRead_190 : decode cX8_takeRead 190 = .ok (.return_, 1) := by decide +kernel
theorem dX8_rock_0 : decode cX8_rock 0 = .ok (.aload_n 0, 1) := by decide +kernel
theorem dX8_rock_1 : decode cX8_rock 1 = .ok (.iconst (-1), 1) := by decide +kernel
theorem dX8_rock_2 : decode cX8_rock 2 = .ok (.putfield 31, 3) := by decide +kernel
theorem dX8_rock_5 : decode cX8_rock 5 = .ok (.aload_n 0, 1) := by decide +kernel
theorem dX8_rock_6 : decode cX8_rock 6 = .ok (.iconst 0, 1) := by decide +kernel
theorem dX8_rock_7 : decode cX8_rock 7 = .ok (.putfield 108, 3) := by decide +kernel
theorem dX8_rock_10 : decode cX8_rock 10 = .ok (.iconst 0, 1) := by decide +kernel
theorem dX8_rock_11 : decode cX8_rock 11 = .ok (.istore_n 1, 1) := by decide +kernel
theorem dX8_rock_12 : decode cX8_rock 12 = .ok (.iload_n 1, 1) := by decide +kernel
theorem dX8_rock_13 : decode cX8_rock 13 = .ok (.iconst 3, 1) := by decide +kernel
theorem dX8_rock_14 : decode cX8_rock 14 = .ok (.if_icmp .ge 16, 3) := by decide +kernel
theorem dX8_rock_17 : decode cX8_rock 17 = .ok (.aload_n 0, 1) := by decide +kernel
theorem dX8_rock_18 : decode cX8_rock 18 = .ok (.getfield 35, 3) := by decide +kernel
theorem dX8_rock_21 : decode cX8_rock 21 = .ok (.iload_n 1, 1) := by decide +kernel
theorem dX8_rock_22 : decode cX8_rock 22 = .ok (.iconst 0, 1) := by decide +kernel
theorem dX8_rock_23 : decode cX8_rock 23 = .ok (.iastore, 1) := by decide +kernel
theorem dX8_rock_24 : decode cX8_rock 24 = .ok (.iinc 1 1, 3) := by decide +kernel
theorem dX8_rock_27 : decode cX8_rock 27 = .ok (.goto (-15), 3) := by decide +kernel
theorem dX8_rock_30 : decode cX8_rock 30 = .ok (.aload_n 0, 1) := by decide +kernel
theorem dX8_rock_31 : decode cX8_rock 31 = .ok (.iconst 0, 1) := by decide +kernel
theorem dX8_rock_32 : decode cX8_rock 32 = .ok (.putfield 136, 3) := by decide +kernel
theorem dX8_rock_35 : decode cX8_rock 35 = .ok (.aload_n 0, 1) := by decide +kernel
theorem dX8_rock_36 : decode cX8_rock 36 = .ok (.iconst 0, 1) := by decide +kernel
theorem dX8_rock_37 : decode cX8_rock 37 = .ok (.putfield 139, 3) := by decide +kernel
theorem dX8_rock_40 : decode cX8_rock 40 = .ok (.aload_n 0, 1) := by decide +kernel
theorem dX8_rock_41 : decode cX8_rock 41 = .ok (.iconst 0, 1) := by decide +kernel
theorem dX8_rock_42 : decode cX8_rock 42 = .ok (.putfield 142, 3) := by decide +kernel
theorem dX8_rock_45 : decode cX8_rock 45 = .ok (.iconst 0, 1) := by decide +kernel
theorem dX8_rock_46 : decode cX8_rock 46 = .ok (.istore_n 1, 1) := by decide +kernel
theorem dX8_rock_47 : decode cX8_rock 47 = .ok (.iload_n 1, 1) := by decide +kernel
theorem dX8_rock_48 : decode cX8_rock 48 = .ok (.ifCond .ne 18, 3) := by decide +kernel
theorem dX8_rock_51 : decode cX8_rock 51 = .ok (.aload_n 0, 1) := by decide +kernel
theorem dX8_rock_52 : decode cX8_rock 52 = .ok (.invokevirtual 111, 3) := by decide +kernel
theorem dX8_rock_55 : decode cX8_rock 55 = .ok (.ifCond .lt 11, 3) := by decide +kernel
theorem dX8_rock_58 : decode cX8_rock 58 = .ok (.aload_n 0, 1) := by decide +kernel
theorem dX8_rock_59 : decode cX8_rock 59 = .ok (.invokevirtual 170, 3) := by decide +kernel
theorem dX8_rock_62 : decode cX8_rock 62 = .ok (.istore_n 1, 1) := by decide +kernel
theorem dX8_rock_63 : decode cX8_rock 63 = .ok (.goto (-16), 3) := by decide +kernel
theorem dX8_rock_66 : decode cX8_rock 66 = .ok (.aload_n 0, 1) := by decide +kernel
theorem dX8_rock_67 : decode cX8_rock 67 = .ok (.iconst 0, 1) := by decide +kernel
theorem dX8_rock_68 : decode cX8_rock 68 = .ok (.putfield 104, 3) := by decide +kernel
theorem dX8_rock_71 : decode cX8_rock 71 = .ok (.iload_n 1, 1) := by decide +kernel
theorem dX8_rock_72 : decode cX8_rock 72 = .ok (.ifCond .le 8, 3) := by decide +kernel
theorem dX8_rock_75 : decode cX8_rock 75 = .ok (.bipush (-10), 2) := by decide +kernel
theorem dX8_rock_77 : decode cX8_rock 77 = .ok (.iload_n 1, 1) := by decide +kernel
theorem dX8_rock_78 : decode cX8_rock 78 = .ok (.isub, 1) := by decide +kernel
theorem dX8_rock_79 : decode cX8_rock 79 = .ok (.ireturn, 1) := by decide +kernel
theorem dX8_rock_80 : decode cX8_rock 80 = .ok (.aload_n 0, 1) := by decide +kernel
theorem dX8_rock_81 : decode cX8_rock 81 = .ok (.invokevirtual 173, 3) := by decide +kernel
theorem dX8_rock_84 : decode cX8_rock 84 = .ok (.aload_n 0, 1) := by decide +kernel
theorem dX8_rock_85 : decode cX8_rock 85 = .ok (.iconst 0, 1) := by decide +kernel
theorem dX8_rock_86 : decode cX8_rock 86 = .ok (.putfield 176, 3) := by decide +kernel
theorem dX8_rock_89 : decode cX8_rock 89 = .ok (.aload_n 0, 1) := by decide +kernel
theorem dX8_rock_90 : decode cX8_rock 90 = .ok (.iconst 0, 1) := by decide +kernel
theorem dX8_rock_91 : decode cX8_rock 91 = .ok (.putfield 179, 3) := by decide +kernel
theorem dX8_rock_94 : decode cX8_rock 94 = .ok (.aload_n 0, 1) := by decide +kernel
theorem dX8_rock_95 : decode cX8_rock 95 = .ok (.iconst 0, 1) := by decide +kernel
theorem dX8_rock_96 : decode cX8_rock 96 = .ok (.putfield 182, 3) := by decide +kernel
theorem dX8_rock_99 : decode cX8_rock 99 = .ok (.aload_n 0, 1) := by decide +kernel
theorem dX8_rock_100 : decode cX8_rock 100 = .ok (.getfield 90, 3) := by decide +kernel
theorem dX8_rock_103 : decode cX8_rock 103 = .ok (.iconst 0, 1) := by decide +kernel
theorem dX8_rock_104 : decode cX8_rock 104 = .ok (.iconst 0, 1) := by decide +kernel
theorem dX8_rock_105 : decode cX8_rock 105 = .ok (.bastore, 1) := by decide +kernel
theorem dX8_rock_106 : decode cX8_rock 106 = .ok (.aload_n 0, 1) := by decide +kernel
theorem dX8_rock_107 : decode cX8_rock 107 = .ok (.getfield 90, 3) := by decide +kernel
theorem dX8_rock_110 : decode cX8_rock 110 = .ok (.iconst 1, 1) := by decide +kernel
theorem dX8_rock_111 : decode cX8_rock 111 = .ok (.iconst 0, 1) := by decide +kernel
theorem dX8_rock_112 : decode cX8_rock 112 = .ok (.bastore, 1) := by decide +kernel
theorem dX8_rock_113 : decode cX8_rock 113 = .ok (.aload_n 0, 1) := by decide +kernel
theorem dX8_rock_114 : decode cX8_rock 114 = .ok (.getfield 94, 3) := by decide +kernel
theorem dX8_rock_117 : decode cX8_rock 117 = .ok (.ireturn, 1) := by decide +kernel
theorem dX8_fault_0 : decode cX8_fault 0 = .ok (.aload_n 0, 1) := by decide +kernel
theorem dX8_fault_1 : decode cX8_fault 1 = .ok (.getfield 31, 3) := by decide +kernel
theorem dX8_fault_4 : decode cX8_fault 4 = .ok (.ireturn, 1) := by decide +kernel
theorem dX8_told_0 : decode cX8_told 0 = .ok (.iload_n 1, 1) := by decide +kernel
theorem dX8_told_1 : decode cX8_told 1 = .ok (.tableswitch 207 0 18 #[91, 96, 101, 106, 111, 116, 121, 126, 133, 140, 147, 154, 161, 168, 176, 184, 192, 197, 202], 91) := by decide +kernel
theorem dX8_told_92 : decode cX8_told 92 = .ok (.aload_n 0, 1) := by decide +kernel
theorem dX8_told_93 : decode cX8_told 93 = .ok (.getfield 155, 3) := by decide +kernel
theorem dX8_told_96 : decode cX8_told 96 = .ok (.ireturn, 1) := by decide +kernel
theorem dX8_told_97 : decode cX8_told 97 = .ok (.aload_n 0, 1) := by decide +kernel
theorem dX8_told_98 : decode cX8_told 98 = .ok (.getfield 158, 3) := by decide +kernel
theorem dX8_told_101 : decode cX8_told 101 = .ok (.ireturn, 1) := by decide +kernel
theorem dX8_told_102 : decode cX8_told 102 = .ok (.aload_n 0, 1) := by decide +kernel
theorem dX8_told_103 : decode cX8_told 103 = .ok (.getfield 161, 3) := by decide +kernel
theorem dX8_told_106 : decode cX8_told 106 = .ok (.ireturn, 1) := by decide +kernel
theorem dX8_told_107 : decode cX8_told 107 = .ok (.aload_n 0, 1) := by decide +kernel
theorem dX8_told_108 : decode cX8_told 108 = .ok (.getfield 94, 3) := by decide +kernel
theorem dX8_told_111 : decode cX8_told 111 = .ok (.ireturn, 1) := by decide +kernel
theorem dX8_told_112 : decode cX8_told 112 = .ok (.aload_n 0, 1) := by decide +kernel
theorem dX8_told_113 : decode cX8_told 113 = .ok (.getfield 164, 3) := by decide +kernel
theorem dX8_told_116 : decode cX8_told 116 = .ok (.ireturn, 1) := by decide +kernel
theorem dX8_told_117 : decode cX8_told 117 = .ok (.aload_n 0, 1) := by decide +kernel
theorem dX8_told_118 : decode cX8_told 118 = .ok (.getfield 167, 3) := by decide +kernel
theorem dX8_told_121 : decode cX8_told 121 = .ok (.ireturn, 1) := by decide +kernel
theorem dX8_told_122 : decode cX8_told 122 = .ok (.aload_n 0, 1) := by decide +kernel
theorem dX8_told_123 : decode cX8_told 123 = .ok (.getfield 104, 3) := by decide +kernel
theorem dX8_told_126 : decode cX8_told 126 = .ok (.ireturn, 1) := by decide +kernel
theorem dX8_told_127 : decode cX8_told 127 = .ok (.aload_n 0, 1) := by decide +kernel
theorem dX8_told_128 : decode cX8_told 128 = .ok (.getfield 25, 3) := by decide +kernel
theorem dX8_told_131 : decode cX8_told 131 = .ok (.iconst 0, 1) := by decide +kernel
theorem dX8_told_132 : decode cX8_told 132 = .ok (.iaload, 1) := by decide +kernel
theorem dX8_told_133 : decode cX8_told 133 = .ok (.ireturn, 1) := by decide +kernel
theorem dX8_told_134 : decode cX8_told 134 = .ok (.aload_n 0, 1) := by decide +kernel
theorem dX8_told_135 : decode cX8_told 135 = .ok (.getfield 25, 3) := by decide +kernel
theorem dX8_told_138 : decode cX8_told 138 = .ok (.iconst 1, 1) := by decide +kernel
theorem dX8_told_139 : decode cX8_told 139 = .ok (.iaload, 1) := by decide +kernel
theorem dX8_told_140 : decode cX8_told 140 = .ok (.ireturn, 1) := by decide +kernel
theorem dX8_told_141 : decode cX8_told 141 = .ok (.aload_n 0, 1) := by decide +kernel
theorem dX8_told_142 : decode cX8_told 142 = .ok (.getfield 25, 3) := by decide +kernel
theorem dX8_told_145 : decode cX8_told 145 = .ok (.iconst 2, 1) := by decide +kernel
theorem dX8_told_146 : decode cX8_told 146 = .ok (.iaload, 1) := by decide +kernel
theorem dX8_told_147 : decode cX8_told 147 = .ok (.ireturn, 1) := by decide +kernel
theorem dX8_told_148 : decode cX8_told 148 = .ok (.aload_n 0, 1) := by decide +kernel
theorem dX8_told_149 : decode cX8_told 149 = .ok (.getfield 25, 3) := by decide +kernel
theorem dX8_told_152 : decode cX8_told 152 = .ok (.iconst 3, 1) := by decide +kernel
theorem dX8_told_153 : decode cX8_told 153 = .ok (.iaload, 1) := by decide +kernel
theorem dX8_told_154 : decode cX8_told 154 = .ok (.ireturn, 1) := by decide +kernel
theorem dX8_told_155 : decode cX8_told 155 = .ok (.aload_n 0, 1) := by decide +kernel
theorem dX8_told_156 : decode cX8_told 156 = .ok (.getfield 25, 3) := by decide +kernel
theorem dX8_told_159 : decode cX8_told 159 = .ok (.iconst 4, 1) := by decide +kernel
theorem dX8_told_160 : decode cX8_told 160 = .ok (.iaload, 1) := by decide +kernel
theorem dX8_told_161 : decode cX8_told 161 = .ok (.ireturn, 1) := by decide +kernel
theorem dX8_told_162 : decode cX8_told 162 = .ok (.aload_n 0, 1) := by decide +kernel
theorem dX8_told_163 : decode cX8_told 163 = .ok (.getfield 25, 3) := by decide +kernel
theorem dX8_told_166 : decode cX8_told 166 = .ok (.iconst 5, 1) := by decide +kernel
theorem dX8_told_167 : decode cX8_told 167 = .ok (.iaload, 1) := by decide +kernel
theorem dX8_told_168 : decode cX8_told 168 = .ok (.ireturn, 1) := by decide +kernel
theorem dX8_told_169 : decode cX8_told 169 = .ok (.aload_n 0, 1) := by decide +kernel
theorem dX8_told_170 : decode cX8_told 170 = .ok (.getfield 25, 3) := by decide +kernel
theorem dX8_told_173 : decode cX8_told 173 = .ok (.bipush 6, 2) := by decide +kernel
theorem dX8_told_175 : decode cX8_told 175 = .ok (.iaload, 1) := by decide +kernel
theorem dX8_told_176 : decode cX8_told 176 = .ok (.ireturn, 1) := by decide +kernel
theorem dX8_told_177 : decode cX8_told 177 = .ok (.aload_n 0, 1) := by decide +kernel
theorem dX8_told_178 : decode cX8_told 178 = .ok (.getfield 25, 3) := by decide +kernel
theorem dX8_told_181 : decode cX8_told 181 = .ok (.bipush 9, 2) := by decide +kernel
theorem dX8_told_183 : decode cX8_told 183 = .ok (.iaload, 1) := by decide +kernel
theorem dX8_told_184 : decode cX8_told 184 = .ok (.ireturn, 1) := by decide +kernel
theorem dX8_told_185 : decode cX8_told 185 = .ok (.aload_n 0, 1) := by decide +kernel
theorem dX8_told_186 : decode cX8_told 186 = .ok (.getfield 25, 3) := by decide +kernel
theorem dX8_told_189 : decode cX8_told 189 = .ok (.bipush 7, 2) := by decide +kernel
theorem dX8_told_191 : decode cX8_told 191 = .ok (.iaload, 1) := by decide +kernel
theorem dX8_told_192 : decode cX8_told 192 = .ok (.ireturn, 1) := by decide +kernel
theorem dX8_told_193 : decode cX8_told 193 = .ok (.aload_n 0, 1) := by decide +kernel
theorem dX8_told_194 : decode cX8_told 194 = .ok (.getfield 176, 3) := by decide +kernel
theorem dX8_told_197 : decode cX8_told 197 = .ok (.ireturn, 1) := by decide +kernel
theorem dX8_told_198 : decode cX8_told 198 = .ok (.aload_n 0, 1) := by decide +kernel
theorem dX8_told_199 : decode cX8_told 199 = .ok (.getfield 179, 3) := by decide +kernel
theorem dX8_told_202 : decode cX8_told 202 = .ok (.ireturn, 1) := by decide +kernel
theorem dX8_told_203 : decode cX8_told 203 = .ok (.aload_n 0, 1) := by decide +kernel
theorem dX8_told_204 : decode cX8_told 204 = .ok (.getfield 182, 3) := by decide +kernel
theorem dX8_told_207 : decode cX8_told 207 = .ok (.ireturn, 1) := by decide +kernel
theorem dX8_told_208 : decode cX8_told 208 = .ok (.ldc 103, 2) := by decide +kernel
theorem dX8_told_210 : decode cX8_told 210 = .ok (.ireturn, 1) := by decide +kernel
theorem dX8_village_0 : decode cX8_village 0 = .ok (.aload_n 0, 1) := by decide +kernel
theorem dX8_village_1 : decode cX8_village 1 = .ok (.iload_n 1, 1) := by decide +kernel
theorem dX8_village_2 : decode cX8_village 2 = .ok (.invokevirtual 185, 3) := by decide +kernel
theorem dX8_village_5 : decode cX8_village 5 = .ok (.ifCond .ne 6, 3) := by decide +kernel
theorem dX8_village_8 : decode cX8_village 8 = .ok (.ldc 189, 2) := by decide +kernel
theorem dX8_village_10 : decode cX8_village 10 = .ok (.ireturn, 1) := by decide +kernel
theorem dX8_village_11 : decode cX8_village 11 = .ok (.iload_n 2, 1) := by decide +kernel
theorem dX8_village_12 : decode cX8_village 12 = .ok (.tableswitch 93 0 5 #[40, 47, 54, 64, 71, 83], 40) := by decide +kernel
theorem dX8_village_52 : decode cX8_village 52 = .ok (.aload_n 0, 1) := by decide +kernel
theorem dX8_village_53 : decode cX8_village 53 = .ok (.getfield 7, 3) := by decide +kernel
theorem dX8_village_56 : decode cX8_village 56 = .ok (.iload_n 1, 1) := by decide +kernel
theorem dX8_village_57 : decode cX8_village 57 = .ok (.iaload, 1) := by decide +kernel
theorem dX8_village_58 : decode cX8_village 58 = .ok (.ireturn, 1) := by decide +kernel
theorem dX8_village_59 : decode cX8_village 59 = .ok (.aload_n 0, 1) := by decide +kernel
theorem dX8_village_60 : decode cX8_village 60 = .ok (.getfield 13, 3) := by decide +kernel
theorem dX8_village_63 : decode cX8_village 63 = .ok (.iload_n 1, 1) := by decide +kernel
theorem dX8_village_64 : decode cX8_village 64 = .ok (.iaload, 1) := by decide +kernel
theorem dX8_village_65 : decode cX8_village 65 = .ok (.ireturn, 1) := by decide +kernel
theorem dX8_village_66 : decode cX8_village 66 = .ok (.aload_n 0, 1) := by decide +kernel
theorem dX8_village_67 : decode cX8_village 67 = .ok (.getfield 25, 3) := by decide +kernel
theorem dX8_village_70 : decode cX8_village 70 = .ok (.bipush 10, 2) := by decide +kernel
theorem dX8_village_72 : decode cX8_village 72 = .ok (.iload_n 1, 1) := by decide +kernel
theorem dX8_village_73 : decode cX8_village 73 = .ok (.iadd, 1) := by decide +kernel
theorem dX8_village_74 : decode cX8_village 74 = .ok (.iaload, 1) := by decide +kernel
theorem dX8_village_75 : decode cX8_village 75 = .ok (.ireturn, 1) := by decide +kernel
theorem dX8_village_76 : decode cX8_village 76 = .ok (.aload_n 0, 1) := by decide +kernel
theorem dX8_village_77 : decode cX8_village 77 = .ok (.getfield 16, 3) := by decide +kernel
theorem dX8_village_80 : decode cX8_village 80 = .ok (.iload_n 1, 1) := by decide +kernel
theorem dX8_village_81 : decode cX8_village 81 = .ok (.iaload, 1) := by decide +kernel
theorem dX8_village_82 : decode cX8_village 82 = .ok (.ireturn, 1) := by decide +kernel
theorem dX8_village_83 : decode cX8_village 83 = .ok (.aload_n 0, 1) := by decide +kernel
theorem dX8_village_84 : decode cX8_village 84 = .ok (.getfield 25, 3) := by decide +kernel
theorem dX8_village_87 : decode cX8_village 87 = .ok (.bipush 8, 2) := by decide +kernel
theorem dX8_village_89 : decode cX8_village 89 = .ok (.iaload, 1) := by decide +kernel
theorem dX8_village_90 : decode cX8_village 90 = .ok (.iload_n 1, 1) := by decide +kernel
theorem dX8_village_91 : decode cX8_village 91 = .ok (.ishr, 1) := by decide +kernel
theorem dX8_village_92 : decode cX8_village 92 = .ok (.iconst 1, 1) := by decide +kernel
theorem dX8_village_93 : decode cX8_village 93 = .ok (.iand, 1) := by decide +kernel
theorem dX8_village_94 : decode cX8_village 94 = .ok (.ireturn, 1) := by decide +kernel
theorem dX8_village_95 : decode cX8_village 95 = .ok (.aload_n 0, 1) := by decide +kernel
theorem dX8_village_96 : decode cX8_village 96 = .ok (.getfield 25, 3) := by decide +kernel
theorem dX8_village_99 : decode cX8_village 99 = .ok (.bipush 18, 2) := by decide +kernel
theorem dX8_village_101 : decode cX8_village 101 = .ok (.iload_n 1, 1) := by decide +kernel
theorem dX8_village_102 : decode cX8_village 102 = .ok (.iadd, 1) := by decide +kernel
theorem dX8_village_103 : decode cX8_village 103 = .ok (.iaload, 1) := by decide +kernel
theorem dX8_village_104 : decode cX8_village 104 = .ok (.ireturn, 1) := by decide +kernel
theorem dX8_village_105 : decode cX8_village 105 = .ok (.ldc 103, 2) := by decide +kernel
theorem dX8_village_107 : decode cX8_village 107 = .ok (.ireturn, 1) := by decide +kernel
theorem dX8_isFeast_0 : decode cX8_isFeast 0 = .ok (.iconst 0, 1) := by decide +kernel
theorem dX8_isFeast_1 : decode cX8_isFeast 1 = .ok (.istore_n 2, 1) := by decide +kernel
theorem dX8_isFeast_2 : decode cX8_isFeast 2 = .ok (.iconst 0, 1) := by decide +kernel
theorem dX8_isFeast_3 : decode cX8_isFeast 3 = .ok (.istore_n 3, 1) := by decide +kernel
theorem dX8_isFeast_4 : decode cX8_isFeast 4 = .ok (.iload_n 3, 1) := by decide +kernel
theorem dX8_isFeast_5 : decode cX8_isFeast 5 = .ok (.aload_n 0, 1) := by decide +kernel
theorem dX8_isFeast_6 : decode cX8_isFeast 6 = .ok (.getfield 164, 3) := by decide +kernel
theorem dX8_isFeast_9 : decode cX8_isFeast 9 = .ok (.if_icmp .ge 29, 3) := by decide +kernel
theorem dX8_isFeast_12 : decode cX8_isFeast 12 = .ok (.iload_n 2, 1) := by decide +kernel
theorem dX8_isFeast_13 : decode cX8_isFeast 13 = .ok (.ifCond .ne 13, 3) := by decide +kernel
theorem dX8_isFeast_16 : decode cX8_isFeast 16 = .ok (.aload_n 0, 1) := by decide +kernel
theorem dX8_isFeast_17 : decode cX8_isFeast 17 = .ok (.getfield 19, 3) := by decide +kernel
theorem dX8_isFeast_20 : decode cX8_isFeast 20 = .ok (.iload_n 3, 1) := by decide +kernel
theorem dX8_isFeast_21 : decode cX8_isFeast 21 = .ok (.iaload, 1) := by decide +kernel
theorem dX8_isFeast_22 : decode cX8_isFeast 22 = .ok (.iload_n 1, 1) := by decide +kernel
theorem dX8_isFeast_23 : decode cX8_isFeast 23 = .ok (.if_icmp .ne 7, 3) := by decide +kernel
theorem dX8_isFeast_26 : decode cX8_isFeast 26 = .ok (.iconst 1, 1) := by decide +kernel
theorem dX8_isFeast_27 : decode cX8_isFeast 27 = .ok (.goto 4, 3) := by decide +kernel
theorem dX8_isFeast_30 : decode cX8_isFeast 30 = .ok (.iconst 0, 1) := by decide +kernel
theorem dX8_isFeast_31 : decode cX8_isFeast 31 = .ok (.istore_n 2, 1) := by decide +kernel
theorem dX8_isFeast_32 : decode cX8_isFeast 32 = .ok (.iinc 3 1, 3) := by decide +kernel
theorem dX8_isFeast_35 : decode cX8_isFeast 35 = .ok (.goto (-31), 3) := by decide +kernel
theorem dX8_isFeast_38 : decode cX8_isFeast 38 = .ok (.iload_n 2, 1) := by decide +kernel
theorem dX8_isFeast_39 : decode cX8_isFeast 39 = .ok (.ireturn, 1) := by decide +kernel
theorem dX8_isFog_0 : decode cX8_isFog 0 = .ok (.iconst 0, 1) := by decide +kernel
theorem dX8_isFog_1 : decode cX8_isFog 1 = .ok (.istore_n 2, 1) := by decide +kernel
theorem dX8_isFog_2 : decode cX8_isFog 2 = .ok (.iconst 0, 1) := by decide +kernel
theorem dX8_isFog_3 : decode cX8_isFog 3 = .ok (.istore_n 3, 1) := by decide +kernel
theorem dX8_isFog_4 : decode cX8_isFog 4 = .ok (.iload_n 3, 1) := by decide +kernel
theorem dX8_isFog_5 : decode cX8_isFog 5 = .ok (.aload_n 0, 1) := by decide +kernel
theorem dX8_isFog_6 : decode cX8_isFog 6 = .ok (.getfield 167, 3) := by decide +kernel
theorem dX8_isFog_9 : decode cX8_isFog 9 = .ok (.if_icmp .ge 29, 3) := by decide +kernel
theorem dX8_isFog_12 : decode cX8_isFog 12 = .ok (.iload_n 2, 1) := by decide +kernel
theorem dX8_isFog_13 : decode cX8_isFog 13 = .ok (.ifCond .ne 13, 3) := by decide +kernel
theorem dX8_isFog_16 : decode cX8_isFog 16 = .ok (.aload_n 0, 1) := by decide +kernel
theorem dX8_isFog_17 : decode cX8_isFog 17 = .ok (.getfield 22, 3) := by decide +kernel
theorem dX8_isFog_20 : decode cX8_isFog 20 = .ok (.iload_n 3, 1) := by decide +kernel
theorem dX8_isFog_21 : decode cX8_isFog 21 = .ok (.iaload, 1) := by decide +kernel
theorem dX8_isFog_22 : decode cX8_isFog 22 = .ok (.iload_n 1, 1) := by decide +kernel
theorem dX8_isFog_23 : decode cX8_isFog 23 = .ok (.if_icmp .ne 7, 3) := by decide +kernel
theorem dX8_isFog_26 : decode cX8_isFog 26 = .ok (.iconst 1, 1) := by decide +kernel
theorem dX8_isFog_27 : decode cX8_isFog 27 = .ok (.goto 4, 3) := by decide +kernel
theorem dX8_isFog_30 : decode cX8_isFog 30 = .ok (.iconst 0, 1) := by decide +kernel
theorem dX8_isFog_31 : decode cX8_isFog 31 = .ok (.istore_n 2, 1) := by decide +kernel
theorem dX8_isFog_32 : decode cX8_isFog 32 = .ok (.iinc 3 1, 3) := by decide +kernel
theorem dX8_isFog_35 : decode cX8_isFog 35 = .ok (.goto (-31), 3) := by decide +kernel
theorem dX8_isFog_38 : decode cX8_isFog 38 = .ok (.iload_n 2, 1) := by decide +kernel
theorem dX8_isFog_39 : decode cX8_isFog 39 = .ok (.ireturn, 1) := by decide +kernel
theorem dX8_goesBy_0 : decode cX8_goesBy 0 = .ok (.iload_n 2, 1) := by decide +kernel
theorem dX8_goesBy_1 : decode cX8_goesBy 1 = .ok (.aload_n 0, 1) := by decide +kernel
theorem dX8_goesBy_2 : decode cX8_goesBy 2 = .ok (.getfield 13, 3) := by decide +kernel
theorem dX8_goesBy_5 : decode cX8_goesBy 5 = .ok (.iload_n 1, 1) := by decide +kernel
theorem dX8_goesBy_6 : decode cX8_goesBy 6 = .ok (.iaload, 1) := by decide +kernel
theorem dX8_goesBy_7 : decode cX8_goesBy 7 = .ok (.irem, 1) := by decide +kernel
theorem dX8_goesBy_8 : decode cX8_goesBy 8 = .ok (.iload_n 3, 1) := by decide +kernel
theorem dX8_goesBy_9 : decode cX8_goesBy 9 = .ok (.if_icmp .eq 11, 3) := by decide +kernel
theorem dX8_goesBy_12 : decode cX8_goesBy 12 = .ok (.aload_n 0, 1) := by decide +kernel
theorem dX8_goesBy_13 : decode cX8_goesBy 13 = .ok (.iload_n 2, 1) := by decide +kernel
theorem dX8_goesBy_14 : decode cX8_goesBy 14 = .ok (.invokevirtual 190, 3) := by decide +kernel
theorem dX8_goesBy_17 : decode cX8_goesBy 17 = .ok (.ifCond .eq 7, 3) := by decide +kernel
theorem dX8_goesBy_20 : decode cX8_goesBy 20 = .ok (.iconst 1, 1) := by decide +kernel
theorem dX8_goesBy_21 : decode cX8_goesBy 21 = .ok (.goto 4, 3) := by decide +kernel
theorem dX8_goesBy_24 : decode cX8_goesBy 24 = .ok (.iconst 0, 1) := by decide +kernel
theorem dX8_goesBy_25 : decode cX8_goesBy 25 = .ok (.istore 4, 2) := by decide +kernel
theorem dX8_goesBy_27 : decode cX8_goesBy 27 = .ok (.iload 4, 2) := by decide +kernel
theorem dX8_goesBy_29 : decode cX8_goesBy 29 = .ok (.ifCond .eq 34, 3) := by decide +kernel
theorem dX8_goesBy_32 : decode cX8_goesBy 32 = .ok (.iload_n 2, 1) := by decide +kernel
theorem dX8_goesBy_33 : decode cX8_goesBy 33 = .ok (.aload_n 0, 1) := by decide +kernel
theorem dX8_goesBy_34 : decode cX8_goesBy 34 = .ok (.getfield 7, 3) := by decide +kernel
theorem dX8_goesBy_37 : decode cX8_goesBy 37 = .ok (.iload_n 1, 1) := by decide +kernel
theorem dX8_goesBy_38 : decode cX8_goesBy 38 = .ok (.iaload, 1) := by decide +kernel
theorem dX8_goesBy_39 : decode cX8_goesBy 39 = .ok (.if_icmp .lt 24, 3) := by decide +kernel
theorem dX8_goesBy_42 : decode cX8_goesBy 42 = .ok (.aload_n 0, 1) := by decide +kernel
theorem dX8_goesBy_43 : decode cX8_goesBy 43 = .ok (.getfield 7, 3) := by decide +kernel
theorem dX8_goesBy_46 : decode cX8_goesBy 46 = .ok (.iload_n 1, 1) := by decide +kernel
theorem dX8_goesBy_47 : decode cX8_goesBy 47 = .ok (.iaload, 1) := by decide +kernel
theorem dX8_goesBy_48 : decode cX8_goesBy 48 = .ok (.ifCond .eq 11, 3) := by decide +kernel
theorem dX8_goesBy_51 : decode cX8_goesBy 51 = .ok (.aload_n 0, 1) := by decide +kernel
theorem dX8_goesBy_52 : decode cX8_goesBy 52 = .ok (.iload_n 2, 1) := by decide +kernel
theorem dX8_goesBy_53 : decode cX8_goesBy 53 = .ok (.invokevirtual 193, 3) := by decide +kernel
theorem dX8_goesBy_56 : decode cX8_goesBy 56 = .ok (.ifCond .ne 7, 3) := by decide +kernel
theorem dX8_goesBy_59 : decode cX8_goesBy 59 = .ok (.iconst 1, 1) := by decide +kernel
theorem dX8_goesBy_60 : decode cX8_goesBy 60 = .ok (.goto 4, 3) := by decide +kernel
theorem dX8_goesBy_63 : decode cX8_goesBy 63 = .ok (.iconst 0, 1) := by decide +kernel
theorem dX8_goesBy_64 : decode cX8_goesBy 64 = .ok (.ireturn, 1) := by decide +kernel
theorem dX8_goers_0 : decode cX8_goers 0 = .ok (.iconst 0, 1) := by decide +kernel
theorem dX8_goers_1 : decode cX8_goers 1 = .ok (.istore_n 2, 1) := by decide +kernel
theorem dX8_goers_2 : decode cX8_goers 2 = .ok (.iconst 0, 1) := by decide +kernel
theorem dX8_goers_3 : decode cX8_goers 3 = .ok (.istore_n 3, 1) := by decide +kernel
theorem dX8_goers_4 : decode cX8_goers 4 = .ok (.iload_n 3, 1) := by decide +kernel
theorem dX8_goers_5 : decode cX8_goers 5 = .ok (.aload_n 0, 1) := by decide +kernel
theorem dX8_goers_6 : decode cX8_goers 6 = .ok (.getfield 94, 3) := by decide +kernel
theorem dX8_goers_9 : decode cX8_goers 9 = .ok (.if_icmp .ge 51, 3) := by decide +kernel
theorem dX8_goers_12 : decode cX8_goers 12 = .ok (.iload_n 2, 1) := by decide +kernel
theorem dX8_goers_13 : decode cX8_goers 13 = .ok (.aload_n 0, 1) := by decide +kernel
theorem dX8_goers_14 : decode cX8_goers 14 = .ok (.getfield 25, 3) := by decide +kernel
theorem dX8_goers_17 : decode cX8_goers 17 = .ok (.bipush 8, 2) := by decide +kernel
theorem dX8_goers_19 : decode cX8_goers 19 = .ok (.iaload, 1) := by decide +kernel
theorem dX8_goers_20 : decode cX8_goers 20 = .ok (.iload_n 3, 1) := by decide +kernel
theorem dX8_goers_21 : decode cX8_goers 21 = .ok (.invokestatic 196, 3) := by decide +kernel
theorem dX8_goers_24 : decode cX8_goers 24 = .ok (.ifCond .ne 27, 3) := by decide +kernel
theorem dX8_goers_27 : decode cX8_goers 27 = .ok (.aload_n 0, 1) := by decide +kernel
theorem dX8_goers_28 : decode cX8_goers 28 = .ok (.iload_n 3, 1) := by decide +kernel
theorem dX8_goers_29 : decode cX8_goers 29 = .ok (.iload_n 1, 1) := by decide +kernel
theorem dX8_goers_30 : decode cX8_goers 30 = .ok (.aload_n 0, 1) := by decide +kernel
theorem dX8_goers_31 : decode cX8_goers 31 = .ok (.getfield 25, 3) := by decide +kernel
theorem dX8_goers_34 : decode cX8_goers 34 = .ok (.bipush 10, 2) := by decide +kernel
theorem dX8_goers_36 : decode cX8_goers 36 = .ok (.iload_n 3, 1) := by decide +kernel
theorem dX8_goers_37 : decode cX8_goers 37 = .ok (.iadd, 1) := by decide +kernel
theorem dX8_goers_38 : decode cX8_goers 38 = .ok (.iaload, 1) := by decide +kernel
theorem dX8_goers_39 : decode cX8_goers 39 = .ok (.invokevirtual 200, 3) := by decide +kernel
theorem dX8_goers_42 : decode cX8_goers 42 = .ok (.ifCond .eq 9, 3) := by decide +kernel
theorem dX8_goers_45 : decode cX8_goers 45 = .ok (.iconst 1, 1) := by decide +kernel
theorem dX8_goers_46 : decode cX8_goers 46 = .ok (.iload_n 3, 1) := by decide +kernel
theorem dX8_goers_47 : decode cX8_goers 47 = .ok (.ishl, 1) := by decide +kernel
theorem dX8_goers_48 : decode cX8_goers 48 = .ok (.goto 4, 3) := by decide +kernel
theorem dX8_goers_51 : decode cX8_goers 51 = .ok (.iconst 0, 1) := by decide +kernel
theorem dX8_goers_52 : decode cX8_goers 52 = .ok (.ior, 1) := by decide +kernel
theorem dX8_goers_53 : decode cX8_goers 53 = .ok (.istore_n 2, 1) := by decide +kernel
theorem dX8_goers_54 : decode cX8_goers 54 = .ok (.iinc 3 1, 3) := by decide +kernel
theorem dX8_goers_57 : decode cX8_goers 57 = .ok (.goto (-53), 3) := by decide +kernel
theorem dX8_goers_60 : decode cX8_goers 60 = .ok (.iload_n 2, 1) := by decide +kernel
theorem dX8_goers_61 : decode cX8_goers 61 = .ok (.ireturn, 1) := by decide +kernel
theorem dX8_comers_0 : decode cX8_comers 0 = .ok (.aload_n 0, 1) := by decide +kernel
theorem dX8_comers_1 : decode cX8_comers 1 = .ok (.iload_n 1, 1) := by decide +kernel
theorem dX8_comers_2 : decode cX8_comers 2 = .ok (.invokevirtual 204, 3) := by decide +kernel
theorem dX8_comers_5 : decode cX8_comers 5 = .ok (.istore_n 2, 1) := by decide +kernel
theorem dX8_comers_6 : decode cX8_comers 6 = .ok (.iconst 0, 1) := by decide +kernel
theorem dX8_comers_7 : decode cX8_comers 7 = .ok (.istore_n 3, 1) := by decide +kernel
theorem dX8_comers_8 : decode cX8_comers 8 = .ok (.iload_n 3, 1) := by decide +kernel
theorem dX8_comers_9 : decode cX8_comers 9 = .ok (.aload_n 0, 1) := by decide +kernel
theorem dX8_comers_10 : decode cX8_comers 10 = .ok (.getfield 94, 3) := by decide +kernel
theorem dX8_comers_13 : decode cX8_comers 13 = .ok (.if_icmp .ge 54, 3) := by decide +kernel
theorem dX8_comers_16 : decode cX8_comers 16 = .ok (.aload_n 0, 1) := by decide +kernel
theorem dX8_comers_17 : decode cX8_comers 17 = .ok (.getfield 25, 3) := by decide +kernel
theorem dX8_comers_20 : decode cX8_comers 20 = .ok (.bipush 18, 2) := by decide +kernel
theorem dX8_comers_22 : decode cX8_comers 22 = .ok (.iload_n 3, 1) := by decide +kernel
theorem dX8_comers_23 : decode cX8_comers 23 = .ok (.iadd, 1) := by decide +kernel
theorem dX8_comers_24 : decode cX8_comers 24 = .ok (.iaload, 1) := by decide +kernel
theorem dX8_comers_25 : decode cX8_comers 25 = .ok (.istore 4, 2) := by decide +kernel
theorem dX8_comers_27 : decode cX8_comers 27 = .ok (.iload 4, 2) := by decide +kernel
theorem dX8_comers_29 : decode cX8_comers 29 = .ok (.ifCond .lt 30, 3) := by decide +kernel
theorem dX8_comers_32 : decode cX8_comers 32 = .ok (.iload_n 1, 1) := by decide +kernel
theorem dX8_comers_33 : decode cX8_comers 33 = .ok (.iload 4, 2) := by decide +kernel
theorem dX8_comers_35 : decode cX8_comers 35 = .ok (.if_icmp .le 24, 3) := by decide +kernel
theorem dX8_comers_38 : decode cX8_comers 38 = .ok (.iload_n 1, 1) := by decide +kernel
theorem dX8_comers_39 : decode cX8_comers 39 = .ok (.iload 4, 2) := by decide +kernel
theorem dX8_comers_41 : decode cX8_comers 41 = .ok (.aload_n 0, 1) := by decide +kernel
theorem dX8_comers_42 : decode cX8_comers 42 = .ok (.getfield 158, 3) := by decide +kernel
theorem dX8_comers_45 : decode cX8_comers 45 = .ok (.iadd, 1) := by decide +kernel
theorem dX8_comers_46 : decode cX8_comers 46 = .ok (.if_icmp .gt 13, 3) := by decide +kernel
theorem dX8_comers_49 : decode cX8_comers 49 = .ok (.iload_n 2, 1) := by decide +kernel
theorem dX8_comers_50 : decode cX8_comers 50 = .ok (.iconst 1, 1) := by decide +kernel
theorem dX8_comers_51 : decode cX8_comers 51 = .ok (.iload_n 3, 1) := by decide +kernel
theorem dX8_comers_52 : decode cX8_comers 52 = .ok (.ishl, 1) := by decide +kernel
theorem dX8_comers_53 : decode cX8_comers 53 = .ok (.iconst (-1), 1) := by decide +kernel
theorem dX8_comers_54 : decode cX8_comers 54 = .ok (.ixor, 1) := by decide +kernel
theorem dX8_comers_55 : decode cX8_comers 55 = .ok (.iand, 1) := by decide +kernel
theorem dX8_comers_56 : decode cX8_comers 56 = .ok (.goto 4, 3) := by decide +kernel
theorem dX8_comers_59 : decode cX8_comers 59 = .ok (.iload_n 2, 1) := by decide +kernel
theorem dX8_comers_60 : decode cX8_comers 60 = .ok (.istore_n 2, 1) := by decide +kernel
theorem dX8_comers_61 : decode cX8_comers 61 = .ok (.iinc 3 1, 3) := by decide +kernel
theorem dX8_comers_64 : decode cX8_comers 64 = .ok (.goto (-56), 3) := by decide +kernel
theorem dX8_comers_67 : decode cX8_comers 67 = .ok (.iload_n 2, 1) := by decide +kernel
theorem dX8_comers_68 : decode cX8_comers 68 = .ok (.ireturn, 1) := by decide +kernel
theorem dX8_comes_0 : decode cX8_comes 0 = .ok (.iload_n 1, 1) := by decide +kernel
theorem dX8_comes_1 : decode cX8_comes 1 = .ok (.i2l, 1) := by decide +kernel
theorem dX8_comes_2 : decode cX8_comes 2 = .ok (.lconst 0, 1) := by decide +kernel
theorem dX8_comes_3 : decode cX8_comes 3 = .ok (.ldc2_w 208, 3) := by decide +kernel
theorem dX8_comes_6 : decode cX8_comes 6 = .ok (.invokestatic 97, 3) := by decide +kernel
theorem dX8_comes_9 : decode cX8_comes 9 = .ok (.ifCond .eq 11, 3) := by decide +kernel
theorem dX8_comes_12 : decode cX8_comes 12 = .ok (.aload_n 0, 1) := by decide +kernel
theorem dX8_comes_13 : decode cX8_comes 13 = .ok (.iload_n 1, 1) := by decide +kernel
theorem dX8_comes_14 : decode cX8_comes 14 = .ok (.invokevirtual 210, 3) := by decide +kernel
theorem dX8_comes_17 : decode cX8_comes 17 = .ok (.goto 5, 3) := by decide +kernel
theorem dX8_comes_20 : decode cX8_comes 20 = .ok (.ldc 103, 2) := by decide +kernel
theorem dX8_comes_22 : decode cX8_comes 22 = .ok (.ireturn, 1) := by decide +kernel
theorem dX8_blessed_0 : decode cX8_blessed 0 = .ok (.iload_n 1, 1) := by decide +kernel
theorem dX8_blessed_1 : decode cX8_blessed 1 = .ok (.i2l, 1) := by decide +kernel
theorem dX8_blessed_2 : decode cX8_blessed 2 = .ok (.lconst 0, 1) := by decide +kernel
theorem dX8_blessed_3 : decode cX8_blessed 3 = .ok (.aload_n 0, 1) := by decide +kernel
theorem dX8_blessed_4 : decode cX8_blessed 4 = .ok (.getfield 25, 3) := by decide +kernel
theorem dX8_blessed_7 : decode cX8_blessed 7 = .ok (.iconst 0, 1) := by decide +kernel
theorem dX8_blessed_8 : decode cX8_blessed 8 = .ok (.iaload, 1) := by decide +kernel
theorem dX8_blessed_9 : decode cX8_blessed 9 = .ok (.iconst 1, 1) := by decide +kernel
theorem dX8_blessed_10 : decode cX8_blessed 10 = .ok (.isub, 1) := by decide +kernel
theorem dX8_blessed_11 : decode cX8_blessed 11 = .ok (.i2l, 1) := by decide +kernel
theorem dX8_blessed_12 : decode cX8_blessed 12 = .ok (.invokestatic 97, 3) := by decide +kernel
theorem dX8_blessed_15 : decode cX8_blessed 15 = .ok (.ifCond .eq 31, 3) := by decide +kernel
theorem dX8_blessed_18 : decode cX8_blessed 18 = .ok (.iload_n 1, 1) := by decide +kernel
theorem dX8_blessed_19 : decode cX8_blessed 19 = .ok (.aload_n 0, 1) := by decide +kernel
theorem dX8_blessed_20 : decode cX8_blessed 20 = .ok (.getfield 25, 3) := by decide +kernel
theorem dX8_blessed_23 : decode cX8_blessed 23 = .ok (.iconst 0, 1) := by decide +kernel
theorem dX8_blessed_24 : decode cX8_blessed 24 = .ok (.iaload, 1) := by decide +kernel
theorem dX8_blessed_25 : decode cX8_blessed 25 = .ok (.bipush 60, 2) := by decide +kernel
theorem dX8_blessed_27 : decode cX8_blessed 27 = .ok (.isub, 1) := by decide +kernel
theorem dX8_blessed_28 : decode cX8_blessed 28 = .ok (.if_icmp .lt 18, 3) := by decide +kernel
theorem dX8_blessed_31 : decode cX8_blessed 31 = .ok (.aload_n 0, 1) := by decide +kernel
theorem dX8_blessed_32 : decode cX8_blessed 32 = .ok (.getfield 25, 3) := by decide +kernel
theorem dX8_blessed_35 : decode cX8_blessed 35 = .ok (.bipush 43, 2) := by decide +kernel
theorem dX8_blessed_37 : decode cX8_blessed 37 = .ok (.iload_n 1, 1) := by decide +kernel
theorem dX8_blessed_38 : decode cX8_blessed 38 = .ok (.bipush 60, 2) := by decide +kernel
theorem dX8_blessed_40 : decode cX8_blessed 40 = .ok (.irem, 1) := by decide +kernel
