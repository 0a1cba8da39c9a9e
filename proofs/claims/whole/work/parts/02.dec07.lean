theorem dX8_findCertain_148 : decode cX8_findCertain 148 = .ok (.if_icmp .lt 7, 3) := by decide +kernel
theorem dX8_findCertain_151 : decode cX8_findCertain 151 = .ok (.iconst 1, 1) := by decide +kernel
theorem dX8_findCertain_152 : decode cX8_findCertain 152 = .ok (.goto 4, 3) := by decide +kernel
theorem dX8_findCertain_155 : decode cX8_findCertain 155 = .ok (.iconst 0, 1) := by decide +kernel
theorem dX8_findCertain_156 : decode cX8_findCertain 156 = .ok (.ireturn, 1) := by decide +kernel
theorem dX8_certain_0 : decode cX8_certain 0 = .ok (.iload_n 1, 1) := by decide +kernel
theorem dX8_certain_1 : decode cX8_certain 1 = .ok (.i2l, 1) := by decide +kernel
theorem dX8_certain_2 : decode cX8_certain 2 = .ok (.lconst 0, 1) := by decide +kernel
theorem dX8_certain_3 : decode cX8_certain 3 = .ok (.iconst 1, 1) := by decide +kernel
theorem dX8_certain_4 : decode cX8_certain 4 = .ok (.aload_n 0, 1) := by decide +kernel
theorem dX8_certain_5 : decode cX8_certain 5 = .ok (.getfield 94, 3) := by decide +kernel
theorem dX8_certain_8 : decode cX8_certain 8 = .ok (.ishl, 1) := by decide +kernel
theorem dX8_certain_9 : decode cX8_certain 9 = .ok (.iconst 1, 1) := by decide +kernel
theorem dX8_certain_10 : decode cX8_certain 10 = .ok (.isub, 1) := by decide +kernel
theorem dX8_certain_11 : decode cX8_certain 11 = .ok (.i2l, 1) := by decide +kernel
theorem dX8_certain_12 : decode cX8_certain 12 = .ok (.invokestatic 97, 3) := by decide +kernel
theorem dX8_certain_15 : decode cX8_certain 15 = .ok (.ifCond .eq 11, 3) := by decide +kernel
theorem dX8_certain_18 : decode cX8_certain 18 = .ok (.aload_n 0, 1) := by decide +kernel
theorem dX8_certain_19 : decode cX8_certain 19 = .ok (.iload_n 2, 1) := by decide +kernel
theorem dX8_certain_20 : decode cX8_certain 20 = .ok (.invokevirtual 185, 3) := by decide +kernel
theorem dX8_certain_23 : decode cX8_certain 23 = .ok (.ifCond .ne 6, 3) := by decide +kernel
theorem dX8_certain_26 : decode cX8_certain 26 = .ok (.ldc 189, 2) := by decide +kernel
theorem dX8_certain_28 : decode cX8_certain 28 = .ok (.ireturn, 1) := by decide +kernel
theorem dX8_certain_29 : decode cX8_certain 29 = .ok (.iload_n 1, 1) := by decide +kernel
theorem dX8_certain_30 : decode cX8_certain 30 = .ok (.iload_n 2, 1) := by decide +kernel
theorem dX8_certain_31 : decode cX8_certain 31 = .ok (.invokestatic 196, 3) := by decide +kernel
theorem dX8_certain_34 : decode cX8_certain 34 = .ok (.ifCond .eq 20, 3) := by decide +kernel
theorem dX8_certain_37 : decode cX8_certain 37 = .ok (.aload_n 0, 1) := by decide +kernel
theorem dX8_certain_38 : decode cX8_certain 38 = .ok (.iload_n 1, 1) := by decide +kernel
theorem dX8_certain_39 : decode cX8_certain 39 = .ok (.invokevirtual 270, 3) := by decide +kernel
theorem dX8_certain_42 : decode cX8_certain 42 = .ok (.ifCond .eq 12, 3) := by decide +kernel
theorem dX8_certain_45 : decode cX8_certain 45 = .ok (.aload_n 0, 1) := by decide +kernel
theorem dX8_certain_46 : decode cX8_certain 46 = .ok (.getfield 62, 3) := by decide +kernel
theorem dX8_certain_49 : decode cX8_certain 49 = .ok (.iload_n 2, 1) := by decide +kernel
theorem dX8_certain_50 : decode cX8_certain 50 = .ok (.iaload, 1) := by decide +kernel
theorem dX8_certain_51 : decode cX8_certain 51 = .ok (.goto 4, 3) := by decide +kernel
theorem dX8_certain_54 : decode cX8_certain 54 = .ok (.iconst (-1), 1) := by decide +kernel
theorem dX8_certain_55 : decode cX8_certain 55 = .ok (.ireturn, 1) := by decide +kernel
theorem dX8_away_0 : decode cX8_away 0 = .ok (.iload_n 1, 1) := by decide +kernel
theorem dX8_away_1 : decode cX8_away 1 = .ok (.i2l, 1) := by decide +kernel
theorem dX8_away_2 : decode cX8_away 2 = .ok (.lconst 1, 1) := by decide +kernel
theorem dX8_away_3 : decode cX8_away 3 = .ok (.ldc2_w 273, 3) := by decide +kernel
theorem dX8_away_6 : decode cX8_away 6 = .ok (.invokestatic 97, 3) := by decide +kernel
theorem dX8_away_9 : decode cX8_away 9 = .ok (.ifCond .ne 6, 3) := by decide +kernel
theorem dX8_away_12 : decode cX8_away 12 = .ok (.ldc 103, 2) := by decide +kernel
theorem dX8_away_14 : decode cX8_away 14 = .ok (.ireturn, 1) := by decide +kernel
theorem dX8_away_15 : decode cX8_away 15 = .ok (.aload_n 0, 1) := by decide +kernel
theorem dX8_away_16 : decode cX8_away 16 = .ok (.getfield 155, 3) := by decide +kernel
theorem dX8_away_19 : decode cX8_away 19 = .ok (.ifCond .ne 6, 3) := by decide +kernel
theorem dX8_away_22 : decode cX8_away 22 = .ok (.ldc 224, 2) := by decide +kernel
theorem dX8_away_24 : decode cX8_away 24 = .ok (.ireturn, 1) := by decide +kernel
theorem dX8_away_25 : decode cX8_away 25 = .ok (.aload_n 0, 1) := by decide +kernel
theorem dX8_away_26 : decode cX8_away 26 = .ok (.invokevirtual 250, 3) := by decide +kernel
theorem dX8_away_29 : decode cX8_away 29 = .ok (.iconst (-1), 1) := by decide +kernel
theorem dX8_away_30 : decode cX8_away 30 = .ok (.istore_n 2, 1) := by decide +kernel
theorem dX8_away_31 : decode cX8_away 31 = .ok (.iconst 0, 1) := by decide +kernel
theorem dX8_away_32 : decode cX8_away 32 = .ok (.istore_n 3, 1) := by decide +kernel
theorem dX8_away_33 : decode cX8_away 33 = .ok (.iload_n 3, 1) := by decide +kernel
theorem dX8_away_34 : decode cX8_away 34 = .ok (.iconst 1, 1) := by decide +kernel
theorem dX8_away_35 : decode cX8_away 35 = .ok (.aload_n 0, 1) := by decide +kernel
theorem dX8_away_36 : decode cX8_away 36 = .ok (.getfield 94, 3) := by decide +kernel
theorem dX8_away_39 : decode cX8_away 39 = .ok (.ishl, 1) := by decide +kernel
theorem dX8_away_40 : decode cX8_away 40 = .ok (.if_icmp .ge 126, 3) := by decide +kernel
theorem dX8_away_43 : decode cX8_away 43 = .ok (.iload_n 3, 1) := by decide +kernel
theorem dX8_away_44 : decode cX8_away 44 = .ok (.aload_n 0, 1) := by decide +kernel
theorem dX8_away_45 : decode cX8_away 45 = .ok (.getfield 59, 3) := by decide +kernel
theorem dX8_away_48 : decode cX8_away 48 = .ok (.bipush 8, 2) := by decide +kernel
theorem dX8_away_50 : decode cX8_away 50 = .ok (.iaload, 1) := by decide +kernel
theorem dX8_away_51 : decode cX8_away 51 = .ok (.iand, 1) := by decide +kernel
theorem dX8_away_52 : decode cX8_away 52 = .ok (.ifCond .ne 108, 3) := by decide +kernel
theorem dX8_away_55 : decode cX8_away 55 = .ok (.iload_n 2, 1) := by decide +kernel
theorem dX8_away_56 : decode cX8_away 56 = .ok (.ifCond .lt 14, 3) := by decide +kernel
theorem dX8_away_59 : decode cX8_away 59 = .ok (.iload_n 3, 1) := by decide +kernel
theorem dX8_away_60 : decode cX8_away 60 = .ok (.invokestatic 216, 3) := by decide +kernel
theorem dX8_away_63 : decode cX8_away 63 = .ok (.iload_n 2, 1) := by decide +kernel
theorem dX8_away_64 : decode cX8_away 64 = .ok (.invokestatic 216, 3) := by decide +kernel
theorem dX8_away_67 : decode cX8_away 67 = .ok (.if_icmp .ge 93, 3) := by decide +kernel
theorem dX8_away_70 : decode cX8_away 70 = .ok (.aload_n 0, 1) := by decide +kernel
theorem dX8_away_71 : decode cX8_away 71 = .ok (.getfield 25, 3) := by decide +kernel
theorem dX8_away_74 : decode cX8_away 74 = .ok (.bipush 8, 2) := by decide +kernel
theorem dX8_away_76 : decode cX8_away 76 = .ok (.aload_n 0, 1) := by decide +kernel
theorem dX8_away_77 : decode cX8_away 77 = .ok (.getfield 59, 3) := by decide +kernel
theorem dX8_away_80 : decode cX8_away 80 = .ok (.bipush 8, 2) := by decide +kernel
theorem dX8_away_82 : decode cX8_away 82 = .ok (.iaload, 1) := by decide +kernel
theorem dX8_away_83 : decode cX8_away 83 = .ok (.iload_n 3, 1) := by decide +kernel
theorem dX8_away_84 : decode cX8_away 84 = .ok (.ior, 1) := by decide +kernel
theorem dX8_away_85 : decode cX8_away 85 = .ok (.iastore, 1) := by decide +kernel
theorem dX8_away_86 : decode cX8_away 86 = .ok (.iconst 0, 1) := by decide +kernel
theorem dX8_away_87 : decode cX8_away 87 = .ok (.istore 4, 2) := by decide +kernel
theorem dX8_away_89 : decode cX8_away 89 = .ok (.iload 4, 2) := by decide +kernel
theorem dX8_away_91 : decode cX8_away 91 = .ok (.iload_n 1, 1) := by decide +kernel
theorem dX8_away_92 : decode cX8_away 92 = .ok (.if_icmp .ge 26, 3) := by decide +kernel
theorem dX8_away_95 : decode cX8_away 95 = .ok (.aload_n 0, 1) := by decide +kernel
theorem dX8_away_96 : decode cX8_away 96 = .ok (.getfield 25, 3) := by decide +kernel
theorem dX8_away_99 : decode cX8_away 99 = .ok (.iconst 2, 1) := by decide +kernel
theorem dX8_away_100 : decode cX8_away 100 = .ok (.iaload, 1) := by decide +kernel
theorem dX8_away_101 : decode cX8_away 101 = .ok (.ifCond .ne 17, 3) := by decide +kernel
theorem dX8_away_104 : decode cX8_away 104 = .ok (.aload_n 0, 1) := by decide +kernel
theorem dX8_away_105 : decode cX8_away 105 = .ok (.aload_n 0, 1) := by decide +kernel
theorem dX8_away_106 : decode cX8_away 106 = .ok (.getfield 161, 3) := by decide +kernel
theorem dX8_away_109 : decode cX8_away 109 = .ok (.invokevirtual 231, 3) := by decide +kernel
theorem dX8_away_112 : decode cX8_away 112 = .ok (.iinc 4 1, 3) := by decide +kernel
theorem dX8_away_115 : decode cX8_away 115 = .ok (.goto (-26), 3) := by decide +kernel
theorem dX8_away_118 : decode cX8_away 118 = .ok (.aload_n 0, 1) := by decide +kernel
theorem dX8_away_119 : decode cX8_away 119 = .ok (.getfield 25, 3) := by decide +kernel
theorem dX8_away_122 : decode cX8_away 122 = .ok (.iconst 4, 1) := by decide +kernel
theorem dX8_away_123 : decode cX8_away 123 = .ok (.iaload, 1) := by decide +kernel
theorem dX8_away_124 : decode cX8_away 124 = .ok (.aload_n 0, 1) := by decide +kernel
theorem dX8_away_125 : decode cX8_away 125 = .ok (.getfield 59, 3) := by decide +kernel
theorem dX8_away_128 : decode cX8_away 128 = .ok (.iconst 4, 1) := by decide +kernel
theorem dX8_away_129 : decode cX8_away 129 = .ok (.iaload, 1) := by decide +kernel
theorem dX8_away_130 : decode cX8_away 130 = .ok (.if_icmp .ne 24, 3) := by decide +kernel
theorem dX8_away_133 : decode cX8_away 133 = .ok (.aload_n 0, 1) := by decide +kernel
theorem dX8_away_134 : decode cX8_away 134 = .ok (.getfield 25, 3) := by decide +kernel
theorem dX8_away_137 : decode cX8_away 137 = .ok (.bipush 7, 2) := by decide +kernel
theorem dX8_away_139 : decode cX8_away 139 = .ok (.iaload, 1) := by decide +kernel
theorem dX8_away_140 : decode cX8_away 140 = .ok (.aload_n 0, 1) := by decide +kernel
theorem dX8_away_141 : decode cX8_away 141 = .ok (.getfield 59, 3) := by decide +kernel
theorem dX8_away_144 : decode cX8_away 144 = .ok (.bipush 7, 2) := by decide +kernel
theorem dX8_away_146 : decode cX8_away 146 = .ok (.iaload, 1) := by decide +kernel
theorem dX8_away_147 : decode cX8_away 147 = .ok (.if_icmp .ne 7, 3) := by decide +kernel
theorem dX8_away_150 : decode cX8_away 150 = .ok (.iload_n 3, 1) := by decide +kernel
theorem dX8_away_151 : decode cX8_away 151 = .ok (.goto 4, 3) := by decide +kernel
theorem dX8_away_154 : decode cX8_away 154 = .ok (.iload_n 2, 1) := by decide +kernel
theorem dX8_away_155 : decode cX8_away 155 = .ok (.istore_n 2, 1) := by decide +kernel
theorem dX8_away_156 : decode cX8_away 156 = .ok (.aload_n 0, 1) := by decide +kernel
theorem dX8_away_157 : decode cX8_away 157 = .ok (.invokevirtual 253, 3) := by decide +kernel
theorem dX8_away_160 : decode cX8_away 160 = .ok (.iinc 3 1, 3) := by decide +kernel
theorem dX8_away_163 : decode cX8_away 163 = .ok (.goto (-130), 3) := by decide +kernel
theorem dX8_away_166 : decode cX8_away 166 = .ok (.iload_n 2, 1) := by decide +kernel
theorem dX8_away_167 : decode cX8_away 167 = .ok (.ireturn, 1) := by decide +kernel
theorem dX8_smoke_0 : decode cX8_smoke 0 = .ok (.aload_n 0, 1) := by decide +kernel
theorem dX8_smoke_1 : decode cX8_smoke 1 = .ok (.iload_n 1, 1) := by decide +kernel
theorem dX8_smoke_2 : decode cX8_smoke 2 = .ok (.invokevirtual 185, 3) := by decide +kernel
theorem dX8_smoke_5 : decode cX8_smoke 5 = .ok (.ifCond .ne 6, 3) := by decide +kernel
theorem dX8_smoke_8 : decode cX8_smoke 8 = .ok (.ldc 189, 2) := by decide +kernel
theorem dX8_smoke_10 : decode cX8_smoke 10 = .ok (.ireturn, 1) := by decide +kernel
theorem dX8_smoke_11 : decode cX8_smoke 11 = .ok (.iload_n 2, 1) := by decide +kernel
theorem dX8_smoke_12 : decode cX8_smoke 12 = .ok (.i2l, 1) := by decide +kernel
theorem dX8_smoke_13 : decode cX8_smoke 13 = .ok (.lconst 0, 1) := by decide +kernel
theorem dX8_smoke_14 : decode cX8_smoke 14 = .ok (.ldc2_w 275, 3) := by decide +kernel
theorem dX8_smoke_17 : decode cX8_smoke 17 = .ok (.invokestatic 97, 3) := by decide +kernel
theorem dX8_smoke_20 : decode cX8_smoke 20 = .ok (.ifCond .ne 6, 3) := by decide +kernel
theorem dX8_smoke_23 : decode cX8_smoke 23 = .ok (.ldc 103, 2) := by decide +kernel
theorem dX8_smoke_25 : decode cX8_smoke 25 = .ok (.ireturn, 1) := by decide +kernel
theorem dX8_smoke_26 : decode cX8_smoke 26 = .ok (.aload_n 0, 1) := by decide +kernel
theorem dX8_smoke_27 : decode cX8_smoke 27 = .ok (.iload_n 2, 1) := by decide +kernel
theorem dX8_smoke_28 : decode cX8_smoke 28 = .ok (.invokevirtual 204, 3) := by decide +kernel
theorem dX8_smoke_31 : decode cX8_smoke 31 = .ok (.iconst 1, 1) := by decide +kernel
theorem dX8_smoke_32 : decode cX8_smoke 32 = .ok (.iload_n 1, 1) := by decide +kernel
theorem dX8_smoke_33 : decode cX8_smoke 33 = .ok (.ishl, 1) := by decide +kernel
theorem dX8_smoke_34 : decode cX8_smoke 34 = .ok (.iconst (-1), 1) := by decide +kernel
theorem dX8_smoke_35 : decode cX8_smoke 35 = .ok (.ixor, 1) := by decide +kernel
theorem dX8_smoke_36 : decode cX8_smoke 36 = .ok (.iand, 1) := by decide +kernel
theorem dX8_smoke_37 : decode cX8_smoke 37 = .ok (.ifCond .ne 7, 3) := by decide +kernel
theorem dX8_smoke_40 : decode cX8_smoke 40 = .ok (.iconst 1, 1) := by decide +kernel
theorem dX8_smoke_41 : decode cX8_smoke 41 = .ok (.goto 4, 3) := by decide +kernel
theorem dX8_smoke_44 : decode cX8_smoke 44 = .ok (.iconst 0, 1) := by decide +kernel
theorem dX8_smoke_45 : decode cX8_smoke 45 = .ok (.ireturn, 1) := by decide +kernel
theorem dX8_inn_0 : decode cX8_inn 0 = .ok (.iload_n 1, 1) := by decide +kernel
theorem dX8_inn_1 : decode cX8_inn 1 = .ok (.i2l, 1) := by decide +kernel
theorem dX8_inn_2 : decode cX8_inn 2 = .ok (.lconst 1, 1) := by decide +kernel
theorem dX8_inn_3 : decode cX8_inn 3 = .ok (.ldc2_w 256, 3) := by decide +kernel
theorem dX8_inn_6 : decode cX8_inn 6 = .ok (.invokestatic 97, 3) := by decide +kernel
theorem dX8_inn_9 : decode cX8_inn 9 = .ok (.ifCond .ne 6, 3) := by decide +kernel
theorem dX8_inn_12 : decode cX8_inn 12 = .ok (.ldc 103, 2) := by decide +kernel
theorem dX8_inn_14 : decode cX8_inn 14 = .ok (.ireturn, 1) := by decide +kernel
theorem dX8_inn_15 : decode cX8_inn 15 = .ok (.aload_n 0, 1) := by decide +kernel
theorem dX8_inn_16 : decode cX8_inn 16 = .ok (.getfield 155, 3) := by decide +kernel
theorem dX8_inn_19 : decode cX8_inn 19 = .ok (.ifCond .ne 6, 3) := by decide +kernel
theorem dX8_inn_22 : decode cX8_inn 22 = .ok (.ldc 224, 2) := by decide +kernel
theorem dX8_inn_24 : decode cX8_inn 24 = .ok (.ireturn, 1) := by decide +kernel
theorem dX8_inn_25 : decode cX8_inn 25 = .ok (.aload_n 0, 1) := by decide +kernel
theorem dX8_inn_26 : decode cX8_inn 26 = .ok (.invokevirtual 250, 3) := by decide +kernel
theorem dX8_inn_29 : decode cX8_inn 29 = .ok (.iconst (-1), 1) := by decide +kernel
theorem dX8_inn_30 : decode cX8_inn 30 = .ok (.istore_n 2, 1) := by decide +kernel
theorem dX8_inn_31 : decode cX8_inn 31 = .ok (.bipush 9, 2) := by decide +kernel
theorem dX8_inn_33 : decode cX8_inn 33 = .ok (.istore_n 3, 1) := by decide +kernel
theorem dX8_inn_34 : decode cX8_inn 34 = .ok (.iload_n 3, 1) := by decide +kernel
theorem dX8_inn_35 : decode cX8_inn 35 = .ok (.ifCond .lt 95, 3) := by decide +kernel
theorem dX8_inn_38 : decode cX8_inn 38 = .ok (.iconst 0, 1) := by decide +kernel
theorem dX8_inn_39 : decode cX8_inn 39 = .ok (.istore 4, 2) := by decide +kernel
theorem dX8_inn_41 : decode cX8_inn 41 = .ok (.iload 4, 2) := by decide +kernel
theorem dX8_inn_43 : decode cX8_inn 43 = .ok (.iload_n 1, 1) := by decide +kernel
theorem dX8_inn_44 : decode cX8_inn 44 = .ok (.if_icmp .ge 23, 3) := by decide +kernel
theorem dX8_inn_47 : decode cX8_inn 47 = .ok (.aload_n 0, 1) := by decide +kernel
theorem dX8_inn_48 : decode cX8_inn 48 = .ok (.getfield 25, 3) := by decide +kernel
theorem dX8_inn_51 : decode cX8_inn 51 = .ok (.iconst 2, 1) := by decide +kernel
theorem dX8_inn_52 : decode cX8_inn 52 = .ok (.iaload, 1) := by decide +kernel
theorem dX8_inn_53 : decode cX8_inn 53 = .ok (.ifCond .ne 14, 3) := by decide +kernel
theorem dX8_inn_56 : decode cX8_inn 56 = .ok (.aload_n 0, 1) := by decide +kernel
theorem dX8_inn_57 : decode cX8_inn 57 = .ok (.iload_n 3, 1) := by decide +kernel
theorem dX8_inn_58 : decode cX8_inn 58 = .ok (.invokevirtual 231, 3) := by decide +kernel
theorem dX8_inn_61 : decode cX8_inn 61 = .ok (.iinc 4 1, 3) := by decide +kernel
theorem dX8_inn_64 : decode cX8_inn 64 = .ok (.goto (-23), 3) := by decide +kernel
theorem dX8_inn_67 : decode cX8_inn 67 = .ok (.aload_n 0, 1) := by decide +kernel
theorem dX8_inn_68 : decode cX8_inn 68 = .ok (.getfield 25, 3) := by decide +kernel
theorem dX8_inn_71 : decode cX8_inn 71 = .ok (.iconst 4, 1) := by decide +kernel
theorem dX8_inn_72 : decode cX8_inn 72 = .ok (.iaload, 1) := by decide +kernel
theorem dX8_inn_73 : decode cX8_inn 73 = .ok (.aload_n 0, 1) := by decide +kernel
theorem dX8_inn_74 : decode cX8_inn 74 = .ok (.getfield 59, 3) := by decide +kernel
theorem dX8_inn_77 : decode cX8_inn 77 = .ok (.iconst 4, 1) := by decide +kernel
theorem dX8_inn_78 : decode cX8_inn 78 = .ok (.iaload, 1) := by decide +kernel
theorem dX8_inn_79 : decode cX8_inn 79 = .ok (.if_icmp .ne 39, 3) := by decide +kernel
theorem dX8_inn_82 : decode cX8_inn 82 = .ok (.aload_n 0, 1) := by decide +kernel
theorem dX8_inn_83 : decode cX8_inn 83 = .ok (.getfield 25, 3) := by decide +kernel
theorem dX8_inn_86 : decode cX8_inn 86 = .ok (.iconst 5, 1) := by decide +kernel
theorem dX8_inn_87 : decode cX8_inn 87 = .ok (.iaload, 1) := by decide +kernel
theorem dX8_inn_88 : decode cX8_inn 88 = .ok (.aload_n 0, 1) := by decide +kernel
theorem dX8_inn_89 : decode cX8_inn 89 = .ok (.getfield 59, 3) := by decide +kernel
theorem dX8_inn_92 : decode cX8_inn 92 = .ok (.iconst 5, 1) := by decide +kernel
theorem dX8_inn_93 : decode cX8_inn 93 = .ok (.iaload, 1) := by decide +kernel
theorem dX8_inn_94 : decode cX8_inn 94 = .ok (.if_icmp .ne 24, 3) := by decide +kernel
theorem dX8_inn_97 : decode cX8_inn 97 = .ok (.aload_n 0, 1) := by decide +kernel
theorem dX8_inn_98 : decode cX8_inn 98 = .ok (.getfield 25, 3) := by decide +kernel
theorem dX8_inn_101 : decode cX8_inn 101 = .ok (.bipush 7, 2) := by decide +kernel
theorem dX8_inn_103 : decode cX8_inn 103 = .ok (.iaload, 1) := by decide +kernel
theorem dX8_inn_104 : decode cX8_inn 104 = .ok (.aload_n 0, 1) := by decide +kernel
theorem dX8_inn_105 : decode cX8_inn 105 = .ok (.getfield 59, 3) := by decide +kernel
theorem dX8_inn_108 : decode cX8_inn 108 = .ok (.bipush 7, 2) := by decide +kernel
theorem dX8_inn_110 : decode cX8_inn 110 = .ok (.iaload, 1) := by decide +kernel
theorem dX8_inn_111 : decode cX8_inn 111 = .ok (.if_icmp .ne 7, 3) := by decide +kernel
theorem dX8_inn_114 : decode cX8_inn 114 = .ok (.iload_n 3, 1) := by decide +kernel
theorem dX8_inn_115 : decode cX8_inn 115 = .ok (.goto 4, 3) := by decide +kernel
theorem dX8_inn_118 : decode cX8_inn 118 = .ok (.iload_n 2, 1) := by decide +kernel
theorem dX8_inn_119 : decode cX8_inn 119 = .ok (.istore_n 2, 1) := by decide +kernel
theorem dX8_inn_120 : decode cX8_inn 120 = .ok (.aload_n 0, 1) := by decide +kernel
theorem dX8_inn_121 : decode cX8_inn 121 = .ok (.invokevirtual 253, 3) := by decide +kernel
theorem dX8_inn_124 : decode cX8_inn 124 = .ok (.iinc 3 (-1), 3) := by decide +kernel
theorem dX8_inn_127 : decode cX8_inn 127 = .ok (.goto (-93), 3) := by decide +kernel
theorem dX8_inn_130 : decode cX8_inn 130 = .ok (.iload_n 2, 1) := by decide +kernel
theorem dX8_inn_131 : decode cX8_inn 131 = .ok (.ireturn, 1) := by decide +kernel
theorem dX8_mayGo_0 : decode cX8_mayGo 0 = .ok (.aload_n 0, 1) := by decide +kernel
theorem dX8_mayGo_1 : decode cX8_mayGo 1 = .ok (.getfield 7, 3) := by decide +kernel
theorem dX8_mayGo_4 : decode cX8_mayGo 4 = .ok (.iload_n 1, 1) := by decide +kernel
theorem dX8_mayGo_5 : decode cX8_mayGo 5 = .ok (.iaload, 1) := by decide +kernel
theorem dX8_mayGo_6 : decode cX8_mayGo 6 = .ok (.ifCond .eq 11, 3) := by decide +kernel
theorem dX8_mayGo_9 : decode cX8_mayGo 9 = .ok (.aload_n 0, 1) := by decide +kernel
theorem dX8_mayGo_10 : decode cX8_mayGo 10 = .ok (.iload_n 2, 1) := by decide +kernel
theorem dX8_mayGo_11 : decode cX8_mayGo 11 = .ok (.invokevirtual 193, 3) := by decide +kernel
theorem dX8_mayGo_14 : decode cX8_mayGo 14 = .ok (.ifCond .ne 7, 3) := by decide +kernel
theorem dX8_mayGo_17 : decode cX8_mayGo 17 = .ok (.iconst 1, 1) := by decide +kernel
theorem dX8_mayGo_18 : decode cX8_mayGo 18 = .ok (.goto 4, 3) := by decide +kernel
theorem dX8_mayGo_21 : decode cX8_mayGo 21 = .ok (.iconst 0, 1) := by decide +kernel
theorem dX8_mayGo_22 : decode cX8_mayGo 22 = .ok (.ireturn, 1) := by decide +kernel
theorem dX8_findLow_0 : decode cX8_findLow 0 = .ok (.iconst 0, 1) := by decide +kernel
theorem dX8_findLow_1 : decode cX8_findLow 1 = .ok (.istore_n 2, 1) := by decide +kernel
theorem dX8_findLow_2 : decode cX8_findLow 2 = .ok (.iload_n 2, 1) := by decide +kernel
theorem dX8_findLow_3 : decode cX8_findLow 3 = .ok (.sipush 6561, 3) := by decide +kernel
theorem dX8_findLow_6 : decode cX8_findLow 6 = .ok (.if_icmp .ge 22, 3) := by decide +kernel
theorem dX8_findLow_9 : decode cX8_findLow 9 = .ok (.aload_n 0, 1) := by decide +kernel
theorem dX8_findLow_10 : decode cX8_findLow 10 = .ok (.getfield 66, 3) := by decide +kernel
theorem dX8_findLow_13 : decode cX8_findLow 13 = .ok (.sipush 6561, 3) := by decide +kernel
theorem dX8_findLow_16 : decode cX8_findLow 16 = .ok (.iload_n 1, 1) := by decide +kernel
theorem dX8_findLow_17 : decode cX8_findLow 17 = .ok (.imul, 1) := by decide +kernel
theorem dX8_findLow_18 : decode cX8_findLow 18 = .ok (.iload_n 2, 1) := by decide +kernel
theorem dX8_findLow_19 : decode cX8_findLow 19 = .ok (.iadd, 1) := by decide +kernel
theorem dX8_findLow_20 : decode cX8_findLow 20 = .ok (.iconst 0, 1) := by decide +kernel
theorem dX8_findLow_21 : decode cX8_findLow 21 = .ok (.iastore, 1) := by decide +kernel
theorem dX8_findLow_22 : decode cX8_findLow 22 = .ok (.iinc 2 1, 3) := by decide +kernel
theorem dX8_findLow_25 : decode cX8_findLow 25 = .ok (.goto (-23), 3) := by decide +kernel
theorem dX8_findLow_28 : decode cX8_findLow 28 = .ok (.iload_n 1, 1) := by decide +kernel
theorem dX8_findLow_29 : decode cX8_findLow 29 = .ok (.iconst 1, 1) := by decide +kernel
theorem dX8_findLow_30 : decode cX8_findLow 30 = .ok (.isub, 1) := by decide +kernel
theorem dX8_findLow_31 : decode cX8_findLow 31 = .ok (.istore_n 2, 1) := by decide +kernel
theorem dX8_findLow_32 : decode cX8_findLow 32 = .ok (.iload_n 2, 1) := by decide +kernel
theorem dX8_findLow_33 : decode cX8_findLow 33 = .ok (.ifCond .lt 230, 3) := by decide +kernel
theorem dX8_findLow_36 : decode cX8_findLow 36 = .ok (.iconst 0, 1) := by decide +kernel
theorem dX8_findLow_37 : decode cX8_findLow 37 = .ok (.istore_n 3, 1) := by decide +kernel
theorem dX8_findLow_38 : decode cX8_findLow 38 = .ok (.iload_n 3, 1) := by decide +kernel
theorem dX8_findLow_39 : decode cX8_findLow 39 = .ok (.sipush 6561, 3) := by decide +kernel
theorem dX8_findLow_42 : decode cX8_findLow 42 = .ok (.if_icmp .ge 215, 3) := by decide +kernel
theorem dX8_findLow_45 : decode cX8_findLow 45 = .ok (.ldc_w 277, 3) := by decide +kernel
theorem dX8_findLow_48 : decode cX8_findLow 48 = .ok (.istore 4, 2) := by decide +kernel
theorem dX8_findLow_50 : decode cX8_findLow 50 = .ok (.iconst 0, 1) := by decide +kernel
theorem dX8_findLow_51 : decode cX8_findLow 51 = .ok (.istore 5, 2) := by decide +kernel
theorem dX8_findLow_53 : decode cX8_findLow 53 = .ok (.iload 5, 2) := by decide +kernel
theorem dX8_findLow_55 : decode cX8_findLow 55 = .ok (.aload_n 0, 1) := by decide +kernel
theorem dX8_findLow_56 : decode cX8_findLow 56 = .ok (.getfield 94, 3) := by decide +kernel
theorem dX8_findLow_59 : decode cX8_findLow 59 = .ok (.if_icmp .ge 164, 3) := by decide +kernel
theorem dX8_findLow_62 : decode cX8_findLow 62 = .ok (.aload_n 0, 1) := by decide +kernel
theorem dX8_findLow_63 : decode cX8_findLow 63 = .ok (.getfield 158, 3) := by decide +kernel
theorem dX8_findLow_66 : decode cX8_findLow 66 = .ok (.ifCond .le 12, 3) := by decide +kernel
theorem dX8_findLow_69 : decode cX8_findLow 69 = .ok (.iload_n 3, 1) := by decide +kernel
theorem dX8_findLow_70 : decode cX8_findLow 70 = .ok (.bipush 9, 2) := by decide +kernel
theorem dX8_findLow_72 : decode cX8_findLow 72 = .ok (.irem, 1) := by decide +kernel
theorem dX8_findLow_73 : decode cX8_findLow 73 = .ok (.iload 5, 2) := by decide +kernel
theorem dX8_findLow_75 : decode cX8_findLow 75 = .ok (.if_icmp .eq 61, 3) := by decide +kernel
theorem dX8_findLow_78 : decode cX8_findLow 78 = .ok (.aload_n 0, 1) := by decide +kernel
theorem dX8_findLow_79 : decode cX8_findLow 79 = .ok (.getfield 158, 3) := by decide +kernel
theorem dX8_findLow_82 : decode cX8_findLow 82 = .ok (.iconst 1, 1) := by decide +kernel
theorem dX8_findLow_83 : decode cX8_findLow 83 = .ok (.if_icmp .le 15, 3) := by decide +kernel
theorem dX8_findLow_86 : decode cX8_findLow 86 = .ok (.iload_n 3, 1) := by decide +kernel
theorem dX8_findLow_87 : decode cX8_findLow 87 = .ok (.bipush 9, 2) := by decide +kernel
theorem dX8_findLow_89 : decode cX8_findLow 89 = .ok (.idiv, 1) := by decide +kernel
theorem dX8_findLow_90 : decode cX8_findLow 90 = .ok (.bipush 9, 2) := by decide +kernel
theorem dX8_findLow_92 : decode cX8_findLow 92 = .ok (.irem, 1) := by decide +kernel
theorem dX8_findLow_93 : decode cX8_findLow 93 = .ok (.iload 5, 2) := by decide +kernel
theorem dX8_findLow_95 : decode cX8_findLow 95 = .ok (.if_icmp .eq 41, 3) := by decide +kernel
theorem dX8_findLow_98 : decode cX8_findLow 98 = .ok (.aload_n 0, 1) := by decide +kernel
theorem dX8_findLow_99 : decode cX8_findLow 99 = .ok (.getfield 158, 3) := by decide +kernel
theorem dX8_findLow_102 : decode cX8_findLow 102 = .ok (.iconst 2, 1) := by decide +kernel
theorem dX8_findLow_103 : decode cX8_findLow 103 = .ok (.if_icmp .le 15, 3) := by decide +kernel
theorem dX8_findLow_106 : decode cX8_findLow 106 = .ok (.iload_n 3, 1) := by decide +kernel
theorem dX8_findLow_107 : decode cX8_findLow 107 = .ok (.bipush 81, 2) := by decide +kernel
theorem dX8_findLow_109 : decode cX8_findLow 109 = .ok (.idiv, 1) := by decide +kernel
theorem dX8_findLow_110 : decode cX8_findLow 110 = .ok (.bipush 9, 2) := by decide +kernel
theorem dX8_findLow_112 : decode cX8_findLow 112 = .ok (.irem, 1) := by decide +kernel
theorem dX8_findLow_113 : decode cX8_findLow 113 = .ok (.iload 5, 2) := by decide +kernel
theorem dX8_findLow_115 : decode cX8_findLow 115 = .ok (.if_icmp .eq 21, 3) := by decide +kernel
theorem dX8_findLow_118 : decode cX8_findLow 118 = .ok (.aload_n 0, 1) := by decide +kernel
theorem dX8_findLow_119 : decode cX8_findLow 119 = .ok (.getfield 158, 3) := by decide +kernel
theorem dX8_findLow_122 : decode cX8_findLow 122 = .ok (.iconst 3, 1) := by decide +kernel
theorem dX8_findLow_123 : decode cX8_findLow 123 = .ok (.if_icmp .le 17, 3) := by decide +kernel
theorem dX8_findLow_126 : decode cX8_findLow 126 = .ok (.iload_n 3, 1) := by decide +kernel
theorem dX8_findLow_127 : decode cX8_findLow 127 = .ok (.sipush 729, 3) := by decide +kernel
theorem dX8_findLow_130 : decode cX8_findLow 130 = .ok (.idiv, 1) := by decide +kernel
theorem dX8_findLow_131 : decode cX8_findLow 131 = .ok (.iload 5, 2) := by decide +kernel
theorem dX8_findLow_133 : decode cX8_findLow 133 = .ok (.if_icmp .ne 7, 3) := by decide +kernel
theorem dX8_findLow_136 : decode cX8_findLow 136 = .ok (.iconst 1, 1) := by decide +kernel
theorem dX8_findLow_137 : decode cX8_findLow 137 = .ok (.goto 4, 3) := by decide +kernel
theorem dX8_findLow_140 : decode cX8_findLow 140 = .ok (.iconst 0, 1) := by decide +kernel
theorem dX8_findLow_141 : decode cX8_findLow 141 = .ok (.istore 6, 2) := by decide +kernel
theorem dX8_findLow_143 : decode cX8_findLow 143 = .ok (.iconst 2, 1) := by decide +kernel
theorem dX8_findLow_144 : decode cX8_findLow 144 = .ok (.aload_n 0, 1) := by decide +kernel
theorem dX8_findLow_145 : decode cX8_findLow 145 = .ok (.getfield 7, 3) := by decide +kernel
theorem dX8_findLow_148 : decode cX8_findLow 148 = .ok (.iload 5, 2) := by decide +kernel
theorem dX8_findLow_150 : decode cX8_findLow 150 = .ok (.iaload, 1) := by decide +kernel
theorem dX8_findLow_151 : decode cX8_findLow 151 = .ok (.imul, 1) := by decide +kernel
theorem dX8_findLow_152 : decode cX8_findLow 152 = .ok (.aload_n 0, 1) := by decide +kernel
theorem dX8_findLow_153 : decode cX8_findLow 153 = .ok (.getfield 66, 3) := by decide +kernel
theorem dX8_findLow_156 : decode cX8_findLow 156 = .ok (.sipush 6561, 3) := by decide +kernel
theorem dX8_findLow_159 : decode cX8_findLow 159 = .ok (.iload_n 2, 1) := by decide +kernel
theorem dX8_findLow_160 : decode cX8_findLow 160 = .ok (.iconst 1, 1) := by decide +kernel
theorem dX8_findLow_161 : decode cX8_findLow 161 = .ok (.iadd, 1) := by decide +kernel
theorem dX8_findLow_162 : decode cX8_findLow 162 = .ok (.imul, 1) := by decide +kernel
theorem dX8_findLow_163 : decode cX8_findLow 163 = .ok (.iload_n 3, 1) := by decide +kernel
theorem dX8_findLow_164 : decode cX8_findLow 164 = .ok (.sipush 729, 3) := by decide +kernel
theorem dX8_findLow_167 : decode cX8_findLow 167 = .ok (.irem, 1) := by decide +kernel
theorem dX8_findLow_168 : decode cX8_findLow 168 = .ok (.bipush 9, 2) := by decide +kernel
theorem dX8_findLow_170 : decode cX8_findLow 170 = .ok (.imul, 1) := by decide +kernel
theorem dX8_findLow_171 : decode cX8_findLow 171 = .ok (.iadd, 1) := by decide +kernel
theorem dX8_findLow_172 : decode cX8_findLow 172 = .ok (.iload 5, 2) := by decide +kernel
theorem dX8_findLow_174 : decode cX8_findLow 174 = .ok (.iadd, 1) := by decide +kernel
theorem dX8_findLow_175 : decode cX8_findLow 175 = .ok (.iaload, 1) := by decide +kernel
theorem dX8_findLow_176 : decode cX8_findLow 176 = .ok (.iadd, 1) := by decide +kernel
theorem dX8_findLow_177 : decode cX8_findLow 177 = .ok (.istore 7, 2) := by decide +kernel
theorem dX8_findLow_179 : decode cX8_findLow 179 = .ok (.iload 6, 2) := by decide +kernel
theorem dX8_findLow_181 : decode cX8_findLow 181 = .ok (.ifCond .ne 32, 3) := by decide +kernel
theorem dX8_findLow_184 : decode cX8_findLow 184 = .ok (.aload_n 0, 1) := by decide +kernel
theorem dX8_findLow_185 : decode cX8_findLow 185 = .ok (.iload 5, 2) := by decide +kernel
theorem dX8_findLow_187 : decode cX8_findLow 187 = .ok (.aload_n 0, 1) := by decide +kernel
theorem dX8_findLow_188 : decode cX8_findLow 188 = .ok (.getfield 25, 3) := by decide +kernel
theorem dX8_findLow_191 : decode cX8_findLow 191 = .ok (.iconst 0, 1) := by decide +kernel
theorem dX8_findLow_192 : decode cX8_findLow 192 = .ok (.iaload, 1) := by decide +kernel
theorem dX8_findLow_193 : decode cX8_findLow 193 = .ok (.iload_n 2, 1) := by decide +kernel
theorem dX8_findLow_194 : decode cX8_findLow 194 = .ok (.iadd, 1) := by decide +kernel
theorem dX8_findLow_195 : decode cX8_findLow 195 = .ok (.invokevirtual 278, 3) := by decide +kernel
theorem dX8_findLow_198 : decode cX8_findLow 198 = .ok (.ifCond .eq 15, 3) := by decide +kernel
theorem dX8_findLow_201 : decode cX8_findLow 201 = .ok (.iload 7, 2) := by decide +kernel
theorem dX8_findLow_203 : decode cX8_findLow 203 = .ok (.iload 4, 2) := by decide +kernel
theorem dX8_findLow_205 : decode cX8_findLow 205 = .ok (.if_icmp .ge 8, 3) := by decide +kernel
theorem dX8_findLow_208 : decode cX8_findLow 208 = .ok (.iload 7, 2) := by decide +kernel
theorem dX8_findLow_210 : decode cX8_findLow 210 = .ok (.goto 5, 3) := by decide +kernel
theorem dX8_findLow_213 : decode cX8_findLow 213 = .ok (.iload 4, 2) := by decide +kernel
theorem dX8_findLow_215 : decode cX8_findLow 215 = .ok (.istore 4, 2) := by decide +kernel
theorem dX8_findLow_217 : decode cX8_findLow 217 = .ok (.iinc 5 1, 3) := by decide +kernel
theorem dX8_findLow_220 : decode cX8_findLow 220 = .ok (.goto (-167), 3) := by decide +kernel
theorem dX8_findLow_223 : decode cX8_findLow 223 = .ok (.aload_n 0, 1) := by decide +kernel
theorem dX8_findLow_224 : decode cX8_findLow 224 = .ok (.getfield 66, 3) := by decide +kernel
theorem dX8_findLow_227 : decode cX8_findLow 227 = .ok (.sipush 6561, 3) := by decide +kernel
theorem dX8_findLow_230 : decode cX8_findLow 230 = .ok (.iload_n 2, 1) := by decide +kernel
theorem dX8_findLow_231 : decode cX8_findLow 231 = .ok (.imul, 1) := by decide +kernel
theorem dX8_findLow_232 : decode cX8_findLow 232 = .ok (.iload_n 3, 1) := by decide +kernel
theorem dX8_findLow_233 : decode cX8_findLow 233 = .ok (.iadd, 1) := by decide +kernel
theorem dX8_findLow_234 : decode cX8_findLow 234 = .ok (.iload 4, 2) := by decide +kernel
theorem dX8_findLow_236 : decode cX8_findLow 236 = .ok (.ldc_w 277, 3) := by decide +kernel
theorem dX8_findLow_239 : decode cX8_findLow 239 = .ok (.if_icmp .ge 8, 3) := by decide +kernel
theorem dX8_findLow_242 : decode cX8_findLow 242 = .ok (.iload 4, 2) := by decide +kernel
theorem dX8_findLow_244 : decode cX8_findLow 244 = .ok (.goto 6, 3) := by decide +kernel
theorem dX8_findLow_247 : decode cX8_findLow 247 = .ok (.ldc_w 277, 3) := by decide +kernel
theorem dX8_findLow_250 : decode cX8_findLow 250 = .ok (.iastore, 1) := by decide +kernel
theorem dX8_findLow_251 : decode cX8_findLow 251 = .ok (.iinc 3 1, 3) := by decide +kernel
theorem dX8_findLow_254 : decode cX8_findLow 254 = .ok (.goto (-216), 3) := by decide +kernel
theorem dX8_findLow_257 : decode cX8_findLow 257 = .ok (.iinc 2 (-1), 3) := by decide +kernel
theorem dX8_findLow_260 : decode cX8_findLow 260 = .ok (.goto (-228), 3) := by decide +kernel
theorem dX8_findLow_263 : decode cX8_findLow 263 = .ok (.return_, 1) := by decide +kernel
theorem dX8_wasChosen_0 : decode cX8_wasChosen 0 = .ok (.iconst 0, 1) := by decide +kernel
theorem dX8_wasChosen_1 : decode cX8_wasChosen 1 = .ok (.istore_n 3, 1) := by decide +kernel
theorem dX8_wasChosen_2 : decode cX8_wasChosen 2 = .ok (.iload_n 2, 1) := by decide +kernel
theorem dX8_wasChosen_3 : decode cX8_wasChosen 3 = .ok (.aload_n 0, 1) := by decide +kernel
theorem dX8_wasChosen_4 : decode cX8_wasChosen 4 = .ok (.getfield 158, 3) := by decide +kernel
theorem dX8_wasChosen_7 : decode cX8_wasChosen 7 = .ok (.if_icmp .le 12, 3) := by decide +kernel
theorem dX8_wasChosen_10 : decode cX8_wasChosen 10 = .ok (.iload_n 2, 1) := by decide +kernel
theorem dX8_wasChosen_11 : decode cX8_wasChosen 11 = .ok (.aload_n 0, 1) := by decide +kernel
theorem dX8_wasChosen_12 : decode cX8_wasChosen 12 = .ok (.getfield 158, 3) := by decide +kernel
theorem dX8_wasChosen_15 : decode cX8_wasChosen 15 = .ok (.isub, 1) := by decide +kernel
theorem dX8_wasChosen_16 : decode cX8_wasChosen 16 = .ok (.goto 4, 3) := by decide +kernel
theorem dX8_wasChosen_19 : decode cX8_wasChosen 19 = .ok (.iconst 0, 1) := by decide +kernel
theorem dX8_wasChosen_20 : decode cX8_wasChosen 20 = .ok (.istore 4, 2) := by decide +kernel
theorem dX8_wasChosen_22 : decode cX8_wasChosen 22 = .ok (.iload 4, 2) := by decide +kernel
theorem dX8_wasChosen_24 : decode cX8_wasChosen 24 = .ok (.iload_n 2, 1) := by decide +kernel
theorem dX8_wasChosen_25 : decode cX8_wasChosen 25 = .ok (.if_icmp .ge 30, 3) := by decide +kernel
theorem dX8_wasChosen_28 : decode cX8_wasChosen 28 = .ok (.iload_n 3, 1) := by decide +kernel
theorem dX8_wasChosen_29 : decode cX8_wasChosen 29 = .ok (.ifCond .ne 14, 3) := by decide +kernel
theorem dX8_wasChosen_32 : decode cX8_wasChosen 32 = .ok (.aload_n 0, 1) := by decide +kernel
theorem dX8_wasChosen_33 : decode cX8_wasChosen 33 = .ok (.getfield 69, 3) := by decide +kernel
theorem dX8_wasChosen_36 : decode cX8_wasChosen 36 = .ok (.iload 4, 2) := by decide +kernel
theorem dX8_wasChosen_38 : decode cX8_wasChosen 38 = .ok (.iaload, 1) := by decide +kernel
theorem dX8_wasChosen_39 : decode cX8_wasChosen 39 = .ok (.iload_n 1, 1) := by decide +kernel
theorem dX8_wasChosen_40 : decode cX8_wasChosen 40 = .ok (.if_icmp .ne 7, 3) := by decide +kernel
theorem dX8_wasChosen_43 : decode cX8_wasChosen 43 = .ok (.iconst 1, 1) := by decide +kernel
theorem dX8_wasChosen_44 : decode cX8_wasChosen 44 = .ok (.goto 4, 3) := by decide +kernel
theorem dX8_wasChosen_47 : decode cX8_wasChosen 47 = .ok (.iconst 0, 1) := by decide +kernel
theorem dX8_wasChosen_48 : decode cX8_wasChosen 48 = .ok (.istore_n 3, 1) := by decide +kernel
theorem dX8_wasChosen_49 : decode cX8_wasChosen 49 = .ok (.iinc 4 1, 3) := by decide +kernel
theorem dX8_wasChosen_52 : decode cX8_wasChosen 52 = .ok (.goto (-30), 3) := by decide +kernel
theorem dX8_wasChosen_55 : decode cX8_wasChosen 55 = .ok (.iload_n 3, 1) := by decide +kernel
theorem dX8_wasChosen_56 : decode cX8_wasChosen 56 = .ok (.ireturn, 1) := by decide +kernel
theorem dX8_latest_0 : decode cX8_latest 0 = .ok (.iload_n 1, 1) := by decide +kernel
theorem dX8_latest_1 : decode cX8_latest 1 = .ok (.ifCond .le 14, 3) := by decide +kernel
theorem dX8_latest_4 : decode cX8_latest 4 = .ok (.aload_n 0, 1) := by decide +kernel
theorem dX8_latest_5 : decode cX8_latest 5 = .ok (.getfield 69, 3) := by decide +kernel
theorem dX8_latest_8 : decode cX8_latest 8 = .ok (.iload_n 1, 1) := by decide +kernel
theorem dX8_latest_9 : decode cX8_latest 9 = .ok (.iconst 1, 1) := by decide +kernel
theorem dX8_latest_10 : decode cX8_latest 10 = .ok (.isub, 1) := by decide +kernel
theorem dX8_latest_11 : decode cX8_latest 11 = .ok (.iaload, 1) := by decide +kernel
theorem dX8_latest_12 : decode cX8_latest 12 = .ok (.goto 5, 3) := by decide +kernel
theorem dX8_latest_15 : decode cX8_latest 15 = .ok (.bipush 8, 2) := by decide +kernel
theorem dX8_latest_17 : decode cX8_latest 17 = .ok (.istore_n 2, 1) := by decide +kernel
theorem dX8_latest_18 : decode cX8_latest 18 = .ok (.iload_n 1, 1) := by decide +kernel
theorem dX8_latest_19 : decode cX8_latest 19 = .ok (.iconst 1, 1) := by decide +kernel
theorem dX8_latest_20 : decode cX8_latest 20 = .ok (.if_icmp .le 14, 3) := by decide +kernel
theorem dX8_latest_23 : decode cX8_latest 23 = .ok (.aload_n 0, 1) := by decide +kernel
theorem dX8_latest_24 : decode cX8_latest 24 = .ok (.getfield 69, 3) := by decide +kernel
theorem dX8_latest_27 : decode cX8_latest 27 = .ok (.iload_n 1, 1) := by decide +kernel
theorem dX8_latest_28 : decode cX8_latest 28 = .ok (.iconst 2, 1) := by decide +kernel
theorem dX8_latest_29 : decode cX8_latest 29 = .ok (.isub, 1) := by decide +kernel
theorem dX8_latest_30 : decode cX8_latest 30 = .ok (.iaload, 1) := by decide +kernel
theorem dX8_latest_31 : decode cX8_latest 31 = .ok (.goto 5, 3) := by decide +kernel
theorem dX8_latest_34 : decode cX8_latest 34 = .ok (.bipush 8, 2) := by decide +kernel
theorem dX8_latest_36 : decode cX8_latest 36 = .ok (.istore_n 3, 1) := by decide +kernel
theorem dX8_latest_37 : decode cX8_latest 37 = .ok (.iload_n 1, 1) := by decide +kernel
theorem dX8_latest_38 : decode cX8_latest 38 = .ok (.iconst 2, 1) := by decide +kernel
theorem dX8_latest_39 : decode cX8_latest 39 = .ok (.if_icmp .le 14, 3) := by decide +kernel
theorem dX8_latest_42 : decode cX8_latest 42 = .ok (.aload_n 0, 1) := by decide +kernel
theorem dX8_latest_43 : decode cX8_latest 43 = .ok (.getfield 69, 3) := by decide +kernel
theorem dX8_latest_46 : decode cX8_latest 46 = .ok (.iload_n 1, 1) := by decide +kernel
theorem dX8_latest_47 : decode cX8_latest 47 = .ok (.iconst 3, 1) := by decide +kernel
theorem dX8_latest_48 : decode cX8_latest 48 = .ok (.isub, 1) := by decide +kernel
theorem dX8_latest_49 : decode cX8_latest 49 = .ok (.iaload, 1) := by decide +kernel
theorem dX8_latest_50 : decode cX8_latest 50 = .ok (.goto 5, 3) := by decide +kernel
theorem dX8_latest_53 : decode cX8_latest 53 = .ok (.bipush 8, 2) := by decide +kernel
theorem dX8_latest_55 : decode cX8_latest 55 = .ok (.istore 4, 2) := by decide +kernel
theorem dX8_latest_57 : decode cX8_latest 57 = .ok (.iload_n 1, 1) := by decide +kernel
theorem dX8_latest_58 : decode cX8_latest 58 = .ok (.iconst 3, 1) := by decide +kernel
theorem dX8_latest_59 : decode cX8_latest 59 = .ok (.if_icmp .le 14, 3) := by decide +kernel
theorem dX8_latest_62 : decode cX8_latest 62 = .ok (.aload_n 0, 1) := by decide +kernel
theorem dX8_latest_63 : decode cX8_latest 63 = .ok (.getfield 69, 3) := by decide +kernel
theorem dX8_latest_66 : decode cX8_latest 66 = .ok (.iload_n 1, 1) := by decide +kernel
theorem dX8_latest_67 : decode cX8_latest 67 = .ok (.iconst 4, 1) := by decide +kernel
theorem dX8_latest_68 : decode cX8_latest 68 = .ok (.isub, 1) := by decide +kernel
theorem dX8_latest_69 : decode cX8_latest 69 = .ok (.iaload, 1) := by decide +kernel
theorem dX8_latest_70 : decode cX8_latest 70 = .ok (.goto 5, 3) := by decide +kernel
theorem dX8_latest_73 : decode cX8_latest 73 = .ok (.bipush 8, 2) := by decide +kernel
theorem dX8_latest_75 : decode cX8_latest 75 = .ok (.istore 5, 2) := by decide +kernel
theorem dX8_latest_77 : decode cX8_latest 77 = .ok (.sipush 729, 3) := by decide +kernel
theorem dX8_latest_80 : decode cX8_latest 80 = .ok (.iload 5, 2) := by decide +kernel
theorem dX8_latest_82 : decode cX8_latest 82 = .ok (.imul, 1) := by decide +kernel
theorem dX8_latest_83 : decode cX8_latest 83 = .ok (.bipush 81, 2) := by decide +kernel
theorem dX8_latest_85 : decode cX8_latest 85 = .ok (.iload 4, 2) := by decide +kernel
theorem dX8_latest_87 : decode cX8_latest 87 = .ok (.imul, 1) := by decide +kernel
theorem dX8_latest_88 : decode cX8_latest 88 = .ok (.iadd, 1) := by decide +kernel
theorem dX8_latest_89 : decode cX8_latest 89 = .ok (.bipush 9, 2) := by decide +kernel
theorem dX8_latest_91 : decode cX8_latest 91 = .ok (.iload_n 3, 1) := by decide +kernel
theorem dX8_latest_92 : decode cX8_latest 92 = .ok (.imul, 1) := by decide +kernel
theorem dX8_latest_93 : decode cX8_latest 93 = .ok (.iadd, 1) := by decide +kernel
theorem dX8_latest_94 : decode cX8_latest 94 = .ok (.iload_n 2, 1) := by decide +kernel
theorem dX8_latest_95 : decode cX8_latest 95 = .ok (.iadd, 1) := by decide +kernel
theorem dX8_latest_96 : decode cX8_latest 96 = .ok (.ireturn, 1) := by decide +kernel
theorem dX8_spent_0 : decode cX8_spent 0 = .ok (.iconst 0, 1) := by decide +kernel
theorem dX8_spent_1 : decode cX8_spent 1 = .ok (.istore_n 2, 1) := by decide +kernel
theorem dX8_spent_2 : decode cX8_spent 2 = .ok (.iconst 0, 1) := by decide +kernel
theorem dX8_spent_3 : decode cX8_spent 3 = .ok (.istore_n 3, 1) := by decide +kernel
theorem dX8_spent_4 : decode cX8_spent 4 = .ok (.iload_n 3, 1) := by decide +kernel
theorem dX8_spent_5 : decode cX8_spent 5 = .ok (.iload_n 1, 1) := by decide +kernel
theorem dX8_spent_6 : decode cX8_spent 6 = .ok (.if_icmp .ge 25, 3) := by decide +kernel
theorem dX8_spent_9 : decode cX8_spent 9 = .ok (.iload_n 2, 1) := by decide +kernel
theorem dX8_spent_10 : decode cX8_spent 10 = .ok (.iconst 2, 1) := by decide +kernel
theorem dX8_spent_11 : decode cX8_spent 11 = .ok (.aload_n 0, 1) := by decide +kernel
theorem dX8_spent_12 : decode cX8_spent 12 = .ok (.getfield 7, 3) := by decide +kernel
theorem dX8_spent_15 : decode cX8_spent 15 = .ok (.aload_n 0, 1) := by decide +kernel
theorem dX8_spent_16 : decode cX8_spent 16 = .ok (.getfield 69, 3) := by decide +kernel
theorem dX8_spent_19 : decode cX8_spent 19 = .ok (.iload_n 3, 1) := by decide +kernel
theorem dX8_spent_20 : decode cX8_spent 20 = .ok (.iaload, 1) := by decide +kernel
theorem dX8_spent_21 : decode cX8_spent 21 = .ok (.iaload, 1) := by decide +kernel
theorem dX8_spent_22 : decode cX8_spent 22 = .ok (.imul, 1) := by decide +kernel
theorem dX8_spent_23 : decode cX8_spent 23 = .ok (.iadd, 1) := by decide +kernel
theorem dX8_spent_24 : decode cX8_spent 24 = .ok (.istore_n 2, 1) := by decide +kernel
theorem dX8_spent_25 : decode cX8_spent 25 = .ok (.iinc 3 1, 3) := by decide +kernel
theorem dX8_spent_28 : decode cX8_spent 28 = .ok (.goto (-24), 3) := by decide +kernel
theorem dX8_spent_31 : decode cX8_spent 31 = .ok (.iload_n 2, 1) := by decide +kernel
theorem dX8_spent_32 : decode cX8_spent 32 = .ok (.ireturn, 1) := by decide +kernel
theorem dX8_findFeet_0 : decode cX8_findFeet 0 = .ok (.aload_n 0, 1) := by decide +kernel
theorem dX8_findFeet_1 : decode cX8_findFeet 1 = .ok (.iload_n 1, 1) := by decide +kernel
theorem dX8_findFeet_2 : decode cX8_findFeet 2 = .ok (.invokevirtual 281, 3) := by decide +kernel
theorem dX8_findFeet_5 : decode cX8_findFeet 5 = .ok (.aload_n 0, 1) := by decide +kernel
theorem dX8_findFeet_6 : decode cX8_findFeet 6 = .ok (.ldc_w 277, 3) := by decide +kernel
theorem dX8_findFeet_9 : decode cX8_findFeet 9 = .ok (.putfield 284, 3) := by decide +kernel
theorem dX8_findFeet_12 : decode cX8_findFeet 12 = .ok (.iconst 0, 1) := by decide +kernel
theorem dX8_findFeet_13 : decode cX8_findFeet 13 = .ok (.istore_n 2, 1) := by decide +kernel
theorem dX8_findFeet_14 : decode cX8_findFeet 14 = .ok (.aload_n 0, 1) := by decide +kernel
theorem dX8_findFeet_15 : decode cX8_findFeet 15 = .ok (.getfield 69, 3) := by decide +kernel
theorem dX8_findFeet_18 : decode cX8_findFeet 18 = .ok (.iconst 0, 1) := by decide +kernel
theorem dX8_findFeet_19 : decode cX8_findFeet 19 = .ok (.iconst (-1), 1) := by decide +kernel
theorem dX8_findFeet_20 : decode cX8_findFeet 20 = .ok (.iastore, 1) := by decide +kernel
theorem dX8_findFeet_21 : decode cX8_findFeet 21 = .ok (.iload_n 2, 1) := by decide +kernel
theorem dX8_findFeet_22 : decode cX8_findFeet 22 = .ok (.ifCond .lt 155, 3) := by decide +kernel
theorem dX8_findFeet_25 : decode cX8_findFeet 25 = .ok (.aload_n 0, 1) := by decide +kernel
theorem dX8_findFeet_26 : decode cX8_findFeet 26 = .ok (.getfield 69, 3) := by decide +kernel
theorem dX8_findFeet_29 : decode cX8_findFeet 29 = .ok (.iload_n 2, 1) := by decide +kernel
theorem dX8_findFeet_30 : decode cX8_findFeet 30 = .ok (.dup2, 1) := by decide +kernel
theorem dX8_findFeet_31 : decode cX8_findFeet 31 = .ok (.iaload, 1) := by decide +kernel
theorem dX8_findFeet_32 : decode cX8_findFeet 32 = .ok (.iconst 1, 1) := by decide +kernel
theorem dX8_findFeet_33 : decode cX8_findFeet 33 = .ok (.iadd, 1) := by decide +kernel
theorem dX8_findFeet_34 : decode cX8_findFeet 34 = .ok (.iastore, 1) := by decide +kernel
theorem dX8_findFeet_35 : decode cX8_findFeet 35 = .ok (.aload_n 0, 1) := by decide +kernel
theorem dX8_findFeet_36 : decode cX8_findFeet 36 = .ok (.getfield 69, 3) := by decide +kernel
theorem dX8_findFeet_39 : decode cX8_findFeet 39 = .ok (.iload_n 2, 1) := by decide +kernel
theorem dX8_findFeet_40 : decode cX8_findFeet 40 = .ok (.iaload, 1) := by decide +kernel
theorem dX8_findFeet_41 : decode cX8_findFeet 41 = .ok (.istore_n 3, 1) := by decide +kernel
theorem dX8_findFeet_42 : decode cX8_findFeet 42 = .ok (.iload_n 3, 1) := by decide +kernel
theorem dX8_findFeet_43 : decode cX8_findFeet 43 = .ok (.aload_n 0, 1) := by decide +kernel
theorem dX8_findFeet_44 : decode cX8_findFeet 44 = .ok (.getfield 94, 3) := by decide +kernel
theorem dX8_findFeet_47 : decode cX8_findFeet 47 = .ok (.if_icmp .lt 9, 3) := by decide +kernel
theorem dX8_findFeet_50 : decode cX8_findFeet 50 = .ok (.iinc 2 (-1), 3) := by decide +kernel
theorem dX8_findFeet_53 : decode cX8_findFeet 53 = .ok (.goto 121, 3) := by decide +kernel
theorem dX8_findFeet_56 : decode cX8_findFeet 56 = .ok (.aload_n 0, 1) := by decide +kernel
theorem dX8_findFeet_57 : decode cX8_findFeet 57 = .ok (.iload_n 3, 1) := by decide +kernel
theorem dX8_findFeet_58 : decode cX8_findFeet 58 = .ok (.iload_n 2, 1) := by decide +kernel
theorem dX8_findFeet_59 : decode cX8_findFeet 59 = .ok (.invokevirtual 287, 3) := by decide +kernel
theorem dX8_findFeet_62 : decode cX8_findFeet 62 = .ok (.ifCond .ne 112, 3) := by decide +kernel
theorem dX8_findFeet_65 : decode cX8_findFeet 65 = .ok (.aload_n 0, 1) := by decide +kernel
theorem dX8_findFeet_66 : decode cX8_findFeet 66 = .ok (.iload_n 3, 1) := by decide +kernel
theorem dX8_findFeet_67 : decode cX8_findFeet 67 = .ok (.aload_n 0, 1) := by decide +kernel
theorem dX8_findFeet_68 : decode cX8_findFeet 68 = .ok (.getfield 25, 3) := by decide +kernel
theorem dX8_findFeet_71 : decode cX8_findFeet 71 = .ok (.iconst 0, 1) := by decide +kernel
theorem dX8_findFeet_72 : decode cX8_findFeet 72 = .ok (.iaload, 1) := by decide +kernel
theorem dX8_findFeet_73 : decode cX8_findFeet 73 = .ok (.iload_n 2, 1) := by decide +kernel
theorem dX8_findFeet_74 : decode cX8_findFeet 74 = .ok (.iadd, 1) := by decide +kernel
theorem dX8_findFeet_75 : decode cX8_findFeet 75 = .ok (.invokevirtual 278, 3) := by decide +kernel
theorem dX8_findFeet_78 : decode cX8_findFeet 78 = .ok (.ifCond .eq 96, 3) := by decide +kernel
theorem dX8_findFeet_81 : decode cX8_findFeet 81 = .ok (.aload_n 0, 1) := by decide +kernel
theorem dX8_findFeet_82 : decode cX8_findFeet 82 = .ok (.iload_n 2, 1) := by decide +kernel
theorem dX8_findFeet_83 : decode cX8_findFeet 83 = .ok (.iconst 1, 1) := by decide +kernel
theorem dX8_findFeet_84 : decode cX8_findFeet 84 = .ok (.iadd, 1) := by decide +kernel
theorem dX8_findFeet_85 : decode cX8_findFeet 85 = .ok (.invokevirtual 290, 3) := by decide +kernel
theorem dX8_findFeet_88 : decode cX8_findFeet 88 = .ok (.aload_n 0, 1) := by decide +kernel
theorem dX8_findFeet_89 : decode cX8_findFeet 89 = .ok (.getfield 66, 3) := by decide +kernel
theorem dX8_findFeet_92 : decode cX8_findFeet 92 = .ok (.sipush 6561, 3) := by decide +kernel
theorem dX8_findFeet_95 : decode cX8_findFeet 95 = .ok (.iload_n 2, 1) := by decide +kernel
theorem dX8_findFeet_96 : decode cX8_findFeet 96 = .ok (.iconst 1, 1) := by decide +kernel
theorem dX8_findFeet_97 : decode cX8_findFeet 97 = .ok (.iadd, 1) := by decide +kernel
theorem dX8_findFeet_98 : decode cX8_findFeet 98 = .ok (.imul, 1) := by decide +kernel
theorem dX8_findFeet_99 : decode cX8_findFeet 99 = .ok (.aload_n 0, 1) := by decide +kernel
theorem dX8_findFeet_100 : decode cX8_findFeet 100 = .ok (.iload_n 2, 1) := by decide +kernel
theorem dX8_findFeet_101 : decode cX8_findFeet 101 = .ok (.iconst 1, 1) := by decide +kernel
theorem dX8_findFeet_102 : decode cX8_findFeet 102 = .ok (.iadd, 1) := by decide +kernel
theorem dX8_findFeet_103 : decode cX8_findFeet 103 = .ok (.invokevirtual 293, 3) := by decide +kernel
theorem dX8_findFeet_106 : decode cX8_findFeet 106 = .ok (.iadd, 1) := by decide +kernel
theorem dX8_findFeet_107 : decode cX8_findFeet 107 = .ok (.iaload, 1) := by decide +kernel
theorem dX8_findFeet_108 : decode cX8_findFeet 108 = .ok (.iadd, 1) := by decide +kernel
theorem dX8_findFeet_109 : decode cX8_findFeet 109 = .ok (.aload_n 0, 1) := by decide +kernel
theorem dX8_findFeet_110 : decode cX8_findFeet 110 = .ok (.getfield 284, 3) := by decide +kernel
theorem dX8_findFeet_113 : decode cX8_findFeet 113 = .ok (.if_icmp .ge 61, 3) := by decide +kernel
theorem dX8_findFeet_116 : decode cX8_findFeet 116 = .ok (.iload_n 2, 1) := by decide +kernel
theorem dX8_findFeet_117 : decode cX8_findFeet 117 = .ok (.iload_n 1, 1) := by decide +kernel
theorem dX8_findFeet_118 : decode cX8_findFeet 118 = .ok (.iconst 1, 1) := by decide +kernel
theorem dX8_findFeet_119 : decode cX8_findFeet 119 = .ok (.isub, 1) := by decide +kernel
theorem dX8_findFeet_120 : decode cX8_findFeet 120 = .ok (.if_icmp .ne 44, 3) := by decide +kernel
theorem dX8_findFeet_123 : decode cX8_findFeet 123 = .ok (.aload_n 0, 1) := by decide +kernel
theorem dX8_findFeet_124 : decode cX8_findFeet 124 = .ok (.aload_n 0, 1) := by decide +kernel
theorem dX8_findFeet_125 : decode cX8_findFeet 125 = .ok (.iload_n 1, 1) := by decide +kernel
theorem dX8_findFeet_126 : decode cX8_findFeet 126 = .ok (.invokevirtual 290, 3) := by decide +kernel
theorem dX8_findFeet_129 : decode cX8_findFeet 129 = .ok (.putfield 284, 3) := by decide +kernel
theorem dX8_findFeet_132 : decode cX8_findFeet 132 = .ok (.iconst 0, 1) := by decide +kernel
theorem dX8_findFeet_133 : decode cX8_findFeet 133 = .ok (.istore 4, 2) := by decide +kernel
theorem dX8_findFeet_135 : decode cX8_findFeet 135 = .ok (.iload 4, 2) := by decide +kernel
theorem dX8_findFeet_137 : decode cX8_findFeet 137 = .ok (.iload_n 1, 1) := by decide +kernel
theorem dX8_findFeet_138 : decode cX8_findFeet 138 = .ok (.if_icmp .ge 23, 3) := by decide +kernel
theorem dX8_findFeet_141 : decode cX8_findFeet 141 = .ok (.aload_n 0, 1) := by decide +kernel
theorem dX8_findFeet_142 : decode cX8_findFeet 142 = .ok (.getfield 72, 3) := by decide +kernel
theorem dX8_findFeet_145 : decode cX8_findFeet 145 = .ok (.iload 4, 2) := by decide +kernel
theorem dX8_findFeet_147 : decode cX8_findFeet 147 = .ok (.aload_n 0, 1) := by decide +kernel
theorem dX8_findFeet_148 : decode cX8_findFeet 148 = .ok (.getfield 69, 3) := by decide +kernel
theorem dX8_findFeet_151 : decode cX8_findFeet 151 = .ok (.iload 4, 2) := by decide +kernel
theorem dX8_findFeet_153 : decode cX8_findFeet 153 = .ok (.iaload, 1) := by decide +kernel
theorem dX8_findFeet_154 : decode cX8_findFeet 154 = .ok (.iastore, 1) := by decide +kernel
theorem dX8_findFeet_155 : decode cX8_findFeet 155 = .ok (.iinc 4 1, 3) := by decide +kernel
theorem dX8_findFeet_158 : decode cX8_findFeet 158 = .ok (.goto (-23), 3) := by decide +kernel
theorem dX8_findFeet_161 : decode cX8_findFeet 161 = .ok (.goto 13, 3) := by decide +kernel
theorem dX8_findFeet_164 : decode cX8_findFeet 164 = .ok (.iinc 2 1, 3) := by decide +kernel
theorem dX8_findFeet_167 : decode cX8_findFeet 167 = .ok (.aload_n 0, 1) := by decide +kernel
theorem dX8_findFeet_168 : decode cX8_findFeet 168 = .ok (.getfield 69, 3) := by decide +kernel
theorem dX8_findFeet_171 : decode cX8_findFeet 171 = .ok (.iload_n 2, 1) := by decide +kernel
theorem dX8_findFeet_172 : decode cX8_findFeet 172 = .ok (.iconst (-1), 1) := by decide +kernel
theorem dX8_findFeet_173 : decode cX8_findFeet 173 = .ok (.iastore, 1) := by decide +kernel
theorem dX8_findFeet_174 : decode cX8_findFeet 174 = .ok (.goto (-153), 3) := by decide +kernel
theorem dX8_findFeet_177 : decode cX8_findFeet 177 = .ok (.return_, 1) := by decide +kernel
theorem dX8_feet_0 : decode cX8_feet 0 = .ok (.iload_n 1, 1) := by decide +kernel
theorem dX8_feet_1 : decode cX8_feet 1 = .ok (.i2l, 1) := by decide +kernel
theorem dX8_feet_2 : decode cX8_feet 2 = .ok (.lconst 1, 1) := by decide +kernel
theorem dX8_feet_3 : decode cX8_feet 3 = .ok (.ldc2_w 296, 3) := by decide +kernel
theorem dX8_feet_6 : decode cX8_feet 6 = .ok (.invokestatic 97, 3) := by decide +kernel
theorem dX8_feet_9 : decode cX8_feet 9 = .ok (.ifCond .ne 6, 3) := by decide +kernel
theorem dX8_feet_12 : decode cX8_feet 12 = .ok (.ldc 103, 2) := by decide +kernel
theorem dX8_feet_14 : decode cX8_feet 14 = .ok (.ireturn, 1) := by decide +kernel
theorem dX8_feet_15 : decode cX8_feet 15 = .ok (.aload_n 0, 1) := by decide +kernel
theorem dX8_feet_16 : decode cX8_feet 16 = .ok (.getfield 155, 3) := by decide +kernel
theorem dX8_feet_19 : decode cX8_feet 19 = .ok (.ifCond .ne 6, 3) := by decide +kernel
theorem dX8_feet_22 : decode cX8_feet 22 = .ok (.ldc 224, 2) := by decide +kernel
theorem dX8_feet_24 : decode cX8_feet 24 = .ok (.ireturn, 1) := by decide +kernel
theorem dX8_feet_25 : decode cX8_feet 25 = .ok (.aload_n 0, 1) := by decide +kernel
theorem dX8_feet_26 : decode cX8_feet 26 = .ok (.iload_n 1, 1) := by decide +kernel
theorem dX8_feet_27 : decode cX8_feet 27 = .ok (.invokevirtual 298, 3) := by decide +kernel
theorem dX8_feet_30 : decode cX8_feet 30 = .ok (.aload_n 0, 1) := by decide +kernel
theorem dX8_feet_31 : decode cX8_feet 31 = .ok (.getfield 284, 3) := by decide +kernel
theorem dX8_feet_34 : decode cX8_feet 34 = .ok (.ldc_w 277, 3) := by decide +kernel
theorem dX8_feet_37 : decode cX8_feet 37 = .ok (.if_icmp .ne 5, 3) := by decide +kernel
theorem dX8_feet_40 : decode cX8_feet 40 = .ok (.iconst (-1), 1) := by decide +kernel
theorem dX8_feet_41 : decode cX8_feet 41 = .ok (.ireturn, 1) := by decide +kernel
theorem dX8_feet_42 : decode cX8_feet 42 = .ok (.iload_n 2, 1) := by decide +kernel
theorem dX8_feet_43 : decode cX8_feet 43 = .ok (.iconst (-1), 1) := by decide +kernel
theorem dX8_feet_44 : decode cX8_feet 44 = .ok (.if_icmp .ne 10, 3) := by decide +kernel
theorem dX8_feet_47 : decode cX8_feet 47 = .ok (.aload_n 0, 1) := by decide +kernel
theorem dX8_feet_48 : decode cX8_feet 48 = .ok (.getfield 284, 3) := by decide +kernel
theorem dX8_feet_51 : decode cX8_feet 51 = .ok (.goto 26, 3) := by decide +kernel
theorem dX8_feet_54 : decode cX8_feet 54 = .ok (.iload_n 2, 1) := by decide +kernel
theorem dX8_feet_55 : decode cX8_feet 55 = .ok (.i2l, 1) := by decide +kernel
theorem dX8_feet_56 : decode cX8_feet 56 = .ok (.lconst 0, 1) := by decide +kernel
theorem dX8_feet_57 : decode cX8_feet 57 = .ok (.iload_n 1, 1) := by decide +kernel
theorem dX8_feet_58 : decode cX8_feet 58 = .ok (.iconst 1, 1) := by decide +kernel
theorem dX8_feet_59 : decode cX8_feet 59 = .ok (.isub, 1) := by decide +kernel
theorem dX8_feet_60 : decode cX8_feet 60 = .ok (.i2l, 1) := by decide +kernel
theorem dX8_feet_61 : decode cX8_feet 61 = .ok (.invokestatic 97, 3) := by decide +kernel
theorem dX8_feet_64 : decode cX8_feet 64 = .ok (.ifCond .eq 12, 3) := by decide +kernel
theorem dX8_feet_67 : decode cX8_feet 67 = .ok (.aload_n 0, 1) := by decide +kernel
theorem dX8_feet_68 : decode cX8_feet 68 = .ok (.getfield 72, 3) := by decide +kernel
theorem dX8_feet_71 : decode cX8_feet 71 = .ok (.iload_n 2, 1) := by decide +kernel
theorem dX8_feet_72 : decode cX8_feet 72 = .ok (.iaload, 1) := by decide +kernel
theorem dX8_feet_73 : decode cX8_feet 73 = .ok (.goto 4, 3) := by decide +kernel
theorem dX8_feet_76 : decode cX8_feet 76 = .ok (.iconst (-1), 1) := by decide +kernel
theorem dX8_feet_77 : decode cX8_feet 77 = .ok (.ireturn, 1) := by decide +kernel
theorem dX8_odds_0 : decode cX8_odds 0 = .ok (.iload_n 1, 1) := by decide +kernel
theorem dX8_odds_1 : decode cX8_odds 1 = .ok (.i2l, 1) := by decide +kernel
theorem dX8_odds_2 : decode cX8_odds 2 = .ok (.lconst 0, 1) := by decide +kernel
theorem dX8_odds_3 : decode cX8_odds 3 = .ok (.ldc2_w 275, 3) := by decide +kernel
theorem dX8_odds_6 : decode cX8_odds 6 = .ok (.invokestatic 97, 3) := by decide +kernel
theorem dX8_odds_9 : decode cX8_odds 9 = .ok (.ifCond .ne 6, 3) := by decide +kernel
theorem dX8_odds_12 : decode cX8_odds 12 = .ok (.ldc 103, 2) := by decide +kernel
theorem dX8_odds_14 : decode cX8_odds 14 = .ok (.ireturn, 1) := by decide +kernel
theorem dX8_odds_15 : decode cX8_odds 15 = .ok (.ldc_w 277, 3) := by decide +kernel
theorem dX8_odds_18 : decode cX8_odds 18 = .ok (.istore_n 2, 1) := by decide +kernel
theorem dX8_odds_19 : decode cX8_odds 19 = .ok (.iconst 0, 1) := by decide +kernel
theorem dX8_odds_20 : decode cX8_odds 20 = .ok (.istore_n 3, 1) := by decide +kernel
theorem dX8_odds_21 : decode cX8_odds 21 = .ok (.aload_n 0, 1) := by decide +kernel
theorem dX8_odds_22 : decode cX8_odds 22 = .ok (.iload_n 1, 1) := by decide +kernel
theorem dX8_odds_23 : decode cX8_odds 23 = .ok (.invokevirtual 204, 3) := by decide +kernel
theorem dX8_odds_26 : decode cX8_odds 26 = .ok (.istore 4, 2) := by decide +kernel
theorem dX8_odds_28 : decode cX8_odds 28 = .ok (.iconst 0, 1) := by decide +kernel
theorem dX8_odds_29 : decode cX8_odds 29 = .ok (.istore 5, 2) := by decide +kernel
theorem dX8_odds_31 : decode cX8_odds 31 = .ok (.iload 5, 2) := by decide +kernel
theorem dX8_odds_33 : decode cX8_odds 33 = .ok (.aload_n 0, 1) := by decide +kernel
theorem dX8_odds_34 : decode cX8_odds 34 = .ok (.getfield 94, 3) := by decide +kernel
theorem dX8_odds_37 : decode cX8_odds 37 = .ok (.if_icmp .ge 61, 3) := by decide +kernel
theorem dX8_odds_40 : decode cX8_odds 40 = .ok (.iload 4, 2) := by decide +kernel
theorem dX8_odds_42 : decode cX8_odds 42 = .ok (.iload 5, 2) := by decide +kernel
theorem dX8_odds_44 : decode cX8_odds 44 = .ok (.invokestatic 196, 3) := by decide +kernel
theorem dX8_odds_47 : decode cX8_odds 47 = .ok (.ifCond .eq 45, 3) := by decide +kernel
theorem dX8_odds_50 : decode cX8_odds 50 = .ok (.iload_n 3, 1) := by decide +kernel
theorem dX8_odds_51 : decode cX8_odds 51 = .ok (.aload_n 0, 1) := by decide +kernel
theorem dX8_odds_52 : decode cX8_odds 52 = .ok (.getfield 16, 3) := by decide +kernel
theorem dX8_odds_55 : decode cX8_odds 55 = .ok (.iload 5, 2) := by decide +kernel
theorem dX8_odds_57 : decode cX8_odds 57 = .ok (.iaload, 1) := by decide +kernel
theorem dX8_odds_58 : decode cX8_odds 58 = .ok (.imul, 1) := by decide +kernel
theorem dX8_odds_59 : decode cX8_odds 59 = .ok (.bipush 100, 2) := by decide +kernel
theorem dX8_odds_61 : decode cX8_odds 61 = .ok (.idiv, 1) := by decide +kernel
theorem dX8_odds_62 : decode cX8_odds 62 = .ok (.iload_n 2, 1) := by decide +kernel
theorem dX8_odds_63 : decode cX8_odds 63 = .ok (.bipush 100, 2) := by decide +kernel
theorem dX8_odds_65 : decode cX8_odds 65 = .ok (.aload_n 0, 1) := by decide +kernel
theorem dX8_odds_66 : decode cX8_odds 66 = .ok (.getfield 16, 3) := by decide +kernel
theorem dX8_odds_69 : decode cX8_odds 69 = .ok (.iload 5, 2) := by decide +kernel
theorem dX8_odds_71 : decode cX8_odds 71 = .ok (.iaload, 1) := by decide +kernel
theorem dX8_odds_72 : decode cX8_odds 72 = .ok (.isub, 1) := by decide +kernel
theorem dX8_odds_73 : decode cX8_odds 73 = .ok (.imul, 1) := by decide +kernel
theorem dX8_odds_74 : decode cX8_odds 74 = .ok (.bipush 100, 2) := by decide +kernel
theorem dX8_odds_76 : decode cX8_odds 76 = .ok (.idiv, 1) := by decide +kernel
theorem dX8_odds_77 : decode cX8_odds 77 = .ok (.iadd, 1) := by decide +kernel
theorem dX8_odds_78 : decode cX8_odds 78 = .ok (.istore_n 3, 1) := by decide +kernel
theorem dX8_odds_79 : decode cX8_odds 79 = .ok (.iload_n 2, 1) := by decide +kernel
theorem dX8_odds_80 : decode cX8_odds 80 = .ok (.aload_n 0, 1) := by decide +kernel
theorem dX8_odds_81 : decode cX8_odds 81 = .ok (.getfield 16, 3) := by decide +kernel
theorem dX8_odds_84 : decode cX8_odds 84 = .ok (.iload 5, 2) := by decide +kernel
theorem dX8_odds_86 : decode cX8_odds 86 = .ok (.iaload, 1) := by decide +kernel
theorem dX8_odds_87 : decode cX8_odds 87 = .ok (.imul, 1) := by decide +kernel
theorem dX8_odds_88 : decode cX8_odds 88 = .ok (.bipush 100, 2) := by decide +kernel
theorem dX8_odds_90 : decode cX8_odds 90 = .ok (.idiv, 1) := by decide +kernel
theorem dX8_odds_91 : decode cX8_odds 91 = .ok (.istore_n 2, 1) := by decide +kernel
theorem dX8_odds_92 : decode cX8_odds 92 = .ok (.iinc 5 1, 3) := by decide +kernel
theorem dX8_odds_95 : decode cX8_odds 95 = .ok (.goto (-64), 3) := by decide +kernel
theorem dX8_odds_98 : decode cX8_odds 98 = .ok (.iload_n 3, 1) := by decide +kernel
theorem dX8_odds_99 : decode cX8_odds 99 = .ok (.ireturn, 1) := by decide +kernel
theorem dX8_see_0 : decode cX8_see 0 = .ok (.iload_n 1, 1) := by decide +kernel
theorem dX8_see_1 : decode cX8_see 1 = .ok (.i2l, 1) := by decide +kernel
theorem dX8_see_2 : decode cX8_see 2 = .ok (.lconst 0, 1) := by decide +kernel
theorem dX8_see_3 : decode cX8_see 3 = .ok (.ldc2_w 222, 3) := by decide +kernel
theorem dX8_see_6 : decode cX8_see 6 = .ok (.invokestatic 97, 3) := by decide +kernel
theorem dX8_see_9 : decode cX8_see 9 = .ok (.ifCond .eq 15, 3) := by decide +kernel
theorem dX8_see_12 : decode cX8_see 12 = .ok (.iload_n 2, 1) := by decide +kernel
theorem dX8_see_13 : decode cX8_see 13 = .ok (.i2l, 1) := by decide +kernel
theorem dX8_see_14 : decode cX8_see 14 = .ok (.lconst 0, 1) := by decide +kernel
theorem dX8_see_15 : decode cX8_see 15 = .ok (.ldc2_w 301, 3) := by decide +kernel
theorem dX8_see_18 : decode cX8_see 18 = .ok (.invokestatic 97, 3) := by decide +kernel
theorem dX8_see_21 : decode cX8_see 21 = .ok (.ifCond .ne 6, 3) := by decide +kernel
theorem dX8_see_24 : decode cX8_see 24 = .ok (.ldc 103, 2) := by decide +kernel
theorem dX8_see_26 : decode cX8_see 26 = .ok (.ireturn, 1) := by decide +kernel
theorem dX8_see_27 : decode cX8_see 27 = .ok (.aload_n 0, 1) := by decide +kernel
theorem dX8_see_28 : decode cX8_see 28 = .ok (.getfield 176, 3) := by decide +kernel
theorem dX8_see_31 : decode cX8_see 31 = .ok (.bipush 10, 2) := by decide +kernel
theorem dX8_see_33 : decode cX8_see 33 = .ok (.if_icmp .ne 6, 3) := by decide +kernel
theorem dX8_see_36 : decode cX8_see 36 = .ok (.ldc 107, 2) := by decide +kernel
theorem dX8_see_38 : decode cX8_see 38 = .ok (.ireturn, 1) := by decide +kernel
theorem dX8_see_39 : decode cX8_see 39 = .ok (.aload_n 0, 1) := by decide +kernel
theorem dX8_see_40 : decode cX8_see 40 = .ok (.getfield 75, 3) := by decide +kernel
theorem dX8_see_43 : decode cX8_see 43 = .ok (.aload_n 0, 1) := by decide +kernel
theorem dX8_see_44 : decode cX8_see 44 = .ok (.getfield 176, 3) := by decide +kernel
theorem dX8_see_47 : decode cX8_see 47 = .ok (.iload_n 1, 1) := by decide +kernel
theorem dX8_see_48 : decode cX8_see 48 = .ok (.iastore, 1) := by decide +kernel
theorem dX8_see_49 : decode cX8_see 49 = .ok (.aload_n 0, 1) := by decide +kernel
theorem dX8_see_50 : decode cX8_see 50 = .ok (.getfield 78, 3) := by decide +kernel
theorem dX8_see_53 : decode cX8_see 53 = .ok (.aload_n 0, 1) := by decide +kernel
theorem dX8_see_54 : decode cX8_see 54 = .ok (.getfield 176, 3) := by decide +kernel
theorem dX8_see_57 : decode cX8_see 57 = .ok (.iload_n 2, 1) := by decide +kernel
theorem dX8_see_58 : decode cX8_see 58 = .ok (.iastore, 1) := by decide +kernel
theorem dX8_see_59 : decode cX8_see 59 = .ok (.aload_n 0, 1) := by decide +kernel
theorem dX8_see_60 : decode cX8_see 60 = .ok (.dup, 1) := by decide +kernel
theorem dX8_see_61 : decode cX8_see 61 = .ok (.getfield 176, 3) := by decide +kernel
theorem dX8_see_64 : decode cX8_see 64 = .ok (.iconst 1, 1) := by decide +kernel
theorem dX8_see_65 : decode cX8_see 65 = .ok (.iadd, 1) := by decide +kernel
theorem dX8_see_66 : decode cX8_see 66 = .ok (.putfield 176, 3) := by decide +kernel
theorem dX8_see_69 : decode cX8_see 69 = .ok (.aload_n 0, 1) := by decide +kernel
theorem dX8_see_70 : decode cX8_see 70 = .ok (.getfield 176, 3) := by decide +kernel
theorem dX8_see_73 : decode cX8_see 73 = .ok (.ireturn, 1) := by decide +kernel
theorem dX8_howBy_0 : decode cX8_howBy 0 = .ok (.aload_n 0, 1) := by decide +kernel
theorem dX8_howBy_1 : decode cX8_howBy 1 = .ok (.iload_n 3, 1) := by decide +kernel
theorem dX8_howBy_2 : decode cX8_howBy 2 = .ok (.invokevirtual 204, 3) := by decide +kernel
theorem dX8_howBy_5 : decode cX8_howBy 5 = .ok (.iconst 1, 1) := by decide +kernel
theorem dX8_howBy_6 : decode cX8_howBy 6 = .ok (.iload_n 1, 1) := by decide +kernel
theorem dX8_howBy_7 : decode cX8_howBy 7 = .ok (.ishl, 1) := by decide +kernel
theorem dX8_howBy_8 : decode cX8_howBy 8 = .ok (.iconst (-1), 1) := by decide +kernel
theorem dX8_howBy_9 : decode cX8_howBy 9 = .ok (.ixor, 1) := by decide +kernel
theorem dX8_howBy_10 : decode cX8_howBy 10 = .ok (.iand, 1) := by decide +kernel
theorem dX8_howBy_11 : decode cX8_howBy 11 = .ok (.invokestatic 216, 3) := by decide +kernel
theorem dX8_howBy_14 : decode cX8_howBy 14 = .ok (.aload_n 0, 1) := by decide +kernel
theorem dX8_howBy_15 : decode cX8_howBy 15 = .ok (.iload_n 1, 1) := by decide +kernel
theorem dX8_howBy_16 : decode cX8_howBy 16 = .ok (.iload_n 3, 1) := by decide +kernel
theorem dX8_howBy_17 : decode cX8_howBy 17 = .ok (.iload_n 2, 1) := by decide +kernel
theorem dX8_howBy_18 : decode cX8_howBy 18 = .ok (.invokevirtual 200, 3) := by decide +kernel
theorem dX8_howBy_21 : decode cX8_howBy 21 = .ok (.ifCond .eq 7, 3) := by decide +kernel
theorem dX8_howBy_24 : decode cX8_howBy 24 = .ok (.iconst 1, 1) := by decide +kernel
theorem dX8_howBy_25 : decode cX8_howBy 25 = .ok (.goto 4, 3) := by decide +kernel
theorem dX8_howBy_28 : decode cX8_howBy 28 = .ok (.iconst 0, 1) := by decide +kernel
theorem dX8_howBy_29 : decode cX8_howBy 29 = .ok (.iadd, 1) := by decide +kernel
theorem dX8_howBy_30 : decode cX8_howBy 30 = .ok (.istore 4, 2) := by decide +kernel
theorem dX8_howBy_32 : decode cX8_howBy 32 = .ok (.iload 4, 2) := by decide +kernel
theorem dX8_howBy_34 : decode cX8_howBy 34 = .ok (.iconst 1, 1) := by decide +kernel
theorem dX8_howBy_35 : decode cX8_howBy 35 = .ok (.if_icmp .le 7, 3) := by decide +kernel
theorem dX8_howBy_38 : decode cX8_howBy 38 = .ok (.iconst 2, 1) := by decide +kernel
theorem dX8_howBy_39 : decode cX8_howBy 39 = .ok (.goto 5, 3) := by decide +kernel
theorem dX8_howBy_42 : decode cX8_howBy 42 = .ok (.iload 4, 2) := by decide +kernel
theorem dX8_howBy_44 : decode cX8_howBy 44 = .ok (.ireturn, 1) := by decide +kernel
theorem dX8_offsetsOf_0 : decode cX8_offsetsOf 0 = .ok (.iconst 0, 1) := by decide +kernel
theorem dX8_offsetsOf_1 : decode cX8_offsetsOf 1 = .ok (.istore_n 2, 1) := by decide +kernel
theorem dX8_offsetsOf_2 : decode cX8_offsetsOf 2 = .ok (.iconst 0, 1) := by decide +kernel
theorem dX8_offsetsOf_3 : decode cX8_offsetsOf 3 = .ok (.istore_n 3, 1) := by decide +kernel
theorem dX8_offsetsOf_4 : decode cX8_offsetsOf 4 = .ok (.iload_n 3, 1) := by decide +kernel
theorem dX8_offsetsOf_5 : decode cX8_offsetsOf 5 = .ok (.aload_n 0, 1) := by decide +kernel
theorem dX8_offsetsOf_6 : decode cX8_offsetsOf 6 = .ok (.getfield 13, 3) := by decide +kernel
theorem dX8_offsetsOf_9 : decode cX8_offsetsOf 9 = .ok (.iload_n 1, 1) := by decide +kernel
theorem dX8_offsetsOf_10 : decode cX8_offsetsOf 10 = .ok (.iaload, 1) := by decide +kernel
theorem dX8_offsetsOf_11 : decode cX8_offsetsOf 11 = .ok (.if_icmp .ge 80, 3) := by decide +kernel
theorem dX8_offsetsOf_14 : decode cX8_offsetsOf 14 = .ok (.iconst 1, 1) := by decide +kernel
theorem dX8_offsetsOf_15 : decode cX8_offsetsOf 15 = .ok (.istore 4, 2) := by decide +kernel
theorem dX8_offsetsOf_17 : decode cX8_offsetsOf 17 = .ok (.iconst 0, 1) := by decide +kernel
theorem dX8_offsetsOf_18 : decode cX8_offsetsOf 18 = .ok (.istore 5, 2) := by decide +kernel
theorem dX8_offsetsOf_20 : decode cX8_offsetsOf 20 = .ok (.iload 5, 2) := by decide +kernel
theorem dX8_offsetsOf_22 : decode cX8_offsetsOf 22 = .ok (.aload_n 0, 1) := by decide +kernel
theorem dX8_offsetsOf_23 : decode cX8_offsetsOf 23 = .ok (.getfield 176, 3) := by decide +kernel
theorem dX8_offsetsOf_26 : decode cX8_offsetsOf 26 = .ok (.if_icmp .ge 44, 3) := by decide +kernel
theorem dX8_offsetsOf_29 : decode cX8_offsetsOf 29 = .ok (.iload 4, 2) := by decide +kernel
theorem dX8_offsetsOf_31 : decode cX8_offsetsOf 31 = .ok (.ifCond .eq 30, 3) := by decide +kernel
theorem dX8_offsetsOf_34 : decode cX8_offsetsOf 34 = .ok (.aload_n 0, 1) := by decide +kernel
theorem dX8_offsetsOf_35 : decode cX8_offsetsOf 35 = .ok (.iload_n 1, 1) := by decide +kernel
theorem dX8_offsetsOf_36 : decode cX8_offsetsOf 36 = .ok (.iload_n 3, 1) := by decide +kernel
theorem dX8_offsetsOf_37 : decode cX8_offsetsOf 37 = .ok (.aload_n 0, 1) := by decide +kernel
theorem dX8_offsetsOf_38 : decode cX8_offsetsOf 38 = .ok (.getfield 75, 3) := by decide +kernel
theorem dX8_offsetsOf_41 : decode cX8_offsetsOf 41 = .ok (.iload 5, 2) := by decide +kernel
theorem dX8_offsetsOf_43 : decode cX8_offsetsOf 43 = .ok (.iaload, 1) := by decide +kernel
theorem dX8_offsetsOf_44 : decode cX8_offsetsOf 44 = .ok (.invokevirtual 303, 3) := by decide +kernel
theorem dX8_offsetsOf_47 : decode cX8_offsetsOf 47 = .ok (.aload_n 0, 1) := by decide +kernel
theorem dX8_offsetsOf_48 : decode cX8_offsetsOf 48 = .ok (.getfield 78, 3) := by decide +kernel
theorem dX8_offsetsOf_51 : decode cX8_offsetsOf 51 = .ok (.iload 5, 2) := by decide +kernel
theorem dX8_offsetsOf_53 : decode cX8_offsetsOf 53 = .ok (.iaload, 1) := by decide +kernel
theorem dX8_offsetsOf_54 : decode cX8_offsetsOf 54 = .ok (.if_icmp .ne 7, 3) := by decide +kernel
theorem dX8_offsetsOf_57 : decode cX8_offsetsOf 57 = .ok (.iconst 1, 1) := by decide +kernel
theorem dX8_offsetsOf_58 : decode cX8_offsetsOf 58 = .ok (.goto 4, 3) := by decide +kernel
theorem dX8_offsetsOf_61 : decode cX8_offsetsOf 61 = .ok (.iconst 0, 1) := by decide +kernel
theorem dX8_offsetsOf_62 : decode cX8_offsetsOf 62 = .ok (.istore 4, 2) := by decide +kernel
theorem dX8_offsetsOf_64 : decode cX8_offsetsOf 64 = .ok (.iinc 5 1, 3) := by decide +kernel
theorem dX8_offsetsOf_67 : decode cX8_offsetsOf 67 = .ok (.goto (-47), 3) := by decide +kernel
theorem dX8_offsetsOf_70 : decode cX8_offsetsOf 70 = .ok (.iload_n 2, 1) := by decide +kernel
theorem dX8_offsetsOf_71 : decode cX8_offsetsOf 71 = .ok (.iload 4, 2) := by decide +kernel
theorem dX8_offsetsOf_73 : decode cX8_offsetsOf 73 = .ok (.ifCond .eq 9, 3) := by decide +kernel
theorem dX8_offsetsOf_76 : decode cX8_offsetsOf 76 = .ok (.iconst 1, 1) := by decide +kernel
theorem dX8_offsetsOf_77 : decode cX8_offsetsOf 77 = .ok (.iload_n 3, 1) := by decide +kernel
theorem dX8_offsetsOf_78 : decode cX8_offsetsOf 78 = .ok (.ishl, 1) := by decide +kernel
theorem dX8_offsetsOf_79 : decode cX8_offsetsOf 79 = .ok (.goto 4, 3) := by decide +kernel
theorem dX8_offsetsOf_82 : decode cX8_offsetsOf 82 = .ok (.iconst 0, 1) := by decide +kernel
theorem dX8_offsetsOf_83 : decode cX8_offsetsOf 83 = .ok (.ior, 1) := by decide +kernel
theorem dX8_offsetsOf_84 : decode cX8_offsetsOf 84 = .ok (.istore_n 2, 1) := by decide +kernel
theorem dX8_offsetsOf_85 : decode cX8_offsetsOf 85 = .ok (.iinc 3 1, 3) := by decide +kernel
theorem dX8_offsetsOf_88 : decode cX8_offsetsOf 88 = .ok (.goto (-84), 3) := by decide +kernel
theorem dX8_offsetsOf_91 : decode cX8_offsetsOf 91 = .ok (.iload_n 2, 1) := by decide +kernel
theorem dX8_offsetsOf_92 : decode cX8_offsetsOf 92 = .ok (.ireturn, 1) := by decide +kernel
theorem dX8_went_0 : decode cX8_went 0 = .ok (.aload_n 0, 1) := by decide +kernel
theorem dX8_went_1 : decode cX8_went 1 = .ok (.iload_n 1, 1) := by decide +kernel
theorem dX8_went_2 : decode cX8_went 2 = .ok (.invokevirtual 185, 3) := by decide +kernel
theorem dX8_went_5 : decode cX8_went 5 = .ok (.ifCond .ne 6, 3) := by decide +kernel
theorem dX8_went_8 : decode cX8_went 8 = .ok (.ldc 189, 2) := by decide +kernel
theorem dX8_went_10 : decode cX8_went 10 = .ok (.ireturn, 1) := by decide +kernel
theorem dX8_went_11 : decode cX8_went 11 = .ok (.iload_n 2, 1) := by decide +kernel
theorem dX8_went_12 : decode cX8_went 12 = .ok (.i2l, 1) := by decide +kernel
theorem dX8_went_13 : decode cX8_went 13 = .ok (.lconst 0, 1) := by decide +kernel
theorem dX8_went_14 : decode cX8_went 14 = .ok (.lconst 1, 1) := by decide +kernel
theorem dX8_went_15 : decode cX8_went 15 = .ok (.invokestatic 97, 3) := by decide +kernel
theorem dX8_went_18 : decode cX8_went 18 = .ok (.ifCond .ne 6, 3) := by decide +kernel
theorem dX8_went_21 : decode cX8_went 21 = .ok (.ldc 103, 2) := by decide +kernel
theorem dX8_went_23 : decode cX8_went 23 = .ok (.ireturn, 1) := by decide +kernel
theorem dX8_went_24 : decode cX8_went 24 = .ok (.aload_n 0, 1) := by decide +kernel
theorem dX8_went_25 : decode cX8_went 25 = .ok (.iload_n 1, 1) := by decide +kernel
theorem dX8_went_26 : decode cX8_went 26 = .ok (.invokevirtual 307, 3) := by decide +kernel
theorem dX8_went_29 : decode cX8_went 29 = .ok (.istore_n 3, 1) := by decide +kernel
theorem dX8_went_30 : decode cX8_went 30 = .ok (.iload_n 2, 1) := by decide +kernel
theorem dX8_went_31 : decode cX8_went 31 = .ok (.ifCond .ne 5, 3) := by decide +kernel
theorem dX8_went_34 : decode cX8_went 34 = .ok (.iload_n 3, 1) := by decide +kernel
theorem dX8_went_35 : decode cX8_went 35 = .ok (.ireturn, 1) := by decide +kernel
theorem dX8_went_36 : decode cX8_went 36 = .ok (.iconst 0, 1) := by decide +kernel
theorem dX8_went_37 : decode cX8_went 37 = .ok (.istore 4, 2) := by decide +kernel
theorem dX8_went_39 : decode cX8_went 39 = .ok (.iload 4, 2) := by decide +kernel
theorem dX8_went_41 : decode cX8_went 41 = .ok (.bipush 100, 2) := by decide +kernel
theorem dX8_went_43 : decode cX8_went 43 = .ok (.if_icmp .ge 73, 3) := by decide +kernel
theorem dX8_went_46 : decode cX8_went 46 = .ok (.iconst 0, 1) := by decide +kernel
theorem dX8_went_47 : decode cX8_went 47 = .ok (.istore 5, 2) := by decide +kernel
theorem dX8_went_49 : decode cX8_went 49 = .ok (.iconst 0, 1) := by decide +kernel
theorem dX8_went_50 : decode cX8_went 50 = .ok (.istore 6, 2) := by decide +kernel
theorem dX8_went_52 : decode cX8_went 52 = .ok (.iload 6, 2) := by decide +kernel
theorem dX8_went_54 : decode cX8_went 54 = .ok (.aload_n 0, 1) := by decide +kernel
theorem dX8_went_55 : decode cX8_went 55 = .ok (.getfield 13, 3) := by decide +kernel
theorem dX8_went_58 : decode cX8_went 58 = .ok (.iload_n 1, 1) := by decide +kernel
theorem dX8_went_59 : decode cX8_went 59 = .ok (.iaload, 1) := by decide +kernel
theorem dX8_went_60 : decode cX8_went 60 = .ok (.if_icmp .ge 38, 3) := by decide +kernel
theorem dX8_went_63 : decode cX8_went 63 = .ok (.iload 5, 2) := by decide +kernel
theorem dX8_went_65 : decode cX8_went 65 = .ok (.iload_n 3, 1) := by decide +kernel
theorem dX8_went_66 : decode cX8_went 66 = .ok (.iload 6, 2) := by decide +kernel
theorem dX8_went_68 : decode cX8_went 68 = .ok (.invokestatic 196, 3) := by decide +kernel
theorem dX8_went_71 : decode cX8_went 71 = .ok (.ifCond .eq 17, 3) := by decide +kernel
theorem dX8_went_74 : decode cX8_went 74 = .ok (.iconst 1, 1) := by decide +kernel
theorem dX8_went_75 : decode cX8_went 75 = .ok (.aload_n 0, 1) := by decide +kernel
theorem dX8_went_76 : decode cX8_went 76 = .ok (.iload_n 1, 1) := by decide +kernel
theorem dX8_went_77 : decode cX8_went 77 = .ok (.iload 6, 2) := by decide +kernel
theorem dX8_went_79 : decode cX8_went 79 = .ok (.iload 4, 2) := by decide +kernel
theorem dX8_went_81 : decode cX8_went 81 = .ok (.invokevirtual 303, 3) := by decide +kernel
theorem dX8_went_84 : decode cX8_went 84 = .ok (.ishl, 1) := by decide +kernel
theorem dX8_went_85 : decode cX8_went 85 = .ok (.goto 4, 3) := by decide +kernel
theorem dX8_went_88 : decode cX8_went 88 = .ok (.iconst 0, 1) := by decide +kernel
theorem dX8_went_89 : decode cX8_went 89 = .ok (.ior, 1) := by decide +kernel
theorem dX8_went_90 : decode cX8_went 90 = .ok (.istore 5, 2) := by decide +kernel
theorem dX8_went_92 : decode cX8_went 92 = .ok (.iinc 6 1, 3) := by decide +kernel
theorem dX8_went_95 : decode cX8_went 95 = .ok (.goto (-43), 3) := by decide +kernel
theorem dX8_went_98 : decode cX8_went 98 = .ok (.iload 5, 2) := by decide +kernel
theorem dX8_went_100 : decode cX8_went 100 = .ok (.invokestatic 216, 3) := by decide +kernel
theorem dX8_went_103 : decode cX8_went 103 = .ok (.iconst 1, 1) := by decide +kernel
theorem dX8_went_104 : decode cX8_went 104 = .ok (.if_icmp .le 6, 3) := by decide +kernel
theorem dX8_went_107 : decode cX8_went 107 = .ok (.iload 4, 2) := by decide +kernel
theorem dX8_went_109 : decode cX8_went 109 = .ok (.ireturn, 1) := by decide +kernel
theorem dX8_went_110 : decode cX8_went 110 = .ok (.iinc 4 1, 3) := by decide +kernel
theorem dX8_went_113 : decode cX8_went 113 = .ok (.goto (-74), 3) := by decide +kernel
theorem dX8_went_116 : decode cX8_went 116 = .ok (.iconst (-1), 1) := by decide +kernel
theorem dX8_went_117 : decode cX8_went 117 = .ok (.ireturn, 1) := by decide +kernel
theorem dX8_write_0 : decode cX8_write 0 = .ok (.iload_n 2, 1) := by decide +kernel
