theorem dX8_blessed_41 : decode cX8_blessed 41 = .ok (.iadd, 1) := by decide +kernel
theorem dX8_blessed_42 : decode cX8_blessed 42 = .ok (.iaload, 1) := by decide +kernel
theorem dX8_blessed_43 : decode cX8_blessed 43 = .ok (.goto 4, 3) := by decide +kernel
theorem dX8_blessed_46 : decode cX8_blessed 46 = .ok (.iconst (-1), 1) := by decide +kernel
theorem dX8_blessed_47 : decode cX8_blessed 47 = .ok (.ireturn, 1) := by decide +kernel
theorem dX8_least_0 : decode cX8_least 0 = .ok (.iconst 0, 1) := by decide +kernel
theorem dX8_least_1 : decode cX8_least 1 = .ok (.istore_n 2, 1) := by decide +kernel
theorem dX8_least_2 : decode cX8_least 2 = .ok (.iload_n 1, 1) := by decide +kernel
theorem dX8_least_3 : decode cX8_least 3 = .ok (.iload_n 2, 1) := by decide +kernel
theorem dX8_least_4 : decode cX8_least 4 = .ok (.invokestatic 196, 3) := by decide +kernel
theorem dX8_least_7 : decode cX8_least 7 = .ok (.ifCond .ne 9, 3) := by decide +kernel
theorem dX8_least_10 : decode cX8_least 10 = .ok (.iinc 2 1, 3) := by decide +kernel
theorem dX8_least_13 : decode cX8_least 13 = .ok (.goto (-11), 3) := by decide +kernel
theorem dX8_least_16 : decode cX8_least 16 = .ok (.iload_n 2, 1) := by decide +kernel
theorem dX8_least_17 : decode cX8_least 17 = .ok (.ireturn, 1) := by decide +kernel
theorem dX8_fromRow_0 : decode cX8_fromRow 0 = .ok (.iconst 0, 1) := by decide +kernel
theorem dX8_fromRow_1 : decode cX8_fromRow 1 = .ok (.istore_n 3, 1) := by decide +kernel
theorem dX8_fromRow_2 : decode cX8_fromRow 2 = .ok (.iload_n 3, 1) := by decide +kernel
theorem dX8_fromRow_3 : decode cX8_fromRow 3 = .ok (.aload_n 0, 1) := by decide +kernel
theorem dX8_fromRow_4 : decode cX8_fromRow 4 = .ok (.getfield 94, 3) := by decide +kernel
theorem dX8_fromRow_7 : decode cX8_fromRow 7 = .ok (.if_icmp .ge 44, 3) := by decide +kernel
theorem dX8_fromRow_10 : decode cX8_fromRow 10 = .ok (.iload_n 1, 1) := by decide +kernel
theorem dX8_fromRow_11 : decode cX8_fromRow 11 = .ok (.iload_n 3, 1) := by decide +kernel
theorem dX8_fromRow_12 : decode cX8_fromRow 12 = .ok (.invokestatic 196, 3) := by decide +kernel
theorem dX8_fromRow_15 : decode cX8_fromRow 15 = .ok (.ifCond .eq 30, 3) := by decide +kernel
theorem dX8_fromRow_18 : decode cX8_fromRow 18 = .ok (.aload_n 0, 1) := by decide +kernel
theorem dX8_fromRow_19 : decode cX8_fromRow 19 = .ok (.getfield 25, 3) := by decide +kernel
theorem dX8_fromRow_22 : decode cX8_fromRow 22 = .ok (.bipush 26, 2) := by decide +kernel
theorem dX8_fromRow_24 : decode cX8_fromRow 24 = .ok (.aload_n 0, 1) := by decide +kernel
theorem dX8_fromRow_25 : decode cX8_fromRow 25 = .ok (.getfield 25, 3) := by decide +kernel
theorem dX8_fromRow_28 : decode cX8_fromRow 28 = .ok (.bipush 9, 2) := by decide +kernel
theorem dX8_fromRow_30 : decode cX8_fromRow 30 = .ok (.iaload, 1) := by decide +kernel
theorem dX8_fromRow_31 : decode cX8_fromRow 31 = .ok (.iadd, 1) := by decide +kernel
theorem dX8_fromRow_32 : decode cX8_fromRow 32 = .ok (.iload_n 3, 1) := by decide +kernel
theorem dX8_fromRow_33 : decode cX8_fromRow 33 = .ok (.iastore, 1) := by decide +kernel
theorem dX8_fromRow_34 : decode cX8_fromRow 34 = .ok (.aload_n 0, 1) := by decide +kernel
theorem dX8_fromRow_35 : decode cX8_fromRow 35 = .ok (.getfield 25, 3) := by decide +kernel
theorem dX8_fromRow_38 : decode cX8_fromRow 38 = .ok (.bipush 9, 2) := by decide +kernel
theorem dX8_fromRow_40 : decode cX8_fromRow 40 = .ok (.dup2, 1) := by decide +kernel
theorem dX8_fromRow_41 : decode cX8_fromRow 41 = .ok (.iaload, 1) := by decide +kernel
theorem dX8_fromRow_42 : decode cX8_fromRow 42 = .ok (.iconst 1, 1) := by decide +kernel
theorem dX8_fromRow_43 : decode cX8_fromRow 43 = .ok (.iadd, 1) := by decide +kernel
theorem dX8_fromRow_44 : decode cX8_fromRow 44 = .ok (.iastore, 1) := by decide +kernel
theorem dX8_fromRow_45 : decode cX8_fromRow 45 = .ok (.iinc 3 1, 3) := by decide +kernel
theorem dX8_fromRow_48 : decode cX8_fromRow 48 = .ok (.goto (-46), 3) := by decide +kernel
theorem dX8_fromRow_51 : decode cX8_fromRow 51 = .ok (.aload_n 0, 1) := by decide +kernel
theorem dX8_fromRow_52 : decode cX8_fromRow 52 = .ok (.getfield 25, 3) := by decide +kernel
theorem dX8_fromRow_55 : decode cX8_fromRow 55 = .ok (.bipush 9, 2) := by decide +kernel
theorem dX8_fromRow_57 : decode cX8_fromRow 57 = .ok (.iaload, 1) := by decide +kernel
theorem dX8_fromRow_58 : decode cX8_fromRow 58 = .ok (.ifCond .ne 5, 3) := by decide +kernel
theorem dX8_fromRow_61 : decode cX8_fromRow 61 = .ok (.iconst (-1), 1) := by decide +kernel
theorem dX8_fromRow_62 : decode cX8_fromRow 62 = .ok (.ireturn, 1) := by decide +kernel
theorem dX8_fromRow_63 : decode cX8_fromRow 63 = .ok (.aload_n 0, 1) := by decide +kernel
theorem dX8_fromRow_64 : decode cX8_fromRow 64 = .ok (.getfield 25, 3) := by decide +kernel
theorem dX8_fromRow_67 : decode cX8_fromRow 67 = .ok (.bipush 26, 2) := by decide +kernel
theorem dX8_fromRow_69 : decode cX8_fromRow 69 = .ok (.iaload, 1) := by decide +kernel
theorem dX8_fromRow_70 : decode cX8_fromRow 70 = .ok (.istore_n 3, 1) := by decide +kernel
theorem dX8_fromRow_71 : decode cX8_fromRow 71 = .ok (.aload_n 0, 1) := by decide +kernel
theorem dX8_fromRow_72 : decode cX8_fromRow 72 = .ok (.getfield 25, 3) := by decide +kernel
theorem dX8_fromRow_75 : decode cX8_fromRow 75 = .ok (.bipush 9, 2) := by decide +kernel
theorem dX8_fromRow_77 : decode cX8_fromRow 77 = .ok (.dup2, 1) := by decide +kernel
theorem dX8_fromRow_78 : decode cX8_fromRow 78 = .ok (.iaload, 1) := by decide +kernel
theorem dX8_fromRow_79 : decode cX8_fromRow 79 = .ok (.iconst 1, 1) := by decide +kernel
theorem dX8_fromRow_80 : decode cX8_fromRow 80 = .ok (.isub, 1) := by decide +kernel
theorem dX8_fromRow_81 : decode cX8_fromRow 81 = .ok (.iastore, 1) := by decide +kernel
theorem dX8_fromRow_82 : decode cX8_fromRow 82 = .ok (.iconst 0, 1) := by decide +kernel
theorem dX8_fromRow_83 : decode cX8_fromRow 83 = .ok (.istore 4, 2) := by decide +kernel
theorem dX8_fromRow_85 : decode cX8_fromRow 85 = .ok (.iload 4, 2) := by decide +kernel
theorem dX8_fromRow_87 : decode cX8_fromRow 87 = .ok (.aload_n 0, 1) := by decide +kernel
theorem dX8_fromRow_88 : decode cX8_fromRow 88 = .ok (.getfield 25, 3) := by decide +kernel
theorem dX8_fromRow_91 : decode cX8_fromRow 91 = .ok (.bipush 9, 2) := by decide +kernel
theorem dX8_fromRow_93 : decode cX8_fromRow 93 = .ok (.iaload, 1) := by decide +kernel
theorem dX8_fromRow_94 : decode cX8_fromRow 94 = .ok (.if_icmp .ge 29, 3) := by decide +kernel
theorem dX8_fromRow_97 : decode cX8_fromRow 97 = .ok (.aload_n 0, 1) := by decide +kernel
theorem dX8_fromRow_98 : decode cX8_fromRow 98 = .ok (.getfield 25, 3) := by decide +kernel
theorem dX8_fromRow_101 : decode cX8_fromRow 101 = .ok (.bipush 26, 2) := by decide +kernel
theorem dX8_fromRow_103 : decode cX8_fromRow 103 = .ok (.iload 4, 2) := by decide +kernel
theorem dX8_fromRow_105 : decode cX8_fromRow 105 = .ok (.iadd, 1) := by decide +kernel
theorem dX8_fromRow_106 : decode cX8_fromRow 106 = .ok (.aload_n 0, 1) := by decide +kernel
theorem dX8_fromRow_107 : decode cX8_fromRow 107 = .ok (.getfield 25, 3) := by decide +kernel
theorem dX8_fromRow_110 : decode cX8_fromRow 110 = .ok (.bipush 27, 2) := by decide +kernel
theorem dX8_fromRow_112 : decode cX8_fromRow 112 = .ok (.iload 4, 2) := by decide +kernel
theorem dX8_fromRow_114 : decode cX8_fromRow 114 = .ok (.iadd, 1) := by decide +kernel
theorem dX8_fromRow_115 : decode cX8_fromRow 115 = .ok (.iaload, 1) := by decide +kernel
theorem dX8_fromRow_116 : decode cX8_fromRow 116 = .ok (.iastore, 1) := by decide +kernel
theorem dX8_fromRow_117 : decode cX8_fromRow 117 = .ok (.iinc 4 1, 3) := by decide +kernel
theorem dX8_fromRow_120 : decode cX8_fromRow 120 = .ok (.goto (-35), 3) := by decide +kernel
theorem dX8_fromRow_123 : decode cX8_fromRow 123 = .ok (.aload_n 0, 1) := by decide +kernel
theorem dX8_fromRow_124 : decode cX8_fromRow 124 = .ok (.getfield 25, 3) := by decide +kernel
theorem dX8_fromRow_127 : decode cX8_fromRow 127 = .ok (.bipush 9, 2) := by decide +kernel
theorem dX8_fromRow_129 : decode cX8_fromRow 129 = .ok (.iaload, 1) := by decide +kernel
theorem dX8_fromRow_130 : decode cX8_fromRow 130 = .ok (.iload_n 2, 1) := by decide +kernel
theorem dX8_fromRow_131 : decode cX8_fromRow 131 = .ok (.if_icmp .le 30, 3) := by decide +kernel
theorem dX8_fromRow_134 : decode cX8_fromRow 134 = .ok (.aload_n 0, 1) := by decide +kernel
theorem dX8_fromRow_135 : decode cX8_fromRow 135 = .ok (.getfield 25, 3) := by decide +kernel
theorem dX8_fromRow_138 : decode cX8_fromRow 138 = .ok (.bipush 7, 2) := by decide +kernel
theorem dX8_fromRow_140 : decode cX8_fromRow 140 = .ok (.dup2, 1) := by decide +kernel
theorem dX8_fromRow_141 : decode cX8_fromRow 141 = .ok (.iaload, 1) := by decide +kernel
theorem dX8_fromRow_142 : decode cX8_fromRow 142 = .ok (.aload_n 0, 1) := by decide +kernel
theorem dX8_fromRow_143 : decode cX8_fromRow 143 = .ok (.getfield 25, 3) := by decide +kernel
theorem dX8_fromRow_146 : decode cX8_fromRow 146 = .ok (.bipush 9, 2) := by decide +kernel
theorem dX8_fromRow_148 : decode cX8_fromRow 148 = .ok (.iaload, 1) := by decide +kernel
theorem dX8_fromRow_149 : decode cX8_fromRow 149 = .ok (.iload_n 2, 1) := by decide +kernel
theorem dX8_fromRow_150 : decode cX8_fromRow 150 = .ok (.isub, 1) := by decide +kernel
theorem dX8_fromRow_151 : decode cX8_fromRow 151 = .ok (.iadd, 1) := by decide +kernel
theorem dX8_fromRow_152 : decode cX8_fromRow 152 = .ok (.iastore, 1) := by decide +kernel
theorem dX8_fromRow_153 : decode cX8_fromRow 153 = .ok (.aload_n 0, 1) := by decide +kernel
theorem dX8_fromRow_154 : decode cX8_fromRow 154 = .ok (.getfield 25, 3) := by decide +kernel
theorem dX8_fromRow_157 : decode cX8_fromRow 157 = .ok (.bipush 9, 2) := by decide +kernel
theorem dX8_fromRow_159 : decode cX8_fromRow 159 = .ok (.iload_n 2, 1) := by decide +kernel
theorem dX8_fromRow_160 : decode cX8_fromRow 160 = .ok (.iastore, 1) := by decide +kernel
theorem dX8_fromRow_161 : decode cX8_fromRow 161 = .ok (.iload_n 3, 1) := by decide +kernel
theorem dX8_fromRow_162 : decode cX8_fromRow 162 = .ok (.ireturn, 1) := by decide +kernel
theorem dX8_pass_0 : decode cX8_pass 0 = .ok (.aload_n 0, 1) := by decide +kernel
theorem dX8_pass_1 : decode cX8_pass 1 = .ok (.getfield 25, 3) := by decide +kernel
theorem dX8_pass_4 : decode cX8_pass 4 = .ok (.iconst 0, 1) := by decide +kernel
theorem dX8_pass_5 : decode cX8_pass 5 = .ok (.iaload, 1) := by decide +kernel
theorem dX8_pass_6 : decode cX8_pass 6 = .ok (.istore_n 2, 1) := by decide +kernel
theorem dX8_pass_7 : decode cX8_pass 7 = .ok (.aload_n 0, 1) := by decide +kernel
theorem dX8_pass_8 : decode cX8_pass 8 = .ok (.iload_n 2, 1) := by decide +kernel
theorem dX8_pass_9 : decode cX8_pass 9 = .ok (.invokevirtual 210, 3) := by decide +kernel
theorem dX8_pass_12 : decode cX8_pass 12 = .ok (.istore_n 3, 1) := by decide +kernel
theorem dX8_pass_13 : decode cX8_pass 13 = .ok (.iconst 0, 1) := by decide +kernel
theorem dX8_pass_14 : decode cX8_pass 14 = .ok (.istore 4, 2) := by decide +kernel
theorem dX8_pass_16 : decode cX8_pass 16 = .ok (.iload 4, 2) := by decide +kernel
theorem dX8_pass_18 : decode cX8_pass 18 = .ok (.aload_n 0, 1) := by decide +kernel
theorem dX8_pass_19 : decode cX8_pass 19 = .ok (.getfield 94, 3) := by decide +kernel
theorem dX8_pass_22 : decode cX8_pass 22 = .ok (.if_icmp .ge 41, 3) := by decide +kernel
theorem dX8_pass_25 : decode cX8_pass 25 = .ok (.aload_n 0, 1) := by decide +kernel
theorem dX8_pass_26 : decode cX8_pass 26 = .ok (.getfield 25, 3) := by decide +kernel
theorem dX8_pass_29 : decode cX8_pass 29 = .ok (.bipush 6, 2) := by decide +kernel
theorem dX8_pass_31 : decode cX8_pass 31 = .ok (.dup2, 1) := by decide +kernel
theorem dX8_pass_32 : decode cX8_pass 32 = .ok (.iaload, 1) := by decide +kernel
theorem dX8_pass_33 : decode cX8_pass 33 = .ok (.iload_n 3, 1) := by decide +kernel
theorem dX8_pass_34 : decode cX8_pass 34 = .ok (.iload 4, 2) := by decide +kernel
theorem dX8_pass_36 : decode cX8_pass 36 = .ok (.invokestatic 196, 3) := by decide +kernel
theorem dX8_pass_39 : decode cX8_pass 39 = .ok (.ifCond .eq 15, 3) := by decide +kernel
theorem dX8_pass_42 : decode cX8_pass 42 = .ok (.iconst 2, 1) := by decide +kernel
theorem dX8_pass_43 : decode cX8_pass 43 = .ok (.aload_n 0, 1) := by decide +kernel
theorem dX8_pass_44 : decode cX8_pass 44 = .ok (.getfield 7, 3) := by decide +kernel
theorem dX8_pass_47 : decode cX8_pass 47 = .ok (.iload 4, 2) := by decide +kernel
theorem dX8_pass_49 : decode cX8_pass 49 = .ok (.iaload, 1) := by decide +kernel
theorem dX8_pass_50 : decode cX8_pass 50 = .ok (.imul, 1) := by decide +kernel
theorem dX8_pass_51 : decode cX8_pass 51 = .ok (.goto 4, 3) := by decide +kernel
theorem dX8_pass_54 : decode cX8_pass 54 = .ok (.iconst 0, 1) := by decide +kernel
theorem dX8_pass_55 : decode cX8_pass 55 = .ok (.iadd, 1) := by decide +kernel
theorem dX8_pass_56 : decode cX8_pass 56 = .ok (.iastore, 1) := by decide +kernel
theorem dX8_pass_57 : decode cX8_pass 57 = .ok (.iinc 4 1, 3) := by decide +kernel
theorem dX8_pass_60 : decode cX8_pass 60 = .ok (.goto (-44), 3) := by decide +kernel
theorem dX8_pass_63 : decode cX8_pass 63 = .ok (.iload_n 1, 1) := by decide +kernel
theorem dX8_pass_64 : decode cX8_pass 64 = .ok (.ifCond .le 12, 3) := by decide +kernel
theorem dX8_pass_67 : decode cX8_pass 67 = .ok (.aload_n 0, 1) := by decide +kernel
theorem dX8_pass_68 : decode cX8_pass 68 = .ok (.iload_n 3, 1) := by decide +kernel
theorem dX8_pass_69 : decode cX8_pass 69 = .ok (.iload_n 1, 1) := by decide +kernel
theorem dX8_pass_70 : decode cX8_pass 70 = .ok (.invokevirtual 213, 3) := by decide +kernel
theorem dX8_pass_73 : decode cX8_pass 73 = .ok (.goto 20, 3) := by decide +kernel
theorem dX8_pass_76 : decode cX8_pass 76 = .ok (.iload_n 3, 1) := by decide +kernel
theorem dX8_pass_77 : decode cX8_pass 77 = .ok (.invokestatic 216, 3) := by decide +kernel
theorem dX8_pass_80 : decode cX8_pass 80 = .ok (.iconst 1, 1) := by decide +kernel
theorem dX8_pass_81 : decode cX8_pass 81 = .ok (.if_icmp .ne 11, 3) := by decide +kernel
theorem dX8_pass_84 : decode cX8_pass 84 = .ok (.aload_n 0, 1) := by decide +kernel
theorem dX8_pass_85 : decode cX8_pass 85 = .ok (.iload_n 3, 1) := by decide +kernel
theorem dX8_pass_86 : decode cX8_pass 86 = .ok (.invokevirtual 219, 3) := by decide +kernel
theorem dX8_pass_89 : decode cX8_pass 89 = .ok (.goto 4, 3) := by decide +kernel
theorem dX8_pass_92 : decode cX8_pass 92 = .ok (.iconst (-1), 1) := by decide +kernel
theorem dX8_pass_93 : decode cX8_pass 93 = .ok (.istore 4, 2) := by decide +kernel
theorem dX8_pass_95 : decode cX8_pass 95 = .ok (.iload_n 1, 1) := by decide +kernel
theorem dX8_pass_96 : decode cX8_pass 96 = .ok (.ifCond .ne 15, 3) := by decide +kernel
theorem dX8_pass_99 : decode cX8_pass 99 = .ok (.iload_n 3, 1) := by decide +kernel
theorem dX8_pass_100 : decode cX8_pass 100 = .ok (.invokestatic 216, 3) := by decide +kernel
theorem dX8_pass_103 : decode cX8_pass 103 = .ok (.iconst 1, 1) := by decide +kernel
theorem dX8_pass_104 : decode cX8_pass 104 = .ok (.if_icmp .le 7, 3) := by decide +kernel
theorem dX8_pass_107 : decode cX8_pass 107 = .ok (.iconst 1, 1) := by decide +kernel
theorem dX8_pass_108 : decode cX8_pass 108 = .ok (.goto 4, 3) := by decide +kernel
theorem dX8_pass_111 : decode cX8_pass 111 = .ok (.iconst 0, 1) := by decide +kernel
theorem dX8_pass_112 : decode cX8_pass 112 = .ok (.istore 5, 2) := by decide +kernel
theorem dX8_pass_114 : decode cX8_pass 114 = .ok (.aload_n 0, 1) := by decide +kernel
theorem dX8_pass_115 : decode cX8_pass 115 = .ok (.getfield 25, 3) := by decide +kernel
theorem dX8_pass_118 : decode cX8_pass 118 = .ok (.bipush 43, 2) := by decide +kernel
theorem dX8_pass_120 : decode cX8_pass 120 = .ok (.iload_n 2, 1) := by decide +kernel
theorem dX8_pass_121 : decode cX8_pass 121 = .ok (.bipush 60, 2) := by decide +kernel
theorem dX8_pass_123 : decode cX8_pass 123 = .ok (.irem, 1) := by decide +kernel
theorem dX8_pass_124 : decode cX8_pass 124 = .ok (.iadd, 1) := by decide +kernel
theorem dX8_pass_125 : decode cX8_pass 125 = .ok (.iload 4, 2) := by decide +kernel
theorem dX8_pass_127 : decode cX8_pass 127 = .ok (.iastore, 1) := by decide +kernel
theorem dX8_pass_128 : decode cX8_pass 128 = .ok (.iload 4, 2) := by decide +kernel
theorem dX8_pass_130 : decode cX8_pass 130 = .ok (.ifCond .lt 24, 3) := by decide +kernel
theorem dX8_pass_133 : decode cX8_pass 133 = .ok (.aload_n 0, 1) := by decide +kernel
theorem dX8_pass_134 : decode cX8_pass 134 = .ok (.getfield 25, 3) := by decide +kernel
theorem dX8_pass_137 : decode cX8_pass 137 = .ok (.bipush 18, 2) := by decide +kernel
theorem dX8_pass_139 : decode cX8_pass 139 = .ok (.iload 4, 2) := by decide +kernel
theorem dX8_pass_141 : decode cX8_pass 141 = .ok (.iadd, 1) := by decide +kernel
theorem dX8_pass_142 : decode cX8_pass 142 = .ok (.iload_n 2, 1) := by decide +kernel
theorem dX8_pass_143 : decode cX8_pass 143 = .ok (.iastore, 1) := by decide +kernel
theorem dX8_pass_144 : decode cX8_pass 144 = .ok (.aload_n 0, 1) := by decide +kernel
theorem dX8_pass_145 : decode cX8_pass 145 = .ok (.getfield 25, 3) := by decide +kernel
theorem dX8_pass_148 : decode cX8_pass 148 = .ok (.iconst 3, 1) := by decide +kernel
theorem dX8_pass_149 : decode cX8_pass 149 = .ok (.dup2, 1) := by decide +kernel
theorem dX8_pass_150 : decode cX8_pass 150 = .ok (.iaload, 1) := by decide +kernel
theorem dX8_pass_151 : decode cX8_pass 151 = .ok (.iconst 1, 1) := by decide +kernel
theorem dX8_pass_152 : decode cX8_pass 152 = .ok (.iadd, 1) := by decide +kernel
theorem dX8_pass_153 : decode cX8_pass 153 = .ok (.iastore, 1) := by decide +kernel
theorem dX8_pass_154 : decode cX8_pass 154 = .ok (.aload_n 0, 1) := by decide +kernel
theorem dX8_pass_155 : decode cX8_pass 155 = .ok (.getfield 25, 3) := by decide +kernel
theorem dX8_pass_158 : decode cX8_pass 158 = .ok (.iconst 4, 1) := by decide +kernel
theorem dX8_pass_159 : decode cX8_pass 159 = .ok (.dup2, 1) := by decide +kernel
theorem dX8_pass_160 : decode cX8_pass 160 = .ok (.iaload, 1) := by decide +kernel
theorem dX8_pass_161 : decode cX8_pass 161 = .ok (.iload 5, 2) := by decide +kernel
theorem dX8_pass_163 : decode cX8_pass 163 = .ok (.ifCond .eq 7, 3) := by decide +kernel
theorem dX8_pass_166 : decode cX8_pass 166 = .ok (.iconst 1, 1) := by decide +kernel
theorem dX8_pass_167 : decode cX8_pass 167 = .ok (.goto 4, 3) := by decide +kernel
theorem dX8_pass_170 : decode cX8_pass 170 = .ok (.iconst 0, 1) := by decide +kernel
theorem dX8_pass_171 : decode cX8_pass 171 = .ok (.iadd, 1) := by decide +kernel
theorem dX8_pass_172 : decode cX8_pass 172 = .ok (.iastore, 1) := by decide +kernel
theorem dX8_pass_173 : decode cX8_pass 173 = .ok (.iload 4, 2) := by decide +kernel
theorem dX8_pass_175 : decode cX8_pass 175 = .ok (.ifCond .ge 12, 3) := by decide +kernel
theorem dX8_pass_178 : decode cX8_pass 178 = .ok (.iload 5, 2) := by decide +kernel
theorem dX8_pass_180 : decode cX8_pass 180 = .ok (.ifCond .ne 7, 3) := by decide +kernel
theorem dX8_pass_183 : decode cX8_pass 183 = .ok (.iconst 1, 1) := by decide +kernel
theorem dX8_pass_184 : decode cX8_pass 184 = .ok (.goto 4, 3) := by decide +kernel
theorem dX8_pass_187 : decode cX8_pass 187 = .ok (.iconst 0, 1) := by decide +kernel
theorem dX8_pass_188 : decode cX8_pass 188 = .ok (.istore 6, 2) := by decide +kernel
theorem dX8_pass_190 : decode cX8_pass 190 = .ok (.aload_n 0, 1) := by decide +kernel
theorem dX8_pass_191 : decode cX8_pass 191 = .ok (.getfield 25, 3) := by decide +kernel
theorem dX8_pass_194 : decode cX8_pass 194 = .ok (.iconst 5, 1) := by decide +kernel
theorem dX8_pass_195 : decode cX8_pass 195 = .ok (.dup2, 1) := by decide +kernel
theorem dX8_pass_196 : decode cX8_pass 196 = .ok (.iaload, 1) := by decide +kernel
theorem dX8_pass_197 : decode cX8_pass 197 = .ok (.iload 6, 2) := by decide +kernel
theorem dX8_pass_199 : decode cX8_pass 199 = .ok (.ifCond .eq 7, 3) := by decide +kernel
theorem dX8_pass_202 : decode cX8_pass 202 = .ok (.iconst 1, 1) := by decide +kernel
theorem dX8_pass_203 : decode cX8_pass 203 = .ok (.goto 4, 3) := by decide +kernel
theorem dX8_pass_206 : decode cX8_pass 206 = .ok (.iconst 0, 1) := by decide +kernel
theorem dX8_pass_207 : decode cX8_pass 207 = .ok (.iadd, 1) := by decide +kernel
theorem dX8_pass_208 : decode cX8_pass 208 = .ok (.iastore, 1) := by decide +kernel
theorem dX8_pass_209 : decode cX8_pass 209 = .ok (.aload_n 0, 1) := by decide +kernel
theorem dX8_pass_210 : decode cX8_pass 210 = .ok (.getfield 25, 3) := by decide +kernel
theorem dX8_pass_213 : decode cX8_pass 213 = .ok (.iconst 1, 1) := by decide +kernel
theorem dX8_pass_214 : decode cX8_pass 214 = .ok (.iload 6, 2) := by decide +kernel
theorem dX8_pass_216 : decode cX8_pass 216 = .ok (.ifCond .eq 14, 3) := by decide +kernel
theorem dX8_pass_219 : decode cX8_pass 219 = .ok (.aload_n 0, 1) := by decide +kernel
theorem dX8_pass_220 : decode cX8_pass 220 = .ok (.getfield 25, 3) := by decide +kernel
theorem dX8_pass_223 : decode cX8_pass 223 = .ok (.iconst 1, 1) := by decide +kernel
theorem dX8_pass_224 : decode cX8_pass 224 = .ok (.iaload, 1) := by decide +kernel
theorem dX8_pass_225 : decode cX8_pass 225 = .ok (.iconst 1, 1) := by decide +kernel
theorem dX8_pass_226 : decode cX8_pass 226 = .ok (.iadd, 1) := by decide +kernel
theorem dX8_pass_227 : decode cX8_pass 227 = .ok (.goto 4, 3) := by decide +kernel
theorem dX8_pass_230 : decode cX8_pass 230 = .ok (.iconst 0, 1) := by decide +kernel
theorem dX8_pass_231 : decode cX8_pass 231 = .ok (.iastore, 1) := by decide +kernel
theorem dX8_pass_232 : decode cX8_pass 232 = .ok (.aload_n 0, 1) := by decide +kernel
theorem dX8_pass_233 : decode cX8_pass 233 = .ok (.getfield 25, 3) := by decide +kernel
theorem dX8_pass_236 : decode cX8_pass 236 = .ok (.iconst 2, 1) := by decide +kernel
theorem dX8_pass_237 : decode cX8_pass 237 = .ok (.aload_n 0, 1) := by decide +kernel
theorem dX8_pass_238 : decode cX8_pass 238 = .ok (.getfield 25, 3) := by decide +kernel
theorem dX8_pass_241 : decode cX8_pass 241 = .ok (.iconst 1, 1) := by decide +kernel
theorem dX8_pass_242 : decode cX8_pass 242 = .ok (.iaload, 1) := by decide +kernel
theorem dX8_pass_243 : decode cX8_pass 243 = .ok (.aload_n 0, 1) := by decide +kernel
theorem dX8_pass_244 : decode cX8_pass 244 = .ok (.getfield 155, 3) := by decide +kernel
theorem dX8_pass_247 : decode cX8_pass 247 = .ok (.if_icmp .lt 7, 3) := by decide +kernel
theorem dX8_pass_250 : decode cX8_pass 250 = .ok (.iconst 1, 1) := by decide +kernel
theorem dX8_pass_251 : decode cX8_pass 251 = .ok (.goto 4, 3) := by decide +kernel
theorem dX8_pass_254 : decode cX8_pass 254 = .ok (.iconst 0, 1) := by decide +kernel
theorem dX8_pass_255 : decode cX8_pass 255 = .ok (.iastore, 1) := by decide +kernel
theorem dX8_pass_256 : decode cX8_pass 256 = .ok (.aload_n 0, 1) := by decide +kernel
theorem dX8_pass_257 : decode cX8_pass 257 = .ok (.getfield 25, 3) := by decide +kernel
theorem dX8_pass_260 : decode cX8_pass 260 = .ok (.iconst 0, 1) := by decide +kernel
theorem dX8_pass_261 : decode cX8_pass 261 = .ok (.dup2, 1) := by decide +kernel
theorem dX8_pass_262 : decode cX8_pass 262 = .ok (.iaload, 1) := by decide +kernel
theorem dX8_pass_263 : decode cX8_pass 263 = .ok (.iconst 1, 1) := by decide +kernel
theorem dX8_pass_264 : decode cX8_pass 264 = .ok (.iadd, 1) := by decide +kernel
theorem dX8_pass_265 : decode cX8_pass 265 = .ok (.iastore, 1) := by decide +kernel
theorem dX8_pass_266 : decode cX8_pass 266 = .ok (.return_, 1) := by decide +kernel
theorem dX8_remember_0 : decode cX8_remember 0 = .ok (.aload_n 0, 1) := by decide +kernel
theorem dX8_remember_1 : decode cX8_remember 1 = .ok (.getfield 182, 3) := by decide +kernel
theorem dX8_remember_4 : decode cX8_remember 4 = .ok (.bipush 20, 2) := by decide +kernel
theorem dX8_remember_6 : decode cX8_remember 6 = .ok (.if_icmp .ne 44, 3) := by decide +kernel
theorem dX8_remember_9 : decode cX8_remember 9 = .ok (.bipush 103, 2) := by decide +kernel
theorem dX8_remember_11 : decode cX8_remember 11 = .ok (.istore_n 1, 1) := by decide +kernel
theorem dX8_remember_12 : decode cX8_remember 12 = .ok (.iload_n 1, 1) := by decide +kernel
theorem dX8_remember_13 : decode cX8_remember 13 = .ok (.sipush 2060, 3) := by decide +kernel
theorem dX8_remember_16 : decode cX8_remember 16 = .ok (.if_icmp .ge 24, 3) := by decide +kernel
theorem dX8_remember_19 : decode cX8_remember 19 = .ok (.aload_n 0, 1) := by decide +kernel
theorem dX8_remember_20 : decode cX8_remember 20 = .ok (.getfield 56, 3) := by decide +kernel
theorem dX8_remember_23 : decode cX8_remember 23 = .ok (.iload_n 1, 1) := by decide +kernel
theorem dX8_remember_24 : decode cX8_remember 24 = .ok (.bipush 103, 2) := by decide +kernel
theorem dX8_remember_26 : decode cX8_remember 26 = .ok (.isub, 1) := by decide +kernel
theorem dX8_remember_27 : decode cX8_remember 27 = .ok (.aload_n 0, 1) := by decide +kernel
theorem dX8_remember_28 : decode cX8_remember 28 = .ok (.getfield 56, 3) := by decide +kernel
theorem dX8_remember_31 : decode cX8_remember 31 = .ok (.iload_n 1, 1) := by decide +kernel
theorem dX8_remember_32 : decode cX8_remember 32 = .ok (.iaload, 1) := by decide +kernel
theorem dX8_remember_33 : decode cX8_remember 33 = .ok (.iastore, 1) := by decide +kernel
theorem dX8_remember_34 : decode cX8_remember 34 = .ok (.iinc 1 1, 3) := by decide +kernel
theorem dX8_remember_37 : decode cX8_remember 37 = .ok (.goto (-25), 3) := by decide +kernel
theorem dX8_remember_40 : decode cX8_remember 40 = .ok (.aload_n 0, 1) := by decide +kernel
theorem dX8_remember_41 : decode cX8_remember 41 = .ok (.dup, 1) := by decide +kernel
theorem dX8_remember_42 : decode cX8_remember 42 = .ok (.getfield 182, 3) := by decide +kernel
theorem dX8_remember_45 : decode cX8_remember 45 = .ok (.iconst 1, 1) := by decide +kernel
theorem dX8_remember_46 : decode cX8_remember 46 = .ok (.isub, 1) := by decide +kernel
theorem dX8_remember_47 : decode cX8_remember 47 = .ok (.putfield 182, 3) := by decide +kernel
theorem dX8_remember_50 : decode cX8_remember 50 = .ok (.iconst 0, 1) := by decide +kernel
theorem dX8_remember_51 : decode cX8_remember 51 = .ok (.istore_n 1, 1) := by decide +kernel
theorem dX8_remember_52 : decode cX8_remember 52 = .ok (.iload_n 1, 1) := by decide +kernel
theorem dX8_remember_53 : decode cX8_remember 53 = .ok (.bipush 103, 2) := by decide +kernel
theorem dX8_remember_55 : decode cX8_remember 55 = .ok (.if_icmp .ge 29, 3) := by decide +kernel
theorem dX8_remember_58 : decode cX8_remember 58 = .ok (.aload_n 0, 1) := by decide +kernel
theorem dX8_remember_59 : decode cX8_remember 59 = .ok (.getfield 56, 3) := by decide +kernel
theorem dX8_remember_62 : decode cX8_remember 62 = .ok (.bipush 103, 2) := by decide +kernel
theorem dX8_remember_64 : decode cX8_remember 64 = .ok (.aload_n 0, 1) := by decide +kernel
theorem dX8_remember_65 : decode cX8_remember 65 = .ok (.getfield 182, 3) := by decide +kernel
theorem dX8_remember_68 : decode cX8_remember 68 = .ok (.imul, 1) := by decide +kernel
theorem dX8_remember_69 : decode cX8_remember 69 = .ok (.iload_n 1, 1) := by decide +kernel
theorem dX8_remember_70 : decode cX8_remember 70 = .ok (.iadd, 1) := by decide +kernel
theorem dX8_remember_71 : decode cX8_remember 71 = .ok (.aload_n 0, 1) := by decide +kernel
theorem dX8_remember_72 : decode cX8_remember 72 = .ok (.getfield 25, 3) := by decide +kernel
theorem dX8_remember_75 : decode cX8_remember 75 = .ok (.iload_n 1, 1) := by decide +kernel
theorem dX8_remember_76 : decode cX8_remember 76 = .ok (.iaload, 1) := by decide +kernel
theorem dX8_remember_77 : decode cX8_remember 77 = .ok (.iastore, 1) := by decide +kernel
theorem dX8_remember_78 : decode cX8_remember 78 = .ok (.iinc 1 1, 3) := by decide +kernel
theorem dX8_remember_81 : decode cX8_remember 81 = .ok (.goto (-29), 3) := by decide +kernel
theorem dX8_remember_84 : decode cX8_remember 84 = .ok (.aload_n 0, 1) := by decide +kernel
theorem dX8_remember_85 : decode cX8_remember 85 = .ok (.dup, 1) := by decide +kernel
theorem dX8_remember_86 : decode cX8_remember 86 = .ok (.getfield 182, 3) := by decide +kernel
theorem dX8_remember_89 : decode cX8_remember 89 = .ok (.iconst 1, 1) := by decide +kernel
theorem dX8_remember_90 : decode cX8_remember 90 = .ok (.iadd, 1) := by decide +kernel
theorem dX8_remember_91 : decode cX8_remember 91 = .ok (.putfield 182, 3) := by decide +kernel
theorem dX8_remember_94 : decode cX8_remember 94 = .ok (.return_, 1) := by decide +kernel
theorem dX8_daysRefused_0 : decode cX8_daysRefused 0 = .ok (.iload_n 1, 1) := by decide +kernel
theorem dX8_daysRefused_1 : decode cX8_daysRefused 1 = .ok (.i2l, 1) := by decide +kernel
theorem dX8_daysRefused_2 : decode cX8_daysRefused 2 = .ok (.lconst 1, 1) := by decide +kernel
theorem dX8_daysRefused_3 : decode cX8_daysRefused 3 = .ok (.ldc2_w 222, 3) := by decide +kernel
theorem dX8_daysRefused_6 : decode cX8_daysRefused 6 = .ok (.invokestatic 97, 3) := by decide +kernel
theorem dX8_daysRefused_9 : decode cX8_daysRefused 9 = .ok (.ifCond .ne 6, 3) := by decide +kernel
theorem dX8_daysRefused_12 : decode cX8_daysRefused 12 = .ok (.ldc 103, 2) := by decide +kernel
theorem dX8_daysRefused_14 : decode cX8_daysRefused 14 = .ok (.ireturn, 1) := by decide +kernel
theorem dX8_daysRefused_15 : decode cX8_daysRefused 15 = .ok (.aload_n 0, 1) := by decide +kernel
theorem dX8_daysRefused_16 : decode cX8_daysRefused 16 = .ok (.getfield 155, 3) := by decide +kernel
theorem dX8_daysRefused_19 : decode cX8_daysRefused 19 = .ok (.ifCond .eq 13, 3) := by decide +kernel
theorem dX8_daysRefused_22 : decode cX8_daysRefused 22 = .ok (.aload_n 0, 1) := by decide +kernel
theorem dX8_daysRefused_23 : decode cX8_daysRefused 23 = .ok (.getfield 25, 3) := by decide +kernel
theorem dX8_daysRefused_26 : decode cX8_daysRefused 26 = .ok (.iconst 2, 1) := by decide +kernel
theorem dX8_daysRefused_27 : decode cX8_daysRefused 27 = .ok (.iaload, 1) := by decide +kernel
theorem dX8_daysRefused_28 : decode cX8_daysRefused 28 = .ok (.iconst 1, 1) := by decide +kernel
theorem dX8_daysRefused_29 : decode cX8_daysRefused 29 = .ok (.if_icmp .ne 8, 3) := by decide +kernel
theorem dX8_daysRefused_32 : decode cX8_daysRefused 32 = .ok (.ldc 224, 2) := by decide +kernel
theorem dX8_daysRefused_34 : decode cX8_daysRefused 34 = .ok (.goto 21, 3) := by decide +kernel
theorem dX8_daysRefused_37 : decode cX8_daysRefused 37 = .ok (.aload_n 0, 1) := by decide +kernel
theorem dX8_daysRefused_38 : decode cX8_daysRefused 38 = .ok (.getfield 25, 3) := by decide +kernel
theorem dX8_daysRefused_41 : decode cX8_daysRefused 41 = .ok (.iconst 0, 1) := by decide +kernel
theorem dX8_daysRefused_42 : decode cX8_daysRefused 42 = .ok (.iaload, 1) := by decide +kernel
theorem dX8_daysRefused_43 : decode cX8_daysRefused 43 = .ok (.sipush 9000, 3) := by decide +kernel
theorem dX8_daysRefused_46 : decode cX8_daysRefused 46 = .ok (.if_icmp .le 8, 3) := by decide +kernel
theorem dX8_daysRefused_49 : decode cX8_daysRefused 49 = .ok (.ldc 107, 2) := by decide +kernel
theorem dX8_daysRefused_51 : decode cX8_daysRefused 51 = .ok (.goto 4, 3) := by decide +kernel
theorem dX8_daysRefused_54 : decode cX8_daysRefused 54 = .ok (.iconst 0, 1) := by decide +kernel
theorem dX8_daysRefused_55 : decode cX8_daysRefused 55 = .ok (.ireturn, 1) := by decide +kernel
theorem dX8_day_0 : decode cX8_day 0 = .ok (.aload_n 0, 1) := by decide +kernel
theorem dX8_day_1 : decode cX8_day 1 = .ok (.iload_n 1, 1) := by decide +kernel
theorem dX8_day_2 : decode cX8_day 2 = .ok (.invokevirtual 225, 3) := by decide +kernel
theorem dX8_day_5 : decode cX8_day 5 = .ok (.istore_n 2, 1) := by decide +kernel
theorem dX8_day_6 : decode cX8_day 6 = .ok (.iload_n 2, 1) := by decide +kernel
theorem dX8_day_7 : decode cX8_day 7 = .ok (.ifCond .eq 5, 3) := by decide +kernel
theorem dX8_day_10 : decode cX8_day 10 = .ok (.iload_n 2, 1) := by decide +kernel
theorem dX8_day_11 : decode cX8_day 11 = .ok (.ireturn, 1) := by decide +kernel
theorem dX8_day_12 : decode cX8_day 12 = .ok (.aload_n 0, 1) := by decide +kernel
theorem dX8_day_13 : decode cX8_day 13 = .ok (.invokevirtual 228, 3) := by decide +kernel
theorem dX8_day_16 : decode cX8_day 16 = .ok (.iconst 0, 1) := by decide +kernel
theorem dX8_day_17 : decode cX8_day 17 = .ok (.istore_n 3, 1) := by decide +kernel
theorem dX8_day_18 : decode cX8_day 18 = .ok (.iload_n 3, 1) := by decide +kernel
theorem dX8_day_19 : decode cX8_day 19 = .ok (.iload_n 1, 1) := by decide +kernel
theorem dX8_day_20 : decode cX8_day 20 = .ok (.if_icmp .ge 26, 3) := by decide +kernel
theorem dX8_day_23 : decode cX8_day 23 = .ok (.aload_n 0, 1) := by decide +kernel
theorem dX8_day_24 : decode cX8_day 24 = .ok (.getfield 25, 3) := by decide +kernel
theorem dX8_day_27 : decode cX8_day 27 = .ok (.iconst 2, 1) := by decide +kernel
theorem dX8_day_28 : decode cX8_day 28 = .ok (.iaload, 1) := by decide +kernel
theorem dX8_day_29 : decode cX8_day 29 = .ok (.ifCond .ne 17, 3) := by decide +kernel
theorem dX8_day_32 : decode cX8_day 32 = .ok (.aload_n 0, 1) := by decide +kernel
theorem dX8_day_33 : decode cX8_day 33 = .ok (.aload_n 0, 1) := by decide +kernel
theorem dX8_day_34 : decode cX8_day 34 = .ok (.getfield 161, 3) := by decide +kernel
theorem dX8_day_37 : decode cX8_day 37 = .ok (.invokevirtual 231, 3) := by decide +kernel
theorem dX8_day_40 : decode cX8_day 40 = .ok (.iinc 3 1, 3) := by decide +kernel
theorem dX8_day_43 : decode cX8_day 43 = .ok (.goto (-25), 3) := by decide +kernel
theorem dX8_day_46 : decode cX8_day 46 = .ok (.aload_n 0, 1) := by decide +kernel
theorem dX8_day_47 : decode cX8_day 47 = .ok (.getfield 25, 3) := by decide +kernel
theorem dX8_day_50 : decode cX8_day 50 = .ok (.iconst 0, 1) := by decide +kernel
theorem dX8_day_51 : decode cX8_day 51 = .ok (.iaload, 1) := by decide +kernel
theorem dX8_day_52 : decode cX8_day 52 = .ok (.ireturn, 1) := by decide +kernel
theorem dX8_calendar_0 : decode cX8_calendar 0 = .ok (.aload_n 0, 1) := by decide +kernel
theorem dX8_calendar_1 : decode cX8_calendar 1 = .ok (.iload_n 1, 1) := by decide +kernel
theorem dX8_calendar_2 : decode cX8_calendar 2 = .ok (.invokevirtual 185, 3) := by decide +kernel
theorem dX8_calendar_5 : decode cX8_calendar 5 = .ok (.ifCond .ne 6, 3) := by decide +kernel
theorem dX8_calendar_8 : decode cX8_calendar 8 = .ok (.ldc 189, 2) := by decide +kernel
theorem dX8_calendar_10 : decode cX8_calendar 10 = .ok (.ireturn, 1) := by decide +kernel
theorem dX8_calendar_11 : decode cX8_calendar 11 = .ok (.iload_n 2, 1) := by decide +kernel
theorem dX8_calendar_12 : decode cX8_calendar 12 = .ok (.i2l, 1) := by decide +kernel
theorem dX8_calendar_13 : decode cX8_calendar 13 = .ok (.ldc2_w 235, 3) := by decide +kernel
theorem dX8_calendar_16 : decode cX8_calendar 16 = .ok (.aload_n 0, 1) := by decide +kernel
theorem dX8_calendar_17 : decode cX8_calendar 17 = .ok (.getfield 13, 3) := by decide +kernel
theorem dX8_calendar_20 : decode cX8_calendar 20 = .ok (.iload_n 1, 1) := by decide +kernel
theorem dX8_calendar_21 : decode cX8_calendar 21 = .ok (.iaload, 1) := by decide +kernel
theorem dX8_calendar_22 : decode cX8_calendar 22 = .ok (.iconst 1, 1) := by decide +kernel
theorem dX8_calendar_23 : decode cX8_calendar 23 = .ok (.isub, 1) := by decide +kernel
theorem dX8_calendar_24 : decode cX8_calendar 24 = .ok (.i2l, 1) := by decide +kernel
theorem dX8_calendar_25 : decode cX8_calendar 25 = .ok (.invokestatic 97, 3) := by decide +kernel
theorem dX8_calendar_28 : decode cX8_calendar 28 = .ok (.ifCond .ne 6, 3) := by decide +kernel
theorem dX8_calendar_31 : decode cX8_calendar 31 = .ok (.ldc 103, 2) := by decide +kernel
theorem dX8_calendar_33 : decode cX8_calendar 33 = .ok (.ireturn, 1) := by decide +kernel
theorem dX8_calendar_34 : decode cX8_calendar 34 = .ok (.aload_n 0, 1) := by decide +kernel
theorem dX8_calendar_35 : decode cX8_calendar 35 = .ok (.invokevirtual 228, 3) := by decide +kernel
theorem dX8_calendar_38 : decode cX8_calendar 38 = .ok (.aload_n 0, 1) := by decide +kernel
theorem dX8_calendar_39 : decode cX8_calendar 39 = .ok (.getfield 25, 3) := by decide +kernel
theorem dX8_calendar_42 : decode cX8_calendar 42 = .ok (.bipush 8, 2) := by decide +kernel
theorem dX8_calendar_44 : decode cX8_calendar 44 = .ok (.iaload, 1) := by decide +kernel
theorem dX8_calendar_45 : decode cX8_calendar 45 = .ok (.iload_n 1, 1) := by decide +kernel
theorem dX8_calendar_46 : decode cX8_calendar 46 = .ok (.invokestatic 196, 3) := by decide +kernel
theorem dX8_calendar_49 : decode cX8_calendar 49 = .ok (.ifCond .eq 7, 3) := by decide +kernel
theorem dX8_calendar_52 : decode cX8_calendar 52 = .ok (.iconst (-1), 1) := by decide +kernel
theorem dX8_calendar_53 : decode cX8_calendar 53 = .ok (.goto 12, 3) := by decide +kernel
theorem dX8_calendar_56 : decode cX8_calendar 56 = .ok (.aload_n 0, 1) := by decide +kernel
theorem dX8_calendar_57 : decode cX8_calendar 57 = .ok (.getfield 25, 3) := by decide +kernel
theorem dX8_calendar_60 : decode cX8_calendar 60 = .ok (.bipush 10, 2) := by decide +kernel
theorem dX8_calendar_62 : decode cX8_calendar 62 = .ok (.iload_n 1, 1) := by decide +kernel
theorem dX8_calendar_63 : decode cX8_calendar 63 = .ok (.iadd, 1) := by decide +kernel
theorem dX8_calendar_64 : decode cX8_calendar 64 = .ok (.iaload, 1) := by decide +kernel
theorem dX8_calendar_65 : decode cX8_calendar 65 = .ok (.istore_n 3, 1) := by decide +kernel
theorem dX8_calendar_66 : decode cX8_calendar 66 = .ok (.aload_n 0, 1) := by decide +kernel
theorem dX8_calendar_67 : decode cX8_calendar 67 = .ok (.getfield 25, 3) := by decide +kernel
theorem dX8_calendar_70 : decode cX8_calendar 70 = .ok (.bipush 8, 2) := by decide +kernel
theorem dX8_calendar_72 : decode cX8_calendar 72 = .ok (.iload_n 2, 1) := by decide +kernel
theorem dX8_calendar_73 : decode cX8_calendar 73 = .ok (.ifCond .ge 17, 3) := by decide +kernel
theorem dX8_calendar_76 : decode cX8_calendar 76 = .ok (.aload_n 0, 1) := by decide +kernel
theorem dX8_calendar_77 : decode cX8_calendar 77 = .ok (.getfield 25, 3) := by decide +kernel
theorem dX8_calendar_80 : decode cX8_calendar 80 = .ok (.bipush 8, 2) := by decide +kernel
theorem dX8_calendar_82 : decode cX8_calendar 82 = .ok (.iaload, 1) := by decide +kernel
theorem dX8_calendar_83 : decode cX8_calendar 83 = .ok (.iconst 1, 1) := by decide +kernel
theorem dX8_calendar_84 : decode cX8_calendar 84 = .ok (.iload_n 1, 1) := by decide +kernel
theorem dX8_calendar_85 : decode cX8_calendar 85 = .ok (.ishl, 1) := by decide +kernel
theorem dX8_calendar_86 : decode cX8_calendar 86 = .ok (.ior, 1) := by decide +kernel
theorem dX8_calendar_87 : decode cX8_calendar 87 = .ok (.goto 16, 3) := by decide +kernel
theorem dX8_calendar_90 : decode cX8_calendar 90 = .ok (.aload_n 0, 1) := by decide +kernel
theorem dX8_calendar_91 : decode cX8_calendar 91 = .ok (.getfield 25, 3) := by decide +kernel
theorem dX8_calendar_94 : decode cX8_calendar 94 = .ok (.bipush 8, 2) := by decide +kernel
theorem dX8_calendar_96 : decode cX8_calendar 96 = .ok (.iaload, 1) := by decide +kernel
theorem dX8_calendar_97 : decode cX8_calendar 97 = .ok (.iconst 1, 1) := by decide +kernel
theorem dX8_calendar_98 : decode cX8_calendar 98 = .ok (.iload_n 1, 1) := by decide +kernel
theorem dX8_calendar_99 : decode cX8_calendar 99 = .ok (.ishl, 1) := by decide +kernel
theorem dX8_calendar_100 : decode cX8_calendar 100 = .ok (.iconst (-1), 1) := by decide +kernel
theorem dX8_calendar_101 : decode cX8_calendar 101 = .ok (.ixor, 1) := by decide +kernel
theorem dX8_calendar_102 : decode cX8_calendar 102 = .ok (.iand, 1) := by decide +kernel
theorem dX8_calendar_103 : decode cX8_calendar 103 = .ok (.iastore, 1) := by decide +kernel
theorem dX8_calendar_104 : decode cX8_calendar 104 = .ok (.aload_n 0, 1) := by decide +kernel
theorem dX8_calendar_105 : decode cX8_calendar 105 = .ok (.getfield 25, 3) := by decide +kernel
theorem dX8_calendar_108 : decode cX8_calendar 108 = .ok (.bipush 10, 2) := by decide +kernel
theorem dX8_calendar_110 : decode cX8_calendar 110 = .ok (.iload_n 1, 1) := by decide +kernel
theorem dX8_calendar_111 : decode cX8_calendar 111 = .ok (.iadd, 1) := by decide +kernel
theorem dX8_calendar_112 : decode cX8_calendar 112 = .ok (.iload_n 2, 1) := by decide +kernel
theorem dX8_calendar_113 : decode cX8_calendar 113 = .ok (.ifCond .ge 15, 3) := by decide +kernel
theorem dX8_calendar_116 : decode cX8_calendar 116 = .ok (.aload_n 0, 1) := by decide +kernel
theorem dX8_calendar_117 : decode cX8_calendar 117 = .ok (.getfield 25, 3) := by decide +kernel
theorem dX8_calendar_120 : decode cX8_calendar 120 = .ok (.bipush 10, 2) := by decide +kernel
theorem dX8_calendar_122 : decode cX8_calendar 122 = .ok (.iload_n 1, 1) := by decide +kernel
theorem dX8_calendar_123 : decode cX8_calendar 123 = .ok (.iadd, 1) := by decide +kernel
theorem dX8_calendar_124 : decode cX8_calendar 124 = .ok (.iaload, 1) := by decide +kernel
theorem dX8_calendar_125 : decode cX8_calendar 125 = .ok (.goto 4, 3) := by decide +kernel
theorem dX8_calendar_128 : decode cX8_calendar 128 = .ok (.iload_n 2, 1) := by decide +kernel
theorem dX8_calendar_129 : decode cX8_calendar 129 = .ok (.iastore, 1) := by decide +kernel
theorem dX8_calendar_130 : decode cX8_calendar 130 = .ok (.iload_n 3, 1) := by decide +kernel
theorem dX8_calendar_131 : decode cX8_calendar 131 = .ok (.ireturn, 1) := by decide +kernel
theorem dX8_draw_0 : decode cX8_draw 0 = .ok (.aload_n 0, 1) := by decide +kernel
theorem dX8_draw_1 : decode cX8_draw 1 = .ok (.aload_n 0, 1) := by decide +kernel
theorem dX8_draw_2 : decode cX8_draw 2 = .ok (.getfield 237, 3) := by decide +kernel
theorem dX8_draw_5 : decode cX8_draw 5 = .ok (.i2l, 1) := by decide +kernel
theorem dX8_draw_6 : decode cX8_draw 6 = .ok (.ldc2_w 240, 3) := by decide +kernel
theorem dX8_draw_9 : decode cX8_draw 9 = .ok (.lmul, 1) := by decide +kernel
theorem dX8_draw_10 : decode cX8_draw 10 = .ok (.ldc2_w 242, 3) := by decide +kernel
theorem dX8_draw_13 : decode cX8_draw 13 = .ok (.ladd, 1) := by decide +kernel
theorem dX8_draw_14 : decode cX8_draw 14 = .ok (.ldc2_w 244, 3) := by decide +kernel
theorem dX8_draw_17 : decode cX8_draw 17 = .ok (.lrem, 1) := by decide +kernel
theorem dX8_draw_18 : decode cX8_draw 18 = .ok (.l2i, 1) := by decide +kernel
theorem dX8_draw_19 : decode cX8_draw 19 = .ok (.putfield 237, 3) := by decide +kernel
theorem dX8_draw_22 : decode cX8_draw 22 = .ok (.aload_n 0, 1) := by decide +kernel
theorem dX8_draw_23 : decode cX8_draw 23 = .ok (.getfield 237, 3) := by decide +kernel
theorem dX8_draw_26 : decode cX8_draw 26 = .ok (.ldc 246, 2) := by decide +kernel
theorem dX8_draw_28 : decode cX8_draw 28 = .ok (.idiv, 1) := by decide +kernel
theorem dX8_draw_29 : decode cX8_draw 29 = .ok (.iload_n 1, 1) := by decide +kernel
theorem dX8_draw_30 : decode cX8_draw 30 = .ok (.irem, 1) := by decide +kernel
theorem dX8_draw_31 : decode cX8_draw 31 = .ok (.ireturn, 1) := by decide +kernel
theorem dX8_drift_0 : decode cX8_drift 0 = .ok (.aload_n 0, 1) := by decide +kernel
theorem dX8_drift_1 : decode cX8_drift 1 = .ok (.iload_n 1, 1) := by decide +kernel
theorem dX8_drift_2 : decode cX8_drift 2 = .ok (.invokevirtual 225, 3) := by decide +kernel
theorem dX8_drift_5 : decode cX8_drift 5 = .ok (.istore_n 2, 1) := by decide +kernel
theorem dX8_drift_6 : decode cX8_drift 6 = .ok (.iload_n 2, 1) := by decide +kernel
theorem dX8_drift_7 : decode cX8_drift 7 = .ok (.ifCond .eq 5, 3) := by decide +kernel
theorem dX8_drift_10 : decode cX8_drift 10 = .ok (.iload_n 2, 1) := by decide +kernel
theorem dX8_drift_11 : decode cX8_drift 11 = .ok (.ireturn, 1) := by decide +kernel
theorem dX8_drift_12 : decode cX8_drift 12 = .ok (.aload_n 0, 1) := by decide +kernel
theorem dX8_drift_13 : decode cX8_drift 13 = .ok (.invokevirtual 228, 3) := by decide +kernel
theorem dX8_drift_16 : decode cX8_drift 16 = .ok (.iconst 0, 1) := by decide +kernel
theorem dX8_drift_17 : decode cX8_drift 17 = .ok (.istore_n 3, 1) := by decide +kernel
theorem dX8_drift_18 : decode cX8_drift 18 = .ok (.iload_n 3, 1) := by decide +kernel
theorem dX8_drift_19 : decode cX8_drift 19 = .ok (.iload_n 1, 1) := by decide +kernel
theorem dX8_drift_20 : decode cX8_drift 20 = .ok (.if_icmp .ge 72, 3) := by decide +kernel
theorem dX8_drift_23 : decode cX8_drift 23 = .ok (.aload_n 0, 1) := by decide +kernel
theorem dX8_drift_24 : decode cX8_drift 24 = .ok (.getfield 25, 3) := by decide +kernel
theorem dX8_drift_27 : decode cX8_drift 27 = .ok (.iconst 2, 1) := by decide +kernel
theorem dX8_drift_28 : decode cX8_drift 28 = .ok (.iaload, 1) := by decide +kernel
theorem dX8_drift_29 : decode cX8_drift 29 = .ok (.ifCond .ne 63, 3) := by decide +kernel
theorem dX8_drift_32 : decode cX8_drift 32 = .ok (.aload_n 0, 1) := by decide +kernel
theorem dX8_drift_33 : decode cX8_drift 33 = .ok (.iconst 4, 1) := by decide +kernel
theorem dX8_drift_34 : decode cX8_drift 34 = .ok (.invokevirtual 247, 3) := by decide +kernel
theorem dX8_drift_37 : decode cX8_drift 37 = .ok (.ifCond .ne 41, 3) := by decide +kernel
theorem dX8_drift_40 : decode cX8_drift 40 = .ok (.aload_n 0, 1) := by decide +kernel
theorem dX8_drift_41 : decode cX8_drift 41 = .ok (.getfield 94, 3) := by decide +kernel
theorem dX8_drift_44 : decode cX8_drift 44 = .ok (.ifCond .le 34, 3) := by decide +kernel
theorem dX8_drift_47 : decode cX8_drift 47 = .ok (.aload_n 0, 1) := by decide +kernel
theorem dX8_drift_48 : decode cX8_drift 48 = .ok (.aload_n 0, 1) := by decide +kernel
theorem dX8_drift_49 : decode cX8_drift 49 = .ok (.getfield 94, 3) := by decide +kernel
theorem dX8_drift_52 : decode cX8_drift 52 = .ok (.invokevirtual 247, 3) := by decide +kernel
theorem dX8_drift_55 : decode cX8_drift 55 = .ok (.istore 4, 2) := by decide +kernel
theorem dX8_drift_57 : decode cX8_drift 57 = .ok (.aload_n 0, 1) := by decide +kernel
theorem dX8_drift_58 : decode cX8_drift 58 = .ok (.getfield 25, 3) := by decide +kernel
theorem dX8_drift_61 : decode cX8_drift 61 = .ok (.bipush 10, 2) := by decide +kernel
theorem dX8_drift_63 : decode cX8_drift 63 = .ok (.iload 4, 2) := by decide +kernel
theorem dX8_drift_65 : decode cX8_drift 65 = .ok (.iadd, 1) := by decide +kernel
theorem dX8_drift_66 : decode cX8_drift 66 = .ok (.aload_n 0, 1) := by decide +kernel
theorem dX8_drift_67 : decode cX8_drift 67 = .ok (.aload_n 0, 1) := by decide +kernel
theorem dX8_drift_68 : decode cX8_drift 68 = .ok (.getfield 13, 3) := by decide +kernel
theorem dX8_drift_71 : decode cX8_drift 71 = .ok (.iload 4, 2) := by decide +kernel
theorem dX8_drift_73 : decode cX8_drift 73 = .ok (.iaload, 1) := by decide +kernel
theorem dX8_drift_74 : decode cX8_drift 74 = .ok (.invokevirtual 247, 3) := by decide +kernel
theorem dX8_drift_77 : decode cX8_drift 77 = .ok (.iastore, 1) := by decide +kernel
theorem dX8_drift_78 : decode cX8_drift 78 = .ok (.aload_n 0, 1) := by decide +kernel
theorem dX8_drift_79 : decode cX8_drift 79 = .ok (.aload_n 0, 1) := by decide +kernel
theorem dX8_drift_80 : decode cX8_drift 80 = .ok (.getfield 161, 3) := by decide +kernel
theorem dX8_drift_83 : decode cX8_drift 83 = .ok (.invokevirtual 231, 3) := by decide +kernel
theorem dX8_drift_86 : decode cX8_drift 86 = .ok (.iinc 3 1, 3) := by decide +kernel
theorem dX8_drift_89 : decode cX8_drift 89 = .ok (.goto (-71), 3) := by decide +kernel
theorem dX8_drift_92 : decode cX8_drift 92 = .ok (.aload_n 0, 1) := by decide +kernel
theorem dX8_drift_93 : decode cX8_drift 93 = .ok (.getfield 25, 3) := by decide +kernel
theorem dX8_drift_96 : decode cX8_drift 96 = .ok (.iconst 0, 1) := by decide +kernel
theorem dX8_drift_97 : decode cX8_drift 97 = .ok (.iaload, 1) := by decide +kernel
theorem dX8_drift_98 : decode cX8_drift 98 = .ok (.ireturn, 1) := by decide +kernel
theorem dX8_undo_0 : decode cX8_undo 0 = .ok (.aload_n 0, 1) := by decide +kernel
theorem dX8_undo_1 : decode cX8_undo 1 = .ok (.getfield 182, 3) := by decide +kernel
theorem dX8_undo_4 : decode cX8_undo 4 = .ok (.ifCond .ne 6, 3) := by decide +kernel
theorem dX8_undo_7 : decode cX8_undo 7 = .ok (.ldc 224, 2) := by decide +kernel
theorem dX8_undo_9 : decode cX8_undo 9 = .ok (.ireturn, 1) := by decide +kernel
theorem dX8_undo_10 : decode cX8_undo 10 = .ok (.aload_n 0, 1) := by decide +kernel
theorem dX8_undo_11 : decode cX8_undo 11 = .ok (.dup, 1) := by decide +kernel
theorem dX8_undo_12 : decode cX8_undo 12 = .ok (.getfield 182, 3) := by decide +kernel
theorem dX8_undo_15 : decode cX8_undo 15 = .ok (.iconst 1, 1) := by decide +kernel
theorem dX8_undo_16 : decode cX8_undo 16 = .ok (.isub, 1) := by decide +kernel
theorem dX8_undo_17 : decode cX8_undo 17 = .ok (.putfield 182, 3) := by decide +kernel
theorem dX8_undo_20 : decode cX8_undo 20 = .ok (.iconst 0, 1) := by decide +kernel
theorem dX8_undo_21 : decode cX8_undo 21 = .ok (.istore_n 1, 1) := by decide +kernel
theorem dX8_undo_22 : decode cX8_undo 22 = .ok (.iload_n 1, 1) := by decide +kernel
theorem dX8_undo_23 : decode cX8_undo 23 = .ok (.bipush 103, 2) := by decide +kernel
theorem dX8_undo_25 : decode cX8_undo 25 = .ok (.if_icmp .ge 29, 3) := by decide +kernel
theorem dX8_undo_28 : decode cX8_undo 28 = .ok (.aload_n 0, 1) := by decide +kernel
theorem dX8_undo_29 : decode cX8_undo 29 = .ok (.getfield 25, 3) := by decide +kernel
theorem dX8_undo_32 : decode cX8_undo 32 = .ok (.iload_n 1, 1) := by decide +kernel
theorem dX8_undo_33 : decode cX8_undo 33 = .ok (.aload_n 0, 1) := by decide +kernel
theorem dX8_undo_34 : decode cX8_undo 34 = .ok (.getfield 56, 3) := by decide +kernel
theorem dX8_undo_37 : decode cX8_undo 37 = .ok (.bipush 103, 2) := by decide +kernel
theorem dX8_undo_39 : decode cX8_undo 39 = .ok (.aload_n 0, 1) := by decide +kernel
theorem dX8_undo_40 : decode cX8_undo 40 = .ok (.getfield 182, 3) := by decide +kernel
theorem dX8_undo_43 : decode cX8_undo 43 = .ok (.imul, 1) := by decide +kernel
theorem dX8_undo_44 : decode cX8_undo 44 = .ok (.iload_n 1, 1) := by decide +kernel
theorem dX8_undo_45 : decode cX8_undo 45 = .ok (.iadd, 1) := by decide +kernel
theorem dX8_undo_46 : decode cX8_undo 46 = .ok (.iaload, 1) := by decide +kernel
theorem dX8_undo_47 : decode cX8_undo 47 = .ok (.iastore, 1) := by decide +kernel
theorem dX8_undo_48 : decode cX8_undo 48 = .ok (.iinc 1 1, 3) := by decide +kernel
theorem dX8_undo_51 : decode cX8_undo 51 = .ok (.goto (-29), 3) := by decide +kernel
theorem dX8_undo_54 : decode cX8_undo 54 = .ok (.aload_n 0, 1) := by decide +kernel
theorem dX8_undo_55 : decode cX8_undo 55 = .ok (.getfield 182, 3) := by decide +kernel
theorem dX8_undo_58 : decode cX8_undo 58 = .ok (.ireturn, 1) := by decide +kernel
theorem dX8_save_0 : decode cX8_save 0 = .ok (.iconst 0, 1) := by decide +kernel
theorem dX8_save_1 : decode cX8_save 1 = .ok (.istore_n 1, 1) := by decide +kernel
theorem dX8_save_2 : decode cX8_save 2 = .ok (.iload_n 1, 1) := by decide +kernel
theorem dX8_save_3 : decode cX8_save 3 = .ok (.bipush 103, 2) := by decide +kernel
theorem dX8_save_5 : decode cX8_save 5 = .ok (.if_icmp .ge 21, 3) := by decide +kernel
theorem dX8_save_8 : decode cX8_save 8 = .ok (.aload_n 0, 1) := by decide +kernel
theorem dX8_save_9 : decode cX8_save 9 = .ok (.getfield 59, 3) := by decide +kernel
theorem dX8_save_12 : decode cX8_save 12 = .ok (.iload_n 1, 1) := by decide +kernel
theorem dX8_save_13 : decode cX8_save 13 = .ok (.aload_n 0, 1) := by decide +kernel
theorem dX8_save_14 : decode cX8_save 14 = .ok (.getfield 25, 3) := by decide +kernel
theorem dX8_save_17 : decode cX8_save 17 = .ok (.iload_n 1, 1) := by decide +kernel
theorem dX8_save_18 : decode cX8_save 18 = .ok (.iaload, 1) := by decide +kernel
theorem dX8_save_19 : decode cX8_save 19 = .ok (.iastore, 1) := by decide +kernel
theorem dX8_save_20 : decode cX8_save 20 = .ok (.iinc 1 1, 3) := by decide +kernel
theorem dX8_save_23 : decode cX8_save 23 = .ok (.goto (-21), 3) := by decide +kernel
theorem dX8_save_26 : decode cX8_save 26 = .ok (.return_, 1) := by decide +kernel
theorem dX8_putBack_0 : decode cX8_putBack 0 = .ok (.iconst 0, 1) := by decide +kernel
theorem dX8_putBack_1 : decode cX8_putBack 1 = .ok (.istore_n 1, 1) := by decide +kernel
theorem dX8_putBack_2 : decode cX8_putBack 2 = .ok (.iload_n 1, 1) := by decide +kernel
theorem dX8_putBack_3 : decode cX8_putBack 3 = .ok (.bipush 103, 2) := by decide +kernel
theorem dX8_putBack_5 : decode cX8_putBack 5 = .ok (.if_icmp .ge 21, 3) := by decide +kernel
theorem dX8_putBack_8 : decode cX8_putBack 8 = .ok (.aload_n 0, 1) := by decide +kernel
theorem dX8_putBack_9 : decode cX8_putBack 9 = .ok (.getfield 25, 3) := by decide +kernel
theorem dX8_putBack_12 : decode cX8_putBack 12 = .ok (.iload_n 1, 1) := by decide +kernel
theorem dX8_putBack_13 : decode cX8_putBack 13 = .ok (.aload_n 0, 1) := by decide +kernel
theorem dX8_putBack_14 : decode cX8_putBack 14 = .ok (.getfield 59, 3) := by decide +kernel
theorem dX8_putBack_17 : decode cX8_putBack 17 = .ok (.iload_n 1, 1) := by decide +kernel
theorem dX8_putBack_18 : decode cX8_putBack 18 = .ok (.iaload, 1) := by decide +kernel
theorem dX8_putBack_19 : decode cX8_putBack 19 = .ok (.iastore, 1) := by decide +kernel
theorem dX8_putBack_20 : decode cX8_putBack 20 = .ok (.iinc 1 1, 3) := by decide +kernel
theorem dX8_putBack_23 : decode cX8_putBack 23 = .ok (.goto (-21), 3) := by decide +kernel
theorem dX8_putBack_26 : decode cX8_putBack 26 = .ok (.return_, 1) := by decide +kernel
theorem dX8_whenDown_0 : decode cX8_whenDown 0 = .ok (.aload_n 0, 1) := by decide +kernel
theorem dX8_whenDown_1 : decode cX8_whenDown 1 = .ok (.getfield 155, 3) := by decide +kernel
theorem dX8_whenDown_4 : decode cX8_whenDown 4 = .ok (.ifCond .eq 13, 3) := by decide +kernel
theorem dX8_whenDown_7 : decode cX8_whenDown 7 = .ok (.aload_n 0, 1) := by decide +kernel
theorem dX8_whenDown_8 : decode cX8_whenDown 8 = .ok (.getfield 25, 3) := by decide +kernel
theorem dX8_whenDown_11 : decode cX8_whenDown 11 = .ok (.iconst 2, 1) := by decide +kernel
theorem dX8_whenDown_12 : decode cX8_whenDown 12 = .ok (.iaload, 1) := by decide +kernel
theorem dX8_whenDown_13 : decode cX8_whenDown 13 = .ok (.iconst 1, 1) := by decide +kernel
theorem dX8_whenDown_14 : decode cX8_whenDown 14 = .ok (.if_icmp .ne 6, 3) := by decide +kernel
theorem dX8_whenDown_17 : decode cX8_whenDown 17 = .ok (.ldc 224, 2) := by decide +kernel
theorem dX8_whenDown_19 : decode cX8_whenDown 19 = .ok (.ireturn, 1) := by decide +kernel
theorem dX8_whenDown_20 : decode cX8_whenDown 20 = .ok (.aload_n 0, 1) := by decide +kernel
theorem dX8_whenDown_21 : decode cX8_whenDown 21 = .ok (.invokevirtual 250, 3) := by decide +kernel
theorem dX8_whenDown_24 : decode cX8_whenDown 24 = .ok (.iconst 0, 1) := by decide +kernel
theorem dX8_whenDown_25 : decode cX8_whenDown 25 = .ok (.istore_n 1, 1) := by decide +kernel
theorem dX8_whenDown_26 : decode cX8_whenDown 26 = .ok (.iload_n 1, 1) := by decide +kernel
theorem dX8_whenDown_27 : decode cX8_whenDown 27 = .ok (.sipush 999, 3) := by decide +kernel
theorem dX8_whenDown_30 : decode cX8_whenDown 30 = .ok (.if_icmp .ge 26, 3) := by decide +kernel
theorem dX8_whenDown_33 : decode cX8_whenDown 33 = .ok (.aload_n 0, 1) := by decide +kernel
theorem dX8_whenDown_34 : decode cX8_whenDown 34 = .ok (.getfield 25, 3) := by decide +kernel
theorem dX8_whenDown_37 : decode cX8_whenDown 37 = .ok (.iconst 2, 1) := by decide +kernel
theorem dX8_whenDown_38 : decode cX8_whenDown 38 = .ok (.iaload, 1) := by decide +kernel
theorem dX8_whenDown_39 : decode cX8_whenDown 39 = .ok (.ifCond .ne 17, 3) := by decide +kernel
theorem dX8_whenDown_42 : decode cX8_whenDown 42 = .ok (.aload_n 0, 1) := by decide +kernel
theorem dX8_whenDown_43 : decode cX8_whenDown 43 = .ok (.aload_n 0, 1) := by decide +kernel
theorem dX8_whenDown_44 : decode cX8_whenDown 44 = .ok (.getfield 161, 3) := by decide +kernel
theorem dX8_whenDown_47 : decode cX8_whenDown 47 = .ok (.invokevirtual 231, 3) := by decide +kernel
theorem dX8_whenDown_50 : decode cX8_whenDown 50 = .ok (.iinc 1 1, 3) := by decide +kernel
theorem dX8_whenDown_53 : decode cX8_whenDown 53 = .ok (.goto (-27), 3) := by decide +kernel
theorem dX8_whenDown_56 : decode cX8_whenDown 56 = .ok (.aload_n 0, 1) := by decide +kernel
theorem dX8_whenDown_57 : decode cX8_whenDown 57 = .ok (.getfield 25, 3) := by decide +kernel
theorem dX8_whenDown_60 : decode cX8_whenDown 60 = .ok (.iconst 2, 1) := by decide +kernel
theorem dX8_whenDown_61 : decode cX8_whenDown 61 = .ok (.iaload, 1) := by decide +kernel
theorem dX8_whenDown_62 : decode cX8_whenDown 62 = .ok (.iconst 1, 1) := by decide +kernel
theorem dX8_whenDown_63 : decode cX8_whenDown 63 = .ok (.if_icmp .ne 14, 3) := by decide +kernel
theorem dX8_whenDown_66 : decode cX8_whenDown 66 = .ok (.aload_n 0, 1) := by decide +kernel
theorem dX8_whenDown_67 : decode cX8_whenDown 67 = .ok (.getfield 25, 3) := by decide +kernel
theorem dX8_whenDown_70 : decode cX8_whenDown 70 = .ok (.iconst 0, 1) := by decide +kernel
theorem dX8_whenDown_71 : decode cX8_whenDown 71 = .ok (.iaload, 1) := by decide +kernel
theorem dX8_whenDown_72 : decode cX8_whenDown 72 = .ok (.iconst 1, 1) := by decide +kernel
theorem dX8_whenDown_73 : decode cX8_whenDown 73 = .ok (.isub, 1) := by decide +kernel
theorem dX8_whenDown_74 : decode cX8_whenDown 74 = .ok (.goto 4, 3) := by decide +kernel
theorem dX8_whenDown_77 : decode cX8_whenDown 77 = .ok (.iconst (-1), 1) := by decide +kernel
theorem dX8_whenDown_78 : decode cX8_whenDown 78 = .ok (.istore_n 1, 1) := by decide +kernel
theorem dX8_whenDown_79 : decode cX8_whenDown 79 = .ok (.aload_n 0, 1) := by decide +kernel
theorem dX8_whenDown_80 : decode cX8_whenDown 80 = .ok (.invokevirtual 253, 3) := by decide +kernel
theorem dX8_whenDown_83 : decode cX8_whenDown 83 = .ok (.iload_n 1, 1) := by decide +kernel
theorem dX8_whenDown_84 : decode cX8_whenDown 84 = .ok (.ireturn, 1) := by decide +kernel
theorem dX8_ahead_0 : decode cX8_ahead 0 = .ok (.iload_n 1, 1) := by decide +kernel
theorem dX8_ahead_1 : decode cX8_ahead 1 = .ok (.i2l, 1) := by decide +kernel
theorem dX8_ahead_2 : decode cX8_ahead 2 = .ok (.lconst 0, 1) := by decide +kernel
theorem dX8_ahead_3 : decode cX8_ahead 3 = .ok (.ldc2_w 256, 3) := by decide +kernel
theorem dX8_ahead_6 : decode cX8_ahead 6 = .ok (.invokestatic 97, 3) := by decide +kernel
theorem dX8_ahead_9 : decode cX8_ahead 9 = .ok (.ifCond .eq 13, 3) := by decide +kernel
theorem dX8_ahead_12 : decode cX8_ahead 12 = .ok (.iload_n 2, 1) := by decide +kernel
theorem dX8_ahead_13 : decode cX8_ahead 13 = .ok (.i2l, 1) := by decide +kernel
theorem dX8_ahead_14 : decode cX8_ahead 14 = .ok (.lconst 0, 1) := by decide +kernel
theorem dX8_ahead_15 : decode cX8_ahead 15 = .ok (.lconst 1, 1) := by decide +kernel
theorem dX8_ahead_16 : decode cX8_ahead 16 = .ok (.invokestatic 97, 3) := by decide +kernel
theorem dX8_ahead_19 : decode cX8_ahead 19 = .ok (.ifCond .ne 6, 3) := by decide +kernel
theorem dX8_ahead_22 : decode cX8_ahead 22 = .ok (.ldc 103, 2) := by decide +kernel
theorem dX8_ahead_24 : decode cX8_ahead 24 = .ok (.ireturn, 1) := by decide +kernel
theorem dX8_ahead_25 : decode cX8_ahead 25 = .ok (.aload_n 0, 1) := by decide +kernel
theorem dX8_ahead_26 : decode cX8_ahead 26 = .ok (.getfield 155, 3) := by decide +kernel
theorem dX8_ahead_29 : decode cX8_ahead 29 = .ok (.ifCond .ne 6, 3) := by decide +kernel
theorem dX8_ahead_32 : decode cX8_ahead 32 = .ok (.ldc 224, 2) := by decide +kernel
theorem dX8_ahead_34 : decode cX8_ahead 34 = .ok (.ireturn, 1) := by decide +kernel
theorem dX8_ahead_35 : decode cX8_ahead 35 = .ok (.aload_n 0, 1) := by decide +kernel
theorem dX8_ahead_36 : decode cX8_ahead 36 = .ok (.invokevirtual 250, 3) := by decide +kernel
theorem dX8_ahead_39 : decode cX8_ahead 39 = .ok (.iconst 0, 1) := by decide +kernel
theorem dX8_ahead_40 : decode cX8_ahead 40 = .ok (.istore_n 3, 1) := by decide +kernel
theorem dX8_ahead_41 : decode cX8_ahead 41 = .ok (.iload_n 3, 1) := by decide +kernel
theorem dX8_ahead_42 : decode cX8_ahead 42 = .ok (.iload_n 1, 1) := by decide +kernel
theorem dX8_ahead_43 : decode cX8_ahead 43 = .ok (.if_icmp .ge 26, 3) := by decide +kernel
theorem dX8_ahead_46 : decode cX8_ahead 46 = .ok (.aload_n 0, 1) := by decide +kernel
theorem dX8_ahead_47 : decode cX8_ahead 47 = .ok (.getfield 25, 3) := by decide +kernel
theorem dX8_ahead_50 : decode cX8_ahead 50 = .ok (.iconst 2, 1) := by decide +kernel
theorem dX8_ahead_51 : decode cX8_ahead 51 = .ok (.iaload, 1) := by decide +kernel
theorem dX8_ahead_52 : decode cX8_ahead 52 = .ok (.ifCond .ne 17, 3) := by decide +kernel
theorem dX8_ahead_55 : decode cX8_ahead 55 = .ok (.aload_n 0, 1) := by decide +kernel
theorem dX8_ahead_56 : decode cX8_ahead 56 = .ok (.aload_n 0, 1) := by decide +kernel
theorem dX8_ahead_57 : decode cX8_ahead 57 = .ok (.getfield 161, 3) := by decide +kernel
theorem dX8_ahead_60 : decode cX8_ahead 60 = .ok (.invokevirtual 231, 3) := by decide +kernel
theorem dX8_ahead_63 : decode cX8_ahead 63 = .ok (.iinc 3 1, 3) := by decide +kernel
theorem dX8_ahead_66 : decode cX8_ahead 66 = .ok (.goto (-25), 3) := by decide +kernel
theorem dX8_ahead_69 : decode cX8_ahead 69 = .ok (.iload_n 2, 1) := by decide +kernel
theorem dX8_ahead_70 : decode cX8_ahead 70 = .ok (.ifCond .ne 19, 3) := by decide +kernel
theorem dX8_ahead_73 : decode cX8_ahead 73 = .ok (.aload_n 0, 1) := by decide +kernel
theorem dX8_ahead_74 : decode cX8_ahead 74 = .ok (.getfield 25, 3) := by decide +kernel
theorem dX8_ahead_77 : decode cX8_ahead 77 = .ok (.iconst 5, 1) := by decide +kernel
theorem dX8_ahead_78 : decode cX8_ahead 78 = .ok (.iaload, 1) := by decide +kernel
theorem dX8_ahead_79 : decode cX8_ahead 79 = .ok (.aload_n 0, 1) := by decide +kernel
theorem dX8_ahead_80 : decode cX8_ahead 80 = .ok (.getfield 59, 3) := by decide +kernel
theorem dX8_ahead_83 : decode cX8_ahead 83 = .ok (.iconst 5, 1) := by decide +kernel
theorem dX8_ahead_84 : decode cX8_ahead 84 = .ok (.iaload, 1) := by decide +kernel
theorem dX8_ahead_85 : decode cX8_ahead 85 = .ok (.isub, 1) := by decide +kernel
theorem dX8_ahead_86 : decode cX8_ahead 86 = .ok (.goto 16, 3) := by decide +kernel
theorem dX8_ahead_89 : decode cX8_ahead 89 = .ok (.aload_n 0, 1) := by decide +kernel
theorem dX8_ahead_90 : decode cX8_ahead 90 = .ok (.getfield 25, 3) := by decide +kernel
theorem dX8_ahead_93 : decode cX8_ahead 93 = .ok (.iconst 4, 1) := by decide +kernel
theorem dX8_ahead_94 : decode cX8_ahead 94 = .ok (.iaload, 1) := by decide +kernel
theorem dX8_ahead_95 : decode cX8_ahead 95 = .ok (.aload_n 0, 1) := by decide +kernel
theorem dX8_ahead_96 : decode cX8_ahead 96 = .ok (.getfield 59, 3) := by decide +kernel
theorem dX8_ahead_99 : decode cX8_ahead 99 = .ok (.iconst 4, 1) := by decide +kernel
theorem dX8_ahead_100 : decode cX8_ahead 100 = .ok (.iaload, 1) := by decide +kernel
theorem dX8_ahead_101 : decode cX8_ahead 101 = .ok (.isub, 1) := by decide +kernel
theorem dX8_ahead_102 : decode cX8_ahead 102 = .ok (.istore_n 3, 1) := by decide +kernel
theorem dX8_ahead_103 : decode cX8_ahead 103 = .ok (.aload_n 0, 1) := by decide +kernel
theorem dX8_ahead_104 : decode cX8_ahead 104 = .ok (.invokevirtual 253, 3) := by decide +kernel
theorem dX8_ahead_107 : decode cX8_ahead 107 = .ok (.iload_n 3, 1) := by decide +kernel
theorem dX8_ahead_108 : decode cX8_ahead 108 = .ok (.ireturn, 1) := by decide +kernel
theorem dX8_common_0 : decode cX8_common 0 = .ok (.iload_n 0, 1) := by decide +kernel
theorem dX8_common_1 : decode cX8_common 1 = .ok (.istore_n 2, 1) := by decide +kernel
theorem dX8_common_2 : decode cX8_common 2 = .ok (.iload_n 1, 1) := by decide +kernel
theorem dX8_common_3 : decode cX8_common 3 = .ok (.istore_n 3, 1) := by decide +kernel
theorem dX8_common_4 : decode cX8_common 4 = .ok (.iload_n 3, 1) := by decide +kernel
theorem dX8_common_5 : decode cX8_common 5 = .ok (.ifCond .le 16, 3) := by decide +kernel
theorem dX8_common_8 : decode cX8_common 8 = .ok (.iload_n 2, 1) := by decide +kernel
theorem dX8_common_9 : decode cX8_common 9 = .ok (.iload_n 3, 1) := by decide +kernel
theorem dX8_common_10 : decode cX8_common 10 = .ok (.irem, 1) := by decide +kernel
theorem dX8_common_11 : decode cX8_common 11 = .ok (.istore 4, 2) := by decide +kernel
theorem dX8_common_13 : decode cX8_common 13 = .ok (.iload_n 3, 1) := by decide +kernel
theorem dX8_common_14 : decode cX8_common 14 = .ok (.istore_n 2, 1) := by decide +kernel
theorem dX8_common_15 : decode cX8_common 15 = .ok (.iload 4, 2) := by decide +kernel
theorem dX8_common_17 : decode cX8_common 17 = .ok (.istore_n 3, 1) := by decide +kernel
theorem dX8_common_18 : decode cX8_common 18 = .ok (.goto (-14), 3) := by decide +kernel
theorem dX8_common_21 : decode cX8_common 21 = .ok (.iload_n 2, 1) := by decide +kernel
theorem dX8_common_22 : decode cX8_common 22 = .ok (.ireturn, 1) := by decide +kernel
theorem dX8_isFree_0 : decode cX8_isFree 0 = .ok (.iconst 1, 1) := by decide +kernel
theorem dX8_isFree_1 : decode cX8_isFree 1 = .ok (.istore_n 3, 1) := by decide +kernel
theorem dX8_isFree_2 : decode cX8_isFree 2 = .ok (.iconst 0, 1) := by decide +kernel
theorem dX8_isFree_3 : decode cX8_isFree 3 = .ok (.istore 4, 2) := by decide +kernel
theorem dX8_isFree_5 : decode cX8_isFree 5 = .ok (.iload 4, 2) := by decide +kernel
theorem dX8_isFree_7 : decode cX8_isFree 7 = .ok (.iload_n 1, 1) := by decide +kernel
theorem dX8_isFree_8 : decode cX8_isFree 8 = .ok (.if_icmp .ge 68, 3) := by decide +kernel
theorem dX8_isFree_11 : decode cX8_isFree 11 = .ok (.aload_n 0, 1) := by decide +kernel
theorem dX8_isFree_12 : decode cX8_isFree 12 = .ok (.getfield 13, 3) := by decide +kernel
theorem dX8_isFree_15 : decode cX8_isFree 15 = .ok (.iload_n 1, 1) := by decide +kernel
theorem dX8_isFree_16 : decode cX8_isFree 16 = .ok (.iaload, 1) := by decide +kernel
theorem dX8_isFree_17 : decode cX8_isFree 17 = .ok (.aload_n 0, 1) := by decide +kernel
theorem dX8_isFree_18 : decode cX8_isFree 18 = .ok (.getfield 13, 3) := by decide +kernel
theorem dX8_isFree_21 : decode cX8_isFree 21 = .ok (.iload 4, 2) := by decide +kernel
theorem dX8_isFree_23 : decode cX8_isFree 23 = .ok (.iaload, 1) := by decide +kernel
theorem dX8_isFree_24 : decode cX8_isFree 24 = .ok (.invokestatic 258, 3) := by decide +kernel
theorem dX8_isFree_27 : decode cX8_isFree 27 = .ok (.istore 5, 2) := by decide +kernel
theorem dX8_isFree_29 : decode cX8_isFree 29 = .ok (.iload_n 3, 1) := by decide +kernel
theorem dX8_isFree_30 : decode cX8_isFree 30 = .ok (.ifCond .eq 38, 3) := by decide +kernel
theorem dX8_isFree_33 : decode cX8_isFree 33 = .ok (.iload_n 2, 1) := by decide +kernel
theorem dX8_isFree_34 : decode cX8_isFree 34 = .ok (.iload 4, 2) := by decide +kernel
theorem dX8_isFree_36 : decode cX8_isFree 36 = .ok (.invokestatic 196, 3) := by decide +kernel
theorem dX8_isFree_39 : decode cX8_isFree 39 = .ok (.ifCond .eq 25, 3) := by decide +kernel
theorem dX8_isFree_42 : decode cX8_isFree 42 = .ok (.aload_n 0, 1) := by decide +kernel
theorem dX8_isFree_43 : decode cX8_isFree 43 = .ok (.getfield 62, 3) := by decide +kernel
theorem dX8_isFree_46 : decode cX8_isFree 46 = .ok (.iload 4, 2) := by decide +kernel
theorem dX8_isFree_48 : decode cX8_isFree 48 = .ok (.iaload, 1) := by decide +kernel
theorem dX8_isFree_49 : decode cX8_isFree 49 = .ok (.iload 5, 2) := by decide +kernel
theorem dX8_isFree_51 : decode cX8_isFree 51 = .ok (.irem, 1) := by decide +kernel
theorem dX8_isFree_52 : decode cX8_isFree 52 = .ok (.aload_n 0, 1) := by decide +kernel
theorem dX8_isFree_53 : decode cX8_isFree 53 = .ok (.getfield 62, 3) := by decide +kernel
theorem dX8_isFree_56 : decode cX8_isFree 56 = .ok (.iload_n 1, 1) := by decide +kernel
theorem dX8_isFree_57 : decode cX8_isFree 57 = .ok (.iaload, 1) := by decide +kernel
theorem dX8_isFree_58 : decode cX8_isFree 58 = .ok (.iload 5, 2) := by decide +kernel
theorem dX8_isFree_60 : decode cX8_isFree 60 = .ok (.irem, 1) := by decide +kernel
theorem dX8_isFree_61 : decode cX8_isFree 61 = .ok (.if_icmp .eq 7, 3) := by decide +kernel
theorem dX8_isFree_64 : decode cX8_isFree 64 = .ok (.iconst 1, 1) := by decide +kernel
theorem dX8_isFree_65 : decode cX8_isFree 65 = .ok (.goto 4, 3) := by decide +kernel
theorem dX8_isFree_68 : decode cX8_isFree 68 = .ok (.iconst 0, 1) := by decide +kernel
theorem dX8_isFree_69 : decode cX8_isFree 69 = .ok (.istore_n 3, 1) := by decide +kernel
theorem dX8_isFree_70 : decode cX8_isFree 70 = .ok (.iinc 4 1, 3) := by decide +kernel
theorem dX8_isFree_73 : decode cX8_isFree 73 = .ok (.goto (-68), 3) := by decide +kernel
theorem dX8_isFree_76 : decode cX8_isFree 76 = .ok (.iload_n 3, 1) := by decide +kernel
theorem dX8_isFree_77 : decode cX8_isFree 77 = .ok (.ireturn, 1) := by decide +kernel
theorem dX8_next_0 : decode cX8_next 0 = .ok (.iload_n 2, 1) := by decide +kernel
theorem dX8_next_1 : decode cX8_next 1 = .ok (.iconst 1, 1) := by decide +kernel
theorem dX8_next_2 : decode cX8_next 2 = .ok (.iadd, 1) := by decide +kernel
theorem dX8_next_3 : decode cX8_next 3 = .ok (.istore_n 3, 1) := by decide +kernel
theorem dX8_next_4 : decode cX8_next 4 = .ok (.iload_n 3, 1) := by decide +kernel
theorem dX8_next_5 : decode cX8_next 5 = .ok (.aload_n 0, 1) := by decide +kernel
theorem dX8_next_6 : decode cX8_next 6 = .ok (.getfield 94, 3) := by decide +kernel
theorem dX8_next_9 : decode cX8_next 9 = .ok (.if_icmp .ge 17, 3) := by decide +kernel
theorem dX8_next_12 : decode cX8_next 12 = .ok (.iload_n 1, 1) := by decide +kernel
theorem dX8_next_13 : decode cX8_next 13 = .ok (.iload_n 3, 1) := by decide +kernel
theorem dX8_next_14 : decode cX8_next 14 = .ok (.invokestatic 196, 3) := by decide +kernel
theorem dX8_next_17 : decode cX8_next 17 = .ok (.ifCond .ne 9, 3) := by decide +kernel
theorem dX8_next_20 : decode cX8_next 20 = .ok (.iinc 3 1, 3) := by decide +kernel
theorem dX8_next_23 : decode cX8_next 23 = .ok (.goto (-19), 3) := by decide +kernel
theorem dX8_next_26 : decode cX8_next 26 = .ok (.iload_n 3, 1) := by decide +kernel
theorem dX8_next_27 : decode cX8_next 27 = .ok (.ireturn, 1) := by decide +kernel
theorem dX8_before_0 : decode cX8_before 0 = .ok (.iload_n 2, 1) := by decide +kernel
theorem dX8_before_1 : decode cX8_before 1 = .ok (.iconst 1, 1) := by decide +kernel
theorem dX8_before_2 : decode cX8_before 2 = .ok (.isub, 1) := by decide +kernel
theorem dX8_before_3 : decode cX8_before 3 = .ok (.istore_n 3, 1) := by decide +kernel
theorem dX8_before_4 : decode cX8_before 4 = .ok (.iload_n 3, 1) := by decide +kernel
theorem dX8_before_5 : decode cX8_before 5 = .ok (.ifCond .lt 17, 3) := by decide +kernel
theorem dX8_before_8 : decode cX8_before 8 = .ok (.iload_n 1, 1) := by decide +kernel
theorem dX8_before_9 : decode cX8_before 9 = .ok (.iload_n 3, 1) := by decide +kernel
theorem dX8_before_10 : decode cX8_before 10 = .ok (.invokestatic 196, 3) := by decide +kernel
theorem dX8_before_13 : decode cX8_before 13 = .ok (.ifCond .ne 9, 3) := by decide +kernel
theorem dX8_before_16 : decode cX8_before 16 = .ok (.iinc 3 (-1), 3) := by decide +kernel
theorem dX8_before_19 : decode cX8_before 19 = .ok (.goto (-15), 3) := by decide +kernel
theorem dX8_before_22 : decode cX8_before 22 = .ok (.iload_n 3, 1) := by decide +kernel
theorem dX8_before_23 : decode cX8_before 23 = .ok (.ireturn, 1) := by decide +kernel
theorem dX8_findCertain_0 : decode cX8_findCertain 0 = .ok (.iconst 0, 1) := by decide +kernel
theorem dX8_findCertain_1 : decode cX8_findCertain 1 = .ok (.istore_n 2, 1) := by decide +kernel
theorem dX8_findCertain_2 : decode cX8_findCertain 2 = .ok (.iconst 0, 1) := by decide +kernel
theorem dX8_findCertain_3 : decode cX8_findCertain 3 = .ok (.istore_n 3, 1) := by decide +kernel
theorem dX8_findCertain_4 : decode cX8_findCertain 4 = .ok (.iload_n 3, 1) := by decide +kernel
theorem dX8_findCertain_5 : decode cX8_findCertain 5 = .ok (.aload_n 0, 1) := by decide +kernel
theorem dX8_findCertain_6 : decode cX8_findCertain 6 = .ok (.getfield 94, 3) := by decide +kernel
theorem dX8_findCertain_9 : decode cX8_findCertain 9 = .ok (.if_icmp .ge 41, 3) := by decide +kernel
theorem dX8_findCertain_12 : decode cX8_findCertain 12 = .ok (.iload_n 2, 1) := by decide +kernel
theorem dX8_findCertain_13 : decode cX8_findCertain 13 = .ok (.iload_n 1, 1) := by decide +kernel
theorem dX8_findCertain_14 : decode cX8_findCertain 14 = .ok (.iload_n 3, 1) := by decide +kernel
theorem dX8_findCertain_15 : decode cX8_findCertain 15 = .ok (.invokestatic 196, 3) := by decide +kernel
theorem dX8_findCertain_18 : decode cX8_findCertain 18 = .ok (.ifCond .eq 16, 3) := by decide +kernel
theorem dX8_findCertain_21 : decode cX8_findCertain 21 = .ok (.sipush 2520, 3) := by decide +kernel
theorem dX8_findCertain_24 : decode cX8_findCertain 24 = .ok (.aload_n 0, 1) := by decide +kernel
theorem dX8_findCertain_25 : decode cX8_findCertain 25 = .ok (.getfield 13, 3) := by decide +kernel
theorem dX8_findCertain_28 : decode cX8_findCertain 28 = .ok (.iload_n 3, 1) := by decide +kernel
theorem dX8_findCertain_29 : decode cX8_findCertain 29 = .ok (.iaload, 1) := by decide +kernel
theorem dX8_findCertain_30 : decode cX8_findCertain 30 = .ok (.idiv, 1) := by decide +kernel
theorem dX8_findCertain_31 : decode cX8_findCertain 31 = .ok (.goto 4, 3) := by decide +kernel
theorem dX8_findCertain_34 : decode cX8_findCertain 34 = .ok (.iconst 0, 1) := by decide +kernel
theorem dX8_findCertain_35 : decode cX8_findCertain 35 = .ok (.iadd, 1) := by decide +kernel
theorem dX8_findCertain_36 : decode cX8_findCertain 36 = .ok (.istore_n 2, 1) := by decide +kernel
theorem dX8_findCertain_37 : decode cX8_findCertain 37 = .ok (.aload_n 0, 1) := by decide +kernel
theorem dX8_findCertain_38 : decode cX8_findCertain 38 = .ok (.getfield 62, 3) := by decide +kernel
theorem dX8_findCertain_41 : decode cX8_findCertain 41 = .ok (.iload_n 3, 1) := by decide +kernel
theorem dX8_findCertain_42 : decode cX8_findCertain 42 = .ok (.iconst (-1), 1) := by decide +kernel
theorem dX8_findCertain_43 : decode cX8_findCertain 43 = .ok (.iastore, 1) := by decide +kernel
theorem dX8_findCertain_44 : decode cX8_findCertain 44 = .ok (.iinc 3 1, 3) := by decide +kernel
theorem dX8_findCertain_47 : decode cX8_findCertain 47 = .ok (.goto (-43), 3) := by decide +kernel
theorem dX8_findCertain_50 : decode cX8_findCertain 50 = .ok (.iload_n 2, 1) := by decide +kernel
theorem dX8_findCertain_51 : decode cX8_findCertain 51 = .ok (.sipush 2520, 3) := by decide +kernel
theorem dX8_findCertain_54 : decode cX8_findCertain 54 = .ok (.if_icmp .eq 5, 3) := by decide +kernel
theorem dX8_findCertain_57 : decode cX8_findCertain 57 = .ok (.iconst 0, 1) := by decide +kernel
theorem dX8_findCertain_58 : decode cX8_findCertain 58 = .ok (.ireturn, 1) := by decide +kernel
theorem dX8_findCertain_59 : decode cX8_findCertain 59 = .ok (.aload_n 0, 1) := by decide +kernel
theorem dX8_findCertain_60 : decode cX8_findCertain 60 = .ok (.iload_n 1, 1) := by decide +kernel
theorem dX8_findCertain_61 : decode cX8_findCertain 61 = .ok (.iconst (-1), 1) := by decide +kernel
theorem dX8_findCertain_62 : decode cX8_findCertain 62 = .ok (.invokevirtual 261, 3) := by decide +kernel
theorem dX8_findCertain_65 : decode cX8_findCertain 65 = .ok (.istore_n 3, 1) := by decide +kernel
theorem dX8_findCertain_66 : decode cX8_findCertain 66 = .ok (.iload_n 3, 1) := by decide +kernel
theorem dX8_findCertain_67 : decode cX8_findCertain 67 = .ok (.i2l, 1) := by decide +kernel
theorem dX8_findCertain_68 : decode cX8_findCertain 68 = .ok (.lconst 0, 1) := by decide +kernel
theorem dX8_findCertain_69 : decode cX8_findCertain 69 = .ok (.aload_n 0, 1) := by decide +kernel
theorem dX8_findCertain_70 : decode cX8_findCertain 70 = .ok (.getfield 94, 3) := by decide +kernel
theorem dX8_findCertain_73 : decode cX8_findCertain 73 = .ok (.iconst 1, 1) := by decide +kernel
theorem dX8_findCertain_74 : decode cX8_findCertain 74 = .ok (.isub, 1) := by decide +kernel
theorem dX8_findCertain_75 : decode cX8_findCertain 75 = .ok (.i2l, 1) := by decide +kernel
theorem dX8_findCertain_76 : decode cX8_findCertain 76 = .ok (.invokestatic 97, 3) := by decide +kernel
theorem dX8_findCertain_79 : decode cX8_findCertain 79 = .ok (.ifCond .eq 64, 3) := by decide +kernel
theorem dX8_findCertain_82 : decode cX8_findCertain 82 = .ok (.aload_n 0, 1) := by decide +kernel
theorem dX8_findCertain_83 : decode cX8_findCertain 83 = .ok (.getfield 62, 3) := by decide +kernel
theorem dX8_findCertain_86 : decode cX8_findCertain 86 = .ok (.iload_n 3, 1) := by decide +kernel
theorem dX8_findCertain_87 : decode cX8_findCertain 87 = .ok (.dup2, 1) := by decide +kernel
theorem dX8_findCertain_88 : decode cX8_findCertain 88 = .ok (.iaload, 1) := by decide +kernel
theorem dX8_findCertain_89 : decode cX8_findCertain 89 = .ok (.iconst 1, 1) := by decide +kernel
theorem dX8_findCertain_90 : decode cX8_findCertain 90 = .ok (.iadd, 1) := by decide +kernel
theorem dX8_findCertain_91 : decode cX8_findCertain 91 = .ok (.iastore, 1) := by decide +kernel
theorem dX8_findCertain_92 : decode cX8_findCertain 92 = .ok (.aload_n 0, 1) := by decide +kernel
theorem dX8_findCertain_93 : decode cX8_findCertain 93 = .ok (.getfield 62, 3) := by decide +kernel
theorem dX8_findCertain_96 : decode cX8_findCertain 96 = .ok (.iload_n 3, 1) := by decide +kernel
theorem dX8_findCertain_97 : decode cX8_findCertain 97 = .ok (.iaload, 1) := by decide +kernel
theorem dX8_findCertain_98 : decode cX8_findCertain 98 = .ok (.aload_n 0, 1) := by decide +kernel
theorem dX8_findCertain_99 : decode cX8_findCertain 99 = .ok (.getfield 13, 3) := by decide +kernel
theorem dX8_findCertain_102 : decode cX8_findCertain 102 = .ok (.iload_n 3, 1) := by decide +kernel
theorem dX8_findCertain_103 : decode cX8_findCertain 103 = .ok (.iaload, 1) := by decide +kernel
theorem dX8_findCertain_104 : decode cX8_findCertain 104 = .ok (.if_icmp .ne 20, 3) := by decide +kernel
theorem dX8_findCertain_107 : decode cX8_findCertain 107 = .ok (.aload_n 0, 1) := by decide +kernel
theorem dX8_findCertain_108 : decode cX8_findCertain 108 = .ok (.getfield 62, 3) := by decide +kernel
theorem dX8_findCertain_111 : decode cX8_findCertain 111 = .ok (.iload_n 3, 1) := by decide +kernel
theorem dX8_findCertain_112 : decode cX8_findCertain 112 = .ok (.iconst (-1), 1) := by decide +kernel
theorem dX8_findCertain_113 : decode cX8_findCertain 113 = .ok (.iastore, 1) := by decide +kernel
theorem dX8_findCertain_114 : decode cX8_findCertain 114 = .ok (.aload_n 0, 1) := by decide +kernel
theorem dX8_findCertain_115 : decode cX8_findCertain 115 = .ok (.iload_n 1, 1) := by decide +kernel
theorem dX8_findCertain_116 : decode cX8_findCertain 116 = .ok (.iload_n 3, 1) := by decide +kernel
theorem dX8_findCertain_117 : decode cX8_findCertain 117 = .ok (.invokevirtual 264, 3) := by decide +kernel
theorem dX8_findCertain_120 : decode cX8_findCertain 120 = .ok (.istore_n 3, 1) := by decide +kernel
theorem dX8_findCertain_121 : decode cX8_findCertain 121 = .ok (.goto (-55), 3) := by decide +kernel
theorem dX8_findCertain_124 : decode cX8_findCertain 124 = .ok (.aload_n 0, 1) := by decide +kernel
theorem dX8_findCertain_125 : decode cX8_findCertain 125 = .ok (.iload_n 3, 1) := by decide +kernel
theorem dX8_findCertain_126 : decode cX8_findCertain 126 = .ok (.iload_n 1, 1) := by decide +kernel
theorem dX8_findCertain_127 : decode cX8_findCertain 127 = .ok (.invokevirtual 267, 3) := by decide +kernel
theorem dX8_findCertain_130 : decode cX8_findCertain 130 = .ok (.ifCond .eq (-64), 3) := by decide +kernel
theorem dX8_findCertain_133 : decode cX8_findCertain 133 = .ok (.aload_n 0, 1) := by decide +kernel
theorem dX8_findCertain_134 : decode cX8_findCertain 134 = .ok (.iload_n 1, 1) := by decide +kernel
theorem dX8_findCertain_135 : decode cX8_findCertain 135 = .ok (.iload_n 3, 1) := by decide +kernel
theorem dX8_findCertain_136 : decode cX8_findCertain 136 = .ok (.invokevirtual 261, 3) := by decide +kernel
theorem dX8_findCertain_139 : decode cX8_findCertain 139 = .ok (.istore_n 3, 1) := by decide +kernel
theorem dX8_findCertain_140 : decode cX8_findCertain 140 = .ok (.goto (-74), 3) := by decide +kernel
theorem dX8_findCertain_143 : decode cX8_findCertain 143 = .ok (.iload_n 3, 1) := by decide +kernel
theorem dX8_findCertain_144 : decode cX8_findCertain 144 = .ok (.aload_n 0, 1) := by decide +kernel
theorem dX8_findCertain_145 : decode cX8_findCertain 145 = .ok (.getfield 94, 3) := by decide +kernel
