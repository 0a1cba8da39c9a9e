theorem dX7_away_79 : decode cX7_away 79 = .ok (.istore 5, 2) := by decide +kernel
theorem dX7_away_81 : decode cX7_away 81 = .ok (.iload 5, 2) := by decide +kernel
theorem dX7_away_83 : decode cX7_away 83 = .ok (.ifCond .eq 16, 3) := by decide +kernel
theorem dX7_away_86 : decode cX7_away 86 = .ok (.aload_n 0, 1) := by decide +kernel
theorem dX7_away_87 : decode cX7_away 87 = .ok (.iload 4, 2) := by decide +kernel
theorem dX7_away_89 : decode cX7_away 89 = .ok (.iload_n 1, 1) := by decide +kernel
theorem dX7_away_90 : decode cX7_away 90 = .ok (.invokevirtual 230, 3) := by decide +kernel
theorem dX7_away_93 : decode cX7_away 93 = .ok (.ifCond .eq 6, 3) := by decide +kernel
theorem dX7_away_96 : decode cX7_away 96 = .ok (.iload 4, 2) := by decide +kernel
theorem dX7_away_98 : decode cX7_away 98 = .ok (.ireturn, 1) := by decide +kernel
theorem dX7_away_99 : decode cX7_away 99 = .ok (.iinc 4 1, 3) := by decide +kernel
theorem dX7_away_102 : decode cX7_away 102 = .ok (.goto (-56), 3) := by decide +kernel
theorem dX7_away_105 : decode cX7_away 105 = .ok (.iinc 3 1, 3) := by decide +kernel
theorem dX7_away_108 : decode cX7_away 108 = .ok (.goto (-71), 3) := by decide +kernel
theorem dX7_away_111 : decode cX7_away 111 = .ok (.iconst (-1), 1) := by decide +kernel
theorem dX7_away_112 : decode cX7_away 112 = .ok (.ireturn, 1) := by decide +kernel
theorem dX7_smoke_0 : decode cX7_smoke 0 = .ok (.aload_n 0, 1) := by decide +kernel
theorem dX7_smoke_1 : decode cX7_smoke 1 = .ok (.getfield 27, 3) := by decide +kernel
theorem dX7_smoke_4 : decode cX7_smoke 4 = .ok (.iload_n 1, 1) := by decide +kernel
theorem dX7_smoke_5 : decode cX7_smoke 5 = .ok (.invokevirtual 158, 3) := by decide +kernel
theorem dX7_smoke_8 : decode cX7_smoke 8 = .ok (.ifCond .ne 6, 3) := by decide +kernel
theorem dX7_smoke_11 : decode cX7_smoke 11 = .ok (.ldc 162, 2) := by decide +kernel
theorem dX7_smoke_13 : decode cX7_smoke 13 = .ok (.ireturn, 1) := by decide +kernel
theorem dX7_smoke_14 : decode cX7_smoke 14 = .ok (.iload_n 2, 1) := by decide +kernel
theorem dX7_smoke_15 : decode cX7_smoke 15 = .ok (.ifCond .lt 10, 3) := by decide +kernel
theorem dX7_smoke_18 : decode cX7_smoke 18 = .ok (.iload_n 2, 1) := by decide +kernel
theorem dX7_smoke_19 : decode cX7_smoke 19 = .ok (.sipush 999, 3) := by decide +kernel
theorem dX7_smoke_22 : decode cX7_smoke 22 = .ok (.if_icmp .le 6, 3) := by decide +kernel
theorem dX7_smoke_25 : decode cX7_smoke 25 = .ok (.ldc 80, 2) := by decide +kernel
theorem dX7_smoke_27 : decode cX7_smoke 27 = .ok (.ireturn, 1) := by decide +kernel
theorem dX7_smoke_28 : decode cX7_smoke 28 = .ok (.aload_n 0, 1) := by decide +kernel
theorem dX7_smoke_29 : decode cX7_smoke 29 = .ok (.getfield 37, 3) := by decide +kernel
theorem dX7_smoke_32 : decode cX7_smoke 32 = .ok (.aload_n 0, 1) := by decide +kernel
theorem dX7_smoke_33 : decode cX7_smoke 33 = .ok (.getfield 27, 3) := by decide +kernel
theorem dX7_smoke_36 : decode cX7_smoke 36 = .ok (.iload_n 2, 1) := by decide +kernel
theorem dX7_smoke_37 : decode cX7_smoke 37 = .ok (.invokevirtual 234, 3) := by decide +kernel
theorem dX7_smoke_40 : decode cX7_smoke 40 = .ok (.iconst 1, 1) := by decide +kernel
theorem dX7_smoke_41 : decode cX7_smoke 41 = .ok (.iload_n 1, 1) := by decide +kernel
theorem dX7_smoke_42 : decode cX7_smoke 42 = .ok (.ishl, 1) := by decide +kernel
theorem dX7_smoke_43 : decode cX7_smoke 43 = .ok (.iconst (-1), 1) := by decide +kernel
theorem dX7_smoke_44 : decode cX7_smoke 44 = .ok (.ixor, 1) := by decide +kernel
theorem dX7_smoke_45 : decode cX7_smoke 45 = .ok (.iand, 1) := by decide +kernel
theorem dX7_smoke_46 : decode cX7_smoke 46 = .ok (.ifCond .ne 7, 3) := by decide +kernel
theorem dX7_smoke_49 : decode cX7_smoke 49 = .ok (.iconst 1, 1) := by decide +kernel
theorem dX7_smoke_50 : decode cX7_smoke 50 = .ok (.goto 4, 3) := by decide +kernel
theorem dX7_smoke_53 : decode cX7_smoke 53 = .ok (.iconst 0, 1) := by decide +kernel
theorem dX7_smoke_54 : decode cX7_smoke 54 = .ok (.ireturn, 1) := by decide +kernel
theorem dX7_inn_0 : decode cX7_inn 0 = .ok (.iload_n 1, 1) := by decide +kernel
theorem dX7_inn_1 : decode cX7_inn 1 = .ok (.iconst 1, 1) := by decide +kernel
theorem dX7_inn_2 : decode cX7_inn 2 = .ok (.if_icmp .lt 9, 3) := by decide +kernel
theorem dX7_inn_5 : decode cX7_inn 5 = .ok (.iload_n 1, 1) := by decide +kernel
theorem dX7_inn_6 : decode cX7_inn 6 = .ok (.bipush 60, 2) := by decide +kernel
theorem dX7_inn_8 : decode cX7_inn 8 = .ok (.if_icmp .le 6, 3) := by decide +kernel
theorem dX7_inn_11 : decode cX7_inn 11 = .ok (.ldc 80, 2) := by decide +kernel
theorem dX7_inn_13 : decode cX7_inn 13 = .ok (.ireturn, 1) := by decide +kernel
theorem dX7_inn_14 : decode cX7_inn 14 = .ok (.aload_n 0, 1) := by decide +kernel
theorem dX7_inn_15 : decode cX7_inn 15 = .ok (.getfield 27, 3) := by decide +kernel
theorem dX7_inn_18 : decode cX7_inn 18 = .ok (.getfield 210, 3) := by decide +kernel
theorem dX7_inn_21 : decode cX7_inn 21 = .ok (.ifCond .ne 6, 3) := by decide +kernel
theorem dX7_inn_24 : decode cX7_inn 24 = .ok (.ldc 206, 2) := by decide +kernel
theorem dX7_inn_26 : decode cX7_inn 26 = .ok (.ireturn, 1) := by decide +kernel
theorem dX7_inn_27 : decode cX7_inn 27 = .ok (.iconst 0, 1) := by decide +kernel
theorem dX7_inn_28 : decode cX7_inn 28 = .ok (.istore_n 2, 1) := by decide +kernel
theorem dX7_inn_29 : decode cX7_inn 29 = .ok (.iload_n 2, 1) := by decide +kernel
theorem dX7_inn_30 : decode cX7_inn 30 = .ok (.bipush 9, 2) := by decide +kernel
theorem dX7_inn_32 : decode cX7_inn 32 = .ok (.if_icmp .gt 20, 3) := by decide +kernel
theorem dX7_inn_35 : decode cX7_inn 35 = .ok (.aload_n 0, 1) := by decide +kernel
theorem dX7_inn_36 : decode cX7_inn 36 = .ok (.iload_n 2, 1) := by decide +kernel
theorem dX7_inn_37 : decode cX7_inn 37 = .ok (.iload_n 1, 1) := by decide +kernel
theorem dX7_inn_38 : decode cX7_inn 38 = .ok (.invokevirtual 237, 3) := by decide +kernel
theorem dX7_inn_41 : decode cX7_inn 41 = .ok (.ifCond .eq 5, 3) := by decide +kernel
theorem dX7_inn_44 : decode cX7_inn 44 = .ok (.iload_n 2, 1) := by decide +kernel
theorem dX7_inn_45 : decode cX7_inn 45 = .ok (.ireturn, 1) := by decide +kernel
theorem dX7_inn_46 : decode cX7_inn 46 = .ok (.iinc 2 1, 3) := by decide +kernel
theorem dX7_inn_49 : decode cX7_inn 49 = .ok (.goto (-20), 3) := by decide +kernel
theorem dX7_inn_52 : decode cX7_inn 52 = .ok (.iconst (-1), 1) := by decide +kernel
theorem dX7_inn_53 : decode cX7_inn 53 = .ok (.ireturn, 1) := by decide +kernel
theorem dX7_feet_0 : decode cX7_feet 0 = .ok (.iload_n 1, 1) := by decide +kernel
theorem dX7_feet_1 : decode cX7_feet 1 = .ok (.iconst 1, 1) := by decide +kernel
theorem dX7_feet_2 : decode cX7_feet 2 = .ok (.if_icmp .lt 9, 3) := by decide +kernel
theorem dX7_feet_5 : decode cX7_feet 5 = .ok (.iload_n 1, 1) := by decide +kernel
theorem dX7_feet_6 : decode cX7_feet 6 = .ok (.bipush 10, 2) := by decide +kernel
theorem dX7_feet_8 : decode cX7_feet 8 = .ok (.if_icmp .le 6, 3) := by decide +kernel
theorem dX7_feet_11 : decode cX7_feet 11 = .ok (.ldc 80, 2) := by decide +kernel
theorem dX7_feet_13 : decode cX7_feet 13 = .ok (.ireturn, 1) := by decide +kernel
theorem dX7_feet_14 : decode cX7_feet 14 = .ok (.aload_n 0, 1) := by decide +kernel
theorem dX7_feet_15 : decode cX7_feet 15 = .ok (.getfield 27, 3) := by decide +kernel
theorem dX7_feet_18 : decode cX7_feet 18 = .ok (.getfield 210, 3) := by decide +kernel
theorem dX7_feet_21 : decode cX7_feet 21 = .ok (.ifCond .ne 6, 3) := by decide +kernel
theorem dX7_feet_24 : decode cX7_feet 24 = .ok (.ldc 206, 2) := by decide +kernel
theorem dX7_feet_26 : decode cX7_feet 26 = .ok (.ireturn, 1) := by decide +kernel
theorem dX7_feet_27 : decode cX7_feet 27 = .ok (.aload_n 0, 1) := by decide +kernel
theorem dX7_feet_28 : decode cX7_feet 28 = .ok (.getfield 76, 3) := by decide +kernel
theorem dX7_feet_31 : decode cX7_feet 31 = .ok (.aload_n 0, 1) := by decide +kernel
theorem dX7_feet_32 : decode cX7_feet 32 = .ok (.getfield 27, 3) := by decide +kernel
theorem dX7_feet_35 : decode cX7_feet 35 = .ok (.aload_n 0, 1) := by decide +kernel
theorem dX7_feet_36 : decode cX7_feet 36 = .ok (.getfield 37, 3) := by decide +kernel
theorem dX7_feet_39 : decode cX7_feet 39 = .ok (.getfield 121, 3) := by decide +kernel
theorem dX7_feet_42 : decode cX7_feet 42 = .ok (.iload_n 1, 1) := by decide +kernel
theorem dX7_feet_43 : decode cX7_feet 43 = .ok (.invokevirtual 240, 3) := by decide +kernel
theorem dX7_feet_46 : decode cX7_feet 46 = .ok (.istore_n 3, 1) := by decide +kernel
theorem dX7_feet_47 : decode cX7_feet 47 = .ok (.iload_n 3, 1) := by decide +kernel
theorem dX7_feet_48 : decode cX7_feet 48 = .ok (.iconst (-1), 1) := by decide +kernel
theorem dX7_feet_49 : decode cX7_feet 49 = .ok (.if_icmp .eq 8, 3) := by decide +kernel
theorem dX7_feet_52 : decode cX7_feet 52 = .ok (.iload_n 2, 1) := by decide +kernel
theorem dX7_feet_53 : decode cX7_feet 53 = .ok (.iconst (-1), 1) := by decide +kernel
theorem dX7_feet_54 : decode cX7_feet 54 = .ok (.if_icmp .ne 5, 3) := by decide +kernel
theorem dX7_feet_57 : decode cX7_feet 57 = .ok (.iload_n 3, 1) := by decide +kernel
theorem dX7_feet_58 : decode cX7_feet 58 = .ok (.ireturn, 1) := by decide +kernel
theorem dX7_feet_59 : decode cX7_feet 59 = .ok (.iload_n 2, 1) := by decide +kernel
theorem dX7_feet_60 : decode cX7_feet 60 = .ok (.ifCond .lt 20, 3) := by decide +kernel
theorem dX7_feet_63 : decode cX7_feet 63 = .ok (.iload_n 2, 1) := by decide +kernel
theorem dX7_feet_64 : decode cX7_feet 64 = .ok (.iload_n 1, 1) := by decide +kernel
theorem dX7_feet_65 : decode cX7_feet 65 = .ok (.if_icmp .ge 15, 3) := by decide +kernel
theorem dX7_feet_68 : decode cX7_feet 68 = .ok (.iload_n 2, 1) := by decide +kernel
theorem dX7_feet_69 : decode cX7_feet 69 = .ok (.aload_n 0, 1) := by decide +kernel
theorem dX7_feet_70 : decode cX7_feet 70 = .ok (.getfield 76, 3) := by decide +kernel
theorem dX7_feet_73 : decode cX7_feet 73 = .ok (.getfield 244, 3) := by decide +kernel
theorem dX7_feet_76 : decode cX7_feet 76 = .ok (.arraylength, 1) := by decide +kernel
theorem dX7_feet_77 : decode cX7_feet 77 = .ok (.if_icmp .lt 7, 3) := by decide +kernel
theorem dX7_feet_80 : decode cX7_feet 80 = .ok (.iconst (-1), 1) := by decide +kernel
theorem dX7_feet_81 : decode cX7_feet 81 = .ok (.goto 12, 3) := by decide +kernel
theorem dX7_feet_84 : decode cX7_feet 84 = .ok (.aload_n 0, 1) := by decide +kernel
theorem dX7_feet_85 : decode cX7_feet 85 = .ok (.getfield 76, 3) := by decide +kernel
theorem dX7_feet_88 : decode cX7_feet 88 = .ok (.getfield 244, 3) := by decide +kernel
theorem dX7_feet_91 : decode cX7_feet 91 = .ok (.iload_n 2, 1) := by decide +kernel
theorem dX7_feet_92 : decode cX7_feet 92 = .ok (.iaload, 1) := by decide +kernel
theorem dX7_feet_93 : decode cX7_feet 93 = .ok (.ireturn, 1) := by decide +kernel
theorem dX7_odds_0 : decode cX7_odds 0 = .ok (.iload_n 1, 1) := by decide +kernel
theorem dX7_odds_1 : decode cX7_odds 1 = .ok (.ifCond .lt 10, 3) := by decide +kernel
theorem dX7_odds_4 : decode cX7_odds 4 = .ok (.iload_n 1, 1) := by decide +kernel
theorem dX7_odds_5 : decode cX7_odds 5 = .ok (.sipush 999, 3) := by decide +kernel
theorem dX7_odds_8 : decode cX7_odds 8 = .ok (.if_icmp .le 6, 3) := by decide +kernel
theorem dX7_odds_11 : decode cX7_odds 11 = .ok (.ldc 80, 2) := by decide +kernel
theorem dX7_odds_13 : decode cX7_odds 13 = .ok (.ireturn, 1) := by decide +kernel
theorem dX7_odds_14 : decode cX7_odds 14 = .ok (.aload_n 0, 1) := by decide +kernel
theorem dX7_odds_15 : decode cX7_odds 15 = .ok (.getfield 37, 3) := by decide +kernel
theorem dX7_odds_18 : decode cX7_odds 18 = .ok (.aload_n 0, 1) := by decide +kernel
theorem dX7_odds_19 : decode cX7_odds 19 = .ok (.getfield 27, 3) := by decide +kernel
theorem dX7_odds_22 : decode cX7_odds 22 = .ok (.iload_n 1, 1) := by decide +kernel
theorem dX7_odds_23 : decode cX7_odds 23 = .ok (.invokevirtual 234, 3) := by decide +kernel
theorem dX7_odds_26 : decode cX7_odds 26 = .ok (.istore_n 2, 1) := by decide +kernel
theorem dX7_odds_27 : decode cX7_odds 27 = .ok (.ldc 247, 2) := by decide +kernel
theorem dX7_odds_29 : decode cX7_odds 29 = .ok (.istore_n 3, 1) := by decide +kernel
theorem dX7_odds_30 : decode cX7_odds 30 = .ok (.iconst 0, 1) := by decide +kernel
theorem dX7_odds_31 : decode cX7_odds 31 = .ok (.istore 4, 2) := by decide +kernel
theorem dX7_odds_33 : decode cX7_odds 33 = .ok (.iconst 0, 1) := by decide +kernel
theorem dX7_odds_34 : decode cX7_odds 34 = .ok (.istore 5, 2) := by decide +kernel
theorem dX7_odds_36 : decode cX7_odds 36 = .ok (.iload 5, 2) := by decide +kernel
theorem dX7_odds_38 : decode cX7_odds 38 = .ok (.bipush 8, 2) := by decide +kernel
theorem dX7_odds_40 : decode cX7_odds 40 = .ok (.if_icmp .ge 62, 3) := by decide +kernel
theorem dX7_odds_43 : decode cX7_odds 43 = .ok (.iload_n 2, 1) := by decide +kernel
theorem dX7_odds_44 : decode cX7_odds 44 = .ok (.iload 5, 2) := by decide +kernel
theorem dX7_odds_46 : decode cX7_odds 46 = .ok (.ishr, 1) := by decide +kernel
theorem dX7_odds_47 : decode cX7_odds 47 = .ok (.iconst 1, 1) := by decide +kernel
theorem dX7_odds_48 : decode cX7_odds 48 = .ok (.iand, 1) := by decide +kernel
theorem dX7_odds_49 : decode cX7_odds 49 = .ok (.ifCond .ne 6, 3) := by decide +kernel
theorem dX7_odds_52 : decode cX7_odds 52 = .ok (.goto 44, 3) := by decide +kernel
theorem dX7_odds_55 : decode cX7_odds 55 = .ok (.aload_n 0, 1) := by decide +kernel
theorem dX7_odds_56 : decode cX7_odds 56 = .ok (.getfield 27, 3) := by decide +kernel
theorem dX7_odds_59 : decode cX7_odds 59 = .ok (.getfield 172, 3) := by decide +kernel
theorem dX7_odds_62 : decode cX7_odds 62 = .ok (.iload 5, 2) := by decide +kernel
theorem dX7_odds_64 : decode cX7_odds 64 = .ok (.iaload, 1) := by decide +kernel
theorem dX7_odds_65 : decode cX7_odds 65 = .ok (.istore 6, 2) := by decide +kernel
theorem dX7_odds_67 : decode cX7_odds 67 = .ok (.iload 4, 2) := by decide +kernel
theorem dX7_odds_69 : decode cX7_odds 69 = .ok (.iload 6, 2) := by decide +kernel
theorem dX7_odds_71 : decode cX7_odds 71 = .ok (.imul, 1) := by decide +kernel
theorem dX7_odds_72 : decode cX7_odds 72 = .ok (.bipush 100, 2) := by decide +kernel
theorem dX7_odds_74 : decode cX7_odds 74 = .ok (.idiv, 1) := by decide +kernel
theorem dX7_odds_75 : decode cX7_odds 75 = .ok (.iload_n 3, 1) := by decide +kernel
theorem dX7_odds_76 : decode cX7_odds 76 = .ok (.bipush 100, 2) := by decide +kernel
theorem dX7_odds_78 : decode cX7_odds 78 = .ok (.iload 6, 2) := by decide +kernel
theorem dX7_odds_80 : decode cX7_odds 80 = .ok (.isub, 1) := by decide +kernel
theorem dX7_odds_81 : decode cX7_odds 81 = .ok (.imul, 1) := by decide +kernel
theorem dX7_odds_82 : decode cX7_odds 82 = .ok (.bipush 100, 2) := by decide +kernel
theorem dX7_odds_84 : decode cX7_odds 84 = .ok (.idiv, 1) := by decide +kernel
theorem dX7_odds_85 : decode cX7_odds 85 = .ok (.iadd, 1) := by decide +kernel
theorem dX7_odds_86 : decode cX7_odds 86 = .ok (.istore 4, 2) := by decide +kernel
theorem dX7_odds_88 : decode cX7_odds 88 = .ok (.iload_n 3, 1) := by decide +kernel
theorem dX7_odds_89 : decode cX7_odds 89 = .ok (.iload 6, 2) := by decide +kernel
theorem dX7_odds_91 : decode cX7_odds 91 = .ok (.imul, 1) := by decide +kernel
theorem dX7_odds_92 : decode cX7_odds 92 = .ok (.bipush 100, 2) := by decide +kernel
theorem dX7_odds_94 : decode cX7_odds 94 = .ok (.idiv, 1) := by decide +kernel
theorem dX7_odds_95 : decode cX7_odds 95 = .ok (.istore_n 3, 1) := by decide +kernel
theorem dX7_odds_96 : decode cX7_odds 96 = .ok (.iinc 5 1, 3) := by decide +kernel
theorem dX7_odds_99 : decode cX7_odds 99 = .ok (.goto (-63), 3) := by decide +kernel
theorem dX7_odds_102 : decode cX7_odds 102 = .ok (.iload 4, 2) := by decide +kernel
theorem dX7_odds_104 : decode cX7_odds 104 = .ok (.ireturn, 1) := by decide +kernel
theorem dX7_see_0 : decode cX7_see 0 = .ok (.iload_n 1, 1) := by decide +kernel
theorem dX7_see_1 : decode cX7_see 1 = .ok (.ifCond .lt 18, 3) := by decide +kernel
theorem dX7_see_4 : decode cX7_see 4 = .ok (.iload_n 1, 1) := by decide +kernel
theorem dX7_see_5 : decode cX7_see 5 = .ok (.bipush 100, 2) := by decide +kernel
theorem dX7_see_7 : decode cX7_see 7 = .ok (.if_icmp .ge 12, 3) := by decide +kernel
theorem dX7_see_10 : decode cX7_see 10 = .ok (.iload_n 2, 1) := by decide +kernel
theorem dX7_see_11 : decode cX7_see 11 = .ok (.ifCond .lt 8, 3) := by decide +kernel
theorem dX7_see_14 : decode cX7_see 14 = .ok (.iload_n 2, 1) := by decide +kernel
theorem dX7_see_15 : decode cX7_see 15 = .ok (.iconst 2, 1) := by decide +kernel
theorem dX7_see_16 : decode cX7_see 16 = .ok (.if_icmp .le 6, 3) := by decide +kernel
theorem dX7_see_19 : decode cX7_see 19 = .ok (.ldc 80, 2) := by decide +kernel
theorem dX7_see_21 : decode cX7_see 21 = .ok (.ireturn, 1) := by decide +kernel
theorem dX7_see_22 : decode cX7_see 22 = .ok (.aload_n 0, 1) := by decide +kernel
theorem dX7_see_23 : decode cX7_see 23 = .ok (.getfield 62, 3) := by decide +kernel
theorem dX7_see_26 : decode cX7_see 26 = .ok (.iload_n 1, 1) := by decide +kernel
theorem dX7_see_27 : decode cX7_see 27 = .ok (.iload_n 2, 1) := by decide +kernel
theorem dX7_see_28 : decode cX7_see 28 = .ok (.invokevirtual 248, 3) := by decide +kernel
theorem dX7_see_31 : decode cX7_see 31 = .ok (.ifCond .eq 13, 3) := by decide +kernel
theorem dX7_see_34 : decode cX7_see 34 = .ok (.aload_n 0, 1) := by decide +kernel
theorem dX7_see_35 : decode cX7_see 35 = .ok (.getfield 62, 3) := by decide +kernel
theorem dX7_see_38 : decode cX7_see 38 = .ok (.getfield 149, 3) := by decide +kernel
theorem dX7_see_41 : decode cX7_see 41 = .ok (.goto 5, 3) := by decide +kernel
theorem dX7_see_44 : decode cX7_see 44 = .ok (.ldc 84, 2) := by decide +kernel
theorem dX7_see_46 : decode cX7_see 46 = .ok (.ireturn, 1) := by decide +kernel
theorem dX7_went_0 : decode cX7_went 0 = .ok (.aload_n 0, 1) := by decide +kernel
theorem dX7_went_1 : decode cX7_went 1 = .ok (.getfield 27, 3) := by decide +kernel
theorem dX7_went_4 : decode cX7_went 4 = .ok (.iload_n 1, 1) := by decide +kernel
theorem dX7_went_5 : decode cX7_went 5 = .ok (.invokevirtual 158, 3) := by decide +kernel
theorem dX7_went_8 : decode cX7_went 8 = .ok (.ifCond .ne 6, 3) := by decide +kernel
theorem dX7_went_11 : decode cX7_went 11 = .ok (.ldc 162, 2) := by decide +kernel
theorem dX7_went_13 : decode cX7_went 13 = .ok (.ireturn, 1) := by decide +kernel
theorem dX7_went_14 : decode cX7_went 14 = .ok (.iload_n 2, 1) := by decide +kernel
theorem dX7_went_15 : decode cX7_went 15 = .ok (.ifCond .lt 8, 3) := by decide +kernel
theorem dX7_went_18 : decode cX7_went 18 = .ok (.iload_n 2, 1) := by decide +kernel
theorem dX7_went_19 : decode cX7_went 19 = .ok (.iconst 1, 1) := by decide +kernel
theorem dX7_went_20 : decode cX7_went 20 = .ok (.if_icmp .le 6, 3) := by decide +kernel
theorem dX7_went_23 : decode cX7_went 23 = .ok (.ldc 80, 2) := by decide +kernel
theorem dX7_went_25 : decode cX7_went 25 = .ok (.ireturn, 1) := by decide +kernel
theorem dX7_went_26 : decode cX7_went 26 = .ok (.aload_n 0, 1) := by decide +kernel
theorem dX7_went_27 : decode cX7_went 27 = .ok (.getfield 62, 3) := by decide +kernel
theorem dX7_went_30 : decode cX7_went 30 = .ok (.aload_n 0, 1) := by decide +kernel
theorem dX7_went_31 : decode cX7_went 31 = .ok (.getfield 27, 3) := by decide +kernel
theorem dX7_went_34 : decode cX7_went 34 = .ok (.aload_n 0, 1) := by decide +kernel
theorem dX7_went_35 : decode cX7_went 35 = .ok (.getfield 37, 3) := by decide +kernel
theorem dX7_went_38 : decode cX7_went 38 = .ok (.iload_n 1, 1) := by decide +kernel
theorem dX7_went_39 : decode cX7_went 39 = .ok (.invokevirtual 251, 3) := by decide +kernel
theorem dX7_went_42 : decode cX7_went 42 = .ok (.istore_n 3, 1) := by decide +kernel
theorem dX7_went_43 : decode cX7_went 43 = .ok (.iload_n 2, 1) := by decide +kernel
theorem dX7_went_44 : decode cX7_went 44 = .ok (.ifCond .ne 7, 3) := by decide +kernel
theorem dX7_went_47 : decode cX7_went 47 = .ok (.iload_n 3, 1) := by decide +kernel
theorem dX7_went_48 : decode cX7_went 48 = .ok (.goto 9, 3) := by decide +kernel
theorem dX7_went_51 : decode cX7_went 51 = .ok (.aload_n 0, 1) := by decide +kernel
theorem dX7_went_52 : decode cX7_went 52 = .ok (.iload_n 1, 1) := by decide +kernel
theorem dX7_went_53 : decode cX7_went 53 = .ok (.iload_n 3, 1) := by decide +kernel
theorem dX7_went_54 : decode cX7_went 54 = .ok (.invokevirtual 255, 3) := by decide +kernel
theorem dX7_went_57 : decode cX7_went 57 = .ok (.ireturn, 1) := by decide +kernel
theorem dX7_write_0 : decode cX7_write 0 = .ok (.iload_n 2, 1) := by decide +kernel
theorem dX7_write_1 : decode cX7_write 1 = .ok (.iconst (-1), 1) := by decide +kernel
theorem dX7_write_2 : decode cX7_write 2 = .ok (.if_icmp .eq 17, 3) := by decide +kernel
theorem dX7_write_5 : decode cX7_write 5 = .ok (.aload_n 0, 1) := by decide +kernel
theorem dX7_write_6 : decode cX7_write 6 = .ok (.getfield 27, 3) := by decide +kernel
theorem dX7_write_9 : decode cX7_write 9 = .ok (.iload_n 2, 1) := by decide +kernel
theorem dX7_write_10 : decode cX7_write 10 = .ok (.invokevirtual 158, 3) := by decide +kernel
theorem dX7_write_13 : decode cX7_write 13 = .ok (.ifCond .ne 6, 3) := by decide +kernel
theorem dX7_write_16 : decode cX7_write 16 = .ok (.ldc 162, 2) := by decide +kernel
theorem dX7_write_18 : decode cX7_write 18 = .ok (.ireturn, 1) := by decide +kernel
theorem dX7_write_19 : decode cX7_write 19 = .ok (.iload_n 1, 1) := by decide +kernel
theorem dX7_write_20 : decode cX7_write 20 = .ok (.ifCond .lt 10, 3) := by decide +kernel
theorem dX7_write_23 : decode cX7_write 23 = .ok (.iload_n 1, 1) := by decide +kernel
theorem dX7_write_24 : decode cX7_write 24 = .ok (.sipush 9999, 3) := by decide +kernel
theorem dX7_write_27 : decode cX7_write 27 = .ok (.if_icmp .le 6, 3) := by decide +kernel
theorem dX7_write_30 : decode cX7_write 30 = .ok (.ldc 80, 2) := by decide +kernel
theorem dX7_write_32 : decode cX7_write 32 = .ok (.ireturn, 1) := by decide +kernel
theorem dX7_write_33 : decode cX7_write 33 = .ok (.aload_n 0, 1) := by decide +kernel
theorem dX7_write_34 : decode cX7_write 34 = .ok (.getfield 62, 3) := by decide +kernel
theorem dX7_write_37 : decode cX7_write 37 = .ok (.iload_n 1, 1) := by decide +kernel
theorem dX7_write_38 : decode cX7_write 38 = .ok (.iload_n 2, 1) := by decide +kernel
theorem dX7_write_39 : decode cX7_write 39 = .ok (.invokevirtual 259, 3) := by decide +kernel
theorem dX7_write_42 : decode cX7_write 42 = .ok (.ifCond .eq 13, 3) := by decide +kernel
theorem dX7_write_45 : decode cX7_write 45 = .ok (.aload_n 0, 1) := by decide +kernel
theorem dX7_write_46 : decode cX7_write 46 = .ok (.getfield 62, 3) := by decide +kernel
theorem dX7_write_49 : decode cX7_write 49 = .ok (.getfield 152, 3) := by decide +kernel
theorem dX7_write_52 : decode cX7_write 52 = .ok (.goto 5, 3) := by decide +kernel
theorem dX7_write_55 : decode cX7_write 55 = .ok (.ldc 84, 2) := by decide +kernel
theorem dX7_write_57 : decode cX7_write 57 = .ok (.ireturn, 1) := by decide +kernel
theorem dX7_tear_0 : decode cX7_tear 0 = .ok (.aload_n 0, 1) := by decide +kernel
theorem dX7_tear_1 : decode cX7_tear 1 = .ok (.getfield 62, 3) := by decide +kernel
theorem dX7_tear_4 : decode cX7_tear 4 = .ok (.getfield 149, 3) := by decide +kernel
theorem dX7_tear_7 : decode cX7_tear 7 = .ok (.aload_n 0, 1) := by decide +kernel
theorem dX7_tear_8 : decode cX7_tear 8 = .ok (.getfield 62, 3) := by decide +kernel
theorem dX7_tear_11 : decode cX7_tear 11 = .ok (.getfield 152, 3) := by decide +kernel
theorem dX7_tear_14 : decode cX7_tear 14 = .ok (.iadd, 1) := by decide +kernel
theorem dX7_tear_15 : decode cX7_tear 15 = .ok (.istore_n 1, 1) := by decide +kernel
theorem dX7_tear_16 : decode cX7_tear 16 = .ok (.aload_n 0, 1) := by decide +kernel
theorem dX7_tear_17 : decode cX7_tear 17 = .ok (.getfield 62, 3) := by decide +kernel
theorem dX7_tear_20 : decode cX7_tear 20 = .ok (.invokevirtual 96, 3) := by decide +kernel
theorem dX7_tear_23 : decode cX7_tear 23 = .ok (.iload_n 1, 1) := by decide +kernel
theorem dX7_tear_24 : decode cX7_tear 24 = .ok (.ireturn, 1) := by decide +kernel
theorem dX7_judge_0 : decode cX7_judge 0 = .ok (.aload_n 0, 1) := by decide +kernel
theorem dX7_judge_1 : decode cX7_judge 1 = .ok (.getfield 62, 3) := by decide +kernel
theorem dX7_judge_4 : decode cX7_judge 4 = .ok (.aload_n 0, 1) := by decide +kernel
theorem dX7_judge_5 : decode cX7_judge 5 = .ok (.getfield 37, 3) := by decide +kernel
theorem dX7_judge_8 : decode cX7_judge 8 = .ok (.invokevirtual 262, 3) := by decide +kernel
theorem dX7_judge_11 : decode cX7_judge 11 = .ok (.ireturn, 1) := by decide +kernel
theorem dX7_seed_0 : decode cX7_seed 0 = .ok (.iload_n 1, 1) := by decide +kernel
theorem dX7_seed_1 : decode cX7_seed 1 = .ok (.ifCond .ge 6, 3) := by decide +kernel
theorem dX7_seed_4 : decode cX7_seed 4 = .ok (.ldc 80, 2) := by decide +kernel
theorem dX7_seed_6 : decode cX7_seed 6 = .ok (.ireturn, 1) := by decide +kernel
theorem dX7_seed_7 : decode cX7_seed 7 = .ok (.aload_n 0, 1) := by decide +kernel
theorem dX7_seed_8 : decode cX7_seed 8 = .ok (.getfield 266, 3) := by decide +kernel
theorem dX7_seed_11 : decode cX7_seed 11 = .ok (.istore_n 2, 1) := by decide +kernel
theorem dX7_seed_12 : decode cX7_seed 12 = .ok (.aload_n 0, 1) := by decide +kernel
theorem dX7_seed_13 : decode cX7_seed 13 = .ok (.iload_n 1, 1) := by decide +kernel
theorem dX7_seed_14 : decode cX7_seed 14 = .ok (.putfield 266, 3) := by decide +kernel
theorem dX7_seed_17 : decode cX7_seed 17 = .ok (.iload_n 2, 1) := by decide +kernel
theorem dX7_seed_18 : decode cX7_seed 18 = .ok (.ireturn, 1) := by decide +kernel
theorem dX7_keep_0 : decode cX7_keep 0 = .ok (.iload_n 1, 1) := by decide +kernel
theorem dX7_keep_1 : decode cX7_keep 1 = .ok (.ifCond .lt 21, 3) := by decide +kernel
theorem dX7_keep_4 : decode cX7_keep 4 = .ok (.iload_n 1, 1) := by decide +kernel
theorem dX7_keep_5 : decode cX7_keep 5 = .ok (.aload_n 0, 1) := by decide +kernel
theorem dX7_keep_6 : decode cX7_keep 6 = .ok (.getfield 51, 3) := by decide +kernel
theorem dX7_keep_9 : decode cX7_keep 9 = .ok (.arraylength, 1) := by decide +kernel
theorem dX7_keep_10 : decode cX7_keep 10 = .ok (.if_icmp .ge 12, 3) := by decide +kernel
theorem dX7_keep_13 : decode cX7_keep 13 = .ok (.iload_n 1, 1) := by decide +kernel
theorem dX7_keep_14 : decode cX7_keep 14 = .ok (.aload_n 0, 1) := by decide +kernel
theorem dX7_keep_15 : decode cX7_keep 15 = .ok (.getfield 55, 3) := by decide +kernel
theorem dX7_keep_18 : decode cX7_keep 18 = .ok (.arraylength, 1) := by decide +kernel
theorem dX7_keep_19 : decode cX7_keep 19 = .ok (.if_icmp .lt 6, 3) := by decide +kernel
theorem dX7_keep_22 : decode cX7_keep 22 = .ok (.ldc 162, 2) := by decide +kernel
theorem dX7_keep_24 : decode cX7_keep 24 = .ok (.ireturn, 1) := by decide +kernel
theorem dX7_keep_25 : decode cX7_keep 25 = .ok (.aload_n 0, 1) := by decide +kernel
theorem dX7_keep_26 : decode cX7_keep 26 = .ok (.getfield 51, 3) := by decide +kernel
theorem dX7_keep_29 : decode cX7_keep 29 = .ok (.iload_n 1, 1) := by decide +kernel
theorem dX7_keep_30 : decode cX7_keep 30 = .ok (.aaload, 1) := by decide +kernel
theorem dX7_keep_31 : decode cX7_keep 31 = .ok (.astore_n 2, 1) := by decide +kernel
theorem dX7_keep_32 : decode cX7_keep 32 = .ok (.aload_n 2, 1) := by decide +kernel
theorem dX7_keep_33 : decode cX7_keep 33 = .ok (.ifnonnull 6, 3) := by decide +kernel
theorem dX7_keep_36 : decode cX7_keep 36 = .ok (.ldc 162, 2) := by decide +kernel
theorem dX7_keep_38 : decode cX7_keep 38 = .ok (.ireturn, 1) := by decide +kernel
theorem dX7_keep_39 : decode cX7_keep 39 = .ok (.aload_n 2, 1) := by decide +kernel
theorem dX7_keep_40 : decode cX7_keep 40 = .ok (.aload_n 0, 1) := by decide +kernel
theorem dX7_keep_41 : decode cX7_keep 41 = .ok (.getfield 37, 3) := by decide +kernel
theorem dX7_keep_44 : decode cX7_keep 44 = .ok (.invokevirtual 269, 3) := by decide +kernel
theorem dX7_keep_47 : decode cX7_keep 47 = .ok (.aload_n 0, 1) := by decide +kernel
theorem dX7_keep_48 : decode cX7_keep 48 = .ok (.getfield 55, 3) := by decide +kernel
theorem dX7_keep_51 : decode cX7_keep 51 = .ok (.iload_n 1, 1) := by decide +kernel
theorem dX7_keep_52 : decode cX7_keep 52 = .ok (.aload_n 0, 1) := by decide +kernel
theorem dX7_keep_53 : decode cX7_keep 53 = .ok (.getfield 266, 3) := by decide +kernel
theorem dX7_keep_56 : decode cX7_keep 56 = .ok (.iastore, 1) := by decide +kernel
theorem dX7_keep_57 : decode cX7_keep 57 = .ok (.aload_n 0, 1) := by decide +kernel
theorem dX7_keep_58 : decode cX7_keep 58 = .ok (.dup, 1) := by decide +kernel
theorem dX7_keep_59 : decode cX7_keep 59 = .ok (.getfield 100, 3) := by decide +kernel
theorem dX7_keep_62 : decode cX7_keep 62 = .ok (.iconst 1, 1) := by decide +kernel
theorem dX7_keep_63 : decode cX7_keep 63 = .ok (.iload_n 1, 1) := by decide +kernel
theorem dX7_keep_64 : decode cX7_keep 64 = .ok (.ishl, 1) := by decide +kernel
theorem dX7_keep_65 : decode cX7_keep 65 = .ok (.ior, 1) := by decide +kernel
theorem dX7_keep_66 : decode cX7_keep 66 = .ok (.putfield 100, 3) := by decide +kernel
theorem dX7_keep_69 : decode cX7_keep 69 = .ok (.aload_n 0, 1) := by decide +kernel
theorem dX7_keep_70 : decode cX7_keep 70 = .ok (.getfield 47, 3) := by decide +kernel
theorem dX7_keep_73 : decode cX7_keep 73 = .ok (.invokevirtual 99, 3) := by decide +kernel
theorem dX7_keep_76 : decode cX7_keep 76 = .ok (.iconst 1, 1) := by decide +kernel
theorem dX7_keep_77 : decode cX7_keep 77 = .ok (.ireturn, 1) := by decide +kernel
theorem dX7_goBack_0 : decode cX7_goBack 0 = .ok (.iload_n 1, 1) := by decide +kernel
theorem dX7_goBack_1 : decode cX7_goBack 1 = .ok (.ifCond .lt 21, 3) := by decide +kernel
theorem dX7_goBack_4 : decode cX7_goBack 4 = .ok (.iload_n 1, 1) := by decide +kernel
theorem dX7_goBack_5 : decode cX7_goBack 5 = .ok (.aload_n 0, 1) := by decide +kernel
theorem dX7_goBack_6 : decode cX7_goBack 6 = .ok (.getfield 51, 3) := by decide +kernel
theorem dX7_goBack_9 : decode cX7_goBack 9 = .ok (.arraylength, 1) := by decide +kernel
theorem dX7_goBack_10 : decode cX7_goBack 10 = .ok (.if_icmp .ge 12, 3) := by decide +kernel
theorem dX7_goBack_13 : decode cX7_goBack 13 = .ok (.iload_n 1, 1) := by decide +kernel
theorem dX7_goBack_14 : decode cX7_goBack 14 = .ok (.aload_n 0, 1) := by decide +kernel
theorem dX7_goBack_15 : decode cX7_goBack 15 = .ok (.getfield 55, 3) := by decide +kernel
theorem dX7_goBack_18 : decode cX7_goBack 18 = .ok (.arraylength, 1) := by decide +kernel
theorem dX7_goBack_19 : decode cX7_goBack 19 = .ok (.if_icmp .lt 6, 3) := by decide +kernel
theorem dX7_goBack_22 : decode cX7_goBack 22 = .ok (.ldc 162, 2) := by decide +kernel
theorem dX7_goBack_24 : decode cX7_goBack 24 = .ok (.ireturn, 1) := by decide +kernel
theorem dX7_goBack_25 : decode cX7_goBack 25 = .ok (.aload_n 0, 1) := by decide +kernel
theorem dX7_goBack_26 : decode cX7_goBack 26 = .ok (.getfield 51, 3) := by decide +kernel
theorem dX7_goBack_29 : decode cX7_goBack 29 = .ok (.iload_n 1, 1) := by decide +kernel
theorem dX7_goBack_30 : decode cX7_goBack 30 = .ok (.aaload, 1) := by decide +kernel
theorem dX7_goBack_31 : decode cX7_goBack 31 = .ok (.astore_n 2, 1) := by decide +kernel
theorem dX7_goBack_32 : decode cX7_goBack 32 = .ok (.aload_n 2, 1) := by decide +kernel
theorem dX7_goBack_33 : decode cX7_goBack 33 = .ok (.ifnull 14, 3) := by decide +kernel
theorem dX7_goBack_36 : decode cX7_goBack 36 = .ok (.aload_n 0, 1) := by decide +kernel
theorem dX7_goBack_37 : decode cX7_goBack 37 = .ok (.getfield 100, 3) := by decide +kernel
theorem dX7_goBack_40 : decode cX7_goBack 40 = .ok (.iload_n 1, 1) := by decide +kernel
theorem dX7_goBack_41 : decode cX7_goBack 41 = .ok (.ishr, 1) := by decide +kernel
theorem dX7_goBack_42 : decode cX7_goBack 42 = .ok (.iconst 1, 1) := by decide +kernel
theorem dX7_goBack_43 : decode cX7_goBack 43 = .ok (.iand, 1) := by decide +kernel
theorem dX7_goBack_44 : decode cX7_goBack 44 = .ok (.ifCond .ne 6, 3) := by decide +kernel
theorem dX7_goBack_47 : decode cX7_goBack 47 = .ok (.ldc 206, 2) := by decide +kernel
theorem dX7_goBack_49 : decode cX7_goBack 49 = .ok (.ireturn, 1) := by decide +kernel
theorem dX7_goBack_50 : decode cX7_goBack 50 = .ok (.aload_n 0, 1) := by decide +kernel
theorem dX7_goBack_51 : decode cX7_goBack 51 = .ok (.getfield 37, 3) := by decide +kernel
theorem dX7_goBack_54 : decode cX7_goBack 54 = .ok (.aload_n 2, 1) := by decide +kernel
theorem dX7_goBack_55 : decode cX7_goBack 55 = .ok (.invokevirtual 269, 3) := by decide +kernel
theorem dX7_goBack_58 : decode cX7_goBack 58 = .ok (.aload_n 0, 1) := by decide +kernel
theorem dX7_goBack_59 : decode cX7_goBack 59 = .ok (.aload_n 0, 1) := by decide +kernel
theorem dX7_goBack_60 : decode cX7_goBack 60 = .ok (.getfield 55, 3) := by decide +kernel
theorem dX7_goBack_63 : decode cX7_goBack 63 = .ok (.iload_n 1, 1) := by decide +kernel
theorem dX7_goBack_64 : decode cX7_goBack 64 = .ok (.iaload, 1) := by decide +kernel
theorem dX7_goBack_65 : decode cX7_goBack 65 = .ok (.putfield 266, 3) := by decide +kernel
theorem dX7_goBack_68 : decode cX7_goBack 68 = .ok (.aload_n 0, 1) := by decide +kernel
theorem dX7_goBack_69 : decode cX7_goBack 69 = .ok (.getfield 47, 3) := by decide +kernel
theorem dX7_goBack_72 : decode cX7_goBack 72 = .ok (.invokevirtual 99, 3) := by decide +kernel
theorem dX7_goBack_75 : decode cX7_goBack 75 = .ok (.iconst 1, 1) := by decide +kernel
theorem dX7_goBack_76 : decode cX7_goBack 76 = .ok (.ireturn, 1) := by decide +kernel
theorem dX7_refusalOfDays_0 : decode cX7_refusalOfDays 0 = .ok (.iload_n 1, 1) := by decide +kernel
theorem dX7_refusalOfDays_1 : decode cX7_refusalOfDays 1 = .ok (.iconst 1, 1) := by decide +kernel
theorem dX7_refusalOfDays_2 : decode cX7_refusalOfDays 2 = .ok (.if_icmp .lt 9, 3) := by decide +kernel
theorem dX7_refusalOfDays_5 : decode cX7_refusalOfDays 5 = .ok (.iload_n 1, 1) := by decide +kernel
theorem dX7_refusalOfDays_6 : decode cX7_refusalOfDays 6 = .ok (.bipush 99, 2) := by decide +kernel
theorem dX7_refusalOfDays_8 : decode cX7_refusalOfDays 8 = .ok (.if_icmp .le 6, 3) := by decide +kernel
theorem dX7_refusalOfDays_11 : decode cX7_refusalOfDays 11 = .ok (.ldc 80, 2) := by decide +kernel
theorem dX7_refusalOfDays_13 : decode cX7_refusalOfDays 13 = .ok (.ireturn, 1) := by decide +kernel
theorem dX7_refusalOfDays_14 : decode cX7_refusalOfDays 14 = .ok (.aload_n 0, 1) := by decide +kernel
theorem dX7_refusalOfDays_15 : decode cX7_refusalOfDays 15 = .ok (.getfield 27, 3) := by decide +kernel
theorem dX7_refusalOfDays_18 : decode cX7_refusalOfDays 18 = .ok (.getfield 210, 3) := by decide +kernel
theorem dX7_refusalOfDays_21 : decode cX7_refusalOfDays 21 = .ok (.ifCond .eq 13, 3) := by decide +kernel
theorem dX7_refusalOfDays_24 : decode cX7_refusalOfDays 24 = .ok (.aload_n 0, 1) := by decide +kernel
theorem dX7_refusalOfDays_25 : decode cX7_refusalOfDays 25 = .ok (.getfield 37, 3) := by decide +kernel
theorem dX7_refusalOfDays_28 : decode cX7_refusalOfDays 28 = .ok (.getfield 127, 3) := by decide +kernel
theorem dX7_refusalOfDays_31 : decode cX7_refusalOfDays 31 = .ok (.ifCond .eq 6, 3) := by decide +kernel
theorem dX7_refusalOfDays_34 : decode cX7_refusalOfDays 34 = .ok (.ldc 206, 2) := by decide +kernel
theorem dX7_refusalOfDays_36 : decode cX7_refusalOfDays 36 = .ok (.ireturn, 1) := by decide +kernel
theorem dX7_refusalOfDays_37 : decode cX7_refusalOfDays 37 = .ok (.aload_n 0, 1) := by decide +kernel
theorem dX7_refusalOfDays_38 : decode cX7_refusalOfDays 38 = .ok (.getfield 37, 3) := by decide +kernel
theorem dX7_refusalOfDays_41 : decode cX7_refusalOfDays 41 = .ok (.getfield 121, 3) := by decide +kernel
theorem dX7_refusalOfDays_44 : decode cX7_refusalOfDays 44 = .ok (.sipush 9000, 3) := by decide +kernel
theorem dX7_refusalOfDays_47 : decode cX7_refusalOfDays 47 = .ok (.if_icmp .le 8, 3) := by decide +kernel
theorem dX7_refusalOfDays_50 : decode cX7_refusalOfDays 50 = .ok (.ldc 84, 2) := by decide +kernel
theorem dX7_refusalOfDays_52 : decode cX7_refusalOfDays 52 = .ok (.goto 4, 3) := by decide +kernel
theorem dX7_refusalOfDays_55 : decode cX7_refusalOfDays 55 = .ok (.iconst 0, 1) := by decide +kernel
theorem dX7_refusalOfDays_56 : decode cX7_refusalOfDays 56 = .ok (.ireturn, 1) := by decide +kernel
theorem dX7_draw_0 : decode cX7_draw 0 = .ok (.aload_n 0, 1) := by decide +kernel
theorem dX7_draw_1 : decode cX7_draw 1 = .ok (.aload_n 0, 1) := by decide +kernel
theorem dX7_draw_2 : decode cX7_draw 2 = .ok (.getfield 266, 3) := by decide +kernel
theorem dX7_draw_5 : decode cX7_draw 5 = .ok (.i2l, 1) := by decide +kernel
theorem dX7_draw_6 : decode cX7_draw 6 = .ok (.ldc2_w 272, 3) := by decide +kernel
theorem dX7_draw_9 : decode cX7_draw 9 = .ok (.lmul, 1) := by decide +kernel
theorem dX7_draw_10 : decode cX7_draw 10 = .ok (.ldc2_w 274, 3) := by decide +kernel
theorem dX7_draw_13 : decode cX7_draw 13 = .ok (.ladd, 1) := by decide +kernel
theorem dX7_draw_14 : decode cX7_draw 14 = .ok (.ldc2_w 276, 3) := by decide +kernel
theorem dX7_draw_17 : decode cX7_draw 17 = .ok (.land, 1) := by decide +kernel
theorem dX7_draw_18 : decode cX7_draw 18 = .ok (.l2i, 1) := by decide +kernel
theorem dX7_draw_19 : decode cX7_draw 19 = .ok (.putfield 266, 3) := by decide +kernel
theorem dX7_draw_22 : decode cX7_draw 22 = .ok (.iload_n 1, 1) := by decide +kernel
theorem dX7_draw_23 : decode cX7_draw 23 = .ok (.iconst 1, 1) := by decide +kernel
theorem dX7_draw_24 : decode cX7_draw 24 = .ok (.if_icmp .ge 7, 3) := by decide +kernel
theorem dX7_draw_27 : decode cX7_draw 27 = .ok (.iconst 0, 1) := by decide +kernel
theorem dX7_draw_28 : decode cX7_draw 28 = .ok (.goto 13, 3) := by decide +kernel
theorem dX7_draw_31 : decode cX7_draw 31 = .ok (.aload_n 0, 1) := by decide +kernel
theorem dX7_draw_32 : decode cX7_draw 32 = .ok (.getfield 266, 3) := by decide +kernel
theorem dX7_draw_35 : decode cX7_draw 35 = .ok (.ldc_w 278, 3) := by decide +kernel
theorem dX7_draw_38 : decode cX7_draw 38 = .ok (.idiv, 1) := by decide +kernel
theorem dX7_draw_39 : decode cX7_draw 39 = .ok (.iload_n 1, 1) := by decide +kernel
theorem dX7_draw_40 : decode cX7_draw 40 = .ok (.irem, 1) := by decide +kernel
theorem dX7_draw_41 : decode cX7_draw 41 = .ok (.ireturn, 1) := by decide +kernel
theorem dX7_shiftByDraws_0 : decode cX7_shiftByDraws 0 = .ok (.aload_n 0, 1) := by decide +kernel
theorem dX7_shiftByDraws_1 : decode cX7_shiftByDraws 1 = .ok (.iconst 4, 1) := by decide +kernel
theorem dX7_shiftByDraws_2 : decode cX7_shiftByDraws 2 = .ok (.invokevirtual 279, 3) := by decide +kernel
theorem dX7_shiftByDraws_5 : decode cX7_shiftByDraws 5 = .ok (.ifCond .ne 14, 3) := by decide +kernel
theorem dX7_shiftByDraws_8 : decode cX7_shiftByDraws 8 = .ok (.aload_n 0, 1) := by decide +kernel
theorem dX7_shiftByDraws_9 : decode cX7_shiftByDraws 9 = .ok (.getfield 27, 3) := by decide +kernel
theorem dX7_shiftByDraws_12 : decode cX7_shiftByDraws 12 = .ok (.getfield 103, 3) := by decide +kernel
theorem dX7_shiftByDraws_15 : decode cX7_shiftByDraws 15 = .ok (.iconst 1, 1) := by decide +kernel
theorem dX7_shiftByDraws_16 : decode cX7_shiftByDraws 16 = .ok (.if_icmp .ge 4, 3) := by decide +kernel
theorem dX7_shiftByDraws_19 : decode cX7_shiftByDraws 19 = .ok (.return_, 1) := by decide +kernel
theorem dX7_shiftByDraws_20 : decode cX7_shiftByDraws 20 = .ok (.aload_n 0, 1) := by decide +kernel
theorem dX7_shiftByDraws_21 : decode cX7_shiftByDraws 21 = .ok (.aload_n 0, 1) := by decide +kernel
theorem dX7_shiftByDraws_22 : decode cX7_shiftByDraws 22 = .ok (.getfield 27, 3) := by decide +kernel
theorem dX7_shiftByDraws_25 : decode cX7_shiftByDraws 25 = .ok (.getfield 103, 3) := by decide +kernel
theorem dX7_shiftByDraws_28 : decode cX7_shiftByDraws 28 = .ok (.invokevirtual 279, 3) := by decide +kernel
theorem dX7_shiftByDraws_31 : decode cX7_shiftByDraws 31 = .ok (.istore_n 1, 1) := by decide +kernel
theorem dX7_shiftByDraws_32 : decode cX7_shiftByDraws 32 = .ok (.aload_n 0, 1) := by decide +kernel
theorem dX7_shiftByDraws_33 : decode cX7_shiftByDraws 33 = .ok (.getfield 27, 3) := by decide +kernel
theorem dX7_shiftByDraws_36 : decode cX7_shiftByDraws 36 = .ok (.iload_n 1, 1) := by decide +kernel
theorem dX7_shiftByDraws_37 : decode cX7_shiftByDraws 37 = .ok (.invokevirtual 158, 3) := by decide +kernel
theorem dX7_shiftByDraws_40 : decode cX7_shiftByDraws 40 = .ok (.ifCond .eq 25, 3) := by decide +kernel
theorem dX7_shiftByDraws_43 : decode cX7_shiftByDraws 43 = .ok (.aload_n 0, 1) := by decide +kernel
theorem dX7_shiftByDraws_44 : decode cX7_shiftByDraws 44 = .ok (.getfield 37, 3) := by decide +kernel
theorem dX7_shiftByDraws_47 : decode cX7_shiftByDraws 47 = .ok (.getfield 169, 3) := by decide +kernel
theorem dX7_shiftByDraws_50 : decode cX7_shiftByDraws 50 = .ok (.iload_n 1, 1) := by decide +kernel
theorem dX7_shiftByDraws_51 : decode cX7_shiftByDraws 51 = .ok (.aload_n 0, 1) := by decide +kernel
theorem dX7_shiftByDraws_52 : decode cX7_shiftByDraws 52 = .ok (.aload_n 0, 1) := by decide +kernel
theorem dX7_shiftByDraws_53 : decode cX7_shiftByDraws 53 = .ok (.getfield 27, 3) := by decide +kernel
theorem dX7_shiftByDraws_56 : decode cX7_shiftByDraws 56 = .ok (.getfield 166, 3) := by decide +kernel
theorem dX7_shiftByDraws_59 : decode cX7_shiftByDraws 59 = .ok (.iload_n 1, 1) := by decide +kernel
theorem dX7_shiftByDraws_60 : decode cX7_shiftByDraws 60 = .ok (.iaload, 1) := by decide +kernel
theorem dX7_shiftByDraws_61 : decode cX7_shiftByDraws 61 = .ok (.invokevirtual 279, 3) := by decide +kernel
theorem dX7_shiftByDraws_64 : decode cX7_shiftByDraws 64 = .ok (.iastore, 1) := by decide +kernel
theorem dX7_shiftByDraws_65 : decode cX7_shiftByDraws 65 = .ok (.return_, 1) := by decide +kernel
theorem dX7_isPeaceful_0 : decode cX7_isPeaceful 0 = .ok (.aload_n 0, 1) := by decide +kernel
theorem dX7_isPeaceful_1 : decode cX7_isPeaceful 1 = .ok (.getfield 41, 3) := by decide +kernel
theorem dX7_isPeaceful_4 : decode cX7_isPeaceful 4 = .ok (.aload_n 0, 1) := by decide +kernel
theorem dX7_isPeaceful_5 : decode cX7_isPeaceful 5 = .ok (.getfield 37, 3) := by decide +kernel
theorem dX7_isPeaceful_8 : decode cX7_isPeaceful 8 = .ok (.invokevirtual 213, 3) := by decide +kernel
theorem dX7_isPeaceful_11 : decode cX7_isPeaceful 11 = .ok (.aload_n 0, 1) := by decide +kernel
theorem dX7_isPeaceful_12 : decode cX7_isPeaceful 12 = .ok (.getfield 41, 3) := by decide +kernel
theorem dX7_isPeaceful_15 : decode cX7_isPeaceful 15 = .ok (.dup, 1) := by decide +kernel
theorem dX7_isPeaceful_16 : decode cX7_isPeaceful 16 = .ok (.getfield 200, 3) := by decide +kernel
theorem dX7_isPeaceful_19 : decode cX7_isPeaceful 19 = .ok (.iload_n 1, 1) := by decide +kernel
theorem dX7_isPeaceful_20 : decode cX7_isPeaceful 20 = .ok (.ior, 1) := by decide +kernel
theorem dX7_isPeaceful_21 : decode cX7_isPeaceful 21 = .ok (.putfield 200, 3) := by decide +kernel
theorem dX7_isPeaceful_24 : decode cX7_isPeaceful 24 = .ok (.iconst 0, 1) := by decide +kernel
theorem dX7_isPeaceful_25 : decode cX7_isPeaceful 25 = .ok (.istore_n 3, 1) := by decide +kernel
theorem dX7_isPeaceful_26 : decode cX7_isPeaceful 26 = .ok (.iload_n 3, 1) := by decide +kernel
theorem dX7_isPeaceful_27 : decode cX7_isPeaceful 27 = .ok (.iload_n 2, 1) := by decide +kernel
theorem dX7_isPeaceful_28 : decode cX7_isPeaceful 28 = .ok (.if_icmp .ge 73, 3) := by decide +kernel
theorem dX7_isPeaceful_31 : decode cX7_isPeaceful 31 = .ok (.aload_n 0, 1) := by decide +kernel
theorem dX7_isPeaceful_32 : decode cX7_isPeaceful 32 = .ok (.getfield 41, 3) := by decide +kernel
theorem dX7_isPeaceful_35 : decode cX7_isPeaceful 35 = .ok (.getfield 127, 3) := by decide +kernel
theorem dX7_isPeaceful_38 : decode cX7_isPeaceful 38 = .ok (.ifCond .ne 63, 3) := by decide +kernel
theorem dX7_isPeaceful_41 : decode cX7_isPeaceful 41 = .ok (.aload_n 0, 1) := by decide +kernel
theorem dX7_isPeaceful_42 : decode cX7_isPeaceful 42 = .ok (.getfield 41, 3) := by decide +kernel
theorem dX7_isPeaceful_45 : decode cX7_isPeaceful 45 = .ok (.aload_n 0, 1) := by decide +kernel
theorem dX7_isPeaceful_46 : decode cX7_isPeaceful 46 = .ok (.getfield 27, 3) := by decide +kernel
theorem dX7_isPeaceful_49 : decode cX7_isPeaceful 49 = .ok (.aload_n 0, 1) := by decide +kernel
theorem dX7_isPeaceful_50 : decode cX7_isPeaceful 50 = .ok (.getfield 27, 3) := by decide +kernel
theorem dX7_isPeaceful_53 : decode cX7_isPeaceful 53 = .ok (.getfield 112, 3) := by decide +kernel
theorem dX7_isPeaceful_56 : decode cX7_isPeaceful 56 = .ok (.invokevirtual 196, 3) := by decide +kernel
theorem dX7_isPeaceful_59 : decode cX7_isPeaceful 59 = .ok (.aload_n 0, 1) := by decide +kernel
theorem dX7_isPeaceful_60 : decode cX7_isPeaceful 60 = .ok (.getfield 41, 3) := by decide +kernel
theorem dX7_isPeaceful_63 : decode cX7_isPeaceful 63 = .ok (.getfield 134, 3) := by decide +kernel
theorem dX7_isPeaceful_66 : decode cX7_isPeaceful 66 = .ok (.aload_n 0, 1) := by decide +kernel
theorem dX7_isPeaceful_67 : decode cX7_isPeaceful 67 = .ok (.getfield 37, 3) := by decide +kernel
theorem dX7_isPeaceful_70 : decode cX7_isPeaceful 70 = .ok (.getfield 134, 3) := by decide +kernel
theorem dX7_isPeaceful_73 : decode cX7_isPeaceful 73 = .ok (.if_icmp .gt 20, 3) := by decide +kernel
theorem dX7_isPeaceful_76 : decode cX7_isPeaceful 76 = .ok (.aload_n 0, 1) := by decide +kernel
theorem dX7_isPeaceful_77 : decode cX7_isPeaceful 77 = .ok (.getfield 41, 3) := by decide +kernel
theorem dX7_isPeaceful_80 : decode cX7_isPeaceful 80 = .ok (.getfield 146, 3) := by decide +kernel
theorem dX7_isPeaceful_83 : decode cX7_isPeaceful 83 = .ok (.aload_n 0, 1) := by decide +kernel
theorem dX7_isPeaceful_84 : decode cX7_isPeaceful 84 = .ok (.getfield 37, 3) := by decide +kernel
theorem dX7_isPeaceful_87 : decode cX7_isPeaceful 87 = .ok (.getfield 146, 3) := by decide +kernel
theorem dX7_isPeaceful_90 : decode cX7_isPeaceful 90 = .ok (.if_icmp .le 5, 3) := by decide +kernel
theorem dX7_isPeaceful_93 : decode cX7_isPeaceful 93 = .ok (.iconst 0, 1) := by decide +kernel
theorem dX7_isPeaceful_94 : decode cX7_isPeaceful 94 = .ok (.ireturn, 1) := by decide +kernel
theorem dX7_isPeaceful_95 : decode cX7_isPeaceful 95 = .ok (.iinc 3 1, 3) := by decide +kernel
theorem dX7_isPeaceful_98 : decode cX7_isPeaceful 98 = .ok (.goto (-72), 3) := by decide +kernel
theorem dX7_isPeaceful_101 : decode cX7_isPeaceful 101 = .ok (.iconst 1, 1) := by decide +kernel
theorem dX7_isPeaceful_102 : decode cX7_isPeaceful 102 = .ok (.ireturn, 1) := by decide +kernel
theorem dX7_isLargeEnough_0 : decode cX7_isLargeEnough 0 = .ok (.aload_n 0, 1) := by decide +kernel
theorem dX7_isLargeEnough_1 : decode cX7_isLargeEnough 1 = .ok (.getfield 41, 3) := by decide +kernel
theorem dX7_isLargeEnough_4 : decode cX7_isLargeEnough 4 = .ok (.aload_n 0, 1) := by decide +kernel
theorem dX7_isLargeEnough_5 : decode cX7_isLargeEnough 5 = .ok (.getfield 37, 3) := by decide +kernel
theorem dX7_isLargeEnough_8 : decode cX7_isLargeEnough 8 = .ok (.invokevirtual 213, 3) := by decide +kernel
theorem dX7_isLargeEnough_11 : decode cX7_isLargeEnough 11 = .ok (.iconst 0, 1) := by decide +kernel
theorem dX7_isLargeEnough_12 : decode cX7_isLargeEnough 12 = .ok (.istore_n 3, 1) := by decide +kernel
theorem dX7_isLargeEnough_13 : decode cX7_isLargeEnough 13 = .ok (.iload_n 3, 1) := by decide +kernel
theorem dX7_isLargeEnough_14 : decode cX7_isLargeEnough 14 = .ok (.iload_n 2, 1) := by decide +kernel
theorem dX7_isLargeEnough_15 : decode cX7_isLargeEnough 15 = .ok (.if_icmp .ge 84, 3) := by decide +kernel
theorem dX7_isLargeEnough_18 : decode cX7_isLargeEnough 18 = .ok (.aload_n 0, 1) := by decide +kernel
theorem dX7_isLargeEnough_19 : decode cX7_isLargeEnough 19 = .ok (.getfield 41, 3) := by decide +kernel
theorem dX7_isLargeEnough_22 : decode cX7_isLargeEnough 22 = .ok (.getfield 127, 3) := by decide +kernel
theorem dX7_isLargeEnough_25 : decode cX7_isLargeEnough 25 = .ok (.ifCond .ne 74, 3) := by decide +kernel
theorem dX7_isLargeEnough_28 : decode cX7_isLargeEnough 28 = .ok (.aload_n 0, 1) := by decide +kernel
theorem dX7_isLargeEnough_29 : decode cX7_isLargeEnough 29 = .ok (.getfield 41, 3) := by decide +kernel
theorem dX7_isLargeEnough_32 : decode cX7_isLargeEnough 32 = .ok (.aload_n 0, 1) := by decide +kernel
theorem dX7_isLargeEnough_33 : decode cX7_isLargeEnough 33 = .ok (.getfield 27, 3) := by decide +kernel
theorem dX7_isLargeEnough_36 : decode cX7_isLargeEnough 36 = .ok (.iload_n 1, 1) := by decide +kernel
theorem dX7_isLargeEnough_37 : decode cX7_isLargeEnough 37 = .ok (.invokevirtual 196, 3) := by decide +kernel
theorem dX7_isLargeEnough_40 : decode cX7_isLargeEnough 40 = .ok (.aload_n 0, 1) := by decide +kernel
theorem dX7_isLargeEnough_41 : decode cX7_isLargeEnough 41 = .ok (.getfield 41, 3) := by decide +kernel
theorem dX7_isLargeEnough_44 : decode cX7_isLargeEnough 44 = .ok (.getfield 134, 3) := by decide +kernel
theorem dX7_isLargeEnough_47 : decode cX7_isLargeEnough 47 = .ok (.aload_n 0, 1) := by decide +kernel
theorem dX7_isLargeEnough_48 : decode cX7_isLargeEnough 48 = .ok (.getfield 37, 3) := by decide +kernel
theorem dX7_isLargeEnough_51 : decode cX7_isLargeEnough 51 = .ok (.getfield 134, 3) := by decide +kernel
theorem dX7_isLargeEnough_54 : decode cX7_isLargeEnough 54 = .ok (.if_icmp .gt 37, 3) := by decide +kernel
theorem dX7_isLargeEnough_57 : decode cX7_isLargeEnough 57 = .ok (.aload_n 0, 1) := by decide +kernel
theorem dX7_isLargeEnough_58 : decode cX7_isLargeEnough 58 = .ok (.getfield 41, 3) := by decide +kernel
theorem dX7_isLargeEnough_61 : decode cX7_isLargeEnough 61 = .ok (.getfield 146, 3) := by decide +kernel
theorem dX7_isLargeEnough_64 : decode cX7_isLargeEnough 64 = .ok (.aload_n 0, 1) := by decide +kernel
theorem dX7_isLargeEnough_65 : decode cX7_isLargeEnough 65 = .ok (.getfield 37, 3) := by decide +kernel
theorem dX7_isLargeEnough_68 : decode cX7_isLargeEnough 68 = .ok (.getfield 146, 3) := by decide +kernel
theorem dX7_isLargeEnough_71 : decode cX7_isLargeEnough 71 = .ok (.if_icmp .gt 20, 3) := by decide +kernel
theorem dX7_isLargeEnough_74 : decode cX7_isLargeEnough 74 = .ok (.aload_n 0, 1) := by decide +kernel
theorem dX7_isLargeEnough_75 : decode cX7_isLargeEnough 75 = .ok (.getfield 41, 3) := by decide +kernel
theorem dX7_isLargeEnough_78 : decode cX7_isLargeEnough 78 = .ok (.getfield 137, 3) := by decide +kernel
theorem dX7_isLargeEnough_81 : decode cX7_isLargeEnough 81 = .ok (.aload_n 0, 1) := by decide +kernel
theorem dX7_isLargeEnough_82 : decode cX7_isLargeEnough 82 = .ok (.getfield 37, 3) := by decide +kernel
theorem dX7_isLargeEnough_85 : decode cX7_isLargeEnough 85 = .ok (.getfield 137, 3) := by decide +kernel
theorem dX7_isLargeEnough_88 : decode cX7_isLargeEnough 88 = .ok (.if_icmp .le 5, 3) := by decide +kernel
theorem dX7_isLargeEnough_91 : decode cX7_isLargeEnough 91 = .ok (.iconst 0, 1) := by decide +kernel
theorem dX7_isLargeEnough_92 : decode cX7_isLargeEnough 92 = .ok (.ireturn, 1) := by decide +kernel
theorem dX7_isLargeEnough_93 : decode cX7_isLargeEnough 93 = .ok (.iinc 3 1, 3) := by decide +kernel
theorem dX7_isLargeEnough_96 : decode cX7_isLargeEnough 96 = .ok (.goto (-83), 3) := by decide +kernel
theorem dX7_isLargeEnough_99 : decode cX7_isLargeEnough 99 = .ok (.iconst 1, 1) := by decide +kernel
theorem dX7_isLargeEnough_100 : decode cX7_isLargeEnough 100 = .ok (.ireturn, 1) := by decide +kernel
theorem dX7_dayToLookAt_0 : decode cX7_dayToLookAt 0 = .ok (.iconst 0, 1) := by decide +kernel
theorem dX7_dayToLookAt_1 : decode cX7_dayToLookAt 1 = .ok (.istore_n 3, 1) := by decide +kernel
theorem dX7_dayToLookAt_2 : decode cX7_dayToLookAt 2 = .ok (.iload_n 3, 1) := by decide +kernel
theorem dX7_dayToLookAt_3 : decode cX7_dayToLookAt 3 = .ok (.bipush 100, 2) := by decide +kernel
theorem dX7_dayToLookAt_5 : decode cX7_dayToLookAt 5 = .ok (.if_icmp .ge 76, 3) := by decide +kernel
theorem dX7_dayToLookAt_8 : decode cX7_dayToLookAt 8 = .ok (.iconst 0, 1) := by decide +kernel
theorem dX7_dayToLookAt_9 : decode cX7_dayToLookAt 9 = .ok (.istore 4, 2) := by decide +kernel
theorem dX7_dayToLookAt_11 : decode cX7_dayToLookAt 11 = .ok (.iconst 0, 1) := by decide +kernel
theorem dX7_dayToLookAt_12 : decode cX7_dayToLookAt 12 = .ok (.istore 5, 2) := by decide +kernel
theorem dX7_dayToLookAt_14 : decode cX7_dayToLookAt 14 = .ok (.iload 5, 2) := by decide +kernel
theorem dX7_dayToLookAt_16 : decode cX7_dayToLookAt 16 = .ok (.aload_n 0, 1) := by decide +kernel
theorem dX7_dayToLookAt_17 : decode cX7_dayToLookAt 17 = .ok (.getfield 27, 3) := by decide +kernel
theorem dX7_dayToLookAt_20 : decode cX7_dayToLookAt 20 = .ok (.iload_n 1, 1) := by decide +kernel
theorem dX7_dayToLookAt_21 : decode cX7_dayToLookAt 21 = .ok (.invokevirtual 282, 3) := by decide +kernel
theorem dX7_dayToLookAt_24 : decode cX7_dayToLookAt 24 = .ok (.if_icmp .ge 40, 3) := by decide +kernel
theorem dX7_dayToLookAt_27 : decode cX7_dayToLookAt 27 = .ok (.iload_n 2, 1) := by decide +kernel
theorem dX7_dayToLookAt_28 : decode cX7_dayToLookAt 28 = .ok (.iload 5, 2) := by decide +kernel
theorem dX7_dayToLookAt_30 : decode cX7_dayToLookAt 30 = .ok (.ishr, 1) := by decide +kernel
theorem dX7_dayToLookAt_31 : decode cX7_dayToLookAt 31 = .ok (.iconst 1, 1) := by decide +kernel
theorem dX7_dayToLookAt_32 : decode cX7_dayToLookAt 32 = .ok (.iand, 1) := by decide +kernel
theorem dX7_dayToLookAt_33 : decode cX7_dayToLookAt 33 = .ok (.ifCond .eq 25, 3) := by decide +kernel
theorem dX7_dayToLookAt_36 : decode cX7_dayToLookAt 36 = .ok (.iload 4, 2) := by decide +kernel
theorem dX7_dayToLookAt_38 : decode cX7_dayToLookAt 38 = .ok (.iconst 1, 1) := by decide +kernel
theorem dX7_dayToLookAt_39 : decode cX7_dayToLookAt 39 = .ok (.aload_n 0, 1) := by decide +kernel
theorem dX7_dayToLookAt_40 : decode cX7_dayToLookAt 40 = .ok (.getfield 37, 3) := by decide +kernel
theorem dX7_dayToLookAt_43 : decode cX7_dayToLookAt 43 = .ok (.aload_n 0, 1) := by decide +kernel
theorem dX7_dayToLookAt_44 : decode cX7_dayToLookAt 44 = .ok (.getfield 27, 3) := by decide +kernel
theorem dX7_dayToLookAt_47 : decode cX7_dayToLookAt 47 = .ok (.iload_n 1, 1) := by decide +kernel
theorem dX7_dayToLookAt_48 : decode cX7_dayToLookAt 48 = .ok (.iload 5, 2) := by decide +kernel
theorem dX7_dayToLookAt_50 : decode cX7_dayToLookAt 50 = .ok (.iload_n 3, 1) := by decide +kernel
theorem dX7_dayToLookAt_51 : decode cX7_dayToLookAt 51 = .ok (.invokevirtual 285, 3) := by decide +kernel
theorem dX7_dayToLookAt_54 : decode cX7_dayToLookAt 54 = .ok (.ishl, 1) := by decide +kernel
theorem dX7_dayToLookAt_55 : decode cX7_dayToLookAt 55 = .ok (.ior, 1) := by decide +kernel
theorem dX7_dayToLookAt_56 : decode cX7_dayToLookAt 56 = .ok (.istore 4, 2) := by decide +kernel
theorem dX7_dayToLookAt_58 : decode cX7_dayToLookAt 58 = .ok (.iinc 5 1, 3) := by decide +kernel
theorem dX7_dayToLookAt_61 : decode cX7_dayToLookAt 61 = .ok (.goto (-47), 3) := by decide +kernel
theorem dX7_dayToLookAt_64 : decode cX7_dayToLookAt 64 = .ok (.iload 4, 2) := by decide +kernel
theorem dX7_dayToLookAt_66 : decode cX7_dayToLookAt 66 = .ok (.invokestatic 225, 3) := by decide +kernel
theorem dX7_dayToLookAt_69 : decode cX7_dayToLookAt 69 = .ok (.iconst 1, 1) := by decide +kernel
theorem dX7_dayToLookAt_70 : decode cX7_dayToLookAt 70 = .ok (.if_icmp .le 5, 3) := by decide +kernel
theorem dX7_dayToLookAt_73 : decode cX7_dayToLookAt 73 = .ok (.iload_n 3, 1) := by decide +kernel
theorem dX7_dayToLookAt_74 : decode cX7_dayToLookAt 74 = .ok (.ireturn, 1) := by decide +kernel
theorem dX7_dayToLookAt_75 : decode cX7_dayToLookAt 75 = .ok (.iinc 3 1, 3) := by decide +kernel
theorem dX7_dayToLookAt_78 : decode cX7_dayToLookAt 78 = .ok (.goto (-76), 3) := by decide +kernel
theorem dX7_dayToLookAt_81 : decode cX7_dayToLookAt 81 = .ok (.iconst (-1), 1) := by decide +kernel
theorem dX7_dayToLookAt_82 : decode cX7_dayToLookAt 82 = .ok (.ireturn, 1) := by decide +kernel
theorem dX7_outcomeOf_0 : decode cX7_outcomeOf 0 = .ok (.iload_n 0, 1) := by decide +kernel
theorem dX7_outcomeOf_1 : decode cX7_outcomeOf 1 = .ok (.invokestatic 225, 3) := by decide +kernel
theorem dX7_outcomeOf_4 : decode cX7_outcomeOf 4 = .ok (.istore_n 1, 1) := by decide +kernel
theorem dX7_outcomeOf_5 : decode cX7_outcomeOf 5 = .ok (.iload_n 1, 1) := by decide +kernel
theorem dX7_outcomeOf_6 : decode cX7_outcomeOf 6 = .ok (.ifCond .ne 5, 3) := by decide +kernel
theorem dX7_outcomeOf_9 : decode cX7_outcomeOf 9 = .ok (.iconst 0, 1) := by decide +kernel
theorem dX7_outcomeOf_10 : decode cX7_outcomeOf 10 = .ok (.ireturn, 1) := by decide +kernel
theorem dX7_outcomeOf_11 : decode cX7_outcomeOf 11 = .ok (.iload_n 1, 1) := by decide +kernel
theorem dX7_outcomeOf_12 : decode cX7_outcomeOf 12 = .ok (.iconst 1, 1) := by decide +kernel
theorem dX7_outcomeOf_13 : decode cX7_outcomeOf 13 = .ok (.if_icmp .ne 7, 3) := by decide +kernel
theorem dX7_outcomeOf_16 : decode cX7_outcomeOf 16 = .ok (.iconst 1, 1) := by decide +kernel
theorem dX7_outcomeOf_17 : decode cX7_outcomeOf 17 = .ok (.goto 4, 3) := by decide +kernel
theorem dX7_outcomeOf_20 : decode cX7_outcomeOf 20 = .ok (.iconst 2, 1) := by decide +kernel
theorem dX7_outcomeOf_21 : decode cX7_outcomeOf 21 = .ok (.ireturn, 1) := by decide +kernel
theorem dX7_firstOf_0 : decode cX7_firstOf 0 = .ok (.iconst 0, 1) := by decide +kernel
theorem dX7_firstOf_1 : decode cX7_firstOf 1 = .ok (.istore_n 1, 1) := by decide +kernel
theorem dX7_firstOf_2 : decode cX7_firstOf 2 = .ok (.iload_n 1, 1) := by decide +kernel
theorem dX7_firstOf_3 : decode cX7_firstOf 3 = .ok (.bipush 8, 2) := by decide +kernel
theorem dX7_firstOf_5 : decode cX7_firstOf 5 = .ok (.if_icmp .ge 19, 3) := by decide +kernel
theorem dX7_firstOf_8 : decode cX7_firstOf 8 = .ok (.iload_n 0, 1) := by decide +kernel
theorem dX7_firstOf_9 : decode cX7_firstOf 9 = .ok (.iload_n 1, 1) := by decide +kernel
theorem dX7_firstOf_10 : decode cX7_firstOf 10 = .ok (.ishr, 1) := by decide +kernel
theorem dX7_firstOf_11 : decode cX7_firstOf 11 = .ok (.iconst 1, 1) := by decide +kernel
theorem dX7_firstOf_12 : decode cX7_firstOf 12 = .ok (.iand, 1) := by decide +kernel
theorem dX7_firstOf_13 : decode cX7_firstOf 13 = .ok (.ifCond .eq 5, 3) := by decide +kernel
theorem dX7_firstOf_16 : decode cX7_firstOf 16 = .ok (.iload_n 1, 1) := by decide +kernel
theorem dX7_firstOf_17 : decode cX7_firstOf 17 = .ok (.ireturn, 1) := by decide +kernel
theorem dX7_firstOf_18 : decode cX7_firstOf 18 = .ok (.iinc 1 1, 3) := by decide +kernel
theorem dX7_firstOf_21 : decode cX7_firstOf 21 = .ok (.goto (-19), 3) := by decide +kernel
theorem dX7_firstOf_24 : decode cX7_firstOf 24 = .ok (.iconst (-1), 1) := by decide +kernel
theorem dX7_firstOf_25 : decode cX7_firstOf 25 = .ok (.ireturn, 1) := by decide +kernel
theorem dX8_init_0 : decode cX8_init 0 = .ok (.aload_n 0, 1) := by decide +kernel
theorem dX8_init_1 : decode cX8_init 1 = .ok (.invokespecial 1, 3) := by decide +kernel
theorem dX8_init_4 : decode cX8_init 4 = .ok (.aload_n 0, 1) := by decide +kernel
theorem dX8_init_5 : decode cX8_init 5 = .ok (.bipush 8, 2) := by decide +kernel
theorem dX8_init_7 : decode cX8_init 7 = .ok (.newarray .int, 2) := by decide +kernel
theorem dX8_init_9 : decode cX8_init 9 = .ok (.putfield 7, 3) := by decide +kernel
theorem dX8_init_12 : decode cX8_init 12 = .ok (.aload_n 0, 1) := by decide +kernel
theorem dX8_init_13 : decode cX8_init 13 = .ok (.bipush 8, 2) := by decide +kernel
theorem dX8_init_15 : decode cX8_init 15 = .ok (.newarray .int, 2) := by decide +kernel
theorem dX8_init_17 : decode cX8_init 17 = .ok (.putfield 13, 3) := by decide +kernel
theorem dX8_init_20 : decode cX8_init 20 = .ok (.aload_n 0, 1) := by decide +kernel
theorem dX8_init_21 : decode cX8_init 21 = .ok (.bipush 8, 2) := by decide +kernel
theorem dX8_init_23 : decode cX8_init 23 = .ok (.newarray .int, 2) := by decide +kernel
theorem dX8_init_25 : decode cX8_init 25 = .ok (.putfield 16, 3) := by decide +kernel
theorem dX8_init_28 : decode cX8_init 28 = .ok (.aload_n 0, 1) := by decide +kernel
theorem dX8_init_29 : decode cX8_init 29 = .ok (.bipush 8, 2) := by decide +kernel
theorem dX8_init_31 : decode cX8_init 31 = .ok (.newarray .int, 2) := by decide +kernel
theorem dX8_init_33 : decode cX8_init 33 = .ok (.putfield 19, 3) := by decide +kernel
theorem dX8_init_36 : decode cX8_init 36 = .ok (.aload_n 0, 1) := by decide +kernel
theorem dX8_init_37 : decode cX8_init 37 = .ok (.bipush 8, 2) := by decide +kernel
theorem dX8_init_39 : decode cX8_init 39 = .ok (.newarray .int, 2) := by decide +kernel
theorem dX8_init_41 : decode cX8_init 41 = .ok (.putfield 22, 3) := by decide +kernel
theorem dX8_init_44 : decode cX8_init 44 = .ok (.aload_n 0, 1) := by decide +kernel
theorem dX8_init_45 : decode cX8_init 45 = .ok (.bipush 103, 2) := by decide +kernel
theorem dX8_init_47 : decode cX8_init 47 = .ok (.newarray .int, 2) := by decide +kernel
theorem dX8_init_49 : decode cX8_init 49 = .ok (.putfield 25, 3) := by decide +kernel
theorem dX8_init_52 : decode cX8_init 52 = .ok (.aload_n 0, 1) := by decide +kernel
theorem dX8_init_53 : decode cX8_init 53 = .ok (.sipush 240, 3) := by decide +kernel
theorem dX8_init_56 : decode cX8_init 56 = .ok (.newarray .int, 2) := by decide +kernel
theorem dX8_init_58 : decode cX8_init 58 = .ok (.putfield 28, 3) := by decide +kernel
theorem dX8_init_61 : decode cX8_init 61 = .ok (.aload_n 0, 1) := by decide +kernel
theorem dX8_init_62 : decode cX8_init 62 = .ok (.iconst (-1), 1) := by decide +kernel
theorem dX8_init_63 : decode cX8_init 63 = .ok (.putfield 31, 3) := by decide +kernel
theorem dX8_init_66 : decode cX8_init 66 = .ok (.aload_n 0, 1) := by decide +kernel
theorem dX8_init_67 : decode cX8_init 67 = .ok (.iconst 3, 1) := by decide +kernel
theorem dX8_init_68 : decode cX8_init 68 = .ok (.newarray .int, 2) := by decide +kernel
theorem dX8_init_70 : decode cX8_init 70 = .ok (.putfield 35, 3) := by decide +kernel
theorem dX8_init_73 : decode cX8_init 73 = .ok (.aload_n 0, 1) := by decide +kernel
theorem dX8_init_74 : decode cX8_init 74 = .ok (.bipush 8, 2) := by decide +kernel
theorem dX8_init_76 : decode cX8_init 76 = .ok (.newarray .int, 2) := by decide +kernel
theorem dX8_init_78 : decode cX8_init 78 = .ok (.putfield 38, 3) := by decide +kernel
theorem dX8_init_81 : decode cX8_init 81 = .ok (.aload_n 0, 1) := by decide +kernel
theorem dX8_init_82 : decode cX8_init 82 = .ok (.bipush 8, 2) := by decide +kernel
theorem dX8_init_84 : decode cX8_init 84 = .ok (.newarray .int, 2) := by decide +kernel
theorem dX8_init_86 : decode cX8_init 86 = .ok (.putfield 41, 3) := by decide +kernel
theorem dX8_init_89 : decode cX8_init 89 = .ok (.aload_n 0, 1) := by decide +kernel
theorem dX8_init_90 : decode cX8_init 90 = .ok (.bipush 8, 2) := by decide +kernel
theorem dX8_init_92 : decode cX8_init 92 = .ok (.newarray .int, 2) := by decide +kernel
theorem dX8_init_94 : decode cX8_init 94 = .ok (.putfield 44, 3) := by decide +kernel
theorem dX8_init_97 : decode cX8_init 97 = .ok (.aload_n 0, 1) := by decide +kernel
theorem dX8_init_98 : decode cX8_init 98 = .ok (.bipush 8, 2) := by decide +kernel
theorem dX8_init_100 : decode cX8_init 100 = .ok (.newarray .int, 2) := by decide +kernel
theorem dX8_init_102 : decode cX8_init 102 = .ok (.putfield 47, 3) := by decide +kernel
theorem dX8_init_105 : decode cX8_init 105 = .ok (.aload_n 0, 1) := by decide +kernel
theorem dX8_init_106 : decode cX8_init 106 = .ok (.bipush 8, 2) := by decide +kernel
theorem dX8_init_108 : decode cX8_init 108 = .ok (.newarray .int, 2) := by decide +kernel
theorem dX8_init_110 : decode cX8_init 110 = .ok (.putfield 50, 3) := by decide +kernel
theorem dX8_init_113 : decode cX8_init 113 = .ok (.aload_n 0, 1) := by decide +kernel
theorem dX8_init_114 : decode cX8_init 114 = .ok (.bipush 8, 2) := by decide +kernel
theorem dX8_init_116 : decode cX8_init 116 = .ok (.newarray .int, 2) := by decide +kernel
theorem dX8_init_118 : decode cX8_init 118 = .ok (.putfield 53, 3) := by decide +kernel
theorem dX8_init_121 : decode cX8_init 121 = .ok (.aload_n 0, 1) := by decide +kernel
theorem dX8_init_122 : decode cX8_init 122 = .ok (.sipush 2060, 3) := by decide +kernel
theorem dX8_init_125 : decode cX8_init 125 = .ok (.newarray .int, 2) := by decide +kernel
theorem dX8_init_127 : decode cX8_init 127 = .ok (.putfield 56, 3) := by decide +kernel
theorem dX8_init_130 : decode cX8_init 130 = .ok (.aload_n 0, 1) := by decide +kernel
theorem dX8_init_131 : decode cX8_init 131 = .ok (.bipush 103, 2) := by decide +kernel
theorem dX8_init_133 : decode cX8_init 133 = .ok (.newarray .int, 2) := by decide +kernel
theorem dX8_init_135 : decode cX8_init 135 = .ok (.putfield 59, 3) := by decide +kernel
theorem dX8_init_138 : decode cX8_init 138 = .ok (.aload_n 0, 1) := by decide +kernel
theorem dX8_init_139 : decode cX8_init 139 = .ok (.bipush 8, 2) := by decide +kernel
theorem dX8_init_141 : decode cX8_init 141 = .ok (.newarray .int, 2) := by decide +kernel
theorem dX8_init_143 : decode cX8_init 143 = .ok (.putfield 62, 3) := by decide +kernel
theorem dX8_init_146 : decode cX8_init 146 = .ok (.aload_n 0, 1) := by decide +kernel
theorem dX8_init_147 : decode cX8_init 147 = .ok (.ldc 65, 2) := by decide +kernel
theorem dX8_init_149 : decode cX8_init 149 = .ok (.newarray .int, 2) := by decide +kernel
theorem dX8_init_151 : decode cX8_init 151 = .ok (.putfield 66, 3) := by decide +kernel
theorem dX8_init_154 : decode cX8_init 154 = .ok (.aload_n 0, 1) := by decide +kernel
theorem dX8_init_155 : decode cX8_init 155 = .ok (.bipush 10, 2) := by decide +kernel
theorem dX8_init_157 : decode cX8_init 157 = .ok (.newarray .int, 2) := by decide +kernel
theorem dX8_init_159 : decode cX8_init 159 = .ok (.putfield 69, 3) := by decide +kernel
theorem dX8_init_162 : decode cX8_init 162 = .ok (.aload_n 0, 1) := by decide +kernel
theorem dX8_init_163 : decode cX8_init 163 = .ok (.bipush 10, 2) := by decide +kernel
theorem dX8_init_165 : decode cX8_init 165 = .ok (.newarray .int, 2) := by decide +kernel
theorem dX8_init_167 : decode cX8_init 167 = .ok (.putfield 72, 3) := by decide +kernel
theorem dX8_init_170 : decode cX8_init 170 = .ok (.aload_n 0, 1) := by decide +kernel
theorem dX8_init_171 : decode cX8_init 171 = .ok (.bipush 10, 2) := by decide +kernel
theorem dX8_init_173 : decode cX8_init 173 = .ok (.newarray .int, 2) := by decide +kernel
theorem dX8_init_175 : decode cX8_init 175 = .ok (.putfield 75, 3) := by decide +kernel
theorem dX8_init_178 : decode cX8_init 178 = .ok (.aload_n 0, 1) := by decide +kernel
theorem dX8_init_179 : decode cX8_init 179 = .ok (.bipush 10, 2) := by decide +kernel
theorem dX8_init_181 : decode cX8_init 181 = .ok (.newarray .int, 2) := by decide +kernel
theorem dX8_init_183 : decode cX8_init 183 = .ok (.putfield 78, 3) := by decide +kernel
theorem dX8_init_186 : decode cX8_init 186 = .ok (.aload_n 0, 1) := by decide +kernel
theorem dX8_init_187 : decode cX8_init 187 = .ok (.bipush 15, 2) := by decide +kernel
theorem dX8_init_189 : decode cX8_init 189 = .ok (.newarray .int, 2) := by decide +kernel
theorem dX8_init_191 : decode cX8_init 191 = .ok (.putfield 81, 3) := by decide +kernel
theorem dX8_init_194 : decode cX8_init 194 = .ok (.aload_n 0, 1) := by decide +kernel
theorem dX8_init_195 : decode cX8_init 195 = .ok (.bipush 15, 2) := by decide +kernel
theorem dX8_init_197 : decode cX8_init 197 = .ok (.newarray .int, 2) := by decide +kernel
theorem dX8_init_199 : decode cX8_init 199 = .ok (.putfield 84, 3) := by decide +kernel
theorem dX8_init_202 : decode cX8_init 202 = .ok (.aload_n 0, 1) := by decide +kernel
theorem dX8_init_203 : decode cX8_init 203 = .ok (.sipush 208, 3) := by decide +kernel
theorem dX8_init_206 : decode cX8_init 206 = .ok (.newarray .int, 2) := by decide +kernel
theorem dX8_init_208 : decode cX8_init 208 = .ok (.putfield 87, 3) := by decide +kernel
theorem dX8_init_211 : decode cX8_init 211 = .ok (.aload_n 0, 1) := by decide +kernel
theorem dX8_init_212 : decode cX8_init 212 = .ok (.iconst 2, 1) := by decide +kernel
theorem dX8_init_213 : decode cX8_init 213 = .ok (.newarray .boolean, 2) := by decide +kernel
theorem dX8_init_215 : decode cX8_init 215 = .ok (.putfield 90, 3) := by decide +kernel
theorem dX8_init_218 : decode cX8_init 218 = .ok (.iconst 0, 1) := by decide +kernel
theorem dX8_init_219 : decode cX8_init 219 = .ok (.istore_n 1, 1) := by decide +kernel
theorem dX8_init_220 : decode cX8_init 220 = .ok (.iload_n 1, 1) := by decide +kernel
theorem dX8_init_221 : decode cX8_init 221 = .ok (.bipush 60, 2) := by decide +kernel
theorem dX8_init_223 : decode cX8_init 223 = .ok (.if_icmp .ge 19, 3) := by decide +kernel
theorem dX8_init_226 : decode cX8_init 226 = .ok (.aload_n 0, 1) := by decide +kernel
theorem dX8_init_227 : decode cX8_init 227 = .ok (.getfield 25, 3) := by decide +kernel
theorem dX8_init_230 : decode cX8_init 230 = .ok (.bipush 43, 2) := by decide +kernel
theorem dX8_init_232 : decode cX8_init 232 = .ok (.iload_n 1, 1) := by decide +kernel
theorem dX8_init_233 : decode cX8_init 233 = .ok (.iadd, 1) := by decide +kernel
theorem dX8_init_234 : decode cX8_init 234 = .ok (.iconst (-1), 1) := by decide +kernel
theorem dX8_init_235 : decode cX8_init 235 = .ok (.iastore, 1) := by decide +kernel
theorem dX8_init_236 : decode cX8_init 236 = .ok (.iinc 1 1, 3) := by decide +kernel
theorem dX8_init_239 : decode cX8_init 239 = .ok (.goto (-19), 3) := by decide +kernel
theorem dX8_init_242 : decode cX8_init 242 = .ok (.return_, 1) := by decide +kernel
theorem dX8_in_0 : decode cX8_in 0 = .ok (.lload_n 0, 1) := by decide +kernel
theorem dX8_in_1 : decode cX8_in 1 = .ok (.lload_n 2, 1) := by decide +kernel
theorem dX8_in_2 : decode cX8_in 2 = .ok (.lcmp, 1) := by decide +kernel
theorem dX8_in_3 : decode cX8_in 3 = .ok (.ifCond .lt 14, 3) := by decide +kernel
theorem dX8_in_6 : decode cX8_in 6 = .ok (.lload_n 0, 1) := by decide +kernel
theorem dX8_in_7 : decode cX8_in 7 = .ok (.lload 4, 2) := by decide +kernel
theorem dX8_in_9 : decode cX8_in 9 = .ok (.lcmp, 1) := by decide +kernel
theorem dX8_in_10 : decode cX8_in 10 = .ok (.ifCond .gt 7, 3) := by decide +kernel
theorem dX8_in_13 : decode cX8_in 13 = .ok (.iconst 1, 1) := by decide +kernel
theorem dX8_in_14 : decode cX8_in 14 = .ok (.goto 4, 3) := by decide +kernel
theorem dX8_in_17 : decode cX8_in 17 = .ok (.iconst 0, 1) := by decide +kernel
theorem dX8_in_18 : decode cX8_in 18 = .ok (.ireturn, 1) := by decide +kernel
theorem dX8_has_0 : decode cX8_has 0 = .ok (.iload_n 0, 1) := by decide +kernel
theorem dX8_has_1 : decode cX8_has 1 = .ok (.iload_n 1, 1) := by decide +kernel
theorem dX8_has_2 : decode cX8_has 2 = .ok (.ishr, 1) := by decide +kernel
theorem dX8_has_3 : decode cX8_has 3 = .ok (.iconst 1, 1) := by decide +kernel
theorem dX8_has_4 : decode cX8_has 4 = .ok (.iand, 1) := by decide +kernel
theorem dX8_has_5 : decode cX8_has 5 = .ok (.iconst 1, 1) := by decide +kernel
theorem dX8_has_6 : decode cX8_has 6 = .ok (.if_icmp .ne 7, 3) := by decide +kernel
theorem dX8_has_9 : decode cX8_has 9 = .ok (.iconst 1, 1) := by decide +kernel
theorem dX8_has_10 : decode cX8_has 10 = .ok (.goto 4, 3) := by decide +kernel
theorem dX8_has_13 : decode cX8_has 13 = .ok (.iconst 0, 1) := by decide +kernel
theorem dX8_has_14 : decode cX8_has 14 = .ok (.ireturn, 1) := by decide +kernel
theorem dX8_bits_0 : decode cX8_bits 0 = .ok (.iconst 0, 1) := by decide +kernel
theorem dX8_bits_1 : decode cX8_bits 1 = .ok (.istore_n 1, 1) := by decide +kernel
theorem dX8_bits_2 : decode cX8_bits 2 = .ok (.iconst 0, 1) := by decide +kernel
theorem dX8_bits_3 : decode cX8_bits 3 = .ok (.istore_n 2, 1) := by decide +kernel
theorem dX8_bits_4 : decode cX8_bits 4 = .ok (.iload_n 2, 1) := by decide +kernel
theorem dX8_bits_5 : decode cX8_bits 5 = .ok (.bipush 9, 2) := by decide +kernel
theorem dX8_bits_7 : decode cX8_bits 7 = .ok (.if_icmp .ge 17, 3) := by decide +kernel
theorem dX8_bits_10 : decode cX8_bits 10 = .ok (.iload_n 1, 1) := by decide +kernel
theorem dX8_bits_11 : decode cX8_bits 11 = .ok (.iload_n 0, 1) := by decide +kernel
theorem dX8_bits_12 : decode cX8_bits 12 = .ok (.iload_n 2, 1) := by decide +kernel
theorem dX8_bits_13 : decode cX8_bits 13 = .ok (.ishr, 1) := by decide +kernel
theorem dX8_bits_14 : decode cX8_bits 14 = .ok (.iconst 1, 1) := by decide +kernel
theorem dX8_bits_15 : decode cX8_bits 15 = .ok (.iand, 1) := by decide +kernel
theorem dX8_bits_16 : decode cX8_bits 16 = .ok (.iadd, 1) := by decide +kernel
theorem dX8_bits_17 : decode cX8_bits 17 = .ok (.istore_n 1, 1) := by decide +kernel
theorem dX8_bits_18 : decode cX8_bits 18 = .ok (.iinc 2 1, 3) := by decide +kernel
theorem dX8_bits_21 : decode cX8_bits 21 = .ok (.goto (-17), 3) := by decide +kernel
theorem dX8_bits_24 : decode cX8_bits 24 = .ok (.iload_n 1, 1) := by decide +kernel
theorem dX8_bits_25 : decode cX8_bits 25 = .ok (.ireturn, 1) := by decide +kernel
theorem dX8_isVillage_0 : decode cX8_isVillage 0 = .ok (.iload_n 1, 1) := by decide +kernel
theorem dX8_isVillage_1 : decode cX8_isVillage 1 = .ok (.i2l, 1) := by decide +kernel
theorem dX8_isVillage_2 : decode cX8_isVillage 2 = .ok (.lconst 0, 1) := by decide +kernel
theorem dX8_isVillage_3 : decode cX8_isVillage 3 = .ok (.aload_n 0, 1) := by decide +kernel
theorem dX8_isVillage_4 : decode cX8_isVillage 4 = .ok (.getfield 94, 3) := by decide +kernel
theorem dX8_isVillage_7 : decode cX8_isVillage 7 = .ok (.iconst 1, 1) := by decide +kernel
theorem dX8_isVillage_8 : decode cX8_isVillage 8 = .ok (.isub, 1) := by decide +kernel
theorem dX8_isVillage_9 : decode cX8_isVillage 9 = .ok (.i2l, 1) := by decide +kernel
theorem dX8_isVillage_10 : decode cX8_isVillage 10 = .ok (.invokestatic 97, 3) := by decide +kernel
theorem dX8_isVillage_13 : decode cX8_isVillage 13 = .ok (.ireturn, 1) := by decide +kernel
theorem dX8_feed_0 : decode cX8_feed 0 = .ok (.iload_n 1, 1) := by decide +kernel
theorem dX8_feed_1 : decode cX8_feed 1 = .ok (.i2l, 1) := by decide +kernel
theorem dX8_feed_2 : decode cX8_feed 2 = .ok (.lconst 0, 1) := by decide +kernel
theorem dX8_feed_3 : decode cX8_feed 3 = .ok (.ldc2_w 101, 3) := by decide +kernel
theorem dX8_feed_6 : decode cX8_feed 6 = .ok (.invokestatic 97, 3) := by decide +kernel
theorem dX8_feed_9 : decode cX8_feed 9 = .ok (.ifCond .ne 6, 3) := by decide +kernel
theorem dX8_feed_12 : decode cX8_feed 12 = .ok (.ldc 103, 2) := by decide +kernel
theorem dX8_feed_14 : decode cX8_feed 14 = .ok (.ireturn, 1) := by decide +kernel
theorem dX8_feed_15 : decode cX8_feed 15 = .ok (.aload_n 0, 1) := by decide +kernel
theorem dX8_feed_16 : decode cX8_feed 16 = .ok (.getfield 104, 3) := by decide +kernel
theorem dX8_feed_19 : decode cX8_feed 19 = .ok (.sipush 240, 3) := by decide +kernel
theorem dX8_feed_22 : decode cX8_feed 22 = .ok (.if_icmp .ne 6, 3) := by decide +kernel
theorem dX8_feed_25 : decode cX8_feed 25 = .ok (.ldc 107, 2) := by decide +kernel
theorem dX8_feed_27 : decode cX8_feed 27 = .ok (.ireturn, 1) := by decide +kernel
theorem dX8_feed_28 : decode cX8_feed 28 = .ok (.aload_n 0, 1) := by decide +kernel
theorem dX8_feed_29 : decode cX8_feed 29 = .ok (.getfield 28, 3) := by decide +kernel
theorem dX8_feed_32 : decode cX8_feed 32 = .ok (.aload_n 0, 1) := by decide +kernel
theorem dX8_feed_33 : decode cX8_feed 33 = .ok (.getfield 104, 3) := by decide +kernel
theorem dX8_feed_36 : decode cX8_feed 36 = .ok (.iload_n 1, 1) := by decide +kernel
theorem dX8_feed_37 : decode cX8_feed 37 = .ok (.iastore, 1) := by decide +kernel
theorem dX8_feed_38 : decode cX8_feed 38 = .ok (.aload_n 0, 1) := by decide +kernel
theorem dX8_feed_39 : decode cX8_feed 39 = .ok (.dup, 1) := by decide +kernel
theorem dX8_feed_40 : decode cX8_feed 40 = .ok (.getfield 104, 3) := by decide +kernel
theorem dX8_feed_43 : decode cX8_feed 43 = .ok (.iconst 1, 1) := by decide +kernel
theorem dX8_feed_44 : decode cX8_feed 44 = .ok (.iadd, 1) := by decide +kernel
theorem dX8_feed_45 : decode cX8_feed 45 = .ok (.putfield 104, 3) := by decide +kernel
theorem dX8_feed_48 : decode cX8_feed 48 = .ok (.aload_n 0, 1) := by decide +kernel
theorem dX8_feed_49 : decode cX8_feed 49 = .ok (.getfield 104, 3) := by decide +kernel
theorem dX8_feed_52 : decode cX8_feed 52 = .ok (.ireturn, 1) := by decide +kernel
theorem dX8_here_0 : decode cX8_here 0 = .ok (.aload_n 0, 1) := by decide +kernel
theorem dX8_here_1 : decode cX8_here 1 = .ok (.getfield 108, 3) := by decide +kernel
theorem dX8_here_4 : decode cX8_here 4 = .ok (.aload_n 0, 1) := by decide +kernel
theorem dX8_here_5 : decode cX8_here 5 = .ok (.getfield 104, 3) := by decide +kernel
theorem dX8_here_8 : decode cX8_here 8 = .ok (.if_icmp .ge 30, 3) := by decide +kernel
theorem dX8_here_11 : decode cX8_here 11 = .ok (.aload_n 0, 1) := by decide +kernel
theorem dX8_here_12 : decode cX8_here 12 = .ok (.getfield 28, 3) := by decide +kernel
theorem dX8_here_15 : decode cX8_here 15 = .ok (.aload_n 0, 1) := by decide +kernel
theorem dX8_here_16 : decode cX8_here 16 = .ok (.getfield 108, 3) := by decide +kernel
theorem dX8_here_19 : decode cX8_here 19 = .ok (.iaload, 1) := by decide +kernel
theorem dX8_here_20 : decode cX8_here 20 = .ok (.bipush 32, 2) := by decide +kernel
theorem dX8_here_22 : decode cX8_here 22 = .ok (.if_icmp .ne 16, 3) := by decide +kernel
theorem dX8_here_25 : decode cX8_here 25 = .ok (.aload_n 0, 1) := by decide +kernel
theorem dX8_here_26 : decode cX8_here 26 = .ok (.dup, 1) := by decide +kernel
theorem dX8_here_27 : decode cX8_here 27 = .ok (.getfield 108, 3) := by decide +kernel
theorem dX8_here_30 : decode cX8_here 30 = .ok (.iconst 1, 1) := by decide +kernel
theorem dX8_here_31 : decode cX8_here 31 = .ok (.iadd, 1) := by decide +kernel
theorem dX8_here_32 : decode cX8_here 32 = .ok (.putfield 108, 3) := by decide +kernel
theorem dX8_here_35 : decode cX8_here 35 = .ok (.goto (-35), 3) := by decide +kernel
theorem dX8_here_38 : decode cX8_here 38 = .ok (.aload_n 0, 1) := by decide +kernel
theorem dX8_here_39 : decode cX8_here 39 = .ok (.getfield 108, 3) := by decide +kernel
theorem dX8_here_42 : decode cX8_here 42 = .ok (.aload_n 0, 1) := by decide +kernel
theorem dX8_here_43 : decode cX8_here 43 = .ok (.getfield 104, 3) := by decide +kernel
theorem dX8_here_46 : decode cX8_here 46 = .ok (.if_icmp .ge 15, 3) := by decide +kernel
theorem dX8_here_49 : decode cX8_here 49 = .ok (.aload_n 0, 1) := by decide +kernel
theorem dX8_here_50 : decode cX8_here 50 = .ok (.getfield 28, 3) := by decide +kernel
theorem dX8_here_53 : decode cX8_here 53 = .ok (.aload_n 0, 1) := by decide +kernel
theorem dX8_here_54 : decode cX8_here 54 = .ok (.getfield 108, 3) := by decide +kernel
theorem dX8_here_57 : decode cX8_here 57 = .ok (.iaload, 1) := by decide +kernel
theorem dX8_here_58 : decode cX8_here 58 = .ok (.goto 4, 3) := by decide +kernel
theorem dX8_here_61 : decode cX8_here 61 = .ok (.iconst (-1), 1) := by decide +kernel
theorem dX8_here_62 : decode cX8_here 62 = .ok (.ireturn, 1) := by decide +kernel
theorem dX8_fails_0 : decode cX8_fails 0 = .ok (.aload_n 0, 1) := by decide +kernel
theorem dX8_fails_1 : decode cX8_fails 1 = .ok (.iload_n 2, 1) := by decide +kernel
theorem dX8_fails_2 : decode cX8_fails 2 = .ok (.putfield 31, 3) := by decide +kernel
theorem dX8_fails_5 : decode cX8_fails 5 = .ok (.iload_n 1, 1) := by decide +kernel
theorem dX8_fails_6 : decode cX8_fails 6 = .ok (.ireturn, 1) := by decide +kernel
theorem dX8_takeNumber_0 : decode cX8_takeNumber 0 = .ok (.aload_n 0, 1) := by decide +kernel
theorem dX8_takeNumber_1 : decode cX8_takeNumber 1 = .ok (.invokevirtual 111, 3) := by decide +kernel
theorem dX8_takeNumber_4 : decode cX8_takeNumber 4 = .ok (.istore_n 3, 1) := by decide +kernel
theorem dX8_takeNumber_5 : decode cX8_takeNumber 5 = .ok (.iload_n 3, 1) := by decide +kernel
theorem dX8_takeNumber_6 : decode cX8_takeNumber 6 = .ok (.i2l, 1) := by decide +kernel
