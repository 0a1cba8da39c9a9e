theorem dX0_init_0 : decode cX0_init 0 = .ok (.aload_n 0, 1) := by decide +kernel
theorem dX0_init_1 : decode cX0_init 1 = .ok (.invokespecial 3, 3) := by decide +kernel
theorem dX0_init_4 : decode cX0_init 4 = .ok (.aload_n 0, 1) := by decide +kernel
theorem dX0_init_5 : decode cX0_init 5 = .ok (.bipush 8, 2) := by decide +kernel
theorem dX0_init_7 : decode cX0_init 7 = .ok (.newarray .int, 2) := by decide +kernel
theorem dX0_init_9 : decode cX0_init 9 = .ok (.putfield 9, 3) := by decide +kernel
theorem dX0_init_12 : decode cX0_init 12 = .ok (.return_, 1) := by decide +kernel
theorem dX0_find_0 : decode cX0_find 0 = .ok (.aload_n 1, 1) := by decide +kernel
theorem dX0_find_1 : decode cX0_find 1 = .ok (.iload_n 2, 1) := by decide +kernel
theorem dX0_find_2 : decode cX0_find 2 = .ok (.invokestatic 15, 3) := by decide +kernel
theorem dX0_find_5 : decode cX0_find 5 = .ok (.ifCond .eq 28, 3) := by decide +kernel
theorem dX0_find_8 : decode cX0_find 8 = .ok (.aload_n 1, 1) := by decide +kernel
theorem dX0_find_9 : decode cX0_find 9 = .ok (.iload_n 2, 1) := by decide +kernel
theorem dX0_find_10 : decode cX0_find 10 = .ok (.invokestatic 19, 3) := by decide +kernel
theorem dX0_find_13 : decode cX0_find 13 = .ok (.ifCond .eq 20, 3) := by decide +kernel
theorem dX0_find_16 : decode cX0_find 16 = .ok (.aload_n 1, 1) := by decide +kernel
theorem dX0_find_17 : decode cX0_find 17 = .ok (.iload_n 2, 1) := by decide +kernel
theorem dX0_find_18 : decode cX0_find 18 = .ok (.iconst 0, 1) := by decide +kernel
theorem dX0_find_19 : decode cX0_find 19 = .ok (.aload_n 0, 1) := by decide +kernel
theorem dX0_find_20 : decode cX0_find 20 = .ok (.getfield 9, 3) := by decide +kernel
theorem dX0_find_23 : decode cX0_find 23 = .ok (.invokestatic 22, 3) := by decide +kernel
theorem dX0_find_26 : decode cX0_find 26 = .ok (.ifCond .eq 7, 3) := by decide +kernel
theorem dX0_find_29 : decode cX0_find 29 = .ok (.iconst 1, 1) := by decide +kernel
theorem dX0_find_30 : decode cX0_find 30 = .ok (.goto 4, 3) := by decide +kernel
theorem dX0_find_33 : decode cX0_find 33 = .ok (.iconst 0, 1) := by decide +kernel
theorem dX0_find_34 : decode cX0_find 34 = .ok (.ireturn, 1) := by decide +kernel
theorem dX0_comesOften_0 : decode cX0_comesOften 0 = .ok (.iconst 0, 1) := by decide +kernel
theorem dX0_comesOften_1 : decode cX0_comesOften 1 = .ok (.istore_n 2, 1) := by decide +kernel
theorem dX0_comesOften_2 : decode cX0_comesOften 2 = .ok (.iconst 0, 1) := by decide +kernel
theorem dX0_comesOften_3 : decode cX0_comesOften 3 = .ok (.istore_n 3, 1) := by decide +kernel
theorem dX0_comesOften_4 : decode cX0_comesOften 4 = .ok (.iload_n 3, 1) := by decide +kernel
theorem dX0_comesOften_5 : decode cX0_comesOften 5 = .ok (.aload_n 0, 1) := by decide +kernel
theorem dX0_comesOften_6 : decode cX0_comesOften 6 = .ok (.getfield 26, 3) := by decide +kernel
theorem dX0_comesOften_9 : decode cX0_comesOften 9 = .ok (.if_icmp .ge 35, 3) := by decide +kernel
theorem dX0_comesOften_12 : decode cX0_comesOften 12 = .ok (.iload_n 3, 1) := by decide +kernel
theorem dX0_comesOften_13 : decode cX0_comesOften 13 = .ok (.bipush 8, 2) := by decide +kernel
theorem dX0_comesOften_15 : decode cX0_comesOften 15 = .ok (.if_icmp .ge 29, 3) := by decide +kernel
theorem dX0_comesOften_18 : decode cX0_comesOften 18 = .ok (.iload_n 1, 1) := by decide +kernel
theorem dX0_comesOften_19 : decode cX0_comesOften 19 = .ok (.iload_n 3, 1) := by decide +kernel
theorem dX0_comesOften_20 : decode cX0_comesOften 20 = .ok (.ishr, 1) := by decide +kernel
theorem dX0_comesOften_21 : decode cX0_comesOften 21 = .ok (.iconst 1, 1) := by decide +kernel
theorem dX0_comesOften_22 : decode cX0_comesOften 22 = .ok (.iand, 1) := by decide +kernel
theorem dX0_comesOften_23 : decode cX0_comesOften 23 = .ok (.ifCond .eq 15, 3) := by decide +kernel
theorem dX0_comesOften_26 : decode cX0_comesOften 26 = .ok (.iload_n 2, 1) := by decide +kernel
theorem dX0_comesOften_27 : decode cX0_comesOften 27 = .ok (.sipush 2520, 3) := by decide +kernel
theorem dX0_comesOften_30 : decode cX0_comesOften 30 = .ok (.aload_n 0, 1) := by decide +kernel
theorem dX0_comesOften_31 : decode cX0_comesOften 31 = .ok (.iload_n 3, 1) := by decide +kernel
theorem dX0_comesOften_32 : decode cX0_comesOften 32 = .ok (.invokevirtual 32, 3) := by decide +kernel
theorem dX0_comesOften_35 : decode cX0_comesOften 35 = .ok (.idiv, 1) := by decide +kernel
theorem dX0_comesOften_36 : decode cX0_comesOften 36 = .ok (.iadd, 1) := by decide +kernel
theorem dX0_comesOften_37 : decode cX0_comesOften 37 = .ok (.istore_n 2, 1) := by decide +kernel
theorem dX0_comesOften_38 : decode cX0_comesOften 38 = .ok (.iinc 3 1, 3) := by decide +kernel
theorem dX0_comesOften_41 : decode cX0_comesOften 41 = .ok (.goto (-37), 3) := by decide +kernel
theorem dX0_comesOften_44 : decode cX0_comesOften 44 = .ok (.iload_n 2, 1) := by decide +kernel
theorem dX0_comesOften_45 : decode cX0_comesOften 45 = .ok (.sipush 2520, 3) := by decide +kernel
theorem dX0_comesOften_48 : decode cX0_comesOften 48 = .ok (.if_icmp .ne 7, 3) := by decide +kernel
theorem dX0_comesOften_51 : decode cX0_comesOften 51 = .ok (.iconst 1, 1) := by decide +kernel
theorem dX0_comesOften_52 : decode cX0_comesOften 52 = .ok (.goto 4, 3) := by decide +kernel
theorem dX0_comesOften_55 : decode cX0_comesOften 55 = .ok (.iconst 0, 1) := by decide +kernel
theorem dX0_comesOften_56 : decode cX0_comesOften 56 = .ok (.ireturn, 1) := by decide +kernel
theorem dX0_canPassEachOther_0 : decode cX0_canPassEachOther 0 = .ok (.iconst 0, 1) := by decide +kernel
theorem dX0_canPassEachOther_1 : decode cX0_canPassEachOther 1 = .ok (.istore_n 2, 1) := by decide +kernel
theorem dX0_canPassEachOther_2 : decode cX0_canPassEachOther 2 = .ok (.iload_n 2, 1) := by decide +kernel
theorem dX0_canPassEachOther_3 : decode cX0_canPassEachOther 3 = .ok (.aload_n 0, 1) := by decide +kernel
theorem dX0_canPassEachOther_4 : decode cX0_canPassEachOther 4 = .ok (.getfield 26, 3) := by decide +kernel
theorem dX0_canPassEachOther_7 : decode cX0_canPassEachOther 7 = .ok (.if_icmp .ge 75, 3) := by decide +kernel
theorem dX0_canPassEachOther_10 : decode cX0_canPassEachOther 10 = .ok (.iload_n 2, 1) := by decide +kernel
theorem dX0_canPassEachOther_11 : decode cX0_canPassEachOther 11 = .ok (.bipush 8, 2) := by decide +kernel
theorem dX0_canPassEachOther_13 : decode cX0_canPassEachOther 13 = .ok (.if_icmp .ge 69, 3) := by decide +kernel
theorem dX0_canPassEachOther_16 : decode cX0_canPassEachOther 16 = .ok (.iconst 0, 1) := by decide +kernel
theorem dX0_canPassEachOther_17 : decode cX0_canPassEachOther 17 = .ok (.istore_n 3, 1) := by decide +kernel
theorem dX0_canPassEachOther_18 : decode cX0_canPassEachOther 18 = .ok (.iload_n 3, 1) := by decide +kernel
theorem dX0_canPassEachOther_19 : decode cX0_canPassEachOther 19 = .ok (.iload_n 2, 1) := by decide +kernel
theorem dX0_canPassEachOther_20 : decode cX0_canPassEachOther 20 = .ok (.if_icmp .ge 56, 3) := by decide +kernel
theorem dX0_canPassEachOther_23 : decode cX0_canPassEachOther 23 = .ok (.iload_n 1, 1) := by decide +kernel
theorem dX0_canPassEachOther_24 : decode cX0_canPassEachOther 24 = .ok (.iload_n 3, 1) := by decide +kernel
theorem dX0_canPassEachOther_25 : decode cX0_canPassEachOther 25 = .ok (.ishr, 1) := by decide +kernel
theorem dX0_canPassEachOther_26 : decode cX0_canPassEachOther 26 = .ok (.iconst 1, 1) := by decide +kernel
theorem dX0_canPassEachOther_27 : decode cX0_canPassEachOther 27 = .ok (.iand, 1) := by decide +kernel
theorem dX0_canPassEachOther_28 : decode cX0_canPassEachOther 28 = .ok (.ifCond .eq 15, 3) := by decide +kernel
theorem dX0_canPassEachOther_31 : decode cX0_canPassEachOther 31 = .ok (.iload_n 1, 1) := by decide +kernel
theorem dX0_canPassEachOther_32 : decode cX0_canPassEachOther 32 = .ok (.iload_n 2, 1) := by decide +kernel
theorem dX0_canPassEachOther_33 : decode cX0_canPassEachOther 33 = .ok (.ishr, 1) := by decide +kernel
theorem dX0_canPassEachOther_34 : decode cX0_canPassEachOther 34 = .ok (.iconst 1, 1) := by decide +kernel
theorem dX0_canPassEachOther_35 : decode cX0_canPassEachOther 35 = .ok (.iand, 1) := by decide +kernel
theorem dX0_canPassEachOther_36 : decode cX0_canPassEachOther 36 = .ok (.ifCond .eq 7, 3) := by decide +kernel
theorem dX0_canPassEachOther_39 : decode cX0_canPassEachOther 39 = .ok (.iconst 1, 1) := by decide +kernel
theorem dX0_canPassEachOther_40 : decode cX0_canPassEachOther 40 = .ok (.goto 4, 3) := by decide +kernel
theorem dX0_canPassEachOther_43 : decode cX0_canPassEachOther 43 = .ok (.iconst 0, 1) := by decide +kernel
theorem dX0_canPassEachOther_44 : decode cX0_canPassEachOther 44 = .ok (.istore 4, 2) := by decide +kernel
theorem dX0_canPassEachOther_46 : decode cX0_canPassEachOther 46 = .ok (.iload 4, 2) := by decide +kernel
theorem dX0_canPassEachOther_48 : decode cX0_canPassEachOther 48 = .ok (.ifCond .eq 22, 3) := by decide +kernel
theorem dX0_canPassEachOther_51 : decode cX0_canPassEachOther 51 = .ok (.aload_n 0, 1) := by decide +kernel
theorem dX0_canPassEachOther_52 : decode cX0_canPassEachOther 52 = .ok (.iload_n 3, 1) := by decide +kernel
theorem dX0_canPassEachOther_53 : decode cX0_canPassEachOther 53 = .ok (.invokevirtual 32, 3) := by decide +kernel
theorem dX0_canPassEachOther_56 : decode cX0_canPassEachOther 56 = .ok (.aload_n 0, 1) := by decide +kernel
theorem dX0_canPassEachOther_57 : decode cX0_canPassEachOther 57 = .ok (.iload_n 2, 1) := by decide +kernel
theorem dX0_canPassEachOther_58 : decode cX0_canPassEachOther 58 = .ok (.invokevirtual 32, 3) := by decide +kernel
theorem dX0_canPassEachOther_61 : decode cX0_canPassEachOther 61 = .ok (.invokestatic 36, 3) := by decide +kernel
theorem dX0_canPassEachOther_64 : decode cX0_canPassEachOther 64 = .ok (.iconst 1, 1) := by decide +kernel
theorem dX0_canPassEachOther_65 : decode cX0_canPassEachOther 65 = .ok (.if_icmp .ne 5, 3) := by decide +kernel
theorem dX0_canPassEachOther_68 : decode cX0_canPassEachOther 68 = .ok (.iconst 0, 1) := by decide +kernel
theorem dX0_canPassEachOther_69 : decode cX0_canPassEachOther 69 = .ok (.ireturn, 1) := by decide +kernel
theorem dX0_canPassEachOther_70 : decode cX0_canPassEachOther 70 = .ok (.iinc 3 1, 3) := by decide +kernel
theorem dX0_canPassEachOther_73 : decode cX0_canPassEachOther 73 = .ok (.goto (-55), 3) := by decide +kernel
theorem dX0_canPassEachOther_76 : decode cX0_canPassEachOther 76 = .ok (.iinc 2 1, 3) := by decide +kernel
theorem dX0_canPassEachOther_79 : decode cX0_canPassEachOther 79 = .ok (.goto (-77), 3) := by decide +kernel
theorem dX0_canPassEachOther_82 : decode cX0_canPassEachOther 82 = .ok (.iconst 1, 1) := by decide +kernel
theorem dX0_canPassEachOther_83 : decode cX0_canPassEachOther 83 = .ok (.ireturn, 1) := by decide +kernel
theorem dX0_place_0 : decode cX0_place 0 = .ok (.iload_n 2, 1) := by decide +kernel
theorem dX0_place_1 : decode cX0_place 1 = .ok (.ifCond .lt 17, 3) := by decide +kernel
theorem dX0_place_4 : decode cX0_place 4 = .ok (.iload_n 2, 1) := by decide +kernel
theorem dX0_place_5 : decode cX0_place 5 = .ok (.aload_n 0, 1) := by decide +kernel
theorem dX0_place_6 : decode cX0_place 6 = .ok (.getfield 26, 3) := by decide +kernel
theorem dX0_place_9 : decode cX0_place 9 = .ok (.if_icmp .ge 9, 3) := by decide +kernel
theorem dX0_place_12 : decode cX0_place 12 = .ok (.iload_n 2, 1) := by decide +kernel
theorem dX0_place_13 : decode cX0_place 13 = .ok (.aload_n 3, 1) := by decide +kernel
theorem dX0_place_14 : decode cX0_place 14 = .ok (.arraylength, 1) := by decide +kernel
theorem dX0_place_15 : decode cX0_place 15 = .ok (.if_icmp .lt 5, 3) := by decide +kernel
theorem dX0_place_18 : decode cX0_place 18 = .ok (.iconst 1, 1) := by decide +kernel
theorem dX0_place_19 : decode cX0_place 19 = .ok (.ireturn, 1) := by decide +kernel
theorem dX0_place_20 : decode cX0_place 20 = .ok (.iload_n 1, 1) := by decide +kernel
theorem dX0_place_21 : decode cX0_place 21 = .ok (.iload_n 2, 1) := by decide +kernel
theorem dX0_place_22 : decode cX0_place 22 = .ok (.ishr, 1) := by decide +kernel
theorem dX0_place_23 : decode cX0_place 23 = .ok (.iconst 1, 1) := by decide +kernel
theorem dX0_place_24 : decode cX0_place 24 = .ok (.iand, 1) := by decide +kernel
theorem dX0_place_25 : decode cX0_place 25 = .ok (.ifCond .ne 13, 3) := by decide +kernel
theorem dX0_place_28 : decode cX0_place 28 = .ok (.aload_n 0, 1) := by decide +kernel
theorem dX0_place_29 : decode cX0_place 29 = .ok (.iload_n 1, 1) := by decide +kernel
theorem dX0_place_30 : decode cX0_place 30 = .ok (.iload_n 2, 1) := by decide +kernel
theorem dX0_place_31 : decode cX0_place 31 = .ok (.iconst 1, 1) := by decide +kernel
theorem dX0_place_32 : decode cX0_place 32 = .ok (.iadd, 1) := by decide +kernel
theorem dX0_place_33 : decode cX0_place 33 = .ok (.aload_n 3, 1) := by decide +kernel
theorem dX0_place_34 : decode cX0_place 34 = .ok (.invokestatic 22, 3) := by decide +kernel
theorem dX0_place_37 : decode cX0_place 37 = .ok (.ireturn, 1) := by decide +kernel
theorem dX0_place_38 : decode cX0_place 38 = .ok (.iconst 0, 1) := by decide +kernel
theorem dX0_place_39 : decode cX0_place 39 = .ok (.istore 4, 2) := by decide +kernel
theorem dX0_place_41 : decode cX0_place 41 = .ok (.iload 4, 2) := by decide +kernel
theorem dX0_place_43 : decode cX0_place 43 = .ok (.aload_n 0, 1) := by decide +kernel
theorem dX0_place_44 : decode cX0_place 44 = .ok (.iload_n 2, 1) := by decide +kernel
theorem dX0_place_45 : decode cX0_place 45 = .ok (.invokevirtual 32, 3) := by decide +kernel
theorem dX0_place_48 : decode cX0_place 48 = .ok (.if_icmp .ge 43, 3) := by decide +kernel
theorem dX0_place_51 : decode cX0_place 51 = .ok (.aload_n 0, 1) := by decide +kernel
theorem dX0_place_52 : decode cX0_place 52 = .ok (.iload_n 1, 1) := by decide +kernel
theorem dX0_place_53 : decode cX0_place 53 = .ok (.iload_n 2, 1) := by decide +kernel
theorem dX0_place_54 : decode cX0_place 54 = .ok (.iload 4, 2) := by decide +kernel
theorem dX0_place_56 : decode cX0_place 56 = .ok (.aload_n 3, 1) := by decide +kernel
theorem dX0_place_57 : decode cX0_place 57 = .ok (.invokestatic 40, 3) := by decide +kernel
theorem dX0_place_60 : decode cX0_place 60 = .ok (.ifCond .eq 6, 3) := by decide +kernel
theorem dX0_place_63 : decode cX0_place 63 = .ok (.goto 22, 3) := by decide +kernel
theorem dX0_place_66 : decode cX0_place 66 = .ok (.aload_n 3, 1) := by decide +kernel
theorem dX0_place_67 : decode cX0_place 67 = .ok (.iload_n 2, 1) := by decide +kernel
theorem dX0_place_68 : decode cX0_place 68 = .ok (.iload 4, 2) := by decide +kernel
theorem dX0_place_70 : decode cX0_place 70 = .ok (.iastore, 1) := by decide +kernel
theorem dX0_place_71 : decode cX0_place 71 = .ok (.aload_n 0, 1) := by decide +kernel
theorem dX0_place_72 : decode cX0_place 72 = .ok (.iload_n 1, 1) := by decide +kernel
theorem dX0_place_73 : decode cX0_place 73 = .ok (.iload_n 2, 1) := by decide +kernel
theorem dX0_place_74 : decode cX0_place 74 = .ok (.iconst 1, 1) := by decide +kernel
theorem dX0_place_75 : decode cX0_place 75 = .ok (.iadd, 1) := by decide +kernel
theorem dX0_place_76 : decode cX0_place 76 = .ok (.aload_n 3, 1) := by decide +kernel
theorem dX0_place_77 : decode cX0_place 77 = .ok (.invokestatic 22, 3) := by decide +kernel
theorem dX0_place_80 : decode cX0_place 80 = .ok (.ifCond .eq 5, 3) := by decide +kernel
theorem dX0_place_83 : decode cX0_place 83 = .ok (.iconst 1, 1) := by decide +kernel
theorem dX0_place_84 : decode cX0_place 84 = .ok (.ireturn, 1) := by decide +kernel
theorem dX0_place_85 : decode cX0_place 85 = .ok (.iinc 4 1, 3) := by decide +kernel
theorem dX0_place_88 : decode cX0_place 88 = .ok (.goto (-47), 3) := by decide +kernel
theorem dX0_place_91 : decode cX0_place 91 = .ok (.iconst 0, 1) := by decide +kernel
theorem dX0_place_92 : decode cX0_place 92 = .ok (.ireturn, 1) := by decide +kernel
theorem dX0_meetsOneBefore_0 : decode cX0_meetsOneBefore 0 = .ok (.iconst 0, 1) := by decide +kernel
theorem dX0_meetsOneBefore_1 : decode cX0_meetsOneBefore 1 = .ok (.istore 5, 2) := by decide +kernel
theorem dX0_meetsOneBefore_3 : decode cX0_meetsOneBefore 3 = .ok (.iload 5, 2) := by decide +kernel
theorem dX0_meetsOneBefore_5 : decode cX0_meetsOneBefore 5 = .ok (.iload_n 2, 1) := by decide +kernel
theorem dX0_meetsOneBefore_6 : decode cX0_meetsOneBefore 6 = .ok (.if_icmp .ge 60, 3) := by decide +kernel
theorem dX0_meetsOneBefore_9 : decode cX0_meetsOneBefore 9 = .ok (.iload 5, 2) := by decide +kernel
theorem dX0_meetsOneBefore_11 : decode cX0_meetsOneBefore 11 = .ok (.aload 4, 2) := by decide +kernel
theorem dX0_meetsOneBefore_13 : decode cX0_meetsOneBefore 13 = .ok (.arraylength, 1) := by decide +kernel
theorem dX0_meetsOneBefore_14 : decode cX0_meetsOneBefore 14 = .ok (.if_icmp .ge 52, 3) := by decide +kernel
theorem dX0_meetsOneBefore_17 : decode cX0_meetsOneBefore 17 = .ok (.iload_n 1, 1) := by decide +kernel
theorem dX0_meetsOneBefore_18 : decode cX0_meetsOneBefore 18 = .ok (.iload 5, 2) := by decide +kernel
theorem dX0_meetsOneBefore_20 : decode cX0_meetsOneBefore 20 = .ok (.ishr, 1) := by decide +kernel
theorem dX0_meetsOneBefore_21 : decode cX0_meetsOneBefore 21 = .ok (.iconst 1, 1) := by decide +kernel
theorem dX0_meetsOneBefore_22 : decode cX0_meetsOneBefore 22 = .ok (.iand, 1) := by decide +kernel
theorem dX0_meetsOneBefore_23 : decode cX0_meetsOneBefore 23 = .ok (.ifCond .ne 6, 3) := by decide +kernel
theorem dX0_meetsOneBefore_26 : decode cX0_meetsOneBefore 26 = .ok (.goto 34, 3) := by decide +kernel
theorem dX0_meetsOneBefore_29 : decode cX0_meetsOneBefore 29 = .ok (.aload_n 0, 1) := by decide +kernel
theorem dX0_meetsOneBefore_30 : decode cX0_meetsOneBefore 30 = .ok (.iload 5, 2) := by decide +kernel
theorem dX0_meetsOneBefore_32 : decode cX0_meetsOneBefore 32 = .ok (.invokevirtual 32, 3) := by decide +kernel
theorem dX0_meetsOneBefore_35 : decode cX0_meetsOneBefore 35 = .ok (.aload_n 0, 1) := by decide +kernel
theorem dX0_meetsOneBefore_36 : decode cX0_meetsOneBefore 36 = .ok (.iload_n 2, 1) := by decide +kernel
theorem dX0_meetsOneBefore_37 : decode cX0_meetsOneBefore 37 = .ok (.invokevirtual 32, 3) := by decide +kernel
theorem dX0_meetsOneBefore_40 : decode cX0_meetsOneBefore 40 = .ok (.invokestatic 36, 3) := by decide +kernel
theorem dX0_meetsOneBefore_43 : decode cX0_meetsOneBefore 43 = .ok (.istore 6, 2) := by decide +kernel
theorem dX0_meetsOneBefore_45 : decode cX0_meetsOneBefore 45 = .ok (.iload_n 3, 1) := by decide +kernel
theorem dX0_meetsOneBefore_46 : decode cX0_meetsOneBefore 46 = .ok (.aload 4, 2) := by decide +kernel
theorem dX0_meetsOneBefore_48 : decode cX0_meetsOneBefore 48 = .ok (.iload 5, 2) := by decide +kernel
theorem dX0_meetsOneBefore_50 : decode cX0_meetsOneBefore 50 = .ok (.iaload, 1) := by decide +kernel
theorem dX0_meetsOneBefore_51 : decode cX0_meetsOneBefore 51 = .ok (.isub, 1) := by decide +kernel
theorem dX0_meetsOneBefore_52 : decode cX0_meetsOneBefore 52 = .ok (.iload 6, 2) := by decide +kernel
theorem dX0_meetsOneBefore_54 : decode cX0_meetsOneBefore 54 = .ok (.irem, 1) := by decide +kernel
theorem dX0_meetsOneBefore_55 : decode cX0_meetsOneBefore 55 = .ok (.ifCond .ne 5, 3) := by decide +kernel
theorem dX0_meetsOneBefore_58 : decode cX0_meetsOneBefore 58 = .ok (.iconst 1, 1) := by decide +kernel
theorem dX0_meetsOneBefore_59 : decode cX0_meetsOneBefore 59 = .ok (.ireturn, 1) := by decide +kernel
theorem dX0_meetsOneBefore_60 : decode cX0_meetsOneBefore 60 = .ok (.iinc 5 1, 3) := by decide +kernel
theorem dX0_meetsOneBefore_63 : decode cX0_meetsOneBefore 63 = .ok (.goto (-60), 3) := by decide +kernel
theorem dX0_meetsOneBefore_66 : decode cX0_meetsOneBefore 66 = .ok (.iconst 0, 1) := by decide +kernel
theorem dX0_meetsOneBefore_67 : decode cX0_meetsOneBefore 67 = .ok (.ireturn, 1) := by decide +kernel
theorem dX0_commonDivisor_0 : decode cX0_commonDivisor 0 = .ok (.iload_n 0, 1) := by decide +kernel
theorem dX0_commonDivisor_1 : decode cX0_commonDivisor 1 = .ok (.iload_n 1, 1) := by decide +kernel
theorem dX0_commonDivisor_2 : decode cX0_commonDivisor 2 = .ok (.invokestatic 44, 3) := by decide +kernel
theorem dX0_commonDivisor_5 : decode cX0_commonDivisor 5 = .ok (.istore_n 2, 1) := by decide +kernel
theorem dX0_commonDivisor_6 : decode cX0_commonDivisor 6 = .ok (.iload_n 2, 1) := by decide +kernel
theorem dX0_commonDivisor_7 : decode cX0_commonDivisor 7 = .ok (.iconst 1, 1) := by decide +kernel
theorem dX0_commonDivisor_8 : decode cX0_commonDivisor 8 = .ok (.if_icmp .le 23, 3) := by decide +kernel
theorem dX0_commonDivisor_11 : decode cX0_commonDivisor 11 = .ok (.iload_n 0, 1) := by decide +kernel
theorem dX0_commonDivisor_12 : decode cX0_commonDivisor 12 = .ok (.iload_n 2, 1) := by decide +kernel
theorem dX0_commonDivisor_13 : decode cX0_commonDivisor 13 = .ok (.irem, 1) := by decide +kernel
theorem dX0_commonDivisor_14 : decode cX0_commonDivisor 14 = .ok (.ifCond .ne 11, 3) := by decide +kernel
theorem dX0_commonDivisor_17 : decode cX0_commonDivisor 17 = .ok (.iload_n 1, 1) := by decide +kernel
theorem dX0_commonDivisor_18 : decode cX0_commonDivisor 18 = .ok (.iload_n 2, 1) := by decide +kernel
theorem dX0_commonDivisor_19 : decode cX0_commonDivisor 19 = .ok (.irem, 1) := by decide +kernel
theorem dX0_commonDivisor_20 : decode cX0_commonDivisor 20 = .ok (.ifCond .ne 5, 3) := by decide +kernel
theorem dX0_commonDivisor_23 : decode cX0_commonDivisor 23 = .ok (.iload_n 2, 1) := by decide +kernel
theorem dX0_commonDivisor_24 : decode cX0_commonDivisor 24 = .ok (.ireturn, 1) := by decide +kernel
theorem dX0_commonDivisor_25 : decode cX0_commonDivisor 25 = .ok (.iinc 2 (-1), 3) := by decide +kernel
theorem dX0_commonDivisor_28 : decode cX0_commonDivisor 28 = .ok (.goto (-22), 3) := by decide +kernel
theorem dX0_commonDivisor_31 : decode cX0_commonDivisor 31 = .ok (.iconst 1, 1) := by decide +kernel
theorem dX0_commonDivisor_32 : decode cX0_commonDivisor 32 = .ok (.ireturn, 1) := by decide +kernel
theorem dX1_init_0 : decode cX1_init 0 = .ok (.aload_n 0, 1) := by decide +kernel
theorem dX1_init_1 : decode cX1_init 1 = .ok (.invokespecial 3, 3) := by decide +kernel
theorem dX1_init_4 : decode cX1_init 4 = .ok (.aload_n 0, 1) := by decide +kernel
theorem dX1_init_5 : decode cX1_init 5 = .ok (.bipush 8, 2) := by decide +kernel
theorem dX1_init_7 : decode cX1_init 7 = .ok (.newarray .int, 2) := by decide +kernel
theorem dX1_init_9 : decode cX1_init 9 = .ok (.putfield 9, 3) := by decide +kernel
theorem dX1_init_12 : decode cX1_init 12 = .ok (.aload_n 0, 1) := by decide +kernel
theorem dX1_init_13 : decode cX1_init 13 = .ok (.bipush 8, 2) := by decide +kernel
theorem dX1_init_15 : decode cX1_init 15 = .ok (.newarray .int, 2) := by decide +kernel
theorem dX1_init_17 : decode cX1_init 17 = .ok (.putfield 15, 3) := by decide +kernel
theorem dX1_init_20 : decode cX1_init 20 = .ok (.aload_n 0, 1) := by decide +kernel
theorem dX1_init_21 : decode cX1_init 21 = .ok (.bipush 17, 2) := by decide +kernel
theorem dX1_init_23 : decode cX1_init 23 = .ok (.newarray .int, 2) := by decide +kernel
theorem dX1_init_25 : decode cX1_init 25 = .ok (.putfield 18, 3) := by decide +kernel
theorem dX1_init_28 : decode cX1_init 28 = .ok (.aload_n 0, 1) := by decide +kernel
theorem dX1_init_29 : decode cX1_init 29 = .ok (.bipush 60, 2) := by decide +kernel
theorem dX1_init_31 : decode cX1_init 31 = .ok (.newarray .int, 2) := by decide +kernel
theorem dX1_init_33 : decode cX1_init 33 = .ok (.putfield 21, 3) := by decide +kernel
theorem dX1_init_36 : decode cX1_init 36 = .ok (.aload_n 0, 1) := by decide +kernel
theorem dX1_init_37 : decode cX1_init 37 = .ok (.getfield 15, 3) := by decide +kernel
theorem dX1_init_40 : decode cX1_init 40 = .ok (.iconst (-1), 1) := by decide +kernel
theorem dX1_init_41 : decode cX1_init 41 = .ok (.invokestatic 24, 3) := by decide +kernel
theorem dX1_init_44 : decode cX1_init 44 = .ok (.return_, 1) := by decide +kernel
theorem dX1_begin_0 : decode cX1_begin 0 = .ok (.aload_n 1, 1) := by decide +kernel
theorem dX1_begin_1 : decode cX1_begin 1 = .ok (.getfield 30, 3) := by decide +kernel
theorem dX1_begin_4 : decode cX1_begin 4 = .ok (.iconst 0, 1) := by decide +kernel
theorem dX1_begin_5 : decode cX1_begin 5 = .ok (.aload_n 0, 1) := by decide +kernel
theorem dX1_begin_6 : decode cX1_begin 6 = .ok (.getfield 9, 3) := by decide +kernel
theorem dX1_begin_9 : decode cX1_begin 9 = .ok (.iconst 0, 1) := by decide +kernel
theorem dX1_begin_10 : decode cX1_begin 10 = .ok (.bipush 8, 2) := by decide +kernel
theorem dX1_begin_12 : decode cX1_begin 12 = .ok (.invokestatic 35, 3) := by decide +kernel
theorem dX1_begin_15 : decode cX1_begin 15 = .ok (.aload_n 0, 1) := by decide +kernel
theorem dX1_begin_16 : decode cX1_begin 16 = .ok (.getfield 15, 3) := by decide +kernel
theorem dX1_begin_19 : decode cX1_begin 19 = .ok (.iconst (-1), 1) := by decide +kernel
theorem dX1_begin_20 : decode cX1_begin 20 = .ok (.invokestatic 24, 3) := by decide +kernel
theorem dX1_begin_23 : decode cX1_begin 23 = .ok (.aload_n 0, 1) := by decide +kernel
theorem dX1_begin_24 : decode cX1_begin 24 = .ok (.iconst 0, 1) := by decide +kernel
theorem dX1_begin_25 : decode cX1_begin 25 = .ok (.putfield 41, 3) := by decide +kernel
theorem dX1_begin_28 : decode cX1_begin 28 = .ok (.aload_n 0, 1) := by decide +kernel
theorem dX1_begin_29 : decode cX1_begin 29 = .ok (.iconst 0, 1) := by decide +kernel
theorem dX1_begin_30 : decode cX1_begin 30 = .ok (.putfield 45, 3) := by decide +kernel
theorem dX1_begin_33 : decode cX1_begin 33 = .ok (.aload_n 0, 1) := by decide +kernel
theorem dX1_begin_34 : decode cX1_begin 34 = .ok (.iconst 0, 1) := by decide +kernel
theorem dX1_begin_35 : decode cX1_begin 35 = .ok (.putfield 48, 3) := by decide +kernel
theorem dX1_begin_38 : decode cX1_begin 38 = .ok (.aload_n 0, 1) := by decide +kernel
theorem dX1_begin_39 : decode cX1_begin 39 = .ok (.iconst 0, 1) := by decide +kernel
theorem dX1_begin_40 : decode cX1_begin 40 = .ok (.putfield 51, 3) := by decide +kernel
theorem dX1_begin_43 : decode cX1_begin 43 = .ok (.aload_n 0, 1) := by decide +kernel
theorem dX1_begin_44 : decode cX1_begin 44 = .ok (.iconst 0, 1) := by decide +kernel
theorem dX1_begin_45 : decode cX1_begin 45 = .ok (.putfield 54, 3) := by decide +kernel
theorem dX1_begin_48 : decode cX1_begin 48 = .ok (.aload_n 0, 1) := by decide +kernel
theorem dX1_begin_49 : decode cX1_begin 49 = .ok (.iconst 0, 1) := by decide +kernel
theorem dX1_begin_50 : decode cX1_begin 50 = .ok (.putfield 57, 3) := by decide +kernel
theorem dX1_begin_53 : decode cX1_begin 53 = .ok (.aload_n 0, 1) := by decide +kernel
theorem dX1_begin_54 : decode cX1_begin 54 = .ok (.iconst 0, 1) := by decide +kernel
theorem dX1_begin_55 : decode cX1_begin 55 = .ok (.putfield 60, 3) := by decide +kernel
theorem dX1_begin_58 : decode cX1_begin 58 = .ok (.aload_n 0, 1) := by decide +kernel
theorem dX1_begin_59 : decode cX1_begin 59 = .ok (.iconst 0, 1) := by decide +kernel
theorem dX1_begin_60 : decode cX1_begin 60 = .ok (.putfield 63, 3) := by decide +kernel
theorem dX1_begin_63 : decode cX1_begin 63 = .ok (.aload_n 0, 1) := by decide +kernel
theorem dX1_begin_64 : decode cX1_begin 64 = .ok (.iconst 0, 1) := by decide +kernel
theorem dX1_begin_65 : decode cX1_begin 65 = .ok (.putfield 66, 3) := by decide +kernel
theorem dX1_begin_68 : decode cX1_begin 68 = .ok (.aload_n 0, 1) := by decide +kernel
theorem dX1_begin_69 : decode cX1_begin 69 = .ok (.iconst 0, 1) := by decide +kernel
theorem dX1_begin_70 : decode cX1_begin 70 = .ok (.putfield 69, 3) := by decide +kernel
theorem dX1_begin_73 : decode cX1_begin 73 = .ok (.return_, 1) := by decide +kernel
theorem dX1_copy_0 : decode cX1_copy 0 = .ok (.aload_n 0, 1) := by decide +kernel
theorem dX1_copy_1 : decode cX1_copy 1 = .ok (.aload_n 1, 1) := by decide +kernel
theorem dX1_copy_2 : decode cX1_copy 2 = .ok (.invokevirtual 73, 3) := by decide +kernel
theorem dX1_copy_5 : decode cX1_copy 5 = .ok (.aload_n 1, 1) := by decide +kernel
theorem dX1_copy_6 : decode cX1_copy 6 = .ok (.getfield 21, 3) := by decide +kernel
theorem dX1_copy_9 : decode cX1_copy 9 = .ok (.iconst 0, 1) := by decide +kernel
theorem dX1_copy_10 : decode cX1_copy 10 = .ok (.aload_n 0, 1) := by decide +kernel
theorem dX1_copy_11 : decode cX1_copy 11 = .ok (.getfield 21, 3) := by decide +kernel
theorem dX1_copy_14 : decode cX1_copy 14 = .ok (.iconst 0, 1) := by decide +kernel
theorem dX1_copy_15 : decode cX1_copy 15 = .ok (.bipush 60, 2) := by decide +kernel
theorem dX1_copy_17 : decode cX1_copy 17 = .ok (.invokestatic 35, 3) := by decide +kernel
theorem dX1_copy_20 : decode cX1_copy 20 = .ok (.return_, 1) := by decide +kernel
theorem dX1_goOnFrom_0 : decode cX1_goOnFrom 0 = .ok (.aload_n 1, 1) := by decide +kernel
theorem dX1_goOnFrom_1 : decode cX1_goOnFrom 1 = .ok (.getfield 9, 3) := by decide +kernel
theorem dX1_goOnFrom_4 : decode cX1_goOnFrom 4 = .ok (.iconst 0, 1) := by decide +kernel
theorem dX1_goOnFrom_5 : decode cX1_goOnFrom 5 = .ok (.aload_n 0, 1) := by decide +kernel
theorem dX1_goOnFrom_6 : decode cX1_goOnFrom 6 = .ok (.getfield 9, 3) := by decide +kernel
theorem dX1_goOnFrom_9 : decode cX1_goOnFrom 9 = .ok (.iconst 0, 1) := by decide +kernel
theorem dX1_goOnFrom_10 : decode cX1_goOnFrom 10 = .ok (.bipush 8, 2) := by decide +kernel
theorem dX1_goOnFrom_12 : decode cX1_goOnFrom 12 = .ok (.invokestatic 35, 3) := by decide +kernel
theorem dX1_goOnFrom_15 : decode cX1_goOnFrom 15 = .ok (.aload_n 1, 1) := by decide +kernel
theorem dX1_goOnFrom_16 : decode cX1_goOnFrom 16 = .ok (.getfield 15, 3) := by decide +kernel
theorem dX1_goOnFrom_19 : decode cX1_goOnFrom 19 = .ok (.iconst 0, 1) := by decide +kernel
theorem dX1_goOnFrom_20 : decode cX1_goOnFrom 20 = .ok (.aload_n 0, 1) := by decide +kernel
theorem dX1_goOnFrom_21 : decode cX1_goOnFrom 21 = .ok (.getfield 15, 3) := by decide +kernel
theorem dX1_goOnFrom_24 : decode cX1_goOnFrom 24 = .ok (.iconst 0, 1) := by decide +kernel
theorem dX1_goOnFrom_25 : decode cX1_goOnFrom 25 = .ok (.bipush 8, 2) := by decide +kernel
theorem dX1_goOnFrom_27 : decode cX1_goOnFrom 27 = .ok (.invokestatic 35, 3) := by decide +kernel
theorem dX1_goOnFrom_30 : decode cX1_goOnFrom 30 = .ok (.aload_n 1, 1) := by decide +kernel
theorem dX1_goOnFrom_31 : decode cX1_goOnFrom 31 = .ok (.getfield 18, 3) := by decide +kernel
theorem dX1_goOnFrom_34 : decode cX1_goOnFrom 34 = .ok (.iconst 0, 1) := by decide +kernel
theorem dX1_goOnFrom_35 : decode cX1_goOnFrom 35 = .ok (.aload_n 0, 1) := by decide +kernel
theorem dX1_goOnFrom_36 : decode cX1_goOnFrom 36 = .ok (.getfield 18, 3) := by decide +kernel
theorem dX1_goOnFrom_39 : decode cX1_goOnFrom 39 = .ok (.iconst 0, 1) := by decide +kernel
theorem dX1_goOnFrom_40 : decode cX1_goOnFrom 40 = .ok (.bipush 17, 2) := by decide +kernel
theorem dX1_goOnFrom_42 : decode cX1_goOnFrom 42 = .ok (.invokestatic 35, 3) := by decide +kernel
theorem dX1_goOnFrom_45 : decode cX1_goOnFrom 45 = .ok (.aload_n 0, 1) := by decide +kernel
theorem dX1_goOnFrom_46 : decode cX1_goOnFrom 46 = .ok (.aload_n 1, 1) := by decide +kernel
theorem dX1_goOnFrom_47 : decode cX1_goOnFrom 47 = .ok (.getfield 41, 3) := by decide +kernel
theorem dX1_goOnFrom_50 : decode cX1_goOnFrom 50 = .ok (.putfield 41, 3) := by decide +kernel
theorem dX1_goOnFrom_53 : decode cX1_goOnFrom 53 = .ok (.aload_n 0, 1) := by decide +kernel
theorem dX1_goOnFrom_54 : decode cX1_goOnFrom 54 = .ok (.aload_n 1, 1) := by decide +kernel
theorem dX1_goOnFrom_55 : decode cX1_goOnFrom 55 = .ok (.getfield 45, 3) := by decide +kernel
theorem dX1_goOnFrom_58 : decode cX1_goOnFrom 58 = .ok (.putfield 45, 3) := by decide +kernel
theorem dX1_goOnFrom_61 : decode cX1_goOnFrom 61 = .ok (.aload_n 0, 1) := by decide +kernel
theorem dX1_goOnFrom_62 : decode cX1_goOnFrom 62 = .ok (.aload_n 1, 1) := by decide +kernel
theorem dX1_goOnFrom_63 : decode cX1_goOnFrom 63 = .ok (.getfield 48, 3) := by decide +kernel
theorem dX1_goOnFrom_66 : decode cX1_goOnFrom 66 = .ok (.putfield 48, 3) := by decide +kernel
theorem dX1_goOnFrom_69 : decode cX1_goOnFrom 69 = .ok (.aload_n 0, 1) := by decide +kernel
theorem dX1_goOnFrom_70 : decode cX1_goOnFrom 70 = .ok (.aload_n 1, 1) := by decide +kernel
theorem dX1_goOnFrom_71 : decode cX1_goOnFrom 71 = .ok (.getfield 51, 3) := by decide +kernel
theorem dX1_goOnFrom_74 : decode cX1_goOnFrom 74 = .ok (.putfield 51, 3) := by decide +kernel
theorem dX1_goOnFrom_77 : decode cX1_goOnFrom 77 = .ok (.aload_n 0, 1) := by decide +kernel
theorem dX1_goOnFrom_78 : decode cX1_goOnFrom 78 = .ok (.aload_n 1, 1) := by decide +kernel
theorem dX1_goOnFrom_79 : decode cX1_goOnFrom 79 = .ok (.getfield 54, 3) := by decide +kernel
theorem dX1_goOnFrom_82 : decode cX1_goOnFrom 82 = .ok (.putfield 54, 3) := by decide +kernel
theorem dX1_goOnFrom_85 : decode cX1_goOnFrom 85 = .ok (.aload_n 0, 1) := by decide +kernel
theorem dX1_goOnFrom_86 : decode cX1_goOnFrom 86 = .ok (.aload_n 1, 1) := by decide +kernel
theorem dX1_goOnFrom_87 : decode cX1_goOnFrom 87 = .ok (.getfield 57, 3) := by decide +kernel
theorem dX1_goOnFrom_90 : decode cX1_goOnFrom 90 = .ok (.putfield 57, 3) := by decide +kernel
theorem dX1_goOnFrom_93 : decode cX1_goOnFrom 93 = .ok (.aload_n 0, 1) := by decide +kernel
theorem dX1_goOnFrom_94 : decode cX1_goOnFrom 94 = .ok (.aload_n 1, 1) := by decide +kernel
theorem dX1_goOnFrom_95 : decode cX1_goOnFrom 95 = .ok (.getfield 60, 3) := by decide +kernel
theorem dX1_goOnFrom_98 : decode cX1_goOnFrom 98 = .ok (.putfield 60, 3) := by decide +kernel
theorem dX1_goOnFrom_101 : decode cX1_goOnFrom 101 = .ok (.aload_n 0, 1) := by decide +kernel
theorem dX1_goOnFrom_102 : decode cX1_goOnFrom 102 = .ok (.aload_n 1, 1) := by decide +kernel
theorem dX1_goOnFrom_103 : decode cX1_goOnFrom 103 = .ok (.getfield 63, 3) := by decide +kernel
theorem dX1_goOnFrom_106 : decode cX1_goOnFrom 106 = .ok (.putfield 63, 3) := by decide +kernel
theorem dX1_goOnFrom_109 : decode cX1_goOnFrom 109 = .ok (.aload_n 0, 1) := by decide +kernel
theorem dX1_goOnFrom_110 : decode cX1_goOnFrom 110 = .ok (.aload_n 1, 1) := by decide +kernel
theorem dX1_goOnFrom_111 : decode cX1_goOnFrom 111 = .ok (.getfield 66, 3) := by decide +kernel
theorem dX1_goOnFrom_114 : decode cX1_goOnFrom 114 = .ok (.putfield 66, 3) := by decide +kernel
theorem dX1_goOnFrom_117 : decode cX1_goOnFrom 117 = .ok (.aload_n 0, 1) := by decide +kernel
theorem dX1_goOnFrom_118 : decode cX1_goOnFrom 118 = .ok (.aload_n 1, 1) := by decide +kernel
theorem dX1_goOnFrom_119 : decode cX1_goOnFrom 119 = .ok (.getfield 69, 3) := by decide +kernel
theorem dX1_goOnFrom_122 : decode cX1_goOnFrom 122 = .ok (.putfield 69, 3) := by decide +kernel
theorem dX1_goOnFrom_125 : decode cX1_goOnFrom 125 = .ok (.return_, 1) := by decide +kernel
theorem dX1_staysAway_0 : decode cX1_staysAway 0 = .ok (.aload_n 0, 1) := by decide +kernel
theorem dX1_staysAway_1 : decode cX1_staysAway 1 = .ok (.getfield 41, 3) := by decide +kernel
theorem dX1_staysAway_4 : decode cX1_staysAway 4 = .ok (.iload_n 1, 1) := by decide +kernel
theorem dX1_staysAway_5 : decode cX1_staysAway 5 = .ok (.ishr, 1) := by decide +kernel
theorem dX1_staysAway_6 : decode cX1_staysAway 6 = .ok (.iconst 1, 1) := by decide +kernel
theorem dX1_staysAway_7 : decode cX1_staysAway 7 = .ok (.iand, 1) := by decide +kernel
theorem dX1_staysAway_8 : decode cX1_staysAway 8 = .ok (.ifCond .eq 7, 3) := by decide +kernel
theorem dX1_staysAway_11 : decode cX1_staysAway 11 = .ok (.iconst 1, 1) := by decide +kernel
theorem dX1_staysAway_12 : decode cX1_staysAway 12 = .ok (.goto 4, 3) := by decide +kernel
theorem dX1_staysAway_15 : decode cX1_staysAway 15 = .ok (.iconst 0, 1) := by decide +kernel
theorem dX1_staysAway_16 : decode cX1_staysAway 16 = .ok (.ireturn, 1) := by decide +kernel
theorem dX1_comersByCalendar_0 : decode cX1_comersByCalendar 0 = .ok (.iconst 0, 1) := by decide +kernel
theorem dX1_comersByCalendar_1 : decode cX1_comersByCalendar 1 = .ok (.istore_n 3, 1) := by decide +kernel
theorem dX1_comersByCalendar_2 : decode cX1_comersByCalendar 2 = .ok (.iconst 0, 1) := by decide +kernel
theorem dX1_comersByCalendar_3 : decode cX1_comersByCalendar 3 = .ok (.istore 4, 2) := by decide +kernel
theorem dX1_comersByCalendar_5 : decode cX1_comersByCalendar 5 = .ok (.iload 4, 2) := by decide +kernel
theorem dX1_comersByCalendar_7 : decode cX1_comersByCalendar 7 = .ok (.aload_n 1, 1) := by decide +kernel
theorem dX1_comersByCalendar_8 : decode cX1_comersByCalendar 8 = .ok (.getfield 77, 3) := by decide +kernel
theorem dX1_comersByCalendar_11 : decode cX1_comersByCalendar 11 = .ok (.if_icmp .ge 52, 3) := by decide +kernel
theorem dX1_comersByCalendar_14 : decode cX1_comersByCalendar 14 = .ok (.iload 4, 2) := by decide +kernel
theorem dX1_comersByCalendar_16 : decode cX1_comersByCalendar 16 = .ok (.aload_n 0, 1) := by decide +kernel
theorem dX1_comersByCalendar_17 : decode cX1_comersByCalendar 17 = .ok (.getfield 9, 3) := by decide +kernel
theorem dX1_comersByCalendar_20 : decode cX1_comersByCalendar 20 = .ok (.arraylength, 1) := by decide +kernel
theorem dX1_comersByCalendar_21 : decode cX1_comersByCalendar 21 = .ok (.if_icmp .ge 42, 3) := by decide +kernel
theorem dX1_comersByCalendar_24 : decode cX1_comersByCalendar 24 = .ok (.aload_n 0, 1) := by decide +kernel
theorem dX1_comersByCalendar_25 : decode cX1_comersByCalendar 25 = .ok (.iload 4, 2) := by decide +kernel
theorem dX1_comersByCalendar_27 : decode cX1_comersByCalendar 27 = .ok (.invokevirtual 80, 3) := by decide +kernel
theorem dX1_comersByCalendar_30 : decode cX1_comersByCalendar 30 = .ok (.ifCond .ne 27, 3) := by decide +kernel
theorem dX1_comersByCalendar_33 : decode cX1_comersByCalendar 33 = .ok (.aload_n 1, 1) := by decide +kernel
theorem dX1_comersByCalendar_34 : decode cX1_comersByCalendar 34 = .ok (.iload 4, 2) := by decide +kernel
theorem dX1_comersByCalendar_36 : decode cX1_comersByCalendar 36 = .ok (.aload_n 0, 1) := by decide +kernel
theorem dX1_comersByCalendar_37 : decode cX1_comersByCalendar 37 = .ok (.getfield 9, 3) := by decide +kernel
theorem dX1_comersByCalendar_40 : decode cX1_comersByCalendar 40 = .ok (.iload 4, 2) := by decide +kernel
theorem dX1_comersByCalendar_42 : decode cX1_comersByCalendar 42 = .ok (.iaload, 1) := by decide +kernel
theorem dX1_comersByCalendar_43 : decode cX1_comersByCalendar 43 = .ok (.iload_n 2, 1) := by decide +kernel
theorem dX1_comersByCalendar_44 : decode cX1_comersByCalendar 44 = .ok (.invokevirtual 84, 3) := by decide +kernel
theorem dX1_comersByCalendar_47 : decode cX1_comersByCalendar 47 = .ok (.ifCond .eq 10, 3) := by decide +kernel
theorem dX1_comersByCalendar_50 : decode cX1_comersByCalendar 50 = .ok (.iload_n 3, 1) := by decide +kernel
theorem dX1_comersByCalendar_51 : decode cX1_comersByCalendar 51 = .ok (.iconst 1, 1) := by decide +kernel
theorem dX1_comersByCalendar_52 : decode cX1_comersByCalendar 52 = .ok (.iload 4, 2) := by decide +kernel
theorem dX1_comersByCalendar_54 : decode cX1_comersByCalendar 54 = .ok (.ishl, 1) := by decide +kernel
theorem dX1_comersByCalendar_55 : decode cX1_comersByCalendar 55 = .ok (.ior, 1) := by decide +kernel
theorem dX1_comersByCalendar_56 : decode cX1_comersByCalendar 56 = .ok (.istore_n 3, 1) := by decide +kernel
theorem dX1_comersByCalendar_57 : decode cX1_comersByCalendar 57 = .ok (.iinc 4 1, 3) := by decide +kernel
theorem dX1_comersByCalendar_60 : decode cX1_comersByCalendar 60 = .ok (.goto (-55), 3) := by decide +kernel
theorem dX1_comersByCalendar_63 : decode cX1_comersByCalendar 63 = .ok (.iload_n 3, 1) := by decide +kernel
theorem dX1_comersByCalendar_64 : decode cX1_comersByCalendar 64 = .ok (.ireturn, 1) := by decide +kernel
theorem dX1_comers_0 : decode cX1_comers 0 = .ok (.aload_n 0, 1) := by decide +kernel
theorem dX1_comers_1 : decode cX1_comers 1 = .ok (.aload_n 1, 1) := by decide +kernel
theorem dX1_comers_2 : decode cX1_comers 2 = .ok (.iload_n 2, 1) := by decide +kernel
theorem dX1_comers_3 : decode cX1_comers 3 = .ok (.invokevirtual 88, 3) := by decide +kernel
theorem dX1_comers_6 : decode cX1_comers 6 = .ok (.istore_n 3, 1) := by decide +kernel
theorem dX1_comers_7 : decode cX1_comers 7 = .ok (.iconst 0, 1) := by decide +kernel
theorem dX1_comers_8 : decode cX1_comers 8 = .ok (.istore 4, 2) := by decide +kernel
theorem dX1_comers_10 : decode cX1_comers 10 = .ok (.iload 4, 2) := by decide +kernel
theorem dX1_comers_12 : decode cX1_comers 12 = .ok (.aload_n 0, 1) := by decide +kernel
theorem dX1_comers_13 : decode cX1_comers 13 = .ok (.getfield 15, 3) := by decide +kernel
theorem dX1_comers_16 : decode cX1_comers 16 = .ok (.arraylength, 1) := by decide +kernel
theorem dX1_comers_17 : decode cX1_comers 17 = .ok (.if_icmp .ge 68, 3) := by decide +kernel
theorem dX1_comers_20 : decode cX1_comers 20 = .ok (.aload_n 0, 1) := by decide +kernel
theorem dX1_comers_21 : decode cX1_comers 21 = .ok (.getfield 15, 3) := by decide +kernel
theorem dX1_comers_24 : decode cX1_comers 24 = .ok (.iload 4, 2) := by decide +kernel
theorem dX1_comers_26 : decode cX1_comers 26 = .ok (.iaload, 1) := by decide +kernel
theorem dX1_comers_27 : decode cX1_comers 27 = .ok (.iconst (-1), 1) := by decide +kernel
theorem dX1_comers_28 : decode cX1_comers 28 = .ok (.if_icmp .eq 34, 3) := by decide +kernel
theorem dX1_comers_31 : decode cX1_comers 31 = .ok (.iload_n 2, 1) := by decide +kernel
theorem dX1_comers_32 : decode cX1_comers 32 = .ok (.aload_n 0, 1) := by decide +kernel
theorem dX1_comers_33 : decode cX1_comers 33 = .ok (.getfield 15, 3) := by decide +kernel
theorem dX1_comers_36 : decode cX1_comers 36 = .ok (.iload 4, 2) := by decide +kernel
theorem dX1_comers_38 : decode cX1_comers 38 = .ok (.iaload, 1) := by decide +kernel
theorem dX1_comers_39 : decode cX1_comers 39 = .ok (.if_icmp .le 23, 3) := by decide +kernel
theorem dX1_comers_42 : decode cX1_comers 42 = .ok (.iload_n 2, 1) := by decide +kernel
theorem dX1_comers_43 : decode cX1_comers 43 = .ok (.aload_n 0, 1) := by decide +kernel
theorem dX1_comers_44 : decode cX1_comers 44 = .ok (.getfield 15, 3) := by decide +kernel
theorem dX1_comers_47 : decode cX1_comers 47 = .ok (.iload 4, 2) := by decide +kernel
theorem dX1_comers_49 : decode cX1_comers 49 = .ok (.iaload, 1) := by decide +kernel
theorem dX1_comers_50 : decode cX1_comers 50 = .ok (.isub, 1) := by decide +kernel
theorem dX1_comers_51 : decode cX1_comers 51 = .ok (.aload_n 1, 1) := by decide +kernel
theorem dX1_comers_52 : decode cX1_comers 52 = .ok (.getfield 92, 3) := by decide +kernel
theorem dX1_comers_55 : decode cX1_comers 55 = .ok (.if_icmp .gt 7, 3) := by decide +kernel
theorem dX1_comers_58 : decode cX1_comers 58 = .ok (.iconst 1, 1) := by decide +kernel
theorem dX1_comers_59 : decode cX1_comers 59 = .ok (.goto 4, 3) := by decide +kernel
theorem dX1_comers_62 : decode cX1_comers 62 = .ok (.iconst 0, 1) := by decide +kernel
theorem dX1_comers_63 : decode cX1_comers 63 = .ok (.istore 5, 2) := by decide +kernel
theorem dX1_comers_65 : decode cX1_comers 65 = .ok (.iload 5, 2) := by decide +kernel
theorem dX1_comers_67 : decode cX1_comers 67 = .ok (.ifCond .eq 12, 3) := by decide +kernel
theorem dX1_comers_70 : decode cX1_comers 70 = .ok (.iload_n 3, 1) := by decide +kernel
theorem dX1_comers_71 : decode cX1_comers 71 = .ok (.iconst 1, 1) := by decide +kernel
theorem dX1_comers_72 : decode cX1_comers 72 = .ok (.iload 4, 2) := by decide +kernel
theorem dX1_comers_74 : decode cX1_comers 74 = .ok (.ishl, 1) := by decide +kernel
theorem dX1_comers_75 : decode cX1_comers 75 = .ok (.iconst (-1), 1) := by decide +kernel
theorem dX1_comers_76 : decode cX1_comers 76 = .ok (.ixor, 1) := by decide +kernel
theorem dX1_comers_77 : decode cX1_comers 77 = .ok (.iand, 1) := by decide +kernel
theorem dX1_comers_78 : decode cX1_comers 78 = .ok (.istore_n 3, 1) := by decide +kernel
theorem dX1_comers_79 : decode cX1_comers 79 = .ok (.iinc 4 1, 3) := by decide +kernel
theorem dX1_comers_82 : decode cX1_comers 82 = .ok (.goto (-72), 3) := by decide +kernel
theorem dX1_comers_85 : decode cX1_comers 85 = .ok (.iload_n 3, 1) := by decide +kernel
theorem dX1_comers_86 : decode cX1_comers 86 = .ok (.ireturn, 1) := by decide +kernel
theorem dX1_outcomeWith_0 : decode cX1_outcomeWith 0 = .ok (.aload_n 0, 1) := by decide +kernel
theorem dX1_outcomeWith_1 : decode cX1_outcomeWith 1 = .ok (.aload_n 1, 1) := by decide +kernel
theorem dX1_outcomeWith_2 : decode cX1_outcomeWith 2 = .ok (.iload 4, 2) := by decide +kernel
theorem dX1_outcomeWith_4 : decode cX1_outcomeWith 4 = .ok (.invokevirtual 88, 3) := by decide +kernel
theorem dX1_outcomeWith_7 : decode cX1_outcomeWith 7 = .ok (.iconst 1, 1) := by decide +kernel
theorem dX1_outcomeWith_8 : decode cX1_outcomeWith 8 = .ok (.iload_n 2, 1) := by decide +kernel
theorem dX1_outcomeWith_9 : decode cX1_outcomeWith 9 = .ok (.ishl, 1) := by decide +kernel
theorem dX1_outcomeWith_10 : decode cX1_outcomeWith 10 = .ok (.iconst (-1), 1) := by decide +kernel
theorem dX1_outcomeWith_11 : decode cX1_outcomeWith 11 = .ok (.ixor, 1) := by decide +kernel
theorem dX1_outcomeWith_12 : decode cX1_outcomeWith 12 = .ok (.iand, 1) := by decide +kernel
theorem dX1_outcomeWith_13 : decode cX1_outcomeWith 13 = .ok (.istore 5, 2) := by decide +kernel
theorem dX1_outcomeWith_15 : decode cX1_outcomeWith 15 = .ok (.aload_n 1, 1) := by decide +kernel
theorem dX1_outcomeWith_16 : decode cX1_outcomeWith 16 = .ok (.iload_n 2, 1) := by decide +kernel
theorem dX1_outcomeWith_17 : decode cX1_outcomeWith 17 = .ok (.iload_n 3, 1) := by decide +kernel
theorem dX1_outcomeWith_18 : decode cX1_outcomeWith 18 = .ok (.iload 4, 2) := by decide +kernel
theorem dX1_outcomeWith_20 : decode cX1_outcomeWith 20 = .ok (.invokevirtual 84, 3) := by decide +kernel
theorem dX1_outcomeWith_23 : decode cX1_outcomeWith 23 = .ok (.ifCond .eq 12, 3) := by decide +kernel
theorem dX1_outcomeWith_26 : decode cX1_outcomeWith 26 = .ok (.iload 5, 2) := by decide +kernel
theorem dX1_outcomeWith_28 : decode cX1_outcomeWith 28 = .ok (.iconst 1, 1) := by decide +kernel
theorem dX1_outcomeWith_29 : decode cX1_outcomeWith 29 = .ok (.iload_n 2, 1) := by decide +kernel
theorem dX1_outcomeWith_30 : decode cX1_outcomeWith 30 = .ok (.ishl, 1) := by decide +kernel
theorem dX1_outcomeWith_31 : decode cX1_outcomeWith 31 = .ok (.ior, 1) := by decide +kernel
theorem dX1_outcomeWith_32 : decode cX1_outcomeWith 32 = .ok (.goto 5, 3) := by decide +kernel
theorem dX1_outcomeWith_35 : decode cX1_outcomeWith 35 = .ok (.iload 5, 2) := by decide +kernel
theorem dX1_outcomeWith_37 : decode cX1_outcomeWith 37 = .ok (.invokestatic 95, 3) := by decide +kernel
theorem dX1_outcomeWith_40 : decode cX1_outcomeWith 40 = .ok (.ireturn, 1) := by decide +kernel
theorem dX1_live_0 : decode cX1_live 0 = .ok (.aload_n 0, 1) := by decide +kernel
theorem dX1_live_1 : decode cX1_live 1 = .ok (.aload_n 1, 1) := by decide +kernel
theorem dX1_live_2 : decode cX1_live 2 = .ok (.aload_n 0, 1) := by decide +kernel
theorem dX1_live_3 : decode cX1_live 3 = .ok (.getfield 48, 3) := by decide +kernel
theorem dX1_live_6 : decode cX1_live 6 = .ok (.invokevirtual 99, 3) := by decide +kernel
theorem dX1_live_9 : decode cX1_live 9 = .ok (.istore_n 3, 1) := by decide +kernel
theorem dX1_live_10 : decode cX1_live 10 = .ok (.aload_n 0, 1) := by decide +kernel
theorem dX1_live_11 : decode cX1_live 11 = .ok (.dup, 1) := by decide +kernel
theorem dX1_live_12 : decode cX1_live 12 = .ok (.getfield 63, 3) := by decide +kernel
theorem dX1_live_15 : decode cX1_live 15 = .ok (.aload_n 1, 1) := by decide +kernel
theorem dX1_live_16 : decode cX1_live 16 = .ok (.iload_n 3, 1) := by decide +kernel
theorem dX1_live_17 : decode cX1_live 17 = .ok (.invokevirtual 102, 3) := by decide +kernel
theorem dX1_live_20 : decode cX1_live 20 = .ok (.iadd, 1) := by decide +kernel
theorem dX1_live_21 : decode cX1_live 21 = .ok (.putfield 63, 3) := by decide +kernel
theorem dX1_live_24 : decode cX1_live 24 = .ok (.iload_n 2, 1) := by decide +kernel
theorem dX1_live_25 : decode cX1_live 25 = .ok (.ifCond .le 31, 3) := by decide +kernel
theorem dX1_live_28 : decode cX1_live 28 = .ok (.aload_n 0, 1) := by decide +kernel
theorem dX1_live_29 : decode cX1_live 29 = .ok (.iload_n 3, 1) := by decide +kernel
theorem dX1_live_30 : decode cX1_live 30 = .ok (.iload_n 2, 1) := by decide +kernel
theorem dX1_live_31 : decode cX1_live 31 = .ok (.invokevirtual 105, 3) := by decide +kernel
theorem dX1_live_34 : decode cX1_live 34 = .ok (.istore 4, 2) := by decide +kernel
theorem dX1_live_36 : decode cX1_live 36 = .ok (.aload_n 0, 1) := by decide +kernel
theorem dX1_live_37 : decode cX1_live 37 = .ok (.iload 4, 2) := by decide +kernel
theorem dX1_live_39 : decode cX1_live 39 = .ok (.iload 4, 2) := by decide +kernel
theorem dX1_live_41 : decode cX1_live 41 = .ok (.iconst (-1), 1) := by decide +kernel
theorem dX1_live_42 : decode cX1_live 42 = .ok (.if_icmp .ne 7, 3) := by decide +kernel
theorem dX1_live_45 : decode cX1_live 45 = .ok (.iconst 0, 1) := by decide +kernel
theorem dX1_live_46 : decode cX1_live 46 = .ok (.goto 4, 3) := by decide +kernel
theorem dX1_live_49 : decode cX1_live 49 = .ok (.iconst 1, 1) := by decide +kernel
theorem dX1_live_50 : decode cX1_live 50 = .ok (.invokevirtual 109, 3) := by decide +kernel
theorem dX1_live_53 : decode cX1_live 53 = .ok (.goto 29, 3) := by decide +kernel
theorem dX1_live_56 : decode cX1_live 56 = .ok (.iload_n 3, 1) := by decide +kernel
theorem dX1_live_57 : decode cX1_live 57 = .ok (.invokestatic 95, 3) := by decide +kernel
theorem dX1_live_60 : decode cX1_live 60 = .ok (.istore 4, 2) := by decide +kernel
theorem dX1_live_62 : decode cX1_live 62 = .ok (.aload_n 0, 1) := by decide +kernel
theorem dX1_live_63 : decode cX1_live 63 = .ok (.iload 4, 2) := by decide +kernel
theorem dX1_live_65 : decode cX1_live 65 = .ok (.iconst 1, 1) := by decide +kernel
theorem dX1_live_66 : decode cX1_live 66 = .ok (.if_icmp .ne 10, 3) := by decide +kernel
theorem dX1_live_69 : decode cX1_live 69 = .ok (.iload_n 3, 1) := by decide +kernel
theorem dX1_live_70 : decode cX1_live 70 = .ok (.invokestatic 113, 3) := by decide +kernel
theorem dX1_live_73 : decode cX1_live 73 = .ok (.goto 4, 3) := by decide +kernel
theorem dX1_live_76 : decode cX1_live 76 = .ok (.iconst (-1), 1) := by decide +kernel
theorem dX1_live_77 : decode cX1_live 77 = .ok (.iload 4, 2) := by decide +kernel
theorem dX1_live_79 : decode cX1_live 79 = .ok (.invokevirtual 109, 3) := by decide +kernel
theorem dX1_live_82 : decode cX1_live 82 = .ok (.aload_n 0, 1) := by decide +kernel
theorem dX1_live_83 : decode cX1_live 83 = .ok (.aload_n 0, 1) := by decide +kernel
theorem dX1_live_84 : decode cX1_live 84 = .ok (.getfield 51, 3) := by decide +kernel
theorem dX1_live_87 : decode cX1_live 87 = .ok (.aload_n 1, 1) := by decide +kernel
theorem dX1_live_88 : decode cX1_live 88 = .ok (.getfield 116, 3) := by decide +kernel
theorem dX1_live_91 : decode cX1_live 91 = .ok (.if_icmp .lt 7, 3) := by decide +kernel
theorem dX1_live_94 : decode cX1_live 94 = .ok (.iconst 1, 1) := by decide +kernel
theorem dX1_live_95 : decode cX1_live 95 = .ok (.goto 4, 3) := by decide +kernel
theorem dX1_live_98 : decode cX1_live 98 = .ok (.iconst 0, 1) := by decide +kernel
theorem dX1_live_99 : decode cX1_live 99 = .ok (.putfield 69, 3) := by decide +kernel
theorem dX1_live_102 : decode cX1_live 102 = .ok (.return_, 1) := by decide +kernel
theorem dX1_firstThroughInn_0 : decode cX1_firstThroughInn 0 = .ok (.iconst 0, 1) := by decide +kernel
theorem dX1_firstThroughInn_1 : decode cX1_firstThroughInn 1 = .ok (.istore_n 3, 1) := by decide +kernel
theorem dX1_firstThroughInn_2 : decode cX1_firstThroughInn 2 = .ok (.iload_n 3, 1) := by decide +kernel
theorem dX1_firstThroughInn_3 : decode cX1_firstThroughInn 3 = .ok (.bipush 8, 2) := by decide +kernel
theorem dX1_firstThroughInn_5 : decode cX1_firstThroughInn 5 = .ok (.if_icmp .ge 59, 3) := by decide +kernel
theorem dX1_firstThroughInn_8 : decode cX1_firstThroughInn 8 = .ok (.iload_n 1, 1) := by decide +kernel
theorem dX1_firstThroughInn_9 : decode cX1_firstThroughInn 9 = .ok (.iload_n 3, 1) := by decide +kernel
theorem dX1_firstThroughInn_10 : decode cX1_firstThroughInn 10 = .ok (.ishr, 1) := by decide +kernel
theorem dX1_firstThroughInn_11 : decode cX1_firstThroughInn 11 = .ok (.iconst 1, 1) := by decide +kernel
theorem dX1_firstThroughInn_12 : decode cX1_firstThroughInn 12 = .ok (.iand, 1) := by decide +kernel
theorem dX1_firstThroughInn_13 : decode cX1_firstThroughInn 13 = .ok (.ifCond .eq 45, 3) := by decide +kernel
theorem dX1_firstThroughInn_16 : decode cX1_firstThroughInn 16 = .ok (.aload_n 0, 1) := by decide +kernel
theorem dX1_firstThroughInn_17 : decode cX1_firstThroughInn 17 = .ok (.getfield 45, 3) := by decide +kernel
theorem dX1_firstThroughInn_20 : decode cX1_firstThroughInn 20 = .ok (.ifCond .lt 38, 3) := by decide +kernel
theorem dX1_firstThroughInn_23 : decode cX1_firstThroughInn 23 = .ok (.aload_n 0, 1) := by decide +kernel
theorem dX1_firstThroughInn_24 : decode cX1_firstThroughInn 24 = .ok (.getfield 45, 3) := by decide +kernel
theorem dX1_firstThroughInn_27 : decode cX1_firstThroughInn 27 = .ok (.aload_n 0, 1) := by decide +kernel
theorem dX1_firstThroughInn_28 : decode cX1_firstThroughInn 28 = .ok (.getfield 18, 3) := by decide +kernel
theorem dX1_firstThroughInn_31 : decode cX1_firstThroughInn 31 = .ok (.arraylength, 1) := by decide +kernel
theorem dX1_firstThroughInn_32 : decode cX1_firstThroughInn 32 = .ok (.if_icmp .lt 6, 3) := by decide +kernel
theorem dX1_firstThroughInn_35 : decode cX1_firstThroughInn 35 = .ok (.goto 23, 3) := by decide +kernel
theorem dX1_firstThroughInn_38 : decode cX1_firstThroughInn 38 = .ok (.aload_n 0, 1) := by decide +kernel
theorem dX1_firstThroughInn_39 : decode cX1_firstThroughInn 39 = .ok (.getfield 18, 3) := by decide +kernel
theorem dX1_firstThroughInn_42 : decode cX1_firstThroughInn 42 = .ok (.aload_n 0, 1) := by decide +kernel
theorem dX1_firstThroughInn_43 : decode cX1_firstThroughInn 43 = .ok (.getfield 45, 3) := by decide +kernel
theorem dX1_firstThroughInn_46 : decode cX1_firstThroughInn 46 = .ok (.iload_n 3, 1) := by decide +kernel
theorem dX1_firstThroughInn_47 : decode cX1_firstThroughInn 47 = .ok (.iastore, 1) := by decide +kernel
theorem dX1_firstThroughInn_48 : decode cX1_firstThroughInn 48 = .ok (.aload_n 0, 1) := by decide +kernel
theorem dX1_firstThroughInn_49 : decode cX1_firstThroughInn 49 = .ok (.dup, 1) := by decide +kernel
theorem dX1_firstThroughInn_50 : decode cX1_firstThroughInn 50 = .ok (.getfield 45, 3) := by decide +kernel
theorem dX1_firstThroughInn_53 : decode cX1_firstThroughInn 53 = .ok (.iconst 1, 1) := by decide +kernel
theorem dX1_firstThroughInn_54 : decode cX1_firstThroughInn 54 = .ok (.iadd, 1) := by decide +kernel
theorem dX1_firstThroughInn_55 : decode cX1_firstThroughInn 55 = .ok (.putfield 45, 3) := by decide +kernel
theorem dX1_firstThroughInn_58 : decode cX1_firstThroughInn 58 = .ok (.iinc 3 1, 3) := by decide +kernel
theorem dX1_firstThroughInn_61 : decode cX1_firstThroughInn 61 = .ok (.goto (-59), 3) := by decide +kernel
theorem dX1_firstThroughInn_64 : decode cX1_firstThroughInn 64 = .ok (.aload_n 0, 1) := by decide +kernel
theorem dX1_firstThroughInn_65 : decode cX1_firstThroughInn 65 = .ok (.getfield 45, 3) := by decide +kernel
theorem dX1_firstThroughInn_68 : decode cX1_firstThroughInn 68 = .ok (.iconst 1, 1) := by decide +kernel
theorem dX1_firstThroughInn_69 : decode cX1_firstThroughInn 69 = .ok (.if_icmp .ge 5, 3) := by decide +kernel
theorem dX1_firstThroughInn_72 : decode cX1_firstThroughInn 72 = .ok (.iconst (-1), 1) := by decide +kernel
theorem dX1_firstThroughInn_73 : decode cX1_firstThroughInn 73 = .ok (.ireturn, 1) := by decide +kernel
theorem dX1_firstThroughInn_74 : decode cX1_firstThroughInn 74 = .ok (.aload_n 0, 1) := by decide +kernel
theorem dX1_firstThroughInn_75 : decode cX1_firstThroughInn 75 = .ok (.getfield 18, 3) := by decide +kernel
theorem dX1_firstThroughInn_78 : decode cX1_firstThroughInn 78 = .ok (.iconst 0, 1) := by decide +kernel
theorem dX1_firstThroughInn_79 : decode cX1_firstThroughInn 79 = .ok (.iaload, 1) := by decide +kernel
theorem dX1_firstThroughInn_80 : decode cX1_firstThroughInn 80 = .ok (.istore_n 3, 1) := by decide +kernel
theorem dX1_firstThroughInn_81 : decode cX1_firstThroughInn 81 = .ok (.aload_n 0, 1) := by decide +kernel
theorem dX1_firstThroughInn_82 : decode cX1_firstThroughInn 82 = .ok (.dup, 1) := by decide +kernel
theorem dX1_firstThroughInn_83 : decode cX1_firstThroughInn 83 = .ok (.getfield 45, 3) := by decide +kernel
theorem dX1_firstThroughInn_86 : decode cX1_firstThroughInn 86 = .ok (.iconst 1, 1) := by decide +kernel
theorem dX1_firstThroughInn_87 : decode cX1_firstThroughInn 87 = .ok (.isub, 1) := by decide +kernel
theorem dX1_firstThroughInn_88 : decode cX1_firstThroughInn 88 = .ok (.putfield 45, 3) := by decide +kernel
theorem dX1_firstThroughInn_91 : decode cX1_firstThroughInn 91 = .ok (.iconst 0, 1) := by decide +kernel
theorem dX1_firstThroughInn_92 : decode cX1_firstThroughInn 92 = .ok (.istore 4, 2) := by decide +kernel
theorem dX1_firstThroughInn_94 : decode cX1_firstThroughInn 94 = .ok (.iload 4, 2) := by decide +kernel
theorem dX1_firstThroughInn_96 : decode cX1_firstThroughInn 96 = .ok (.aload_n 0, 1) := by decide +kernel
theorem dX1_firstThroughInn_97 : decode cX1_firstThroughInn 97 = .ok (.getfield 45, 3) := by decide +kernel
theorem dX1_firstThroughInn_100 : decode cX1_firstThroughInn 100 = .ok (.if_icmp .ge 37, 3) := by decide +kernel
theorem dX1_firstThroughInn_103 : decode cX1_firstThroughInn 103 = .ok (.iload 4, 2) := by decide +kernel
theorem dX1_firstThroughInn_105 : decode cX1_firstThroughInn 105 = .ok (.iconst 1, 1) := by decide +kernel
theorem dX1_firstThroughInn_106 : decode cX1_firstThroughInn 106 = .ok (.iadd, 1) := by decide +kernel
theorem dX1_firstThroughInn_107 : decode cX1_firstThroughInn 107 = .ok (.aload_n 0, 1) := by decide +kernel
theorem dX1_firstThroughInn_108 : decode cX1_firstThroughInn 108 = .ok (.getfield 18, 3) := by decide +kernel
theorem dX1_firstThroughInn_111 : decode cX1_firstThroughInn 111 = .ok (.arraylength, 1) := by decide +kernel
theorem dX1_firstThroughInn_112 : decode cX1_firstThroughInn 112 = .ok (.if_icmp .ge 25, 3) := by decide +kernel
theorem dX1_firstThroughInn_115 : decode cX1_firstThroughInn 115 = .ok (.aload_n 0, 1) := by decide +kernel
theorem dX1_firstThroughInn_116 : decode cX1_firstThroughInn 116 = .ok (.getfield 18, 3) := by decide +kernel
theorem dX1_firstThroughInn_119 : decode cX1_firstThroughInn 119 = .ok (.iload 4, 2) := by decide +kernel
theorem dX1_firstThroughInn_121 : decode cX1_firstThroughInn 121 = .ok (.aload_n 0, 1) := by decide +kernel
theorem dX1_firstThroughInn_122 : decode cX1_firstThroughInn 122 = .ok (.getfield 18, 3) := by decide +kernel
theorem dX1_firstThroughInn_125 : decode cX1_firstThroughInn 125 = .ok (.iload 4, 2) := by decide +kernel
theorem dX1_firstThroughInn_127 : decode cX1_firstThroughInn 127 = .ok (.iconst 1, 1) := by decide +kernel
theorem dX1_firstThroughInn_128 : decode cX1_firstThroughInn 128 = .ok (.iadd, 1) := by decide +kernel
theorem dX1_firstThroughInn_129 : decode cX1_firstThroughInn 129 = .ok (.iaload, 1) := by decide +kernel
theorem dX1_firstThroughInn_130 : decode cX1_firstThroughInn 130 = .ok (.iastore, 1) := by decide +kernel
theorem dX1_firstThroughInn_131 : decode cX1_firstThroughInn 131 = .ok (.iinc 4 1, 3) := by decide +kernel
theorem dX1_firstThroughInn_134 : decode cX1_firstThroughInn 134 = .ok (.goto (-40), 3) := by decide +kernel
theorem dX1_firstThroughInn_137 : decode cX1_firstThroughInn 137 = .ok (.aload_n 0, 1) := by decide +kernel
theorem dX1_firstThroughInn_138 : decode cX1_firstThroughInn 138 = .ok (.getfield 45, 3) := by decide +kernel
theorem dX1_firstThroughInn_141 : decode cX1_firstThroughInn 141 = .ok (.iload_n 2, 1) := by decide +kernel
theorem dX1_firstThroughInn_142 : decode cX1_firstThroughInn 142 = .ok (.if_icmp .le 23, 3) := by decide +kernel
theorem dX1_firstThroughInn_145 : decode cX1_firstThroughInn 145 = .ok (.aload_n 0, 1) := by decide +kernel
theorem dX1_firstThroughInn_146 : decode cX1_firstThroughInn 146 = .ok (.dup, 1) := by decide +kernel
theorem dX1_firstThroughInn_147 : decode cX1_firstThroughInn 147 = .ok (.getfield 66, 3) := by decide +kernel
theorem dX1_firstThroughInn_150 : decode cX1_firstThroughInn 150 = .ok (.aload_n 0, 1) := by decide +kernel
theorem dX1_firstThroughInn_151 : decode cX1_firstThroughInn 151 = .ok (.getfield 45, 3) := by decide +kernel
theorem dX1_firstThroughInn_154 : decode cX1_firstThroughInn 154 = .ok (.iload_n 2, 1) := by decide +kernel
theorem dX1_firstThroughInn_155 : decode cX1_firstThroughInn 155 = .ok (.isub, 1) := by decide +kernel
theorem dX1_firstThroughInn_156 : decode cX1_firstThroughInn 156 = .ok (.iadd, 1) := by decide +kernel
theorem dX1_firstThroughInn_157 : decode cX1_firstThroughInn 157 = .ok (.putfield 66, 3) := by decide +kernel
theorem dX1_firstThroughInn_160 : decode cX1_firstThroughInn 160 = .ok (.aload_n 0, 1) := by decide +kernel
theorem dX1_firstThroughInn_161 : decode cX1_firstThroughInn 161 = .ok (.iload_n 2, 1) := by decide +kernel
theorem dX1_firstThroughInn_162 : decode cX1_firstThroughInn 162 = .ok (.putfield 45, 3) := by decide +kernel
theorem dX1_firstThroughInn_165 : decode cX1_firstThroughInn 165 = .ok (.iload_n 3, 1) := by decide +kernel
theorem dX1_firstThroughInn_166 : decode cX1_firstThroughInn 166 = .ok (.ireturn, 1) := by decide +kernel
theorem dX1_close_0 : decode cX1_close 0 = .ok (.iload_n 2, 1) := by decide +kernel
theorem dX1_close_1 : decode cX1_close 1 = .ok (.ifCond .ne 26, 3) := by decide +kernel
theorem dX1_close_4 : decode cX1_close 4 = .ok (.aload_n 0, 1) := by decide +kernel
theorem dX1_close_5 : decode cX1_close 5 = .ok (.dup, 1) := by decide +kernel
theorem dX1_close_6 : decode cX1_close 6 = .ok (.getfield 60, 3) := by decide +kernel
theorem dX1_close_9 : decode cX1_close 9 = .ok (.iconst 1, 1) := by decide +kernel
theorem dX1_close_10 : decode cX1_close 10 = .ok (.iadd, 1) := by decide +kernel
theorem dX1_close_11 : decode cX1_close 11 = .ok (.putfield 60, 3) := by decide +kernel
theorem dX1_close_14 : decode cX1_close 14 = .ok (.aload_n 0, 1) := by decide +kernel
theorem dX1_close_15 : decode cX1_close 15 = .ok (.dup, 1) := by decide +kernel
theorem dX1_close_16 : decode cX1_close 16 = .ok (.getfield 51, 3) := by decide +kernel
theorem dX1_close_19 : decode cX1_close 19 = .ok (.iconst 1, 1) := by decide +kernel
theorem dX1_close_20 : decode cX1_close 20 = .ok (.iadd, 1) := by decide +kernel
theorem dX1_close_21 : decode cX1_close 21 = .ok (.putfield 51, 3) := by decide +kernel
theorem dX1_close_24 : decode cX1_close 24 = .ok (.goto 23, 3) := by decide +kernel
theorem dX1_close_27 : decode cX1_close 27 = .ok (.aload_n 0, 1) := by decide +kernel
theorem dX1_close_28 : decode cX1_close 28 = .ok (.iconst 0, 1) := by decide +kernel
theorem dX1_close_29 : decode cX1_close 29 = .ok (.putfield 51, 3) := by decide +kernel
theorem dX1_close_32 : decode cX1_close 32 = .ok (.iload_n 2, 1) := by decide +kernel
theorem dX1_close_33 : decode cX1_close 33 = .ok (.iconst 2, 1) := by decide +kernel
theorem dX1_close_34 : decode cX1_close 34 = .ok (.if_icmp .ne 13, 3) := by decide +kernel
theorem dX1_close_37 : decode cX1_close 37 = .ok (.aload_n 0, 1) := by decide +kernel
theorem dX1_close_38 : decode cX1_close 38 = .ok (.dup, 1) := by decide +kernel
theorem dX1_close_39 : decode cX1_close 39 = .ok (.getfield 57, 3) := by decide +kernel
theorem dX1_close_42 : decode cX1_close 42 = .ok (.iconst 1, 1) := by decide +kernel
theorem dX1_close_43 : decode cX1_close 43 = .ok (.iadd, 1) := by decide +kernel
theorem dX1_close_44 : decode cX1_close 44 = .ok (.putfield 57, 3) := by decide +kernel
theorem dX1_close_47 : decode cX1_close 47 = .ok (.iload_n 1, 1) := by decide +kernel
theorem dX1_close_48 : decode cX1_close 48 = .ok (.ifCond .lt 32, 3) := by decide +kernel
theorem dX1_close_51 : decode cX1_close 51 = .ok (.iload_n 1, 1) := by decide +kernel
theorem dX1_close_52 : decode cX1_close 52 = .ok (.aload_n 0, 1) := by decide +kernel
theorem dX1_close_53 : decode cX1_close 53 = .ok (.getfield 15, 3) := by decide +kernel
theorem dX1_close_56 : decode cX1_close 56 = .ok (.arraylength, 1) := by decide +kernel
theorem dX1_close_57 : decode cX1_close 57 = .ok (.if_icmp .ge 23, 3) := by decide +kernel
theorem dX1_close_60 : decode cX1_close 60 = .ok (.aload_n 0, 1) := by decide +kernel
theorem dX1_close_61 : decode cX1_close 61 = .ok (.dup, 1) := by decide +kernel
theorem dX1_close_62 : decode cX1_close 62 = .ok (.getfield 54, 3) := by decide +kernel
theorem dX1_close_65 : decode cX1_close 65 = .ok (.iconst 1, 1) := by decide +kernel
theorem dX1_close_66 : decode cX1_close 66 = .ok (.iadd, 1) := by decide +kernel
theorem dX1_close_67 : decode cX1_close 67 = .ok (.putfield 54, 3) := by decide +kernel
theorem dX1_close_70 : decode cX1_close 70 = .ok (.aload_n 0, 1) := by decide +kernel
theorem dX1_close_71 : decode cX1_close 71 = .ok (.getfield 15, 3) := by decide +kernel
theorem dX1_close_74 : decode cX1_close 74 = .ok (.iload_n 1, 1) := by decide +kernel
theorem dX1_close_75 : decode cX1_close 75 = .ok (.aload_n 0, 1) := by decide +kernel
theorem dX1_close_76 : decode cX1_close 76 = .ok (.getfield 48, 3) := by decide +kernel
theorem dX1_close_79 : decode cX1_close 79 = .ok (.iastore, 1) := by decide +kernel
theorem dX1_close_80 : decode cX1_close 80 = .ok (.aload_n 0, 1) := by decide +kernel
theorem dX1_close_81 : decode cX1_close 81 = .ok (.getfield 48, 3) := by decide +kernel
theorem dX1_close_84 : decode cX1_close 84 = .ok (.bipush 60, 2) := by decide +kernel
theorem dX1_close_86 : decode cX1_close 86 = .ok (.irem, 1) := by decide +kernel
theorem dX1_close_87 : decode cX1_close 87 = .ok (.istore_n 3, 1) := by decide +kernel
theorem dX1_close_88 : decode cX1_close 88 = .ok (.iload_n 3, 1) := by decide +kernel
theorem dX1_close_89 : decode cX1_close 89 = .ok (.ifCond .lt 19, 3) := by decide +kernel
theorem dX1_close_92 : decode cX1_close 92 = .ok (.iload_n 3, 1) := by decide +kernel
theorem dX1_close_93 : decode cX1_close 93 = .ok (.aload_n 0, 1) := by decide +kernel
theorem dX1_close_94 : decode cX1_close 94 = .ok (.getfield 21, 3) := by decide +kernel
theorem dX1_close_97 : decode cX1_close 97 = .ok (.arraylength, 1) := by decide +kernel
theorem dX1_close_98 : decode cX1_close 98 = .ok (.if_icmp .ge 10, 3) := by decide +kernel
theorem dX1_close_101 : decode cX1_close 101 = .ok (.aload_n 0, 1) := by decide +kernel
theorem dX1_close_102 : decode cX1_close 102 = .ok (.getfield 21, 3) := by decide +kernel
theorem dX1_close_105 : decode cX1_close 105 = .ok (.iload_n 3, 1) := by decide +kernel
theorem dX1_close_106 : decode cX1_close 106 = .ok (.iload_n 1, 1) := by decide +kernel
theorem dX1_close_107 : decode cX1_close 107 = .ok (.iastore, 1) := by decide +kernel
theorem dX1_close_108 : decode cX1_close 108 = .ok (.aload_n 0, 1) := by decide +kernel
theorem dX1_close_109 : decode cX1_close 109 = .ok (.dup, 1) := by decide +kernel
theorem dX1_close_110 : decode cX1_close 110 = .ok (.getfield 48, 3) := by decide +kernel
theorem dX1_close_113 : decode cX1_close 113 = .ok (.iconst 1, 1) := by decide +kernel
theorem dX1_close_114 : decode cX1_close 114 = .ok (.iadd, 1) := by decide +kernel
theorem dX1_close_115 : decode cX1_close 115 = .ok (.putfield 48, 3) := by decide +kernel
theorem dX1_close_118 : decode cX1_close 118 = .ok (.return_, 1) := by decide +kernel
theorem dX1_isLatest_0 : decode cX1_isLatest 0 = .ok (.iload_n 1, 1) := by decide +kernel
theorem dX1_isLatest_1 : decode cX1_isLatest 1 = .ok (.ifCond .lt 26, 3) := by decide +kernel
theorem dX1_isLatest_4 : decode cX1_isLatest 4 = .ok (.iload_n 1, 1) := by decide +kernel
theorem dX1_isLatest_5 : decode cX1_isLatest 5 = .ok (.aload_n 0, 1) := by decide +kernel
theorem dX1_isLatest_6 : decode cX1_isLatest 6 = .ok (.getfield 48, 3) := by decide +kernel
theorem dX1_isLatest_9 : decode cX1_isLatest 9 = .ok (.if_icmp .ge 18, 3) := by decide +kernel
theorem dX1_isLatest_12 : decode cX1_isLatest 12 = .ok (.iload_n 1, 1) := by decide +kernel
theorem dX1_isLatest_13 : decode cX1_isLatest 13 = .ok (.aload_n 0, 1) := by decide +kernel
theorem dX1_isLatest_14 : decode cX1_isLatest 14 = .ok (.getfield 48, 3) := by decide +kernel
theorem dX1_isLatest_17 : decode cX1_isLatest 17 = .ok (.bipush 60, 2) := by decide +kernel
theorem dX1_isLatest_19 : decode cX1_isLatest 19 = .ok (.isub, 1) := by decide +kernel
theorem dX1_isLatest_20 : decode cX1_isLatest 20 = .ok (.if_icmp .lt 7, 3) := by decide +kernel
theorem dX1_isLatest_23 : decode cX1_isLatest 23 = .ok (.iconst 1, 1) := by decide +kernel
theorem dX1_isLatest_24 : decode cX1_isLatest 24 = .ok (.goto 4, 3) := by decide +kernel
theorem dX1_isLatest_27 : decode cX1_isLatest 27 = .ok (.iconst 0, 1) := by decide +kernel
theorem dX1_isLatest_28 : decode cX1_isLatest 28 = .ok (.ireturn, 1) := by decide +kernel
theorem dX1_blessedOn_0 : decode cX1_blessedOn 0 = .ok (.iload_n 1, 1) := by decide +kernel
theorem dX1_blessedOn_1 : decode cX1_blessedOn 1 = .ok (.bipush 60, 2) := by decide +kernel
theorem dX1_blessedOn_3 : decode cX1_blessedOn 3 = .ok (.irem, 1) := by decide +kernel
theorem dX1_blessedOn_4 : decode cX1_blessedOn 4 = .ok (.istore_n 2, 1) := by decide +kernel
theorem dX1_blessedOn_5 : decode cX1_blessedOn 5 = .ok (.aload_n 0, 1) := by decide +kernel
theorem dX1_blessedOn_6 : decode cX1_blessedOn 6 = .ok (.iload_n 1, 1) := by decide +kernel
theorem dX1_blessedOn_7 : decode cX1_blessedOn 7 = .ok (.invokevirtual 119, 3) := by decide +kernel
theorem dX1_blessedOn_10 : decode cX1_blessedOn 10 = .ok (.ifCond .eq 25, 3) := by decide +kernel
theorem dX1_blessedOn_13 : decode cX1_blessedOn 13 = .ok (.iload_n 2, 1) := by decide +kernel
theorem dX1_blessedOn_14 : decode cX1_blessedOn 14 = .ok (.ifCond .lt 21, 3) := by decide +kernel
theorem dX1_blessedOn_17 : decode cX1_blessedOn 17 = .ok (.iload_n 2, 1) := by decide +kernel
theorem dX1_blessedOn_18 : decode cX1_blessedOn 18 = .ok (.aload_n 0, 1) := by decide +kernel
theorem dX1_blessedOn_19 : decode cX1_blessedOn 19 = .ok (.getfield 21, 3) := by decide +kernel
theorem dX1_blessedOn_22 : decode cX1_blessedOn 22 = .ok (.arraylength, 1) := by decide +kernel
theorem dX1_blessedOn_23 : decode cX1_blessedOn 23 = .ok (.if_icmp .ge 12, 3) := by decide +kernel
theorem dX1_blessedOn_26 : decode cX1_blessedOn 26 = .ok (.aload_n 0, 1) := by decide +kernel
theorem dX1_blessedOn_27 : decode cX1_blessedOn 27 = .ok (.getfield 21, 3) := by decide +kernel
theorem dX1_blessedOn_30 : decode cX1_blessedOn 30 = .ok (.iload_n 2, 1) := by decide +kernel
theorem dX1_blessedOn_31 : decode cX1_blessedOn 31 = .ok (.iaload, 1) := by decide +kernel
theorem dX1_blessedOn_32 : decode cX1_blessedOn 32 = .ok (.goto 4, 3) := by decide +kernel
theorem dX1_blessedOn_35 : decode cX1_blessedOn 35 = .ok (.iconst (-1), 1) := by decide +kernel
theorem dX1_blessedOn_36 : decode cX1_blessedOn 36 = .ok (.ireturn, 1) := by decide +kernel
theorem dX2_init_0 : decode cX2_init 0 = .ok (.aload_n 0, 1) := by decide +kernel
theorem dX2_init_1 : decode cX2_init 1 = .ok (.invokespecial 3, 3) := by decide +kernel
theorem dX2_init_4 : decode cX2_init 4 = .ok (.aload_n 0, 1) := by decide +kernel
theorem dX2_init_5 : decode cX2_init 5 = .ok (.bipush 10, 2) := by decide +kernel
theorem dX2_init_7 : decode cX2_init 7 = .ok (.newarray .int, 2) := by decide +kernel
theorem dX2_init_9 : decode cX2_init 9 = .ok (.putfield 9, 3) := by decide +kernel
theorem dX2_init_12 : decode cX2_init 12 = .ok (.aload_n 0, 1) := by decide +kernel
theorem dX2_init_13 : decode cX2_init 13 = .ok (.bipush 10, 2) := by decide +kernel
theorem dX2_init_15 : decode cX2_init 15 = .ok (.newarray .int, 2) := by decide +kernel
theorem dX2_init_17 : decode cX2_init 17 = .ok (.putfield 15, 3) := by decide +kernel
theorem dX2_init_20 : decode cX2_init 20 = .ok (.aload_n 0, 1) := by decide +kernel
theorem dX2_init_21 : decode cX2_init 21 = .ok (.bipush 15, 2) := by decide +kernel
theorem dX2_init_23 : decode cX2_init 23 = .ok (.newarray .int, 2) := by decide +kernel
theorem dX2_init_25 : decode cX2_init 25 = .ok (.putfield 18, 3) := by decide +kernel
theorem dX2_init_28 : decode cX2_init 28 = .ok (.aload_n 0, 1) := by decide +kernel
theorem dX2_init_29 : decode cX2_init 29 = .ok (.bipush 15, 2) := by decide +kernel
theorem dX2_init_31 : decode cX2_init 31 = .ok (.newarray .int, 2) := by decide +kernel
theorem dX2_init_33 : decode cX2_init 33 = .ok (.putfield 21, 3) := by decide +kernel
theorem dX2_init_36 : decode cX2_init 36 = .ok (.return_, 1) := by decide +kernel
theorem dX2_clear_0 : decode cX2_clear 0 = .ok (.aload_n 0, 1) := by decide +kernel
theorem dX2_clear_1 : decode cX2_clear 1 = .ok (.iconst 0, 1) := by decide +kernel
theorem dX2_clear_2 : decode cX2_clear 2 = .ok (.putfield 24, 3) := by decide +kernel
theorem dX2_clear_5 : decode cX2_clear 5 = .ok (.aload_n 0, 1) := by decide +kernel
theorem dX2_clear_6 : decode cX2_clear 6 = .ok (.iconst 0, 1) := by decide +kernel
theorem dX2_clear_7 : decode cX2_clear 7 = .ok (.putfield 28, 3) := by decide +kernel
theorem dX2_clear_10 : decode cX2_clear 10 = .ok (.return_, 1) := by decide +kernel
theorem dX2_addSeen_0 : decode cX2_addSeen 0 = .ok (.aload_n 0, 1) := by decide +kernel
theorem dX2_addSeen_1 : decode cX2_addSeen 1 = .ok (.getfield 24, 3) := by decide +kernel
theorem dX2_addSeen_4 : decode cX2_addSeen 4 = .ok (.ifCond .lt 12, 3) := by decide +kernel
theorem dX2_addSeen_7 : decode cX2_addSeen 7 = .ok (.aload_n 0, 1) := by decide +kernel
theorem dX2_addSeen_8 : decode cX2_addSeen 8 = .ok (.getfield 24, 3) := by decide +kernel
theorem dX2_addSeen_11 : decode cX2_addSeen 11 = .ok (.bipush 10, 2) := by decide +kernel
theorem dX2_addSeen_13 : decode cX2_addSeen 13 = .ok (.if_icmp .lt 5, 3) := by decide +kernel
theorem dX2_addSeen_16 : decode cX2_addSeen 16 = .ok (.iconst 0, 1) := by decide +kernel
theorem dX2_addSeen_17 : decode cX2_addSeen 17 = .ok (.ireturn, 1) := by decide +kernel
theorem dX2_addSeen_18 : decode cX2_addSeen 18 = .ok (.aload_n 0, 1) := by decide +kernel
theorem dX2_addSeen_19 : decode cX2_addSeen 19 = .ok (.getfield 9, 3) := by decide +kernel
theorem dX2_addSeen_22 : decode cX2_addSeen 22 = .ok (.aload_n 0, 1) := by decide +kernel
theorem dX2_addSeen_23 : decode cX2_addSeen 23 = .ok (.getfield 24, 3) := by decide +kernel
theorem dX2_addSeen_26 : decode cX2_addSeen 26 = .ok (.iload_n 1, 1) := by decide +kernel
theorem dX2_addSeen_27 : decode cX2_addSeen 27 = .ok (.iastore, 1) := by decide +kernel
theorem dX2_addSeen_28 : decode cX2_addSeen 28 = .ok (.aload_n 0, 1) := by decide +kernel
theorem dX2_addSeen_29 : decode cX2_addSeen 29 = .ok (.getfield 15, 3) := by decide +kernel
theorem dX2_addSeen_32 : decode cX2_addSeen 32 = .ok (.aload_n 0, 1) := by decide +kernel
theorem dX2_addSeen_33 : decode cX2_addSeen 33 = .ok (.getfield 24, 3) := by decide +kernel
theorem dX2_addSeen_36 : decode cX2_addSeen 36 = .ok (.iload_n 2, 1) := by decide +kernel
theorem dX2_addSeen_37 : decode cX2_addSeen 37 = .ok (.iastore, 1) := by decide +kernel
theorem dX2_addSeen_38 : decode cX2_addSeen 38 = .ok (.aload_n 0, 1) := by decide +kernel
theorem dX2_addSeen_39 : decode cX2_addSeen 39 = .ok (.dup, 1) := by decide +kernel
theorem dX2_addSeen_40 : decode cX2_addSeen 40 = .ok (.getfield 24, 3) := by decide +kernel
theorem dX2_addSeen_43 : decode cX2_addSeen 43 = .ok (.iconst 1, 1) := by decide +kernel
theorem dX2_addSeen_44 : decode cX2_addSeen 44 = .ok (.iadd, 1) := by decide +kernel
theorem dX2_addSeen_45 : decode cX2_addSeen 45 = .ok (.putfield 24, 3) := by decide +kernel
theorem dX2_addSeen_48 : decode cX2_addSeen 48 = .ok (.iconst 1, 1) := by decide +kernel
theorem dX2_addSeen_49 : decode cX2_addSeen 49 = .ok (.ireturn, 1) := by decide +kernel
theorem dX2_addEntry_0 : decode cX2_addEntry 0 = .ok (.aload_n 0, 1) := by decide +kernel
theorem dX2_addEntry_1 : decode cX2_addEntry 1 = .ok (.getfield 28, 3) := by decide +kernel
theorem dX2_addEntry_4 : decode cX2_addEntry 4 = .ok (.ifCond .lt 12, 3) := by decide +kernel
theorem dX2_addEntry_7 : decode cX2_addEntry 7 = .ok (.aload_n 0, 1) := by decide +kernel
theorem dX2_addEntry_8 : decode cX2_addEntry 8 = .ok (.getfield 28, 3) := by decide +kernel
theorem dX2_addEntry_11 : decode cX2_addEntry 11 = .ok (.bipush 15, 2) := by decide +kernel
theorem dX2_addEntry_13 : decode cX2_addEntry 13 = .ok (.if_icmp .lt 5, 3) := by decide +kernel
theorem dX2_addEntry_16 : decode cX2_addEntry 16 = .ok (.iconst 0, 1) := by decide +kernel
theorem dX2_addEntry_17 : decode cX2_addEntry 17 = .ok (.ireturn, 1) := by decide +kernel
theorem dX2_addEntry_18 : decode cX2_addEntry 18 = .ok (.aload_n 0, 1) := by decide +kernel
theorem dX2_addEntry_19 : decode cX2_addEntry 19 = .ok (.getfield 18, 3) := by decide +kernel
theorem dX2_addEntry_22 : decode cX2_addEntry 22 = .ok (.aload_n 0, 1) := by decide +kernel
theorem dX2_addEntry_23 : decode cX2_addEntry 23 = .ok (.getfield 28, 3) := by decide +kernel
theorem dX2_addEntry_26 : decode cX2_addEntry 26 = .ok (.iload_n 1, 1) := by decide +kernel
theorem dX2_addEntry_27 : decode cX2_addEntry 27 = .ok (.iastore, 1) := by decide +kernel
theorem dX2_addEntry_28 : decode cX2_addEntry 28 = .ok (.aload_n 0, 1) := by decide +kernel
theorem dX2_addEntry_29 : decode cX2_addEntry 29 = .ok (.getfield 21, 3) := by decide +kernel
theorem dX2_addEntry_32 : decode cX2_addEntry 32 = .ok (.aload_n 0, 1) := by decide +kernel
theorem dX2_addEntry_33 : decode cX2_addEntry 33 = .ok (.getfield 28, 3) := by decide +kernel
theorem dX2_addEntry_36 : decode cX2_addEntry 36 = .ok (.iload_n 2, 1) := by decide +kernel
theorem dX2_addEntry_37 : decode cX2_addEntry 37 = .ok (.iastore, 1) := by decide +kernel
theorem dX2_addEntry_38 : decode cX2_addEntry 38 = .ok (.aload_n 0, 1) := by decide +kernel
theorem dX2_addEntry_39 : decode cX2_addEntry 39 = .ok (.dup, 1) := by decide +kernel
theorem dX2_addEntry_40 : decode cX2_addEntry 40 = .ok (.getfield 28, 3) := by decide +kernel
theorem dX2_addEntry_43 : decode cX2_addEntry 43 = .ok (.iconst 1, 1) := by decide +kernel
theorem dX2_addEntry_44 : decode cX2_addEntry 44 = .ok (.iadd, 1) := by decide +kernel
theorem dX2_addEntry_45 : decode cX2_addEntry 45 = .ok (.putfield 28, 3) := by decide +kernel
theorem dX2_addEntry_48 : decode cX2_addEntry 48 = .ok (.iconst 1, 1) := by decide +kernel
theorem dX2_addEntry_49 : decode cX2_addEntry 49 = .ok (.ireturn, 1) := by decide +kernel
theorem dX2_fitting_0 : decode cX2_fitting 0 = .ok (.iconst 0, 1) := by decide +kernel
theorem dX2_fitting_1 : decode cX2_fitting 1 = .ok (.istore 4, 2) := by decide +kernel
theorem dX2_fitting_3 : decode cX2_fitting 3 = .ok (.iconst 0, 1) := by decide +kernel
theorem dX2_fitting_4 : decode cX2_fitting 4 = .ok (.istore 5, 2) := by decide +kernel
theorem dX2_fitting_6 : decode cX2_fitting 6 = .ok (.iload 5, 2) := by decide +kernel
theorem dX2_fitting_8 : decode cX2_fitting 8 = .ok (.aload_n 1, 1) := by decide +kernel
theorem dX2_fitting_9 : decode cX2_fitting 9 = .ok (.iload_n 3, 1) := by decide +kernel
theorem dX2_fitting_10 : decode cX2_fitting 10 = .ok (.invokevirtual 31, 3) := by decide +kernel
theorem dX2_fitting_13 : decode cX2_fitting 13 = .ok (.if_icmp .ge 30, 3) := by decide +kernel
theorem dX2_fitting_16 : decode cX2_fitting 16 = .ok (.aload_n 0, 1) := by decide +kernel
theorem dX2_fitting_17 : decode cX2_fitting 17 = .ok (.aload_n 1, 1) := by decide +kernel
theorem dX2_fitting_18 : decode cX2_fitting 18 = .ok (.aload_n 2, 1) := by decide +kernel
theorem dX2_fitting_19 : decode cX2_fitting 19 = .ok (.iload_n 3, 1) := by decide +kernel
theorem dX2_fitting_20 : decode cX2_fitting 20 = .ok (.iload 5, 2) := by decide +kernel
theorem dX2_fitting_22 : decode cX2_fitting 22 = .ok (.invokevirtual 37, 3) := by decide +kernel
theorem dX2_fitting_25 : decode cX2_fitting 25 = .ok (.ifCond .eq 12, 3) := by decide +kernel
theorem dX2_fitting_28 : decode cX2_fitting 28 = .ok (.iload 4, 2) := by decide +kernel
theorem dX2_fitting_30 : decode cX2_fitting 30 = .ok (.iconst 1, 1) := by decide +kernel
theorem dX2_fitting_31 : decode cX2_fitting 31 = .ok (.iload 5, 2) := by decide +kernel
theorem dX2_fitting_33 : decode cX2_fitting 33 = .ok (.ishl, 1) := by decide +kernel
theorem dX2_fitting_34 : decode cX2_fitting 34 = .ok (.ior, 1) := by decide +kernel
theorem dX2_fitting_35 : decode cX2_fitting 35 = .ok (.istore 4, 2) := by decide +kernel
theorem dX2_fitting_37 : decode cX2_fitting 37 = .ok (.iinc 5 1, 3) := by decide +kernel
theorem dX2_fitting_40 : decode cX2_fitting 40 = .ok (.goto (-34), 3) := by decide +kernel
theorem dX2_fitting_43 : decode cX2_fitting 43 = .ok (.iload 4, 2) := by decide +kernel
theorem dX2_fitting_45 : decode cX2_fitting 45 = .ok (.ireturn, 1) := by decide +kernel
theorem dX2_fits_0 : decode cX2_fits 0 = .ok (.iconst 0, 1) := by decide +kernel
theorem dX2_fits_1 : decode cX2_fits 1 = .ok (.istore 5, 2) := by decide +kernel
theorem dX2_fits_3 : decode cX2_fits 3 = .ok (.iload 5, 2) := by decide +kernel
theorem dX2_fits_5 : decode cX2_fits 5 = .ok (.aload_n 0, 1) := by decide +kernel
theorem dX2_fits_6 : decode cX2_fits 6 = .ok (.getfield 24, 3) := by decide +kernel
theorem dX2_fits_9 : decode cX2_fits 9 = .ok (.if_icmp .ge 43, 3) := by decide +kernel
theorem dX2_fits_12 : decode cX2_fits 12 = .ok (.iload 5, 2) := by decide +kernel
theorem dX2_fits_14 : decode cX2_fits 14 = .ok (.bipush 10, 2) := by decide +kernel
theorem dX2_fits_16 : decode cX2_fits 16 = .ok (.if_icmp .ge 36, 3) := by decide +kernel
theorem dX2_fits_19 : decode cX2_fits 19 = .ok (.aload_n 2, 1) := by decide +kernel
theorem dX2_fits_20 : decode cX2_fits 20 = .ok (.aload_n 1, 1) := by decide +kernel
theorem dX2_fits_21 : decode cX2_fits 21 = .ok (.iload_n 3, 1) := by decide +kernel
theorem dX2_fits_22 : decode cX2_fits 22 = .ok (.iload 4, 2) := by decide +kernel
theorem dX2_fits_24 : decode cX2_fits 24 = .ok (.aload_n 0, 1) := by decide +kernel
theorem dX2_fits_25 : decode cX2_fits 25 = .ok (.getfield 9, 3) := by decide +kernel
theorem dX2_fits_28 : decode cX2_fits 28 = .ok (.iload 5, 2) := by decide +kernel
theorem dX2_fits_30 : decode cX2_fits 30 = .ok (.iaload, 1) := by decide +kernel
theorem dX2_fits_31 : decode cX2_fits 31 = .ok (.invokevirtual 41, 3) := by decide +kernel
theorem dX2_fits_34 : decode cX2_fits 34 = .ok (.aload_n 0, 1) := by decide +kernel
theorem dX2_fits_35 : decode cX2_fits 35 = .ok (.getfield 15, 3) := by decide +kernel
theorem dX2_fits_38 : decode cX2_fits 38 = .ok (.iload 5, 2) := by decide +kernel
theorem dX2_fits_40 : decode cX2_fits 40 = .ok (.iaload, 1) := by decide +kernel
theorem dX2_fits_41 : decode cX2_fits 41 = .ok (.if_icmp .eq 5, 3) := by decide +kernel
theorem dX2_fits_44 : decode cX2_fits 44 = .ok (.iconst 0, 1) := by decide +kernel
theorem dX2_fits_45 : decode cX2_fits 45 = .ok (.ireturn, 1) := by decide +kernel
theorem dX2_fits_46 : decode cX2_fits 46 = .ok (.iinc 5 1, 3) := by decide +kernel
theorem dX2_fits_49 : decode cX2_fits 49 = .ok (.goto (-46), 3) := by decide +kernel
theorem dX2_fits_52 : decode cX2_fits 52 = .ok (.iconst 1, 1) := by decide +kernel
theorem dX2_fits_53 : decode cX2_fits 53 = .ok (.ireturn, 1) := by decide +kernel
theorem dX2_firstWrong_0 : decode cX2_firstWrong 0 = .ok (.iconst 0, 1) := by decide +kernel
theorem dX2_firstWrong_1 : decode cX2_firstWrong 1 = .ok (.istore_n 2, 1) := by decide +kernel
theorem dX2_firstWrong_2 : decode cX2_firstWrong 2 = .ok (.iload_n 2, 1) := by decide +kernel
theorem dX2_firstWrong_3 : decode cX2_firstWrong 3 = .ok (.aload_n 0, 1) := by decide +kernel
theorem dX2_firstWrong_4 : decode cX2_firstWrong 4 = .ok (.getfield 28, 3) := by decide +kernel
theorem dX2_firstWrong_7 : decode cX2_firstWrong 7 = .ok (.if_icmp .ge 46, 3) := by decide +kernel
theorem dX2_firstWrong_10 : decode cX2_firstWrong 10 = .ok (.iload_n 2, 1) := by decide +kernel
theorem dX2_firstWrong_11 : decode cX2_firstWrong 11 = .ok (.bipush 15, 2) := by decide +kernel
theorem dX2_firstWrong_13 : decode cX2_firstWrong 13 = .ok (.if_icmp .ge 40, 3) := by decide +kernel
