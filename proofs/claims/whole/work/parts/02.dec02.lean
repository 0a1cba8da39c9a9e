theorem dX2_firstWrong_16 : decode cX2_firstWrong 16 = .ok (.aload_n 0, 1) := by decide +kernel
theorem dX2_firstWrong_17 : decode cX2_firstWrong 17 = .ok (.getfield 18, 3) := by decide +kernel
theorem dX2_firstWrong_20 : decode cX2_firstWrong 20 = .ok (.iload_n 2, 1) := by decide +kernel
theorem dX2_firstWrong_21 : decode cX2_firstWrong 21 = .ok (.iaload, 1) := by decide +kernel
theorem dX2_firstWrong_22 : decode cX2_firstWrong 22 = .ok (.istore_n 3, 1) := by decide +kernel
theorem dX2_firstWrong_23 : decode cX2_firstWrong 23 = .ok (.aload_n 1, 1) := by decide +kernel
theorem dX2_firstWrong_24 : decode cX2_firstWrong 24 = .ok (.iload_n 3, 1) := by decide +kernel
theorem dX2_firstWrong_25 : decode cX2_firstWrong 25 = .ok (.invokevirtual 47, 3) := by decide +kernel
theorem dX2_firstWrong_28 : decode cX2_firstWrong 28 = .ok (.ifCond .eq 17, 3) := by decide +kernel
theorem dX2_firstWrong_31 : decode cX2_firstWrong 31 = .ok (.aload_n 1, 1) := by decide +kernel
theorem dX2_firstWrong_32 : decode cX2_firstWrong 32 = .ok (.iload_n 3, 1) := by decide +kernel
theorem dX2_firstWrong_33 : decode cX2_firstWrong 33 = .ok (.invokevirtual 51, 3) := by decide +kernel
theorem dX2_firstWrong_36 : decode cX2_firstWrong 36 = .ok (.aload_n 0, 1) := by decide +kernel
theorem dX2_firstWrong_37 : decode cX2_firstWrong 37 = .ok (.getfield 21, 3) := by decide +kernel
theorem dX2_firstWrong_40 : decode cX2_firstWrong 40 = .ok (.iload_n 2, 1) := by decide +kernel
theorem dX2_firstWrong_41 : decode cX2_firstWrong 41 = .ok (.iaload, 1) := by decide +kernel
theorem dX2_firstWrong_42 : decode cX2_firstWrong 42 = .ok (.if_icmp .eq 5, 3) := by decide +kernel
theorem dX2_firstWrong_45 : decode cX2_firstWrong 45 = .ok (.iload_n 2, 1) := by decide +kernel
theorem dX2_firstWrong_46 : decode cX2_firstWrong 46 = .ok (.ireturn, 1) := by decide +kernel
theorem dX2_firstWrong_47 : decode cX2_firstWrong 47 = .ok (.iinc 2 1, 3) := by decide +kernel
theorem dX2_firstWrong_50 : decode cX2_firstWrong 50 = .ok (.goto (-48), 3) := by decide +kernel
theorem dX2_firstWrong_53 : decode cX2_firstWrong 53 = .ok (.iconst (-1), 1) := by decide +kernel
theorem dX2_firstWrong_54 : decode cX2_firstWrong 54 = .ok (.ireturn, 1) := by decide +kernel
theorem dX3_init_0 : decode cX3_init 0 = .ok (.aload_n 0, 1) := by decide +kernel
theorem dX3_init_1 : decode cX3_init 1 = .ok (.invokespecial 3, 3) := by decide +kernel
theorem dX3_init_4 : decode cX3_init 4 = .ok (.aload_n 0, 1) := by decide +kernel
theorem dX3_init_5 : decode cX3_init 5 = .ok (.bipush 20, 2) := by decide +kernel
theorem dX3_init_7 : decode cX3_init 7 = .ok (.anewarray 9, 3) := by decide +kernel
theorem dX3_init_10 : decode cX3_init 10 = .ok (.putfield 11, 3) := by decide +kernel
theorem dX3_init_13 : decode cX3_init 13 = .ok (.iconst 0, 1) := by decide +kernel
theorem dX3_init_14 : decode cX3_init 14 = .ok (.istore_n 1, 1) := by decide +kernel
theorem dX3_init_15 : decode cX3_init 15 = .ok (.iload_n 1, 1) := by decide +kernel
theorem dX3_init_16 : decode cX3_init 16 = .ok (.aload_n 0, 1) := by decide +kernel
theorem dX3_init_17 : decode cX3_init 17 = .ok (.getfield 11, 3) := by decide +kernel
theorem dX3_init_20 : decode cX3_init 20 = .ok (.arraylength, 1) := by decide +kernel
theorem dX3_init_21 : decode cX3_init 21 = .ok (.if_icmp .ge 22, 3) := by decide +kernel
theorem dX3_init_24 : decode cX3_init 24 = .ok (.aload_n 0, 1) := by decide +kernel
theorem dX3_init_25 : decode cX3_init 25 = .ok (.getfield 11, 3) := by decide +kernel
theorem dX3_init_28 : decode cX3_init 28 = .ok (.iload_n 1, 1) := by decide +kernel
theorem dX3_init_29 : decode cX3_init 29 = .ok (.new 9, 3) := by decide +kernel
theorem dX3_init_32 : decode cX3_init 32 = .ok (.dup, 1) := by decide +kernel
theorem dX3_init_33 : decode cX3_init 33 = .ok (.invokespecial 17, 3) := by decide +kernel
theorem dX3_init_36 : decode cX3_init 36 = .ok (.aastore, 1) := by decide +kernel
theorem dX3_init_37 : decode cX3_init 37 = .ok (.iinc 1 1, 3) := by decide +kernel
theorem dX3_init_40 : decode cX3_init 40 = .ok (.goto (-25), 3) := by decide +kernel
theorem dX3_init_43 : decode cX3_init 43 = .ok (.return_, 1) := by decide +kernel
theorem dX3_clear_0 : decode cX3_clear 0 = .ok (.aload_n 0, 1) := by decide +kernel
theorem dX3_clear_1 : decode cX3_clear 1 = .ok (.iconst 0, 1) := by decide +kernel
theorem dX3_clear_2 : decode cX3_clear 2 = .ok (.putfield 18, 3) := by decide +kernel
theorem dX3_clear_5 : decode cX3_clear 5 = .ok (.return_, 1) := by decide +kernel
theorem dX3_push_0 : decode cX3_push 0 = .ok (.aload_n 0, 1) := by decide +kernel
theorem dX3_push_1 : decode cX3_push 1 = .ok (.getfield 22, 3) := by decide +kernel
theorem dX3_push_4 : decode cX3_push 4 = .ok (.ifCond .lt 15, 3) := by decide +kernel
theorem dX3_push_7 : decode cX3_push 7 = .ok (.aload_n 0, 1) := by decide +kernel
theorem dX3_push_8 : decode cX3_push 8 = .ok (.getfield 22, 3) := by decide +kernel
theorem dX3_push_11 : decode cX3_push 11 = .ok (.aload_n 0, 1) := by decide +kernel
theorem dX3_push_12 : decode cX3_push 12 = .ok (.getfield 11, 3) := by decide +kernel
theorem dX3_push_15 : decode cX3_push 15 = .ok (.arraylength, 1) := by decide +kernel
theorem dX3_push_16 : decode cX3_push 16 = .ok (.if_icmp .lt 7, 3) := by decide +kernel
theorem dX3_push_19 : decode cX3_push 19 = .ok (.aconst_null, 1) := by decide +kernel
theorem dX3_push_20 : decode cX3_push 20 = .ok (.goto 12, 3) := by decide +kernel
theorem dX3_push_23 : decode cX3_push 23 = .ok (.aload_n 0, 1) := by decide +kernel
theorem dX3_push_24 : decode cX3_push 24 = .ok (.getfield 11, 3) := by decide +kernel
theorem dX3_push_27 : decode cX3_push 27 = .ok (.aload_n 0, 1) := by decide +kernel
theorem dX3_push_28 : decode cX3_push 28 = .ok (.getfield 22, 3) := by decide +kernel
theorem dX3_push_31 : decode cX3_push 31 = .ok (.aaload, 1) := by decide +kernel
theorem dX3_push_32 : decode cX3_push 32 = .ok (.astore_n 2, 1) := by decide +kernel
theorem dX3_push_33 : decode cX3_push 33 = .ok (.aload_n 2, 1) := by decide +kernel
theorem dX3_push_34 : decode cX3_push 34 = .ok (.ifnonnull 4, 3) := by decide +kernel
theorem dX3_push_37 : decode cX3_push 37 = .ok (.return_, 1) := by decide +kernel
theorem dX3_push_38 : decode cX3_push 38 = .ok (.aload_n 2, 1) := by decide +kernel
theorem dX3_push_39 : decode cX3_push 39 = .ok (.aload_n 1, 1) := by decide +kernel
theorem dX3_push_40 : decode cX3_push 40 = .ok (.invokevirtual 25, 3) := by decide +kernel
theorem dX3_push_43 : decode cX3_push 43 = .ok (.aload_n 0, 1) := by decide +kernel
theorem dX3_push_44 : decode cX3_push 44 = .ok (.aload_n 0, 1) := by decide +kernel
theorem dX3_push_45 : decode cX3_push 45 = .ok (.getfield 22, 3) := by decide +kernel
theorem dX3_push_48 : decode cX3_push 48 = .ok (.iconst 1, 1) := by decide +kernel
theorem dX3_push_49 : decode cX3_push 49 = .ok (.iadd, 1) := by decide +kernel
theorem dX3_push_50 : decode cX3_push 50 = .ok (.bipush 20, 2) := by decide +kernel
theorem dX3_push_52 : decode cX3_push 52 = .ok (.irem, 1) := by decide +kernel
theorem dX3_push_53 : decode cX3_push 53 = .ok (.putfield 22, 3) := by decide +kernel
theorem dX3_push_56 : decode cX3_push 56 = .ok (.aload_n 0, 1) := by decide +kernel
theorem dX3_push_57 : decode cX3_push 57 = .ok (.getfield 18, 3) := by decide +kernel
theorem dX3_push_60 : decode cX3_push 60 = .ok (.bipush 20, 2) := by decide +kernel
theorem dX3_push_62 : decode cX3_push 62 = .ok (.if_icmp .ge 13, 3) := by decide +kernel
theorem dX3_push_65 : decode cX3_push 65 = .ok (.aload_n 0, 1) := by decide +kernel
theorem dX3_push_66 : decode cX3_push 66 = .ok (.dup, 1) := by decide +kernel
theorem dX3_push_67 : decode cX3_push 67 = .ok (.getfield 18, 3) := by decide +kernel
theorem dX3_push_70 : decode cX3_push 70 = .ok (.iconst 1, 1) := by decide +kernel
theorem dX3_push_71 : decode cX3_push 71 = .ok (.iadd, 1) := by decide +kernel
theorem dX3_push_72 : decode cX3_push 72 = .ok (.putfield 18, 3) := by decide +kernel
theorem dX3_push_75 : decode cX3_push 75 = .ok (.return_, 1) := by decide +kernel
theorem dX3_pop_0 : decode cX3_pop 0 = .ok (.aload_n 0, 1) := by decide +kernel
theorem dX3_pop_1 : decode cX3_pop 1 = .ok (.getfield 22, 3) := by decide +kernel
theorem dX3_pop_4 : decode cX3_pop 4 = .ok (.bipush 20, 2) := by decide +kernel
theorem dX3_pop_6 : decode cX3_pop 6 = .ok (.iadd, 1) := by decide +kernel
theorem dX3_pop_7 : decode cX3_pop 7 = .ok (.iconst 1, 1) := by decide +kernel
theorem dX3_pop_8 : decode cX3_pop 8 = .ok (.isub, 1) := by decide +kernel
theorem dX3_pop_9 : decode cX3_pop 9 = .ok (.bipush 20, 2) := by decide +kernel
theorem dX3_pop_11 : decode cX3_pop 11 = .ok (.irem, 1) := by decide +kernel
theorem dX3_pop_12 : decode cX3_pop 12 = .ok (.istore_n 2, 1) := by decide +kernel
theorem dX3_pop_13 : decode cX3_pop 13 = .ok (.aload_n 0, 1) := by decide +kernel
theorem dX3_pop_14 : decode cX3_pop 14 = .ok (.getfield 18, 3) := by decide +kernel
theorem dX3_pop_17 : decode cX3_pop 17 = .ok (.iconst 1, 1) := by decide +kernel
theorem dX3_pop_18 : decode cX3_pop 18 = .ok (.if_icmp .lt 16, 3) := by decide +kernel
theorem dX3_pop_21 : decode cX3_pop 21 = .ok (.iload_n 2, 1) := by decide +kernel
theorem dX3_pop_22 : decode cX3_pop 22 = .ok (.ifCond .lt 12, 3) := by decide +kernel
theorem dX3_pop_25 : decode cX3_pop 25 = .ok (.iload_n 2, 1) := by decide +kernel
theorem dX3_pop_26 : decode cX3_pop 26 = .ok (.aload_n 0, 1) := by decide +kernel
theorem dX3_pop_27 : decode cX3_pop 27 = .ok (.getfield 11, 3) := by decide +kernel
theorem dX3_pop_30 : decode cX3_pop 30 = .ok (.arraylength, 1) := by decide +kernel
theorem dX3_pop_31 : decode cX3_pop 31 = .ok (.if_icmp .lt 7, 3) := by decide +kernel
theorem dX3_pop_34 : decode cX3_pop 34 = .ok (.aconst_null, 1) := by decide +kernel
theorem dX3_pop_35 : decode cX3_pop 35 = .ok (.goto 9, 3) := by decide +kernel
theorem dX3_pop_38 : decode cX3_pop 38 = .ok (.aload_n 0, 1) := by decide +kernel
theorem dX3_pop_39 : decode cX3_pop 39 = .ok (.getfield 11, 3) := by decide +kernel
theorem dX3_pop_42 : decode cX3_pop 42 = .ok (.iload_n 2, 1) := by decide +kernel
theorem dX3_pop_43 : decode cX3_pop 43 = .ok (.aaload, 1) := by decide +kernel
theorem dX3_pop_44 : decode cX3_pop 44 = .ok (.astore_n 3, 1) := by decide +kernel
theorem dX3_pop_45 : decode cX3_pop 45 = .ok (.aload_n 3, 1) := by decide +kernel
theorem dX3_pop_46 : decode cX3_pop 46 = .ok (.ifnonnull 4, 3) := by decide +kernel
theorem dX3_pop_49 : decode cX3_pop 49 = .ok (.return_, 1) := by decide +kernel
theorem dX3_pop_50 : decode cX3_pop 50 = .ok (.aload_n 1, 1) := by decide +kernel
theorem dX3_pop_51 : decode cX3_pop 51 = .ok (.aload_n 3, 1) := by decide +kernel
theorem dX3_pop_52 : decode cX3_pop 52 = .ok (.invokevirtual 25, 3) := by decide +kernel
theorem dX3_pop_55 : decode cX3_pop 55 = .ok (.aload_n 0, 1) := by decide +kernel
theorem dX3_pop_56 : decode cX3_pop 56 = .ok (.iload_n 2, 1) := by decide +kernel
theorem dX3_pop_57 : decode cX3_pop 57 = .ok (.putfield 22, 3) := by decide +kernel
theorem dX3_pop_60 : decode cX3_pop 60 = .ok (.aload_n 0, 1) := by decide +kernel
theorem dX3_pop_61 : decode cX3_pop 61 = .ok (.dup, 1) := by decide +kernel
theorem dX3_pop_62 : decode cX3_pop 62 = .ok (.getfield 18, 3) := by decide +kernel
theorem dX3_pop_65 : decode cX3_pop 65 = .ok (.iconst 1, 1) := by decide +kernel
theorem dX3_pop_66 : decode cX3_pop 66 = .ok (.isub, 1) := by decide +kernel
theorem dX3_pop_67 : decode cX3_pop 67 = .ok (.putfield 18, 3) := by decide +kernel
theorem dX3_pop_70 : decode cX3_pop 70 = .ok (.return_, 1) := by decide +kernel
theorem dX4_init_0 : decode cX4_init 0 = .ok (.aload_n 0, 1) := by decide +kernel
theorem dX4_init_1 : decode cX4_init 1 = .ok (.invokespecial 3, 3) := by decide +kernel
theorem dX4_init_4 : decode cX4_init 4 = .ok (.aload_n 0, 1) := by decide +kernel
theorem dX4_init_5 : decode cX4_init 5 = .ok (.bipush 10, 2) := by decide +kernel
theorem dX4_init_7 : decode cX4_init 7 = .ok (.newarray .int, 2) := by decide +kernel
theorem dX4_init_9 : decode cX4_init 9 = .ok (.putfield 9, 3) := by decide +kernel
theorem dX4_init_12 : decode cX4_init 12 = .ok (.return_, 1) := by decide +kernel
theorem dX4_make_0 : decode cX4_make 0 = .ok (.aload_n 0, 1) := by decide +kernel
theorem dX4_make_1 : decode cX4_make 1 = .ok (.iload_n 2, 1) := by decide +kernel
theorem dX4_make_2 : decode cX4_make 2 = .ok (.putfield 15, 3) := by decide +kernel
theorem dX4_make_5 : decode cX4_make 5 = .ok (.aload_n 0, 1) := by decide +kernel
theorem dX4_make_6 : decode cX4_make 6 = .ok (.iload_n 3, 1) := by decide +kernel
theorem dX4_make_7 : decode cX4_make 7 = .ok (.aload_n 0, 1) := by decide +kernel
theorem dX4_make_8 : decode cX4_make 8 = .ok (.getfield 9, 3) := by decide +kernel
theorem dX4_make_11 : decode cX4_make 11 = .ok (.arraylength, 1) := by decide +kernel
theorem dX4_make_12 : decode cX4_make 12 = .ok (.invokestatic 19, 3) := by decide +kernel
theorem dX4_make_15 : decode cX4_make 15 = .ok (.putfield 25, 3) := by decide +kernel
theorem dX4_make_18 : decode cX4_make 18 = .ok (.aload_n 0, 1) := by decide +kernel
theorem dX4_make_19 : decode cX4_make 19 = .ok (.iconst (-1), 1) := by decide +kernel
theorem dX4_make_20 : decode cX4_make 20 = .ok (.putfield 28, 3) := by decide +kernel
theorem dX4_make_23 : decode cX4_make 23 = .ok (.iconst 0, 1) := by decide +kernel
theorem dX4_make_24 : decode cX4_make 24 = .ok (.istore 4, 2) := by decide +kernel
theorem dX4_make_26 : decode cX4_make 26 = .ok (.iload 4, 2) := by decide +kernel
theorem dX4_make_28 : decode cX4_make 28 = .ok (.aload_n 0, 1) := by decide +kernel
theorem dX4_make_29 : decode cX4_make 29 = .ok (.getfield 25, 3) := by decide +kernel
theorem dX4_make_32 : decode cX4_make 32 = .ok (.if_icmp .ge 26, 3) := by decide +kernel
theorem dX4_make_35 : decode cX4_make 35 = .ok (.aload_n 1, 1) := by decide +kernel
theorem dX4_make_36 : decode cX4_make 36 = .ok (.iload_n 2, 1) := by decide +kernel
theorem dX4_make_37 : decode cX4_make 37 = .ok (.iload 4, 2) := by decide +kernel
theorem dX4_make_39 : decode cX4_make 39 = .ok (.iadd, 1) := by decide +kernel
theorem dX4_make_40 : decode cX4_make 40 = .ok (.invokevirtual 31, 3) := by decide +kernel
theorem dX4_make_43 : decode cX4_make 43 = .ok (.ifCond .eq 9, 3) := by decide +kernel
theorem dX4_make_46 : decode cX4_make 46 = .ok (.aload_n 0, 1) := by decide +kernel
theorem dX4_make_47 : decode cX4_make 47 = .ok (.iload 4, 2) := by decide +kernel
theorem dX4_make_49 : decode cX4_make 49 = .ok (.putfield 28, 3) := by decide +kernel
theorem dX4_make_52 : decode cX4_make 52 = .ok (.iinc 4 1, 3) := by decide +kernel
theorem dX4_make_55 : decode cX4_make 55 = .ok (.goto (-29), 3) := by decide +kernel
theorem dX4_make_58 : decode cX4_make 58 = .ok (.iconst 0, 1) := by decide +kernel
theorem dX4_make_59 : decode cX4_make 59 = .ok (.istore 4, 2) := by decide +kernel
theorem dX4_make_61 : decode cX4_make 61 = .ok (.iconst 0, 1) := by decide +kernel
theorem dX4_make_62 : decode cX4_make 62 = .ok (.istore 5, 2) := by decide +kernel
theorem dX4_make_64 : decode cX4_make 64 = .ok (.iload 5, 2) := by decide +kernel
theorem dX4_make_66 : decode cX4_make 66 = .ok (.aload_n 0, 1) := by decide +kernel
theorem dX4_make_67 : decode cX4_make 67 = .ok (.getfield 25, 3) := by decide +kernel
theorem dX4_make_70 : decode cX4_make 70 = .ok (.if_icmp .ge 58, 3) := by decide +kernel
theorem dX4_make_73 : decode cX4_make 73 = .ok (.aload_n 0, 1) := by decide +kernel
theorem dX4_make_74 : decode cX4_make 74 = .ok (.aload_n 1, 1) := by decide +kernel
theorem dX4_make_75 : decode cX4_make 75 = .ok (.iload 5, 2) := by decide +kernel
theorem dX4_make_77 : decode cX4_make 77 = .ok (.invokevirtual 37, 3) := by decide +kernel
theorem dX4_make_80 : decode cX4_make 80 = .ok (.istore 6, 2) := by decide +kernel
theorem dX4_make_82 : decode cX4_make 82 = .ok (.iload 6, 2) := by decide +kernel
theorem dX4_make_84 : decode cX4_make 84 = .ok (.ifCond .lt 13, 3) := by decide +kernel
theorem dX4_make_87 : decode cX4_make 87 = .ok (.iload 6, 2) := by decide +kernel
theorem dX4_make_89 : decode cX4_make 89 = .ok (.aload_n 1, 1) := by decide +kernel
theorem dX4_make_90 : decode cX4_make 90 = .ok (.getfield 41, 3) := by decide +kernel
theorem dX4_make_93 : decode cX4_make 93 = .ok (.arraylength, 1) := by decide +kernel
theorem dX4_make_94 : decode cX4_make 94 = .ok (.if_icmp .lt 5, 3) := by decide +kernel
theorem dX4_make_97 : decode cX4_make 97 = .ok (.iconst (-1), 1) := by decide +kernel
theorem dX4_make_98 : decode cX4_make 98 = .ok (.ireturn, 1) := by decide +kernel
theorem dX4_make_99 : decode cX4_make 99 = .ok (.aload_n 0, 1) := by decide +kernel
theorem dX4_make_100 : decode cX4_make 100 = .ok (.getfield 9, 3) := by decide +kernel
theorem dX4_make_103 : decode cX4_make 103 = .ok (.iload 5, 2) := by decide +kernel
theorem dX4_make_105 : decode cX4_make 105 = .ok (.iload 6, 2) := by decide +kernel
theorem dX4_make_107 : decode cX4_make 107 = .ok (.iastore, 1) := by decide +kernel
theorem dX4_make_108 : decode cX4_make 108 = .ok (.iload 4, 2) := by decide +kernel
theorem dX4_make_110 : decode cX4_make 110 = .ok (.iconst 2, 1) := by decide +kernel
theorem dX4_make_111 : decode cX4_make 111 = .ok (.aload_n 1, 1) := by decide +kernel
theorem dX4_make_112 : decode cX4_make 112 = .ok (.getfield 41, 3) := by decide +kernel
theorem dX4_make_115 : decode cX4_make 115 = .ok (.iload 6, 2) := by decide +kernel
theorem dX4_make_117 : decode cX4_make 117 = .ok (.iaload, 1) := by decide +kernel
theorem dX4_make_118 : decode cX4_make 118 = .ok (.imul, 1) := by decide +kernel
theorem dX4_make_119 : decode cX4_make 119 = .ok (.iadd, 1) := by decide +kernel
theorem dX4_make_120 : decode cX4_make 120 = .ok (.istore 4, 2) := by decide +kernel
theorem dX4_make_122 : decode cX4_make 122 = .ok (.iinc 5 1, 3) := by decide +kernel
theorem dX4_make_125 : decode cX4_make 125 = .ok (.goto (-61), 3) := by decide +kernel
theorem dX4_make_128 : decode cX4_make 128 = .ok (.iload 4, 2) := by decide +kernel
theorem dX4_make_130 : decode cX4_make 130 = .ok (.ireturn, 1) := by decide +kernel
theorem dX4_choose_0 : decode cX4_choose 0 = .ok (.iload_n 2, 1) := by decide +kernel
theorem dX4_choose_1 : decode cX4_choose 1 = .ok (.ifCond .lt 12, 3) := by decide +kernel
theorem dX4_choose_4 : decode cX4_choose 4 = .ok (.iload_n 2, 1) := by decide +kernel
theorem dX4_choose_5 : decode cX4_choose 5 = .ok (.aload_n 0, 1) := by decide +kernel
theorem dX4_choose_6 : decode cX4_choose 6 = .ok (.getfield 9, 3) := by decide +kernel
theorem dX4_choose_9 : decode cX4_choose 9 = .ok (.arraylength, 1) := by decide +kernel
theorem dX4_choose_10 : decode cX4_choose 10 = .ok (.if_icmp .lt 5, 3) := by decide +kernel
theorem dX4_choose_13 : decode cX4_choose 13 = .ok (.iconst (-1), 1) := by decide +kernel
theorem dX4_choose_14 : decode cX4_choose 14 = .ok (.ireturn, 1) := by decide +kernel
theorem dX4_choose_15 : decode cX4_choose 15 = .ok (.aload_n 0, 1) := by decide +kernel
theorem dX4_choose_16 : decode cX4_choose 16 = .ok (.aload_n 1, 1) := by decide +kernel
theorem dX4_choose_17 : decode cX4_choose 17 = .ok (.iload_n 2, 1) := by decide +kernel
theorem dX4_choose_18 : decode cX4_choose 18 = .ok (.invokevirtual 44, 3) := by decide +kernel
theorem dX4_choose_21 : decode cX4_choose 21 = .ok (.istore_n 3, 1) := by decide +kernel
theorem dX4_choose_22 : decode cX4_choose 22 = .ok (.iconst (-1), 1) := by decide +kernel
theorem dX4_choose_23 : decode cX4_choose 23 = .ok (.istore 4, 2) := by decide +kernel
theorem dX4_choose_25 : decode cX4_choose 25 = .ok (.ldc 47, 2) := by decide +kernel
theorem dX4_choose_27 : decode cX4_choose 27 = .ok (.istore 5, 2) := by decide +kernel
theorem dX4_choose_29 : decode cX4_choose 29 = .ok (.iconst 0, 1) := by decide +kernel
theorem dX4_choose_30 : decode cX4_choose 30 = .ok (.istore 6, 2) := by decide +kernel
theorem dX4_choose_32 : decode cX4_choose 32 = .ok (.iload 6, 2) := by decide +kernel
theorem dX4_choose_34 : decode cX4_choose 34 = .ok (.aload_n 1, 1) := by decide +kernel
theorem dX4_choose_35 : decode cX4_choose 35 = .ok (.getfield 48, 3) := by decide +kernel
theorem dX4_choose_38 : decode cX4_choose 38 = .ok (.if_icmp .ge 71, 3) := by decide +kernel
theorem dX4_choose_41 : decode cX4_choose 41 = .ok (.iload 6, 2) := by decide +kernel
theorem dX4_choose_43 : decode cX4_choose 43 = .ok (.bipush 8, 2) := by decide +kernel
theorem dX4_choose_45 : decode cX4_choose 45 = .ok (.if_icmp .ge 64, 3) := by decide +kernel
theorem dX4_choose_48 : decode cX4_choose 48 = .ok (.iload_n 3, 1) := by decide +kernel
theorem dX4_choose_49 : decode cX4_choose 49 = .ok (.iload 6, 2) := by decide +kernel
theorem dX4_choose_51 : decode cX4_choose 51 = .ok (.ishr, 1) := by decide +kernel
theorem dX4_choose_52 : decode cX4_choose 52 = .ok (.iconst 1, 1) := by decide +kernel
theorem dX4_choose_53 : decode cX4_choose 53 = .ok (.iand, 1) := by decide +kernel
theorem dX4_choose_54 : decode cX4_choose 54 = .ok (.ifCond .ne 6, 3) := by decide +kernel
theorem dX4_choose_57 : decode cX4_choose 57 = .ok (.goto 46, 3) := by decide +kernel
theorem dX4_choose_60 : decode cX4_choose 60 = .ok (.aload_n 0, 1) := by decide +kernel
theorem dX4_choose_61 : decode cX4_choose 61 = .ok (.getfield 9, 3) := by decide +kernel
theorem dX4_choose_64 : decode cX4_choose 64 = .ok (.iload_n 2, 1) := by decide +kernel
theorem dX4_choose_65 : decode cX4_choose 65 = .ok (.iload 6, 2) := by decide +kernel
theorem dX4_choose_67 : decode cX4_choose 67 = .ok (.iastore, 1) := by decide +kernel
theorem dX4_choose_68 : decode cX4_choose 68 = .ok (.iconst 2, 1) := by decide +kernel
theorem dX4_choose_69 : decode cX4_choose 69 = .ok (.aload_n 1, 1) := by decide +kernel
theorem dX4_choose_70 : decode cX4_choose 70 = .ok (.getfield 41, 3) := by decide +kernel
theorem dX4_choose_73 : decode cX4_choose 73 = .ok (.iload 6, 2) := by decide +kernel
theorem dX4_choose_75 : decode cX4_choose 75 = .ok (.iaload, 1) := by decide +kernel
theorem dX4_choose_76 : decode cX4_choose 76 = .ok (.imul, 1) := by decide +kernel
theorem dX4_choose_77 : decode cX4_choose 77 = .ok (.aload_n 0, 1) := by decide +kernel
theorem dX4_choose_78 : decode cX4_choose 78 = .ok (.aload_n 1, 1) := by decide +kernel
theorem dX4_choose_79 : decode cX4_choose 79 = .ok (.iload_n 2, 1) := by decide +kernel
theorem dX4_choose_80 : decode cX4_choose 80 = .ok (.iconst 1, 1) := by decide +kernel
theorem dX4_choose_81 : decode cX4_choose 81 = .ok (.iadd, 1) := by decide +kernel
theorem dX4_choose_82 : decode cX4_choose 82 = .ok (.invokevirtual 51, 3) := by decide +kernel
theorem dX4_choose_85 : decode cX4_choose 85 = .ok (.iadd, 1) := by decide +kernel
theorem dX4_choose_86 : decode cX4_choose 86 = .ok (.istore 7, 2) := by decide +kernel
theorem dX4_choose_88 : decode cX4_choose 88 = .ok (.iload 7, 2) := by decide +kernel
theorem dX4_choose_90 : decode cX4_choose 90 = .ok (.iload 5, 2) := by decide +kernel
theorem dX4_choose_92 : decode cX4_choose 92 = .ok (.if_icmp .ge 11, 3) := by decide +kernel
theorem dX4_choose_95 : decode cX4_choose 95 = .ok (.iload 7, 2) := by decide +kernel
theorem dX4_choose_97 : decode cX4_choose 97 = .ok (.istore 5, 2) := by decide +kernel
theorem dX4_choose_99 : decode cX4_choose 99 = .ok (.iload 6, 2) := by decide +kernel
theorem dX4_choose_101 : decode cX4_choose 101 = .ok (.istore 4, 2) := by decide +kernel
theorem dX4_choose_103 : decode cX4_choose 103 = .ok (.iinc 6 1, 3) := by decide +kernel
theorem dX4_choose_106 : decode cX4_choose 106 = .ok (.goto (-74), 3) := by decide +kernel
theorem dX4_choose_109 : decode cX4_choose 109 = .ok (.iload 4, 2) := by decide +kernel
theorem dX4_choose_111 : decode cX4_choose 111 = .ok (.ireturn, 1) := by decide +kernel
theorem dX4_freeOn_0 : decode cX4_freeOn 0 = .ok (.aload_n 1, 1) := by decide +kernel
theorem dX4_freeOn_1 : decode cX4_freeOn 1 = .ok (.invokevirtual 54, 3) := by decide +kernel
theorem dX4_freeOn_4 : decode cX4_freeOn 4 = .ok (.istore_n 3, 1) := by decide +kernel
theorem dX4_freeOn_5 : decode cX4_freeOn 5 = .ok (.iconst 0, 1) := by decide +kernel
theorem dX4_freeOn_6 : decode cX4_freeOn 6 = .ok (.iload_n 2, 1) := by decide +kernel
theorem dX4_freeOn_7 : decode cX4_freeOn 7 = .ok (.aload_n 1, 1) := by decide +kernel
theorem dX4_freeOn_8 : decode cX4_freeOn 8 = .ok (.getfield 58, 3) := by decide +kernel
theorem dX4_freeOn_11 : decode cX4_freeOn 11 = .ok (.isub, 1) := by decide +kernel
theorem dX4_freeOn_12 : decode cX4_freeOn 12 = .ok (.invokestatic 61, 3) := by decide +kernel
theorem dX4_freeOn_15 : decode cX4_freeOn 15 = .ok (.istore 4, 2) := by decide +kernel
theorem dX4_freeOn_17 : decode cX4_freeOn 17 = .ok (.iload 4, 2) := by decide +kernel
theorem dX4_freeOn_19 : decode cX4_freeOn 19 = .ok (.iload_n 2, 1) := by decide +kernel
theorem dX4_freeOn_20 : decode cX4_freeOn 20 = .ok (.if_icmp .ge 33, 3) := by decide +kernel
theorem dX4_freeOn_23 : decode cX4_freeOn 23 = .ok (.iload 4, 2) := by decide +kernel
theorem dX4_freeOn_25 : decode cX4_freeOn 25 = .ok (.aload_n 0, 1) := by decide +kernel
theorem dX4_freeOn_26 : decode cX4_freeOn 26 = .ok (.getfield 9, 3) := by decide +kernel
theorem dX4_freeOn_29 : decode cX4_freeOn 29 = .ok (.arraylength, 1) := by decide +kernel
theorem dX4_freeOn_30 : decode cX4_freeOn 30 = .ok (.if_icmp .ge 23, 3) := by decide +kernel
theorem dX4_freeOn_33 : decode cX4_freeOn 33 = .ok (.iload_n 3, 1) := by decide +kernel
theorem dX4_freeOn_34 : decode cX4_freeOn 34 = .ok (.iconst 1, 1) := by decide +kernel
theorem dX4_freeOn_35 : decode cX4_freeOn 35 = .ok (.aload_n 0, 1) := by decide +kernel
theorem dX4_freeOn_36 : decode cX4_freeOn 36 = .ok (.getfield 9, 3) := by decide +kernel
theorem dX4_freeOn_39 : decode cX4_freeOn 39 = .ok (.iload 4, 2) := by decide +kernel
theorem dX4_freeOn_41 : decode cX4_freeOn 41 = .ok (.iaload, 1) := by decide +kernel
theorem dX4_freeOn_42 : decode cX4_freeOn 42 = .ok (.ishl, 1) := by decide +kernel
theorem dX4_freeOn_43 : decode cX4_freeOn 43 = .ok (.iconst (-1), 1) := by decide +kernel
theorem dX4_freeOn_44 : decode cX4_freeOn 44 = .ok (.ixor, 1) := by decide +kernel
theorem dX4_freeOn_45 : decode cX4_freeOn 45 = .ok (.iand, 1) := by decide +kernel
theorem dX4_freeOn_46 : decode cX4_freeOn 46 = .ok (.istore_n 3, 1) := by decide +kernel
theorem dX4_freeOn_47 : decode cX4_freeOn 47 = .ok (.iinc 4 1, 3) := by decide +kernel
theorem dX4_freeOn_50 : decode cX4_freeOn 50 = .ok (.goto (-33), 3) := by decide +kernel
theorem dX4_freeOn_53 : decode cX4_freeOn 53 = .ok (.aload_n 1, 1) := by decide +kernel
theorem dX4_freeOn_54 : decode cX4_freeOn 54 = .ok (.aload_n 0, 1) := by decide +kernel
theorem dX4_freeOn_55 : decode cX4_freeOn 55 = .ok (.getfield 15, 3) := by decide +kernel
theorem dX4_freeOn_58 : decode cX4_freeOn 58 = .ok (.iload_n 2, 1) := by decide +kernel
theorem dX4_freeOn_59 : decode cX4_freeOn 59 = .ok (.iadd, 1) := by decide +kernel
theorem dX4_freeOn_60 : decode cX4_freeOn 60 = .ok (.invokevirtual 31, 3) := by decide +kernel
theorem dX4_freeOn_63 : decode cX4_freeOn 63 = .ok (.istore 4, 2) := by decide +kernel
theorem dX4_freeOn_65 : decode cX4_freeOn 65 = .ok (.iconst 0, 1) := by decide +kernel
theorem dX4_freeOn_66 : decode cX4_freeOn 66 = .ok (.istore 5, 2) := by decide +kernel
theorem dX4_freeOn_68 : decode cX4_freeOn 68 = .ok (.iload 5, 2) := by decide +kernel
theorem dX4_freeOn_70 : decode cX4_freeOn 70 = .ok (.aload_n 1, 1) := by decide +kernel
theorem dX4_freeOn_71 : decode cX4_freeOn 71 = .ok (.getfield 48, 3) := by decide +kernel
theorem dX4_freeOn_74 : decode cX4_freeOn 74 = .ok (.if_icmp .ge 40, 3) := by decide +kernel
theorem dX4_freeOn_77 : decode cX4_freeOn 77 = .ok (.iload 5, 2) := by decide +kernel
theorem dX4_freeOn_79 : decode cX4_freeOn 79 = .ok (.bipush 8, 2) := by decide +kernel
theorem dX4_freeOn_81 : decode cX4_freeOn 81 = .ok (.if_icmp .ge 33, 3) := by decide +kernel
theorem dX4_freeOn_84 : decode cX4_freeOn 84 = .ok (.iload 4, 2) := by decide +kernel
theorem dX4_freeOn_86 : decode cX4_freeOn 86 = .ok (.ifCond .eq 22, 3) := by decide +kernel
theorem dX4_freeOn_89 : decode cX4_freeOn 89 = .ok (.aload_n 1, 1) := by decide +kernel
theorem dX4_freeOn_90 : decode cX4_freeOn 90 = .ok (.getfield 41, 3) := by decide +kernel
theorem dX4_freeOn_93 : decode cX4_freeOn 93 = .ok (.iload 5, 2) := by decide +kernel
theorem dX4_freeOn_95 : decode cX4_freeOn 95 = .ok (.iaload, 1) := by decide +kernel
theorem dX4_freeOn_96 : decode cX4_freeOn 96 = .ok (.ifCond .le 12, 3) := by decide +kernel
theorem dX4_freeOn_99 : decode cX4_freeOn 99 = .ok (.iload_n 3, 1) := by decide +kernel
theorem dX4_freeOn_100 : decode cX4_freeOn 100 = .ok (.iconst 1, 1) := by decide +kernel
theorem dX4_freeOn_101 : decode cX4_freeOn 101 = .ok (.iload 5, 2) := by decide +kernel
theorem dX4_freeOn_103 : decode cX4_freeOn 103 = .ok (.ishl, 1) := by decide +kernel
theorem dX4_freeOn_104 : decode cX4_freeOn 104 = .ok (.iconst (-1), 1) := by decide +kernel
theorem dX4_freeOn_105 : decode cX4_freeOn 105 = .ok (.ixor, 1) := by decide +kernel
theorem dX4_freeOn_106 : decode cX4_freeOn 106 = .ok (.iand, 1) := by decide +kernel
theorem dX4_freeOn_107 : decode cX4_freeOn 107 = .ok (.istore_n 3, 1) := by decide +kernel
theorem dX4_freeOn_108 : decode cX4_freeOn 108 = .ok (.iinc 5 1, 3) := by decide +kernel
theorem dX4_freeOn_111 : decode cX4_freeOn 111 = .ok (.goto (-43), 3) := by decide +kernel
theorem dX4_freeOn_114 : decode cX4_freeOn 114 = .ok (.iload_n 3, 1) := by decide +kernel
theorem dX4_freeOn_115 : decode cX4_freeOn 115 = .ok (.ireturn, 1) := by decide +kernel
theorem dX4_leastFrom_0 : decode cX4_leastFrom 0 = .ok (.iload_n 2, 1) := by decide +kernel
theorem dX4_leastFrom_1 : decode cX4_leastFrom 1 = .ok (.ifCond .lt 20, 3) := by decide +kernel
theorem dX4_leastFrom_4 : decode cX4_leastFrom 4 = .ok (.iload_n 2, 1) := by decide +kernel
theorem dX4_leastFrom_5 : decode cX4_leastFrom 5 = .ok (.aload_n 0, 1) := by decide +kernel
theorem dX4_leastFrom_6 : decode cX4_leastFrom 6 = .ok (.getfield 25, 3) := by decide +kernel
theorem dX4_leastFrom_9 : decode cX4_leastFrom 9 = .ok (.if_icmp .ge 12, 3) := by decide +kernel
theorem dX4_leastFrom_12 : decode cX4_leastFrom 12 = .ok (.iload_n 2, 1) := by decide +kernel
theorem dX4_leastFrom_13 : decode cX4_leastFrom 13 = .ok (.aload_n 0, 1) := by decide +kernel
theorem dX4_leastFrom_14 : decode cX4_leastFrom 14 = .ok (.getfield 9, 3) := by decide +kernel
theorem dX4_leastFrom_17 : decode cX4_leastFrom 17 = .ok (.arraylength, 1) := by decide +kernel
theorem dX4_leastFrom_18 : decode cX4_leastFrom 18 = .ok (.if_icmp .lt 5, 3) := by decide +kernel
theorem dX4_leastFrom_21 : decode cX4_leastFrom 21 = .ok (.iconst 0, 1) := by decide +kernel
theorem dX4_leastFrom_22 : decode cX4_leastFrom 22 = .ok (.ireturn, 1) := by decide +kernel
theorem dX4_leastFrom_23 : decode cX4_leastFrom 23 = .ok (.aload_n 0, 1) := by decide +kernel
theorem dX4_leastFrom_24 : decode cX4_leastFrom 24 = .ok (.aload_n 1, 1) := by decide +kernel
theorem dX4_leastFrom_25 : decode cX4_leastFrom 25 = .ok (.iload_n 2, 1) := by decide +kernel
theorem dX4_leastFrom_26 : decode cX4_leastFrom 26 = .ok (.invokevirtual 44, 3) := by decide +kernel
theorem dX4_leastFrom_29 : decode cX4_leastFrom 29 = .ok (.istore_n 3, 1) := by decide +kernel
theorem dX4_leastFrom_30 : decode cX4_leastFrom 30 = .ok (.aload_n 1, 1) := by decide +kernel
theorem dX4_leastFrom_31 : decode cX4_leastFrom 31 = .ok (.iload_n 3, 1) := by decide +kernel
theorem dX4_leastFrom_32 : decode cX4_leastFrom 32 = .ok (.iconst 0, 1) := by decide +kernel
theorem dX4_leastFrom_33 : decode cX4_leastFrom 33 = .ok (.invokestatic 64, 3) := by decide +kernel
theorem dX4_leastFrom_36 : decode cX4_leastFrom 36 = .ok (.istore 4, 2) := by decide +kernel
theorem dX4_leastFrom_38 : decode cX4_leastFrom 38 = .ok (.aload_n 0, 1) := by decide +kernel
theorem dX4_leastFrom_39 : decode cX4_leastFrom 39 = .ok (.aload_n 1, 1) := by decide +kernel
theorem dX4_leastFrom_40 : decode cX4_leastFrom 40 = .ok (.iload_n 2, 1) := by decide +kernel
theorem dX4_leastFrom_41 : decode cX4_leastFrom 41 = .ok (.iload 4, 2) := by decide +kernel
theorem dX4_leastFrom_43 : decode cX4_leastFrom 43 = .ok (.invokevirtual 68, 3) := by decide +kernel
theorem dX4_leastFrom_46 : decode cX4_leastFrom 46 = .ok (.istore 5, 2) := by decide +kernel
theorem dX4_leastFrom_48 : decode cX4_leastFrom 48 = .ok (.iload 4, 2) := by decide +kernel
theorem dX4_leastFrom_50 : decode cX4_leastFrom 50 = .ok (.iconst (-1), 1) := by decide +kernel
theorem dX4_leastFrom_51 : decode cX4_leastFrom 51 = .ok (.if_icmp .eq 21, 3) := by decide +kernel
theorem dX4_leastFrom_54 : decode cX4_leastFrom 54 = .ok (.aload_n 1, 1) := by decide +kernel
theorem dX4_leastFrom_55 : decode cX4_leastFrom 55 = .ok (.getfield 41, 3) := by decide +kernel
theorem dX4_leastFrom_58 : decode cX4_leastFrom 58 = .ok (.iload 4, 2) := by decide +kernel
theorem dX4_leastFrom_60 : decode cX4_leastFrom 60 = .ok (.iaload, 1) := by decide +kernel
theorem dX4_leastFrom_61 : decode cX4_leastFrom 61 = .ok (.ifCond .gt 11, 3) := by decide +kernel
theorem dX4_leastFrom_64 : decode cX4_leastFrom 64 = .ok (.iload_n 2, 1) := by decide +kernel
theorem dX4_leastFrom_65 : decode cX4_leastFrom 65 = .ok (.aload_n 0, 1) := by decide +kernel
theorem dX4_leastFrom_66 : decode cX4_leastFrom 66 = .ok (.getfield 28, 3) := by decide +kernel
theorem dX4_leastFrom_69 : decode cX4_leastFrom 69 = .ok (.if_icmp .lt 6, 3) := by decide +kernel
theorem dX4_leastFrom_72 : decode cX4_leastFrom 72 = .ok (.iload 5, 2) := by decide +kernel
theorem dX4_leastFrom_74 : decode cX4_leastFrom 74 = .ok (.ireturn, 1) := by decide +kernel
theorem dX4_leastFrom_75 : decode cX4_leastFrom 75 = .ok (.aload_n 1, 1) := by decide +kernel
theorem dX4_leastFrom_76 : decode cX4_leastFrom 76 = .ok (.iload_n 3, 1) := by decide +kernel
theorem dX4_leastFrom_77 : decode cX4_leastFrom 77 = .ok (.iconst 1, 1) := by decide +kernel
theorem dX4_leastFrom_78 : decode cX4_leastFrom 78 = .ok (.invokestatic 64, 3) := by decide +kernel
theorem dX4_leastFrom_81 : decode cX4_leastFrom 81 = .ok (.istore 6, 2) := by decide +kernel
theorem dX4_leastFrom_83 : decode cX4_leastFrom 83 = .ok (.iload 6, 2) := by decide +kernel
theorem dX4_leastFrom_85 : decode cX4_leastFrom 85 = .ok (.iconst (-1), 1) := by decide +kernel
theorem dX4_leastFrom_86 : decode cX4_leastFrom 86 = .ok (.if_icmp .eq 17, 3) := by decide +kernel
theorem dX4_leastFrom_89 : decode cX4_leastFrom 89 = .ok (.iconst 2, 1) := by decide +kernel
theorem dX4_leastFrom_90 : decode cX4_leastFrom 90 = .ok (.aload_n 1, 1) := by decide +kernel
theorem dX4_leastFrom_91 : decode cX4_leastFrom 91 = .ok (.getfield 41, 3) := by decide +kernel
theorem dX4_leastFrom_94 : decode cX4_leastFrom 94 = .ok (.iload 6, 2) := by decide +kernel
theorem dX4_leastFrom_96 : decode cX4_leastFrom 96 = .ok (.iaload, 1) := by decide +kernel
theorem dX4_leastFrom_97 : decode cX4_leastFrom 97 = .ok (.imul, 1) := by decide +kernel
theorem dX4_leastFrom_98 : decode cX4_leastFrom 98 = .ok (.iload 5, 2) := by decide +kernel
theorem dX4_leastFrom_100 : decode cX4_leastFrom 100 = .ok (.if_icmp .lt 6, 3) := by decide +kernel
theorem dX4_leastFrom_103 : decode cX4_leastFrom 103 = .ok (.iload 5, 2) := by decide +kernel
theorem dX4_leastFrom_105 : decode cX4_leastFrom 105 = .ok (.ireturn, 1) := by decide +kernel
theorem dX4_leastFrom_106 : decode cX4_leastFrom 106 = .ok (.iload 5, 2) := by decide +kernel
theorem dX4_leastFrom_108 : decode cX4_leastFrom 108 = .ok (.aload_n 0, 1) := by decide +kernel
theorem dX4_leastFrom_109 : decode cX4_leastFrom 109 = .ok (.aload_n 1, 1) := by decide +kernel
theorem dX4_leastFrom_110 : decode cX4_leastFrom 110 = .ok (.iload_n 2, 1) := by decide +kernel
theorem dX4_leastFrom_111 : decode cX4_leastFrom 111 = .ok (.iload 6, 2) := by decide +kernel
theorem dX4_leastFrom_113 : decode cX4_leastFrom 113 = .ok (.invokevirtual 68, 3) := by decide +kernel
theorem dX4_leastFrom_116 : decode cX4_leastFrom 116 = .ok (.invokestatic 19, 3) := by decide +kernel
theorem dX4_leastFrom_119 : decode cX4_leastFrom 119 = .ok (.ireturn, 1) := by decide +kernel
theorem dX4_leastWith_0 : decode cX4_leastWith 0 = .ok (.iload_n 3, 1) := by decide +kernel
theorem dX4_leastWith_1 : decode cX4_leastWith 1 = .ok (.ifCond .lt 25, 3) := by decide +kernel
theorem dX4_leastWith_4 : decode cX4_leastWith 4 = .ok (.iload_n 3, 1) := by decide +kernel
theorem dX4_leastWith_5 : decode cX4_leastWith 5 = .ok (.aload_n 1, 1) := by decide +kernel
theorem dX4_leastWith_6 : decode cX4_leastWith 6 = .ok (.getfield 41, 3) := by decide +kernel
theorem dX4_leastWith_9 : decode cX4_leastWith 9 = .ok (.arraylength, 1) := by decide +kernel
theorem dX4_leastWith_10 : decode cX4_leastWith 10 = .ok (.if_icmp .ge 16, 3) := by decide +kernel
theorem dX4_leastWith_13 : decode cX4_leastWith 13 = .ok (.iload_n 2, 1) := by decide +kernel
theorem dX4_leastWith_14 : decode cX4_leastWith 14 = .ok (.ifCond .lt 12, 3) := by decide +kernel
theorem dX4_leastWith_17 : decode cX4_leastWith 17 = .ok (.iload_n 2, 1) := by decide +kernel
theorem dX4_leastWith_18 : decode cX4_leastWith 18 = .ok (.aload_n 0, 1) := by decide +kernel
theorem dX4_leastWith_19 : decode cX4_leastWith 19 = .ok (.getfield 9, 3) := by decide +kernel
theorem dX4_leastWith_22 : decode cX4_leastWith 22 = .ok (.arraylength, 1) := by decide +kernel
theorem dX4_leastWith_23 : decode cX4_leastWith 23 = .ok (.if_icmp .lt 6, 3) := by decide +kernel
theorem dX4_leastWith_26 : decode cX4_leastWith 26 = .ok (.ldc 47, 2) := by decide +kernel
theorem dX4_leastWith_28 : decode cX4_leastWith 28 = .ok (.ireturn, 1) := by decide +kernel
theorem dX4_leastWith_29 : decode cX4_leastWith 29 = .ok (.aload_n 0, 1) := by decide +kernel
theorem dX4_leastWith_30 : decode cX4_leastWith 30 = .ok (.getfield 9, 3) := by decide +kernel
theorem dX4_leastWith_33 : decode cX4_leastWith 33 = .ok (.iload_n 2, 1) := by decide +kernel
theorem dX4_leastWith_34 : decode cX4_leastWith 34 = .ok (.iload_n 3, 1) := by decide +kernel
theorem dX4_leastWith_35 : decode cX4_leastWith 35 = .ok (.iastore, 1) := by decide +kernel
theorem dX4_leastWith_36 : decode cX4_leastWith 36 = .ok (.ldc 47, 2) := by decide +kernel
theorem dX4_leastWith_38 : decode cX4_leastWith 38 = .ok (.iconst 2, 1) := by decide +kernel
theorem dX4_leastWith_39 : decode cX4_leastWith 39 = .ok (.aload_n 1, 1) := by decide +kernel
theorem dX4_leastWith_40 : decode cX4_leastWith 40 = .ok (.getfield 41, 3) := by decide +kernel
theorem dX4_leastWith_43 : decode cX4_leastWith 43 = .ok (.iload_n 3, 1) := by decide +kernel
theorem dX4_leastWith_44 : decode cX4_leastWith 44 = .ok (.iaload, 1) := by decide +kernel
theorem dX4_leastWith_45 : decode cX4_leastWith 45 = .ok (.imul, 1) := by decide +kernel
theorem dX4_leastWith_46 : decode cX4_leastWith 46 = .ok (.aload_n 0, 1) := by decide +kernel
theorem dX4_leastWith_47 : decode cX4_leastWith 47 = .ok (.aload_n 1, 1) := by decide +kernel
theorem dX4_leastWith_48 : decode cX4_leastWith 48 = .ok (.iload_n 2, 1) := by decide +kernel
theorem dX4_leastWith_49 : decode cX4_leastWith 49 = .ok (.iconst 1, 1) := by decide +kernel
theorem dX4_leastWith_50 : decode cX4_leastWith 50 = .ok (.iadd, 1) := by decide +kernel
theorem dX4_leastWith_51 : decode cX4_leastWith 51 = .ok (.invokevirtual 51, 3) := by decide +kernel
theorem dX4_leastWith_54 : decode cX4_leastWith 54 = .ok (.iadd, 1) := by decide +kernel
theorem dX4_leastWith_55 : decode cX4_leastWith 55 = .ok (.invokestatic 19, 3) := by decide +kernel
theorem dX4_leastWith_58 : decode cX4_leastWith 58 = .ok (.ireturn, 1) := by decide +kernel
theorem dX4_nearestOf_0 : decode cX4_nearestOf 0 = .ok (.iconst (-1), 1) := by decide +kernel
theorem dX4_nearestOf_1 : decode cX4_nearestOf 1 = .ok (.istore_n 3, 1) := by decide +kernel
theorem dX4_nearestOf_2 : decode cX4_nearestOf 2 = .ok (.iconst 0, 1) := by decide +kernel
theorem dX4_nearestOf_3 : decode cX4_nearestOf 3 = .ok (.istore 4, 2) := by decide +kernel
theorem dX4_nearestOf_5 : decode cX4_nearestOf 5 = .ok (.iload 4, 2) := by decide +kernel
theorem dX4_nearestOf_7 : decode cX4_nearestOf 7 = .ok (.aload_n 0, 1) := by decide +kernel
theorem dX4_nearestOf_8 : decode cX4_nearestOf 8 = .ok (.getfield 48, 3) := by decide +kernel
theorem dX4_nearestOf_11 : decode cX4_nearestOf 11 = .ok (.if_icmp .ge 63, 3) := by decide +kernel
theorem dX4_nearestOf_14 : decode cX4_nearestOf 14 = .ok (.iload 4, 2) := by decide +kernel
theorem dX4_nearestOf_16 : decode cX4_nearestOf 16 = .ok (.bipush 8, 2) := by decide +kernel
theorem dX4_nearestOf_18 : decode cX4_nearestOf 18 = .ok (.if_icmp .ge 56, 3) := by decide +kernel
theorem dX4_nearestOf_21 : decode cX4_nearestOf 21 = .ok (.iload_n 1, 1) := by decide +kernel
theorem dX4_nearestOf_22 : decode cX4_nearestOf 22 = .ok (.iload 4, 2) := by decide +kernel
theorem dX4_nearestOf_24 : decode cX4_nearestOf 24 = .ok (.ishr, 1) := by decide +kernel
theorem dX4_nearestOf_25 : decode cX4_nearestOf 25 = .ok (.iconst 1, 1) := by decide +kernel
theorem dX4_nearestOf_26 : decode cX4_nearestOf 26 = .ok (.iand, 1) := by decide +kernel
theorem dX4_nearestOf_27 : decode cX4_nearestOf 27 = .ok (.ifCond .eq 41, 3) := by decide +kernel
theorem dX4_nearestOf_30 : decode cX4_nearestOf 30 = .ok (.aload_n 0, 1) := by decide +kernel
theorem dX4_nearestOf_31 : decode cX4_nearestOf 31 = .ok (.getfield 41, 3) := by decide +kernel
theorem dX4_nearestOf_34 : decode cX4_nearestOf 34 = .ok (.iload 4, 2) := by decide +kernel
theorem dX4_nearestOf_36 : decode cX4_nearestOf 36 = .ok (.iaload, 1) := by decide +kernel
theorem dX4_nearestOf_37 : decode cX4_nearestOf 37 = .ok (.iload_n 2, 1) := by decide +kernel
theorem dX4_nearestOf_38 : decode cX4_nearestOf 38 = .ok (.if_icmp .ge 6, 3) := by decide +kernel
theorem dX4_nearestOf_41 : decode cX4_nearestOf 41 = .ok (.goto 27, 3) := by decide +kernel
theorem dX4_nearestOf_44 : decode cX4_nearestOf 44 = .ok (.iload_n 3, 1) := by decide +kernel
theorem dX4_nearestOf_45 : decode cX4_nearestOf 45 = .ok (.iconst (-1), 1) := by decide +kernel
theorem dX4_nearestOf_46 : decode cX4_nearestOf 46 = .ok (.if_icmp .eq 19, 3) := by decide +kernel
theorem dX4_nearestOf_49 : decode cX4_nearestOf 49 = .ok (.aload_n 0, 1) := by decide +kernel
theorem dX4_nearestOf_50 : decode cX4_nearestOf 50 = .ok (.getfield 41, 3) := by decide +kernel
theorem dX4_nearestOf_53 : decode cX4_nearestOf 53 = .ok (.iload 4, 2) := by decide +kernel
theorem dX4_nearestOf_55 : decode cX4_nearestOf 55 = .ok (.iaload, 1) := by decide +kernel
theorem dX4_nearestOf_56 : decode cX4_nearestOf 56 = .ok (.aload_n 0, 1) := by decide +kernel
theorem dX4_nearestOf_57 : decode cX4_nearestOf 57 = .ok (.getfield 41, 3) := by decide +kernel
theorem dX4_nearestOf_60 : decode cX4_nearestOf 60 = .ok (.iload_n 3, 1) := by decide +kernel
theorem dX4_nearestOf_61 : decode cX4_nearestOf 61 = .ok (.iaload, 1) := by decide +kernel
theorem dX4_nearestOf_62 : decode cX4_nearestOf 62 = .ok (.if_icmp .ge 6, 3) := by decide +kernel
theorem dX4_nearestOf_65 : decode cX4_nearestOf 65 = .ok (.iload 4, 2) := by decide +kernel
theorem dX4_nearestOf_67 : decode cX4_nearestOf 67 = .ok (.istore_n 3, 1) := by decide +kernel
theorem dX4_nearestOf_68 : decode cX4_nearestOf 68 = .ok (.iinc 4 1, 3) := by decide +kernel
theorem dX4_nearestOf_71 : decode cX4_nearestOf 71 = .ok (.goto (-66), 3) := by decide +kernel
theorem dX4_nearestOf_74 : decode cX4_nearestOf 74 = .ok (.iload_n 3, 1) := by decide +kernel
theorem dX4_nearestOf_75 : decode cX4_nearestOf 75 = .ok (.ireturn, 1) := by decide +kernel
theorem dX5_init_0 : decode cX5_init 0 = .ok (.aload_n 0, 1) := by decide +kernel
theorem dX5_init_1 : decode cX5_init 1 = .ok (.invokespecial 3, 3) := by decide +kernel
theorem dX5_init_4 : decode cX5_init 4 = .ok (.aload_n 0, 1) := by decide +kernel
theorem dX5_init_5 : decode cX5_init 5 = .ok (.iconst 0, 1) := by decide +kernel
theorem dX5_init_6 : decode cX5_init 6 = .ok (.newarray .char, 2) := by decide +kernel
theorem dX5_init_8 : decode cX5_init 8 = .ok (.putfield 9, 3) := by decide +kernel
theorem dX5_init_11 : decode cX5_init 11 = .ok (.return_, 1) := by decide +kernel
theorem dX5_read_0 : decode cX5_read 0 = .ok (.aload_n 0, 1) := by decide +kernel
theorem dX5_read_1 : decode cX5_read 1 = .ok (.aload_n 1, 1) := by decide +kernel
theorem dX5_read_2 : decode cX5_read 2 = .ok (.putfield 9, 3) := by decide +kernel
theorem dX5_read_5 : decode cX5_read 5 = .ok (.aload_n 0, 1) := by decide +kernel
theorem dX5_read_6 : decode cX5_read 6 = .ok (.iload_n 2, 1) := by decide +kernel
theorem dX5_read_7 : decode cX5_read 7 = .ok (.aload_n 1, 1) := by decide +kernel
theorem dX5_read_8 : decode cX5_read 8 = .ok (.arraylength, 1) := by decide +kernel
theorem dX5_read_9 : decode cX5_read 9 = .ok (.invokestatic 15, 3) := by decide +kernel
theorem dX5_read_12 : decode cX5_read 12 = .ok (.putfield 21, 3) := by decide +kernel
theorem dX5_read_15 : decode cX5_read 15 = .ok (.aload_n 0, 1) := by decide +kernel
theorem dX5_read_16 : decode cX5_read 16 = .ok (.iconst 0, 1) := by decide +kernel
theorem dX5_read_17 : decode cX5_read 17 = .ok (.putfield 25, 3) := by decide +kernel
theorem dX5_read_20 : decode cX5_read 20 = .ok (.aload_n 0, 1) := by decide +kernel
theorem dX5_read_21 : decode cX5_read 21 = .ok (.iconst 0, 1) := by decide +kernel
theorem dX5_read_22 : decode cX5_read 22 = .ok (.putfield 28, 3) := by decide +kernel
theorem dX5_read_25 : decode cX5_read 25 = .ok (.aload_n 3, 1) := by decide +kernel
theorem dX5_read_26 : decode cX5_read 26 = .ok (.invokevirtual 31, 3) := by decide +kernel
theorem dX5_read_29 : decode cX5_read 29 = .ok (.aload_n 0, 1) := by decide +kernel
theorem dX5_read_30 : decode cX5_read 30 = .ok (.invokevirtual 36, 3) := by decide +kernel
theorem dX5_read_33 : decode cX5_read 33 = .ok (.iconst 0, 1) := by decide +kernel
theorem dX5_read_34 : decode cX5_read 34 = .ok (.istore 4, 2) := by decide +kernel
theorem dX5_read_36 : decode cX5_read 36 = .ok (.iload 4, 2) := by decide +kernel
theorem dX5_read_38 : decode cX5_read 38 = .ok (.sipush 240, 3) := by decide +kernel
theorem dX5_read_41 : decode cX5_read 41 = .ok (.if_icmp .gt 36, 3) := by decide +kernel
theorem dX5_read_44 : decode cX5_read 44 = .ok (.aload_n 0, 1) := by decide +kernel
theorem dX5_read_45 : decode cX5_read 45 = .ok (.getfield 28, 3) := by decide +kernel
theorem dX5_read_48 : decode cX5_read 48 = .ok (.ifCond .ne 29, 3) := by decide +kernel
theorem dX5_read_51 : decode cX5_read 51 = .ok (.aload_n 0, 1) := by decide +kernel
theorem dX5_read_52 : decode cX5_read 52 = .ok (.getfield 25, 3) := by decide +kernel
theorem dX5_read_55 : decode cX5_read 55 = .ok (.aload_n 0, 1) := by decide +kernel
theorem dX5_read_56 : decode cX5_read 56 = .ok (.getfield 21, 3) := by decide +kernel
theorem dX5_read_59 : decode cX5_read 59 = .ok (.if_icmp .ge 18, 3) := by decide +kernel
theorem dX5_read_62 : decode cX5_read 62 = .ok (.aload_n 0, 1) := by decide +kernel
theorem dX5_read_63 : decode cX5_read 63 = .ok (.aload_n 3, 1) := by decide +kernel
theorem dX5_read_64 : decode cX5_read 64 = .ok (.invokevirtual 39, 3) := by decide +kernel
theorem dX5_read_67 : decode cX5_read 67 = .ok (.aload_n 0, 1) := by decide +kernel
theorem dX5_read_68 : decode cX5_read 68 = .ok (.invokevirtual 36, 3) := by decide +kernel
theorem dX5_read_71 : decode cX5_read 71 = .ok (.iinc 4 1, 3) := by decide +kernel
theorem dX5_read_74 : decode cX5_read 74 = .ok (.goto (-38), 3) := by decide +kernel
theorem dX5_read_77 : decode cX5_read 77 = .ok (.aload_n 0, 1) := by decide +kernel
theorem dX5_read_78 : decode cX5_read 78 = .ok (.getfield 28, 3) := by decide +kernel
theorem dX5_read_81 : decode cX5_read 81 = .ok (.ireturn, 1) := by decide +kernel
theorem dX5_readClause_0 : decode cX5_readClause 0 = .ok (.aload_n 0, 1) := by decide +kernel
theorem dX5_readClause_1 : decode cX5_readClause 1 = .ok (.invokevirtual 43, 3) := by decide +kernel
theorem dX5_readClause_4 : decode cX5_readClause 4 = .ok (.istore_n 2, 1) := by decide +kernel
theorem dX5_readClause_5 : decode cX5_readClause 5 = .ok (.iload_n 2, 1) := by decide +kernel
theorem dX5_readClause_6 : decode cX5_readClause 6 = .ok (.invokestatic 47, 3) := by decide +kernel
theorem dX5_readClause_9 : decode cX5_readClause 9 = .ok (.ifCond .eq 16, 3) := by decide +kernel
theorem dX5_readClause_12 : decode cX5_readClause 12 = .ok (.aload_n 1, 1) := by decide +kernel
theorem dX5_readClause_13 : decode cX5_readClause 13 = .ok (.getfield 51, 3) := by decide +kernel
theorem dX5_readClause_16 : decode cX5_readClause 16 = .ok (.ifCond .ne 21, 3) := by decide +kernel
theorem dX5_readClause_19 : decode cX5_readClause 19 = .ok (.iload_n 2, 1) := by decide +kernel
theorem dX5_readClause_20 : decode cX5_readClause 20 = .ok (.bipush 104, 2) := by decide +kernel
theorem dX5_readClause_22 : decode cX5_readClause 22 = .ok (.if_icmp .eq 15, 3) := by decide +kernel
theorem dX5_readClause_25 : decode cX5_readClause 25 = .ok (.aload_n 0, 1) := by decide +kernel
theorem dX5_readClause_26 : decode cX5_readClause 26 = .ok (.iconst 1, 1) := by decide +kernel
theorem dX5_readClause_27 : decode cX5_readClause 27 = .ok (.aload_n 0, 1) := by decide +kernel
theorem dX5_readClause_28 : decode cX5_readClause 28 = .ok (.getfield 25, 3) := by decide +kernel
theorem dX5_readClause_31 : decode cX5_readClause 31 = .ok (.invokevirtual 55, 3) := by decide +kernel
theorem dX5_readClause_34 : decode cX5_readClause 34 = .ok (.goto 108, 3) := by decide +kernel
theorem dX5_readClause_37 : decode cX5_readClause 37 = .ok (.aload_n 1, 1) := by decide +kernel
theorem dX5_readClause_38 : decode cX5_readClause 38 = .ok (.iload_n 2, 1) := by decide +kernel
theorem dX5_readClause_39 : decode cX5_readClause 39 = .ok (.invokestatic 59, 3) := by decide +kernel
theorem dX5_readClause_42 : decode cX5_readClause 42 = .ok (.ifCond .eq 15, 3) := by decide +kernel
theorem dX5_readClause_45 : decode cX5_readClause 45 = .ok (.aload_n 0, 1) := by decide +kernel
theorem dX5_readClause_46 : decode cX5_readClause 46 = .ok (.iconst 3, 1) := by decide +kernel
theorem dX5_readClause_47 : decode cX5_readClause 47 = .ok (.aload_n 0, 1) := by decide +kernel
theorem dX5_readClause_48 : decode cX5_readClause 48 = .ok (.getfield 25, 3) := by decide +kernel
theorem dX5_readClause_51 : decode cX5_readClause 51 = .ok (.invokevirtual 55, 3) := by decide +kernel
theorem dX5_readClause_54 : decode cX5_readClause 54 = .ok (.goto 88, 3) := by decide +kernel
theorem dX5_readClause_57 : decode cX5_readClause 57 = .ok (.aload_n 0, 1) := by decide +kernel
theorem dX5_readClause_58 : decode cX5_readClause 58 = .ok (.dup, 1) := by decide +kernel
theorem dX5_readClause_59 : decode cX5_readClause 59 = .ok (.getfield 25, 3) := by decide +kernel
theorem dX5_readClause_62 : decode cX5_readClause 62 = .ok (.iconst 1, 1) := by decide +kernel
theorem dX5_readClause_63 : decode cX5_readClause 63 = .ok (.iadd, 1) := by decide +kernel
theorem dX5_readClause_64 : decode cX5_readClause 64 = .ok (.putfield 25, 3) := by decide +kernel
theorem dX5_readClause_67 : decode cX5_readClause 67 = .ok (.iload_n 2, 1) := by decide +kernel
theorem dX5_readClause_68 : decode cX5_readClause 68 = .ok (.bipush 104, 2) := by decide +kernel
theorem dX5_readClause_70 : decode cX5_readClause 70 = .ok (.if_icmp .ne 11, 3) := by decide +kernel
theorem dX5_readClause_73 : decode cX5_readClause 73 = .ok (.aload_n 0, 1) := by decide +kernel
theorem dX5_readClause_74 : decode cX5_readClause 74 = .ok (.aload_n 1, 1) := by decide +kernel
theorem dX5_readClause_75 : decode cX5_readClause 75 = .ok (.invokevirtual 63, 3) := by decide +kernel
theorem dX5_readClause_78 : decode cX5_readClause 78 = .ok (.goto 60, 3) := by decide +kernel
theorem dX5_readClause_81 : decode cX5_readClause 81 = .ok (.iload_n 2, 1) := by decide +kernel
theorem dX5_readClause_82 : decode cX5_readClause 82 = .ok (.bipush 118, 2) := by decide +kernel
theorem dX5_readClause_84 : decode cX5_readClause 84 = .ok (.if_icmp .ne 11, 3) := by decide +kernel
theorem dX5_readClause_87 : decode cX5_readClause 87 = .ok (.aload_n 0, 1) := by decide +kernel
theorem dX5_readClause_88 : decode cX5_readClause 88 = .ok (.aload_n 1, 1) := by decide +kernel
theorem dX5_readClause_89 : decode cX5_readClause 89 = .ok (.invokevirtual 66, 3) := by decide +kernel
theorem dX5_readClause_92 : decode cX5_readClause 92 = .ok (.goto 46, 3) := by decide +kernel
theorem dX5_readClause_95 : decode cX5_readClause 95 = .ok (.iload_n 2, 1) := by decide +kernel
theorem dX5_readClause_96 : decode cX5_readClause 96 = .ok (.bipush 102, 2) := by decide +kernel
theorem dX5_readClause_98 : decode cX5_readClause 98 = .ok (.if_icmp .ne 23, 3) := by decide +kernel
theorem dX5_readClause_101 : decode cX5_readClause 101 = .ok (.aload_n 1, 1) := by decide +kernel
theorem dX5_readClause_102 : decode cX5_readClause 102 = .ok (.dup, 1) := by decide +kernel
theorem dX5_readClause_103 : decode cX5_readClause 103 = .ok (.getfield 69, 3) := by decide +kernel
theorem dX5_readClause_106 : decode cX5_readClause 106 = .ok (.aload_n 0, 1) := by decide +kernel
theorem dX5_readClause_107 : decode cX5_readClause 107 = .ok (.aload_n 1, 1) := by decide +kernel
theorem dX5_readClause_108 : decode cX5_readClause 108 = .ok (.getfield 72, 3) := by decide +kernel
theorem dX5_readClause_111 : decode cX5_readClause 111 = .ok (.invokevirtual 76, 3) := by decide +kernel
theorem dX5_readClause_114 : decode cX5_readClause 114 = .ok (.iadd, 1) := by decide +kernel
theorem dX5_readClause_115 : decode cX5_readClause 115 = .ok (.putfield 69, 3) := by decide +kernel
theorem dX5_readClause_118 : decode cX5_readClause 118 = .ok (.goto 20, 3) := by decide +kernel
theorem dX5_readClause_121 : decode cX5_readClause 121 = .ok (.aload_n 1, 1) := by decide +kernel
theorem dX5_readClause_122 : decode cX5_readClause 122 = .ok (.dup, 1) := by decide +kernel
theorem dX5_readClause_123 : decode cX5_readClause 123 = .ok (.getfield 80, 3) := by decide +kernel
theorem dX5_readClause_126 : decode cX5_readClause 126 = .ok (.aload_n 0, 1) := by decide +kernel
theorem dX5_readClause_127 : decode cX5_readClause 127 = .ok (.aload_n 1, 1) := by decide +kernel
theorem dX5_readClause_128 : decode cX5_readClause 128 = .ok (.getfield 83, 3) := by decide +kernel
theorem dX5_readClause_131 : decode cX5_readClause 131 = .ok (.invokevirtual 76, 3) := by decide +kernel
theorem dX5_readClause_134 : decode cX5_readClause 134 = .ok (.iadd, 1) := by decide +kernel
theorem dX5_readClause_135 : decode cX5_readClause 135 = .ok (.putfield 80, 3) := by decide +kernel
theorem dX5_readClause_138 : decode cX5_readClause 138 = .ok (.aload_n 0, 1) := by decide +kernel
theorem dX5_readClause_139 : decode cX5_readClause 139 = .ok (.invokevirtual 86, 3) := by decide +kernel
theorem dX5_readClause_142 : decode cX5_readClause 142 = .ok (.return_, 1) := by decide +kernel
theorem dX5_isWord_0 : decode cX5_isWord 0 = .ok (.iload_n 0, 1) := by decide +kernel
theorem dX5_isWord_1 : decode cX5_isWord 1 = .ok (.bipush 104, 2) := by decide +kernel
theorem dX5_isWord_3 : decode cX5_isWord 3 = .ok (.if_icmp .eq 21, 3) := by decide +kernel
theorem dX5_isWord_6 : decode cX5_isWord 6 = .ok (.iload_n 0, 1) := by decide +kernel
theorem dX5_isWord_7 : decode cX5_isWord 7 = .ok (.bipush 118, 2) := by decide +kernel
theorem dX5_isWord_9 : decode cX5_isWord 9 = .ok (.if_icmp .eq 15, 3) := by decide +kernel
theorem dX5_isWord_12 : decode cX5_isWord 12 = .ok (.iload_n 0, 1) := by decide +kernel
theorem dX5_isWord_13 : decode cX5_isWord 13 = .ok (.bipush 102, 2) := by decide +kernel
theorem dX5_isWord_15 : decode cX5_isWord 15 = .ok (.if_icmp .eq 9, 3) := by decide +kernel
theorem dX5_isWord_18 : decode cX5_isWord 18 = .ok (.iload_n 0, 1) := by decide +kernel
theorem dX5_isWord_19 : decode cX5_isWord 19 = .ok (.bipush 103, 2) := by decide +kernel
theorem dX5_isWord_21 : decode cX5_isWord 21 = .ok (.if_icmp .ne 7, 3) := by decide +kernel
theorem dX5_isWord_24 : decode cX5_isWord 24 = .ok (.iconst 1, 1) := by decide +kernel
theorem dX5_isWord_25 : decode cX5_isWord 25 = .ok (.goto 4, 3) := by decide +kernel
theorem dX5_isWord_28 : decode cX5_isWord 28 = .ok (.iconst 0, 1) := by decide +kernel
theorem dX5_isWord_29 : decode cX5_isWord 29 = .ok (.ireturn, 1) := by decide +kernel
theorem dX5_isTooMany_0 : decode cX5_isTooMany 0 = .ok (.iload_n 1, 1) := by decide +kernel
theorem dX5_isTooMany_1 : decode cX5_isTooMany 1 = .ok (.bipush 104, 2) := by decide +kernel
theorem dX5_isTooMany_3 : decode cX5_isTooMany 3 = .ok (.if_icmp .ne 8, 3) := by decide +kernel
theorem dX5_isTooMany_6 : decode cX5_isTooMany 6 = .ok (.aload_n 0, 1) := by decide +kernel
theorem dX5_isTooMany_7 : decode cX5_isTooMany 7 = .ok (.getfield 51, 3) := by decide +kernel
theorem dX5_isTooMany_10 : decode cX5_isTooMany 10 = .ok (.ireturn, 1) := by decide +kernel
theorem dX5_isTooMany_11 : decode cX5_isTooMany 11 = .ok (.iload_n 1, 1) := by decide +kernel
theorem dX5_isTooMany_12 : decode cX5_isTooMany 12 = .ok (.bipush 118, 2) := by decide +kernel
theorem dX5_isTooMany_14 : decode cX5_isTooMany 14 = .ok (.if_icmp .ne 18, 3) := by decide +kernel
theorem dX5_isTooMany_17 : decode cX5_isTooMany 17 = .ok (.aload_n 0, 1) := by decide +kernel
theorem dX5_isTooMany_18 : decode cX5_isTooMany 18 = .ok (.getfield 89, 3) := by decide +kernel
theorem dX5_isTooMany_21 : decode cX5_isTooMany 21 = .ok (.bipush 8, 2) := by decide +kernel
theorem dX5_isTooMany_23 : decode cX5_isTooMany 23 = .ok (.if_icmp .lt 7, 3) := by decide +kernel
theorem dX5_isTooMany_26 : decode cX5_isTooMany 26 = .ok (.iconst 1, 1) := by decide +kernel
theorem dX5_isTooMany_27 : decode cX5_isTooMany 27 = .ok (.goto 4, 3) := by decide +kernel
theorem dX5_isTooMany_30 : decode cX5_isTooMany 30 = .ok (.iconst 0, 1) := by decide +kernel
theorem dX5_isTooMany_31 : decode cX5_isTooMany 31 = .ok (.ireturn, 1) := by decide +kernel
theorem dX5_isTooMany_32 : decode cX5_isTooMany 32 = .ok (.iload_n 1, 1) := by decide +kernel
theorem dX5_isTooMany_33 : decode cX5_isTooMany 33 = .ok (.bipush 102, 2) := by decide +kernel
theorem dX5_isTooMany_35 : decode cX5_isTooMany 35 = .ok (.if_icmp .ne 10, 3) := by decide +kernel
theorem dX5_isTooMany_38 : decode cX5_isTooMany 38 = .ok (.aload_n 0, 1) := by decide +kernel
theorem dX5_isTooMany_39 : decode cX5_isTooMany 39 = .ok (.getfield 69, 3) := by decide +kernel
theorem dX5_isTooMany_42 : decode cX5_isTooMany 42 = .ok (.goto 7, 3) := by decide +kernel
theorem dX5_isTooMany_45 : decode cX5_isTooMany 45 = .ok (.aload_n 0, 1) := by decide +kernel
theorem dX5_isTooMany_46 : decode cX5_isTooMany 46 = .ok (.getfield 80, 3) := by decide +kernel
theorem dX5_isTooMany_49 : decode cX5_isTooMany 49 = .ok (.bipush 8, 2) := by decide +kernel
theorem dX5_isTooMany_51 : decode cX5_isTooMany 51 = .ok (.if_icmp .lt 7, 3) := by decide +kernel
theorem dX5_isTooMany_54 : decode cX5_isTooMany 54 = .ok (.iconst 1, 1) := by decide +kernel
theorem dX5_isTooMany_55 : decode cX5_isTooMany 55 = .ok (.goto 4, 3) := by decide +kernel
theorem dX5_isTooMany_58 : decode cX5_isTooMany 58 = .ok (.iconst 0, 1) := by decide +kernel
theorem dX5_isTooMany_59 : decode cX5_isTooMany 59 = .ok (.ireturn, 1) := by decide +kernel
theorem dX5_readHermit_0 : decode cX5_readHermit 0 = .ok (.aload_n 1, 1) := by decide +kernel
theorem dX5_readHermit_1 : decode cX5_readHermit 1 = .ok (.iconst 1, 1) := by decide +kernel
theorem dX5_readHermit_2 : decode cX5_readHermit 2 = .ok (.putfield 51, 3) := by decide +kernel
theorem dX5_readHermit_5 : decode cX5_readHermit 5 = .ok (.aload_n 1, 1) := by decide +kernel
theorem dX5_readHermit_6 : decode cX5_readHermit 6 = .ok (.aload_n 0, 1) := by decide +kernel
theorem dX5_readHermit_7 : decode cX5_readHermit 7 = .ok (.iconst 1, 1) := by decide +kernel
theorem dX5_readHermit_8 : decode cX5_readHermit 8 = .ok (.bipush 9, 2) := by decide +kernel
theorem dX5_readHermit_10 : decode cX5_readHermit 10 = .ok (.invokevirtual 92, 3) := by decide +kernel
theorem dX5_readHermit_13 : decode cX5_readHermit 13 = .ok (.putfield 95, 3) := by decide +kernel
theorem dX5_readHermit_16 : decode cX5_readHermit 16 = .ok (.aload_n 1, 1) := by decide +kernel
theorem dX5_readHermit_17 : decode cX5_readHermit 17 = .ok (.aload_n 0, 1) := by decide +kernel
theorem dX5_readHermit_18 : decode cX5_readHermit 18 = .ok (.iconst 0, 1) := by decide +kernel
theorem dX5_readHermit_19 : decode cX5_readHermit 19 = .ok (.bipush 30, 2) := by decide +kernel
theorem dX5_readHermit_21 : decode cX5_readHermit 21 = .ok (.invokevirtual 92, 3) := by decide +kernel
theorem dX5_readHermit_24 : decode cX5_readHermit 24 = .ok (.putfield 98, 3) := by decide +kernel
theorem dX5_readHermit_27 : decode cX5_readHermit 27 = .ok (.aload_n 1, 1) := by decide +kernel
theorem dX5_readHermit_28 : decode cX5_readHermit 28 = .ok (.aload_n 0, 1) := by decide +kernel
theorem dX5_readHermit_29 : decode cX5_readHermit 29 = .ok (.iconst 0, 1) := by decide +kernel
theorem dX5_readHermit_30 : decode cX5_readHermit 30 = .ok (.bipush 9, 2) := by decide +kernel
theorem dX5_readHermit_32 : decode cX5_readHermit 32 = .ok (.invokevirtual 92, 3) := by decide +kernel
theorem dX5_readHermit_35 : decode cX5_readHermit 35 = .ok (.putfield 101, 3) := by decide +kernel
theorem dX5_readHermit_38 : decode cX5_readHermit 38 = .ok (.return_, 1) := by decide +kernel
theorem dX5_readVillage_0 : decode cX5_readVillage 0 = .ok (.aload_n 1, 1) := by decide +kernel
theorem dX5_readVillage_1 : decode cX5_readVillage 1 = .ok (.getfield 89, 3) := by decide +kernel
theorem dX5_readVillage_4 : decode cX5_readVillage 4 = .ok (.istore_n 2, 1) := by decide +kernel
theorem dX5_readVillage_5 : decode cX5_readVillage 5 = .ok (.iload_n 2, 1) := by decide +kernel
theorem dX5_readVillage_6 : decode cX5_readVillage 6 = .ok (.ifCond .lt 9, 3) := by decide +kernel
theorem dX5_readVillage_9 : decode cX5_readVillage 9 = .ok (.iload_n 2, 1) := by decide +kernel
theorem dX5_readVillage_10 : decode cX5_readVillage 10 = .ok (.bipush 8, 2) := by decide +kernel
theorem dX5_readVillage_12 : decode cX5_readVillage 12 = .ok (.if_icmp .lt 4, 3) := by decide +kernel
theorem dX5_readVillage_15 : decode cX5_readVillage 15 = .ok (.return_, 1) := by decide +kernel
theorem dX5_readVillage_16 : decode cX5_readVillage 16 = .ok (.aload_n 1, 1) := by decide +kernel
theorem dX5_readVillage_17 : decode cX5_readVillage 17 = .ok (.getfield 104, 3) := by decide +kernel
theorem dX5_readVillage_20 : decode cX5_readVillage 20 = .ok (.iload_n 2, 1) := by decide +kernel
theorem dX5_readVillage_21 : decode cX5_readVillage 21 = .ok (.aload_n 0, 1) := by decide +kernel
theorem dX5_readVillage_22 : decode cX5_readVillage 22 = .ok (.iconst 0, 1) := by decide +kernel
theorem dX5_readVillage_23 : decode cX5_readVillage 23 = .ok (.bipush 9, 2) := by decide +kernel
theorem dX5_readVillage_25 : decode cX5_readVillage 25 = .ok (.invokevirtual 92, 3) := by decide +kernel
theorem dX5_readVillage_28 : decode cX5_readVillage 28 = .ok (.iastore, 1) := by decide +kernel
theorem dX5_readVillage_29 : decode cX5_readVillage 29 = .ok (.aload_n 1, 1) := by decide +kernel
theorem dX5_readVillage_30 : decode cX5_readVillage 30 = .ok (.getfield 108, 3) := by decide +kernel
theorem dX5_readVillage_33 : decode cX5_readVillage 33 = .ok (.iload_n 2, 1) := by decide +kernel
theorem dX5_readVillage_34 : decode cX5_readVillage 34 = .ok (.aload_n 0, 1) := by decide +kernel
theorem dX5_readVillage_35 : decode cX5_readVillage 35 = .ok (.iconst 1, 1) := by decide +kernel
theorem dX5_readVillage_36 : decode cX5_readVillage 36 = .ok (.bipush 9, 2) := by decide +kernel
theorem dX5_readVillage_38 : decode cX5_readVillage 38 = .ok (.invokevirtual 92, 3) := by decide +kernel
theorem dX5_readVillage_41 : decode cX5_readVillage 41 = .ok (.iastore, 1) := by decide +kernel
theorem dX5_readVillage_42 : decode cX5_readVillage 42 = .ok (.aload_n 1, 1) := by decide +kernel
theorem dX5_readVillage_43 : decode cX5_readVillage 43 = .ok (.getfield 111, 3) := by decide +kernel
theorem dX5_readVillage_46 : decode cX5_readVillage 46 = .ok (.iload_n 2, 1) := by decide +kernel
theorem dX5_readVillage_47 : decode cX5_readVillage 47 = .ok (.aload_n 0, 1) := by decide +kernel
theorem dX5_readVillage_48 : decode cX5_readVillage 48 = .ok (.iconst 0, 1) := by decide +kernel
theorem dX5_readVillage_49 : decode cX5_readVillage 49 = .ok (.aload_n 1, 1) := by decide +kernel
theorem dX5_readVillage_50 : decode cX5_readVillage 50 = .ok (.getfield 108, 3) := by decide +kernel
theorem dX5_readVillage_53 : decode cX5_readVillage 53 = .ok (.iload_n 2, 1) := by decide +kernel
theorem dX5_readVillage_54 : decode cX5_readVillage 54 = .ok (.iaload, 1) := by decide +kernel
theorem dX5_readVillage_55 : decode cX5_readVillage 55 = .ok (.iconst 1, 1) := by decide +kernel
theorem dX5_readVillage_56 : decode cX5_readVillage 56 = .ok (.isub, 1) := by decide +kernel
theorem dX5_readVillage_57 : decode cX5_readVillage 57 = .ok (.invokevirtual 92, 3) := by decide +kernel
theorem dX5_readVillage_60 : decode cX5_readVillage 60 = .ok (.iastore, 1) := by decide +kernel
theorem dX5_readVillage_61 : decode cX5_readVillage 61 = .ok (.aload_n 1, 1) := by decide +kernel
theorem dX5_readVillage_62 : decode cX5_readVillage 62 = .ok (.getfield 114, 3) := by decide +kernel
theorem dX5_readVillage_65 : decode cX5_readVillage 65 = .ok (.iload_n 2, 1) := by decide +kernel
theorem dX5_readVillage_66 : decode cX5_readVillage 66 = .ok (.aload_n 0, 1) := by decide +kernel
theorem dX5_readVillage_67 : decode cX5_readVillage 67 = .ok (.iconst 0, 1) := by decide +kernel
theorem dX5_readVillage_68 : decode cX5_readVillage 68 = .ok (.bipush 100, 2) := by decide +kernel
theorem dX5_readVillage_70 : decode cX5_readVillage 70 = .ok (.invokevirtual 92, 3) := by decide +kernel
theorem dX5_readVillage_73 : decode cX5_readVillage 73 = .ok (.iastore, 1) := by decide +kernel
theorem dX5_readVillage_74 : decode cX5_readVillage 74 = .ok (.aload_n 1, 1) := by decide +kernel
theorem dX5_readVillage_75 : decode cX5_readVillage 75 = .ok (.iload_n 2, 1) := by decide +kernel
theorem dX5_readVillage_76 : decode cX5_readVillage 76 = .ok (.iconst 1, 1) := by decide +kernel
theorem dX5_readVillage_77 : decode cX5_readVillage 77 = .ok (.iadd, 1) := by decide +kernel
theorem dX5_readVillage_78 : decode cX5_readVillage 78 = .ok (.putfield 89, 3) := by decide +kernel
theorem dX5_readVillage_81 : decode cX5_readVillage 81 = .ok (.return_, 1) := by decide +kernel
theorem dX5_readMarkedDay_0 : decode cX5_readMarkedDay 0 = .ok (.aload_n 0, 1) := by decide +kernel
theorem dX5_readMarkedDay_1 : decode cX5_readMarkedDay 1 = .ok (.iconst 0, 1) := by decide +kernel
theorem dX5_readMarkedDay_2 : decode cX5_readMarkedDay 2 = .ok (.sipush 999, 3) := by decide +kernel
theorem dX5_readMarkedDay_5 : decode cX5_readMarkedDay 5 = .ok (.invokevirtual 92, 3) := by decide +kernel
theorem dX5_readMarkedDay_8 : decode cX5_readMarkedDay 8 = .ok (.istore_n 2, 1) := by decide +kernel
theorem dX5_readMarkedDay_9 : decode cX5_readMarkedDay 9 = .ok (.aload_n 0, 1) := by decide +kernel
theorem dX5_readMarkedDay_10 : decode cX5_readMarkedDay 10 = .ok (.getfield 28, 3) := by decide +kernel
theorem dX5_readMarkedDay_13 : decode cX5_readMarkedDay 13 = .ok (.ifCond .eq 5, 3) := by decide +kernel
theorem dX5_readMarkedDay_16 : decode cX5_readMarkedDay 16 = .ok (.iconst 0, 1) := by decide +kernel
theorem dX5_readMarkedDay_17 : decode cX5_readMarkedDay 17 = .ok (.ireturn, 1) := by decide +kernel
theorem dX5_readMarkedDay_18 : decode cX5_readMarkedDay 18 = .ok (.aload_n 1, 1) := by decide +kernel
theorem dX5_readMarkedDay_19 : decode cX5_readMarkedDay 19 = .ok (.iload_n 2, 1) := by decide +kernel
theorem dX5_readMarkedDay_20 : decode cX5_readMarkedDay 20 = .ok (.invokestatic 117, 3) := by decide +kernel
theorem dX5_readMarkedDay_23 : decode cX5_readMarkedDay 23 = .ok (.ifCond .eq 14, 3) := by decide +kernel
theorem dX5_readMarkedDay_26 : decode cX5_readMarkedDay 26 = .ok (.aload_n 0, 1) := by decide +kernel
theorem dX5_readMarkedDay_27 : decode cX5_readMarkedDay 27 = .ok (.iconst 4, 1) := by decide +kernel
theorem dX5_readMarkedDay_28 : decode cX5_readMarkedDay 28 = .ok (.aload_n 0, 1) := by decide +kernel
theorem dX5_readMarkedDay_29 : decode cX5_readMarkedDay 29 = .ok (.getfield 121, 3) := by decide +kernel
theorem dX5_readMarkedDay_32 : decode cX5_readMarkedDay 32 = .ok (.invokevirtual 55, 3) := by decide +kernel
theorem dX5_readMarkedDay_35 : decode cX5_readMarkedDay 35 = .ok (.iconst 0, 1) := by decide +kernel
theorem dX5_readMarkedDay_36 : decode cX5_readMarkedDay 36 = .ok (.ireturn, 1) := by decide +kernel
theorem dX5_readMarkedDay_37 : decode cX5_readMarkedDay 37 = .ok (.aload_n 1, 1) := by decide +kernel
theorem dX5_readMarkedDay_38 : decode cX5_readMarkedDay 38 = .ok (.iload_n 2, 1) := by decide +kernel
theorem dX5_readMarkedDay_39 : decode cX5_readMarkedDay 39 = .ok (.invokestatic 124, 3) := by decide +kernel
theorem dX5_readMarkedDay_42 : decode cX5_readMarkedDay 42 = .ok (.iconst 1, 1) := by decide +kernel
theorem dX5_readMarkedDay_43 : decode cX5_readMarkedDay 43 = .ok (.ireturn, 1) := by decide +kernel
theorem dX5_readEnd_0 : decode cX5_readEnd 0 = .ok (.aload_n 0, 1) := by decide +kernel
theorem dX5_readEnd_1 : decode cX5_readEnd 1 = .ok (.getfield 28, 3) := by decide +kernel
theorem dX5_readEnd_4 : decode cX5_readEnd 4 = .ok (.ifCond .eq 4, 3) := by decide +kernel
theorem dX5_readEnd_7 : decode cX5_readEnd 7 = .ok (.return_, 1) := by decide +kernel
theorem dX5_readEnd_8 : decode cX5_readEnd 8 = .ok (.aload_n 0, 1) := by decide +kernel
theorem dX5_readEnd_9 : decode cX5_readEnd 9 = .ok (.invokevirtual 36, 3) := by decide +kernel
theorem dX5_readEnd_12 : decode cX5_readEnd 12 = .ok (.aload_n 0, 1) := by decide +kernel
theorem dX5_readEnd_13 : decode cX5_readEnd 13 = .ok (.invokevirtual 43, 3) := by decide +kernel
theorem dX5_readEnd_16 : decode cX5_readEnd 16 = .ok (.bipush 59, 2) := by decide +kernel
theorem dX5_readEnd_18 : decode cX5_readEnd 18 = .ok (.if_icmp .ne 16, 3) := by decide +kernel
theorem dX5_readEnd_21 : decode cX5_readEnd 21 = .ok (.aload_n 0, 1) := by decide +kernel
theorem dX5_readEnd_22 : decode cX5_readEnd 22 = .ok (.dup, 1) := by decide +kernel
theorem dX5_readEnd_23 : decode cX5_readEnd 23 = .ok (.getfield 25, 3) := by decide +kernel
theorem dX5_readEnd_26 : decode cX5_readEnd 26 = .ok (.iconst 1, 1) := by decide +kernel
theorem dX5_readEnd_27 : decode cX5_readEnd 27 = .ok (.iadd, 1) := by decide +kernel
theorem dX5_readEnd_28 : decode cX5_readEnd 28 = .ok (.putfield 25, 3) := by decide +kernel
theorem dX5_readEnd_31 : decode cX5_readEnd 31 = .ok (.goto 12, 3) := by decide +kernel
theorem dX5_readEnd_34 : decode cX5_readEnd 34 = .ok (.aload_n 0, 1) := by decide +kernel
theorem dX5_readEnd_35 : decode cX5_readEnd 35 = .ok (.iconst 1, 1) := by decide +kernel
theorem dX5_readEnd_36 : decode cX5_readEnd 36 = .ok (.aload_n 0, 1) := by decide +kernel
theorem dX5_readEnd_37 : decode cX5_readEnd 37 = .ok (.getfield 25, 3) := by decide +kernel
theorem dX5_readEnd_40 : decode cX5_readEnd 40 = .ok (.invokevirtual 55, 3) := by decide +kernel
theorem dX5_readEnd_43 : decode cX5_readEnd 43 = .ok (.return_, 1) := by decide +kernel
theorem dX5_readNumber_0 : decode cX5_readNumber 0 = .ok (.aload_n 0, 1) := by decide +kernel
theorem dX5_readNumber_1 : decode cX5_readNumber 1 = .ok (.getfield 28, 3) := by decide +kernel
theorem dX5_readNumber_4 : decode cX5_readNumber 4 = .ok (.ifCond .eq 5, 3) := by decide +kernel
theorem dX5_readNumber_7 : decode cX5_readNumber 7 = .ok (.iconst 0, 1) := by decide +kernel
theorem dX5_readNumber_8 : decode cX5_readNumber 8 = .ok (.ireturn, 1) := by decide +kernel
theorem dX5_readNumber_9 : decode cX5_readNumber 9 = .ok (.aload_n 0, 1) := by decide +kernel
theorem dX5_readNumber_10 : decode cX5_readNumber 10 = .ok (.invokevirtual 36, 3) := by decide +kernel
theorem dX5_readNumber_13 : decode cX5_readNumber 13 = .ok (.aload_n 0, 1) := by decide +kernel
theorem dX5_readNumber_14 : decode cX5_readNumber 14 = .ok (.aload_n 0, 1) := by decide +kernel
theorem dX5_readNumber_15 : decode cX5_readNumber 15 = .ok (.getfield 25, 3) := by decide +kernel
theorem dX5_readNumber_18 : decode cX5_readNumber 18 = .ok (.putfield 121, 3) := by decide +kernel
theorem dX5_readNumber_21 : decode cX5_readNumber 21 = .ok (.iconst 0, 1) := by decide +kernel
theorem dX5_readNumber_22 : decode cX5_readNumber 22 = .ok (.istore_n 3, 1) := by decide +kernel
theorem dX5_readNumber_23 : decode cX5_readNumber 23 = .ok (.iconst 0, 1) := by decide +kernel
theorem dX5_readNumber_24 : decode cX5_readNumber 24 = .ok (.istore 4, 2) := by decide +kernel
theorem dX5_readNumber_26 : decode cX5_readNumber 26 = .ok (.iload 4, 2) := by decide +kernel
theorem dX5_readNumber_28 : decode cX5_readNumber 28 = .ok (.sipush 240, 3) := by decide +kernel
theorem dX5_readNumber_31 : decode cX5_readNumber 31 = .ok (.if_icmp .ge 48, 3) := by decide +kernel
theorem dX5_readNumber_34 : decode cX5_readNumber 34 = .ok (.aload_n 0, 1) := by decide +kernel
theorem dX5_readNumber_35 : decode cX5_readNumber 35 = .ok (.invokevirtual 43, 3) := by decide +kernel
theorem dX5_readNumber_38 : decode cX5_readNumber 38 = .ok (.invokestatic 128, 3) := by decide +kernel
theorem dX5_readNumber_41 : decode cX5_readNumber 41 = .ok (.ifCond .eq 38, 3) := by decide +kernel
theorem dX5_readNumber_44 : decode cX5_readNumber 44 = .ok (.iload 4, 2) := by decide +kernel
theorem dX5_readNumber_46 : decode cX5_readNumber 46 = .ok (.iconst 3, 1) := by decide +kernel
theorem dX5_readNumber_47 : decode cX5_readNumber 47 = .ok (.if_icmp .ge 16, 3) := by decide +kernel
theorem dX5_readNumber_50 : decode cX5_readNumber 50 = .ok (.iload_n 3, 1) := by decide +kernel
theorem dX5_readNumber_51 : decode cX5_readNumber 51 = .ok (.bipush 10, 2) := by decide +kernel
theorem dX5_readNumber_53 : decode cX5_readNumber 53 = .ok (.imul, 1) := by decide +kernel
theorem dX5_readNumber_54 : decode cX5_readNumber 54 = .ok (.aload_n 0, 1) := by decide +kernel
theorem dX5_readNumber_55 : decode cX5_readNumber 55 = .ok (.invokevirtual 43, 3) := by decide +kernel
theorem dX5_readNumber_58 : decode cX5_readNumber 58 = .ok (.bipush 48, 2) := by decide +kernel
theorem dX5_readNumber_60 : decode cX5_readNumber 60 = .ok (.isub, 1) := by decide +kernel
theorem dX5_readNumber_61 : decode cX5_readNumber 61 = .ok (.iadd, 1) := by decide +kernel
theorem dX5_readNumber_62 : decode cX5_readNumber 62 = .ok (.istore_n 3, 1) := by decide +kernel
theorem dX5_readNumber_63 : decode cX5_readNumber 63 = .ok (.aload_n 0, 1) := by decide +kernel
theorem dX5_readNumber_64 : decode cX5_readNumber 64 = .ok (.dup, 1) := by decide +kernel
theorem dX5_readNumber_65 : decode cX5_readNumber 65 = .ok (.getfield 25, 3) := by decide +kernel
theorem dX5_readNumber_68 : decode cX5_readNumber 68 = .ok (.iconst 1, 1) := by decide +kernel
theorem dX5_readNumber_69 : decode cX5_readNumber 69 = .ok (.iadd, 1) := by decide +kernel
theorem dX5_readNumber_70 : decode cX5_readNumber 70 = .ok (.putfield 25, 3) := by decide +kernel
theorem dX5_readNumber_73 : decode cX5_readNumber 73 = .ok (.iinc 4 1, 3) := by decide +kernel
theorem dX5_readNumber_76 : decode cX5_readNumber 76 = .ok (.goto (-50), 3) := by decide +kernel
theorem dX5_readNumber_79 : decode cX5_readNumber 79 = .ok (.aload_n 0, 1) := by decide +kernel
theorem dX5_readNumber_80 : decode cX5_readNumber 80 = .ok (.getfield 25, 3) := by decide +kernel
theorem dX5_readNumber_83 : decode cX5_readNumber 83 = .ok (.aload_n 0, 1) := by decide +kernel
theorem dX5_readNumber_84 : decode cX5_readNumber 84 = .ok (.getfield 121, 3) := by decide +kernel
theorem dX5_readNumber_87 : decode cX5_readNumber 87 = .ok (.isub, 1) := by decide +kernel
theorem dX5_readNumber_88 : decode cX5_readNumber 88 = .ok (.istore 4, 2) := by decide +kernel
theorem dX5_readNumber_90 : decode cX5_readNumber 90 = .ok (.iload 4, 2) := by decide +kernel
theorem dX5_readNumber_92 : decode cX5_readNumber 92 = .ok (.ifCond .ne 15, 3) := by decide +kernel
theorem dX5_readNumber_95 : decode cX5_readNumber 95 = .ok (.aload_n 0, 1) := by decide +kernel
theorem dX5_readNumber_96 : decode cX5_readNumber 96 = .ok (.iconst 1, 1) := by decide +kernel
theorem dX5_readNumber_97 : decode cX5_readNumber 97 = .ok (.aload_n 0, 1) := by decide +kernel
theorem dX5_readNumber_98 : decode cX5_readNumber 98 = .ok (.getfield 25, 3) := by decide +kernel
theorem dX5_readNumber_101 : decode cX5_readNumber 101 = .ok (.invokevirtual 55, 3) := by decide +kernel
theorem dX5_readNumber_104 : decode cX5_readNumber 104 = .ok (.goto 28, 3) := by decide +kernel
theorem dX5_readNumber_107 : decode cX5_readNumber 107 = .ok (.iload 4, 2) := by decide +kernel
theorem dX5_readNumber_109 : decode cX5_readNumber 109 = .ok (.iconst 3, 1) := by decide +kernel
theorem dX5_readNumber_110 : decode cX5_readNumber 110 = .ok (.if_icmp .gt 13, 3) := by decide +kernel
theorem dX5_readNumber_113 : decode cX5_readNumber 113 = .ok (.iload_n 3, 1) := by decide +kernel
theorem dX5_readNumber_114 : decode cX5_readNumber 114 = .ok (.iload_n 1, 1) := by decide +kernel
theorem dX5_readNumber_115 : decode cX5_readNumber 115 = .ok (.if_icmp .lt 8, 3) := by decide +kernel
theorem dX5_readNumber_118 : decode cX5_readNumber 118 = .ok (.iload_n 3, 1) := by decide +kernel
theorem dX5_readNumber_119 : decode cX5_readNumber 119 = .ok (.iload_n 2, 1) := by decide +kernel
theorem dX5_readNumber_120 : decode cX5_readNumber 120 = .ok (.if_icmp .le 12, 3) := by decide +kernel
theorem dX5_readNumber_123 : decode cX5_readNumber 123 = .ok (.aload_n 0, 1) := by decide +kernel
theorem dX5_readNumber_124 : decode cX5_readNumber 124 = .ok (.iconst 2, 1) := by decide +kernel
theorem dX5_readNumber_125 : decode cX5_readNumber 125 = .ok (.aload_n 0, 1) := by decide +kernel
theorem dX5_readNumber_126 : decode cX5_readNumber 126 = .ok (.getfield 121, 3) := by decide +kernel
theorem dX5_readNumber_129 : decode cX5_readNumber 129 = .ok (.invokevirtual 55, 3) := by decide +kernel
theorem dX5_readNumber_132 : decode cX5_readNumber 132 = .ok (.iload_n 3, 1) := by decide +kernel
theorem dX5_readNumber_133 : decode cX5_readNumber 133 = .ok (.ireturn, 1) := by decide +kernel
theorem dX5_isFigure_0 : decode cX5_isFigure 0 = .ok (.iload_n 0, 1) := by decide +kernel
theorem dX5_isFigure_1 : decode cX5_isFigure 1 = .ok (.bipush 48, 2) := by decide +kernel
theorem dX5_isFigure_3 : decode cX5_isFigure 3 = .ok (.if_icmp .lt 13, 3) := by decide +kernel
theorem dX5_isFigure_6 : decode cX5_isFigure 6 = .ok (.iload_n 0, 1) := by decide +kernel
theorem dX5_isFigure_7 : decode cX5_isFigure 7 = .ok (.bipush 57, 2) := by decide +kernel
theorem dX5_isFigure_9 : decode cX5_isFigure 9 = .ok (.if_icmp .gt 7, 3) := by decide +kernel
theorem dX5_isFigure_12 : decode cX5_isFigure 12 = .ok (.iconst 1, 1) := by decide +kernel
theorem dX5_isFigure_13 : decode cX5_isFigure 13 = .ok (.goto 4, 3) := by decide +kernel
theorem dX5_isFigure_16 : decode cX5_isFigure 16 = .ok (.iconst 0, 1) := by decide +kernel
theorem dX5_isFigure_17 : decode cX5_isFigure 17 = .ok (.ireturn, 1) := by decide +kernel
theorem dX5_skipBlanks_0 : decode cX5_skipBlanks 0 = .ok (.aload_n 0, 1) := by decide +kernel
theorem dX5_skipBlanks_1 : decode cX5_skipBlanks 1 = .ok (.getfield 28, 3) := by decide +kernel
theorem dX5_skipBlanks_4 : decode cX5_skipBlanks 4 = .ok (.ifCond .eq 4, 3) := by decide +kernel
theorem dX5_skipBlanks_7 : decode cX5_skipBlanks 7 = .ok (.return_, 1) := by decide +kernel
theorem dX5_skipBlanks_8 : decode cX5_skipBlanks 8 = .ok (.iconst 0, 1) := by decide +kernel
theorem dX5_skipBlanks_9 : decode cX5_skipBlanks 9 = .ok (.istore_n 1, 1) := by decide +kernel
theorem dX5_skipBlanks_10 : decode cX5_skipBlanks 10 = .ok (.iload_n 1, 1) := by decide +kernel
theorem dX5_skipBlanks_11 : decode cX5_skipBlanks 11 = .ok (.sipush 240, 3) := by decide +kernel
theorem dX5_skipBlanks_14 : decode cX5_skipBlanks 14 = .ok (.if_icmp .ge 28, 3) := by decide +kernel
theorem dX5_skipBlanks_17 : decode cX5_skipBlanks 17 = .ok (.aload_n 0, 1) := by decide +kernel
theorem dX5_skipBlanks_18 : decode cX5_skipBlanks 18 = .ok (.invokevirtual 43, 3) := by decide +kernel
theorem dX5_skipBlanks_21 : decode cX5_skipBlanks 21 = .ok (.bipush 32, 2) := by decide +kernel
theorem dX5_skipBlanks_23 : decode cX5_skipBlanks 23 = .ok (.if_icmp .ne 19, 3) := by decide +kernel
theorem dX5_skipBlanks_26 : decode cX5_skipBlanks 26 = .ok (.aload_n 0, 1) := by decide +kernel
theorem dX5_skipBlanks_27 : decode cX5_skipBlanks 27 = .ok (.dup, 1) := by decide +kernel
theorem dX5_skipBlanks_28 : decode cX5_skipBlanks 28 = .ok (.getfield 25, 3) := by decide +kernel
theorem dX5_skipBlanks_31 : decode cX5_skipBlanks 31 = .ok (.iconst 1, 1) := by decide +kernel
theorem dX5_skipBlanks_32 : decode cX5_skipBlanks 32 = .ok (.iadd, 1) := by decide +kernel
theorem dX5_skipBlanks_33 : decode cX5_skipBlanks 33 = .ok (.putfield 25, 3) := by decide +kernel
theorem dX5_skipBlanks_36 : decode cX5_skipBlanks 36 = .ok (.iinc 1 1, 3) := by decide +kernel
theorem dX5_skipBlanks_39 : decode cX5_skipBlanks 39 = .ok (.goto (-29), 3) := by decide +kernel
theorem dX5_skipBlanks_42 : decode cX5_skipBlanks 42 = .ok (.return_, 1) := by decide +kernel
theorem dX5_letterHere_0 : decode cX5_letterHere 0 = .ok (.aload_n 0, 1) := by decide +kernel
theorem dX5_letterHere_1 : decode cX5_letterHere 1 = .ok (.getfield 25, 3) := by decide +kernel
theorem dX5_letterHere_4 : decode cX5_letterHere 4 = .ok (.ifCond .lt 26, 3) := by decide +kernel
theorem dX5_letterHere_7 : decode cX5_letterHere 7 = .ok (.aload_n 0, 1) := by decide +kernel
theorem dX5_letterHere_8 : decode cX5_letterHere 8 = .ok (.getfield 25, 3) := by decide +kernel
theorem dX5_letterHere_11 : decode cX5_letterHere 11 = .ok (.aload_n 0, 1) := by decide +kernel
theorem dX5_letterHere_12 : decode cX5_letterHere 12 = .ok (.getfield 21, 3) := by decide +kernel
theorem dX5_letterHere_15 : decode cX5_letterHere 15 = .ok (.if_icmp .ge 15, 3) := by decide +kernel
theorem dX5_letterHere_18 : decode cX5_letterHere 18 = .ok (.aload_n 0, 1) := by decide +kernel
theorem dX5_letterHere_19 : decode cX5_letterHere 19 = .ok (.getfield 25, 3) := by decide +kernel
theorem dX5_letterHere_22 : decode cX5_letterHere 22 = .ok (.aload_n 0, 1) := by decide +kernel
theorem dX5_letterHere_23 : decode cX5_letterHere 23 = .ok (.getfield 9, 3) := by decide +kernel
theorem dX5_letterHere_26 : decode cX5_letterHere 26 = .ok (.arraylength, 1) := by decide +kernel
theorem dX5_letterHere_27 : decode cX5_letterHere 27 = .ok (.if_icmp .lt 7, 3) := by decide +kernel
