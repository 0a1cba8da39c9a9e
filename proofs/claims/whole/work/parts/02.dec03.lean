theorem dX5_letterHere_30 : decode cX5_letterHere 30 = .ok (.iconst 0, 1) := by decide +kernel
theorem dX5_letterHere_31 : decode cX5_letterHere 31 = .ok (.goto 12, 3) := by decide +kernel
theorem dX5_letterHere_34 : decode cX5_letterHere 34 = .ok (.aload_n 0, 1) := by decide +kernel
theorem dX5_letterHere_35 : decode cX5_letterHere 35 = .ok (.getfield 9, 3) := by decide +kernel
theorem dX5_letterHere_38 : decode cX5_letterHere 38 = .ok (.aload_n 0, 1) := by decide +kernel
theorem dX5_letterHere_39 : decode cX5_letterHere 39 = .ok (.getfield 25, 3) := by decide +kernel
theorem dX5_letterHere_42 : decode cX5_letterHere 42 = .ok (.caload, 1) := by decide +kernel
theorem dX5_letterHere_43 : decode cX5_letterHere 43 = .ok (.ireturn, 1) := by decide +kernel
theorem dX5_blame_0 : decode cX5_blame 0 = .ok (.aload_n 0, 1) := by decide +kernel
theorem dX5_blame_1 : decode cX5_blame 1 = .ok (.getfield 28, 3) := by decide +kernel
theorem dX5_blame_4 : decode cX5_blame 4 = .ok (.ifCond .eq 4, 3) := by decide +kernel
theorem dX5_blame_7 : decode cX5_blame 7 = .ok (.return_, 1) := by decide +kernel
theorem dX5_blame_8 : decode cX5_blame 8 = .ok (.aload_n 0, 1) := by decide +kernel
theorem dX5_blame_9 : decode cX5_blame 9 = .ok (.iload_n 1, 1) := by decide +kernel
theorem dX5_blame_10 : decode cX5_blame 10 = .ok (.putfield 28, 3) := by decide +kernel
theorem dX5_blame_13 : decode cX5_blame 13 = .ok (.aload_n 0, 1) := by decide +kernel
theorem dX5_blame_14 : decode cX5_blame 14 = .ok (.iload_n 2, 1) := by decide +kernel
theorem dX5_blame_15 : decode cX5_blame 15 = .ok (.putfield 25, 3) := by decide +kernel
theorem dX5_blame_18 : decode cX5_blame 18 = .ok (.return_, 1) := by decide +kernel
theorem dX6_init_0 : decode cX6_init 0 = .ok (.aload_n 0, 1) := by decide +kernel
theorem dX6_init_1 : decode cX6_init 1 = .ok (.invokespecial 3, 3) := by decide +kernel
theorem dX6_init_4 : decode cX6_init 4 = .ok (.aload_n 0, 1) := by decide +kernel
theorem dX6_init_5 : decode cX6_init 5 = .ok (.bipush 8, 2) := by decide +kernel
theorem dX6_init_7 : decode cX6_init 7 = .ok (.newarray .int, 2) := by decide +kernel
theorem dX6_init_9 : decode cX6_init 9 = .ok (.putfield 9, 3) := by decide +kernel
theorem dX6_init_12 : decode cX6_init 12 = .ok (.aload_n 0, 1) := by decide +kernel
theorem dX6_init_13 : decode cX6_init 13 = .ok (.bipush 8, 2) := by decide +kernel
theorem dX6_init_15 : decode cX6_init 15 = .ok (.newarray .int, 2) := by decide +kernel
theorem dX6_init_17 : decode cX6_init 17 = .ok (.putfield 15, 3) := by decide +kernel
theorem dX6_init_20 : decode cX6_init 20 = .ok (.aload_n 0, 1) := by decide +kernel
theorem dX6_init_21 : decode cX6_init 21 = .ok (.bipush 8, 2) := by decide +kernel
theorem dX6_init_23 : decode cX6_init 23 = .ok (.newarray .int, 2) := by decide +kernel
theorem dX6_init_25 : decode cX6_init 25 = .ok (.putfield 18, 3) := by decide +kernel
theorem dX6_init_28 : decode cX6_init 28 = .ok (.aload_n 0, 1) := by decide +kernel
theorem dX6_init_29 : decode cX6_init 29 = .ok (.bipush 8, 2) := by decide +kernel
theorem dX6_init_31 : decode cX6_init 31 = .ok (.newarray .int, 2) := by decide +kernel
theorem dX6_init_33 : decode cX6_init 33 = .ok (.putfield 21, 3) := by decide +kernel
theorem dX6_init_36 : decode cX6_init 36 = .ok (.aload_n 0, 1) := by decide +kernel
theorem dX6_init_37 : decode cX6_init 37 = .ok (.bipush 16, 2) := by decide +kernel
theorem dX6_init_39 : decode cX6_init 39 = .ok (.newarray .long, 2) := by decide +kernel
theorem dX6_init_41 : decode cX6_init 41 = .ok (.putfield 24, 3) := by decide +kernel
theorem dX6_init_44 : decode cX6_init 44 = .ok (.aload_n 0, 1) := by decide +kernel
theorem dX6_init_45 : decode cX6_init 45 = .ok (.bipush 16, 2) := by decide +kernel
theorem dX6_init_47 : decode cX6_init 47 = .ok (.newarray .long, 2) := by decide +kernel
theorem dX6_init_49 : decode cX6_init 49 = .ok (.putfield 28, 3) := by decide +kernel
theorem dX6_init_52 : decode cX6_init 52 = .ok (.return_, 1) := by decide +kernel
theorem dX6_clear_0 : decode cX6_clear 0 = .ok (.aload_n 0, 1) := by decide +kernel
theorem dX6_clear_1 : decode cX6_clear 1 = .ok (.iconst 0, 1) := by decide +kernel
theorem dX6_clear_2 : decode cX6_clear 2 = .ok (.putfield 31, 3) := by decide +kernel
theorem dX6_clear_5 : decode cX6_clear 5 = .ok (.aload_n 0, 1) := by decide +kernel
theorem dX6_clear_6 : decode cX6_clear 6 = .ok (.iconst 0, 1) := by decide +kernel
theorem dX6_clear_7 : decode cX6_clear 7 = .ok (.putfield 35, 3) := by decide +kernel
theorem dX6_clear_10 : decode cX6_clear 10 = .ok (.aload_n 0, 1) := by decide +kernel
theorem dX6_clear_11 : decode cX6_clear 11 = .ok (.iconst 0, 1) := by decide +kernel
theorem dX6_clear_12 : decode cX6_clear 12 = .ok (.putfield 39, 3) := by decide +kernel
theorem dX6_clear_15 : decode cX6_clear 15 = .ok (.aload_n 0, 1) := by decide +kernel
theorem dX6_clear_16 : decode cX6_clear 16 = .ok (.iconst 0, 1) := by decide +kernel
theorem dX6_clear_17 : decode cX6_clear 17 = .ok (.putfield 42, 3) := by decide +kernel
theorem dX6_clear_20 : decode cX6_clear 20 = .ok (.aload_n 0, 1) := by decide +kernel
theorem dX6_clear_21 : decode cX6_clear 21 = .ok (.iconst 0, 1) := by decide +kernel
theorem dX6_clear_22 : decode cX6_clear 22 = .ok (.putfield 45, 3) := by decide +kernel
theorem dX6_clear_25 : decode cX6_clear 25 = .ok (.aload_n 0, 1) := by decide +kernel
theorem dX6_clear_26 : decode cX6_clear 26 = .ok (.iconst 0, 1) := by decide +kernel
theorem dX6_clear_27 : decode cX6_clear 27 = .ok (.putfield 48, 3) := by decide +kernel
theorem dX6_clear_30 : decode cX6_clear 30 = .ok (.aload_n 0, 1) := by decide +kernel
theorem dX6_clear_31 : decode cX6_clear 31 = .ok (.iconst 0, 1) := by decide +kernel
theorem dX6_clear_32 : decode cX6_clear 32 = .ok (.putfield 51, 3) := by decide +kernel
theorem dX6_clear_35 : decode cX6_clear 35 = .ok (.aload_n 0, 1) := by decide +kernel
theorem dX6_clear_36 : decode cX6_clear 36 = .ok (.getfield 24, 3) := by decide +kernel
theorem dX6_clear_39 : decode cX6_clear 39 = .ok (.lconst 0, 1) := by decide +kernel
theorem dX6_clear_40 : decode cX6_clear 40 = .ok (.invokestatic 54, 3) := by decide +kernel
theorem dX6_clear_43 : decode cX6_clear 43 = .ok (.aload_n 0, 1) := by decide +kernel
theorem dX6_clear_44 : decode cX6_clear 44 = .ok (.getfield 28, 3) := by decide +kernel
theorem dX6_clear_47 : decode cX6_clear 47 = .ok (.lconst 0, 1) := by decide +kernel
theorem dX6_clear_48 : decode cX6_clear 48 = .ok (.invokestatic 54, 3) := by decide +kernel
theorem dX6_clear_51 : decode cX6_clear 51 = .ok (.return_, 1) := by decide +kernel
theorem dX6_has_0 : decode cX6_has 0 = .ok (.iload_n 1, 1) := by decide +kernel
theorem dX6_has_1 : decode cX6_has 1 = .ok (.ifCond .lt 21, 3) := by decide +kernel
theorem dX6_has_4 : decode cX6_has 4 = .ok (.iload_n 1, 1) := by decide +kernel
theorem dX6_has_5 : decode cX6_has 5 = .ok (.aload_n 0, 1) := by decide +kernel
theorem dX6_has_6 : decode cX6_has 6 = .ok (.getfield 45, 3) := by decide +kernel
theorem dX6_has_9 : decode cX6_has 9 = .ok (.if_icmp .ge 13, 3) := by decide +kernel
theorem dX6_has_12 : decode cX6_has 12 = .ok (.iload_n 1, 1) := by decide +kernel
theorem dX6_has_13 : decode cX6_has 13 = .ok (.bipush 8, 2) := by decide +kernel
theorem dX6_has_15 : decode cX6_has 15 = .ok (.if_icmp .ge 7, 3) := by decide +kernel
theorem dX6_has_18 : decode cX6_has 18 = .ok (.iconst 1, 1) := by decide +kernel
theorem dX6_has_19 : decode cX6_has 19 = .ok (.goto 4, 3) := by decide +kernel
theorem dX6_has_22 : decode cX6_has 22 = .ok (.iconst 0, 1) := by decide +kernel
theorem dX6_has_23 : decode cX6_has 23 = .ok (.ireturn, 1) := by decide +kernel
theorem dX6_all_0 : decode cX6_all 0 = .ok (.iconst 1, 1) := by decide +kernel
theorem dX6_all_1 : decode cX6_all 1 = .ok (.aload_n 0, 1) := by decide +kernel
theorem dX6_all_2 : decode cX6_all 2 = .ok (.getfield 45, 3) := by decide +kernel
theorem dX6_all_5 : decode cX6_all 5 = .ok (.ishl, 1) := by decide +kernel
theorem dX6_all_6 : decode cX6_all 6 = .ok (.iconst 1, 1) := by decide +kernel
theorem dX6_all_7 : decode cX6_all 7 = .ok (.isub, 1) := by decide +kernel
theorem dX6_all_8 : decode cX6_all 8 = .ok (.ireturn, 1) := by decide +kernel
theorem dX6_periodOf_0 : decode cX6_periodOf 0 = .ok (.iload_n 1, 1) := by decide +kernel
theorem dX6_periodOf_1 : decode cX6_periodOf 1 = .ok (.ifCond .lt 12, 3) := by decide +kernel
theorem dX6_periodOf_4 : decode cX6_periodOf 4 = .ok (.iload_n 1, 1) := by decide +kernel
theorem dX6_periodOf_5 : decode cX6_periodOf 5 = .ok (.aload_n 0, 1) := by decide +kernel
theorem dX6_periodOf_6 : decode cX6_periodOf 6 = .ok (.getfield 15, 3) := by decide +kernel
theorem dX6_periodOf_9 : decode cX6_periodOf 9 = .ok (.arraylength, 1) := by decide +kernel
theorem dX6_periodOf_10 : decode cX6_periodOf 10 = .ok (.if_icmp .lt 7, 3) := by decide +kernel
theorem dX6_periodOf_13 : decode cX6_periodOf 13 = .ok (.iconst 1, 1) := by decide +kernel
theorem dX6_periodOf_14 : decode cX6_periodOf 14 = .ok (.goto 13, 3) := by decide +kernel
theorem dX6_periodOf_17 : decode cX6_periodOf 17 = .ok (.iconst 1, 1) := by decide +kernel
theorem dX6_periodOf_18 : decode cX6_periodOf 18 = .ok (.aload_n 0, 1) := by decide +kernel
theorem dX6_periodOf_19 : decode cX6_periodOf 19 = .ok (.getfield 15, 3) := by decide +kernel
theorem dX6_periodOf_22 : decode cX6_periodOf 22 = .ok (.iload_n 1, 1) := by decide +kernel
theorem dX6_periodOf_23 : decode cX6_periodOf 23 = .ok (.iaload, 1) := by decide +kernel
theorem dX6_periodOf_24 : decode cX6_periodOf 24 = .ok (.invokestatic 60, 3) := by decide +kernel
theorem dX6_periodOf_27 : decode cX6_periodOf 27 = .ok (.ireturn, 1) := by decide +kernel
theorem dX6_isFog_0 : decode cX6_isFog 0 = .ok (.aload_n 0, 1) := by decide +kernel
theorem dX6_isFog_1 : decode cX6_isFog 1 = .ok (.getfield 28, 3) := by decide +kernel
theorem dX6_isFog_4 : decode cX6_isFog 4 = .ok (.iload_n 1, 1) := by decide +kernel
theorem dX6_isFog_5 : decode cX6_isFog 5 = .ok (.invokestatic 66, 3) := by decide +kernel
theorem dX6_isFog_8 : decode cX6_isFog 8 = .ok (.ireturn, 1) := by decide +kernel
theorem dX6_isMarked_0 : decode cX6_isMarked 0 = .ok (.iload_n 1, 1) := by decide +kernel
theorem dX6_isMarked_1 : decode cX6_isMarked 1 = .ok (.bipush 6, 2) := by decide +kernel
theorem dX6_isMarked_3 : decode cX6_isMarked 3 = .ok (.ishr, 1) := by decide +kernel
theorem dX6_isMarked_4 : decode cX6_isMarked 4 = .ok (.istore_n 2, 1) := by decide +kernel
theorem dX6_isMarked_5 : decode cX6_isMarked 5 = .ok (.iload_n 2, 1) := by decide +kernel
theorem dX6_isMarked_6 : decode cX6_isMarked 6 = .ok (.ifCond .lt 28, 3) := by decide +kernel
theorem dX6_isMarked_9 : decode cX6_isMarked 9 = .ok (.iload_n 2, 1) := by decide +kernel
theorem dX6_isMarked_10 : decode cX6_isMarked 10 = .ok (.aload_n 0, 1) := by decide +kernel
theorem dX6_isMarked_11 : decode cX6_isMarked 11 = .ok (.arraylength, 1) := by decide +kernel
theorem dX6_isMarked_12 : decode cX6_isMarked 12 = .ok (.if_icmp .ge 22, 3) := by decide +kernel
theorem dX6_isMarked_15 : decode cX6_isMarked 15 = .ok (.aload_n 0, 1) := by decide +kernel
theorem dX6_isMarked_16 : decode cX6_isMarked 16 = .ok (.iload_n 2, 1) := by decide +kernel
theorem dX6_isMarked_17 : decode cX6_isMarked 17 = .ok (.laload, 1) := by decide +kernel
theorem dX6_isMarked_18 : decode cX6_isMarked 18 = .ok (.iload_n 1, 1) := by decide +kernel
theorem dX6_isMarked_19 : decode cX6_isMarked 19 = .ok (.bipush 63, 2) := by decide +kernel
theorem dX6_isMarked_21 : decode cX6_isMarked 21 = .ok (.iand, 1) := by decide +kernel
theorem dX6_isMarked_22 : decode cX6_isMarked 22 = .ok (.lushr, 1) := by decide +kernel
theorem dX6_isMarked_23 : decode cX6_isMarked 23 = .ok (.lconst 1, 1) := by decide +kernel
theorem dX6_isMarked_24 : decode cX6_isMarked 24 = .ok (.land, 1) := by decide +kernel
theorem dX6_isMarked_25 : decode cX6_isMarked 25 = .ok (.lconst 0, 1) := by decide +kernel
theorem dX6_isMarked_26 : decode cX6_isMarked 26 = .ok (.lcmp, 1) := by decide +kernel
theorem dX6_isMarked_27 : decode cX6_isMarked 27 = .ok (.ifCond .eq 7, 3) := by decide +kernel
theorem dX6_isMarked_30 : decode cX6_isMarked 30 = .ok (.iconst 1, 1) := by decide +kernel
theorem dX6_isMarked_31 : decode cX6_isMarked 31 = .ok (.goto 4, 3) := by decide +kernel
theorem dX6_isMarked_34 : decode cX6_isMarked 34 = .ok (.iconst 0, 1) := by decide +kernel
theorem dX6_isMarked_35 : decode cX6_isMarked 35 = .ok (.ireturn, 1) := by decide +kernel
theorem dX6_mark_0 : decode cX6_mark 0 = .ok (.iload_n 1, 1) := by decide +kernel
theorem dX6_mark_1 : decode cX6_mark 1 = .ok (.bipush 6, 2) := by decide +kernel
theorem dX6_mark_3 : decode cX6_mark 3 = .ok (.ishr, 1) := by decide +kernel
theorem dX6_mark_4 : decode cX6_mark 4 = .ok (.istore_n 2, 1) := by decide +kernel
theorem dX6_mark_5 : decode cX6_mark 5 = .ok (.iload_n 2, 1) := by decide +kernel
theorem dX6_mark_6 : decode cX6_mark 6 = .ok (.ifCond .lt 21, 3) := by decide +kernel
theorem dX6_mark_9 : decode cX6_mark 9 = .ok (.iload_n 2, 1) := by decide +kernel
theorem dX6_mark_10 : decode cX6_mark 10 = .ok (.aload_n 0, 1) := by decide +kernel
theorem dX6_mark_11 : decode cX6_mark 11 = .ok (.arraylength, 1) := by decide +kernel
theorem dX6_mark_12 : decode cX6_mark 12 = .ok (.if_icmp .ge 15, 3) := by decide +kernel
theorem dX6_mark_15 : decode cX6_mark 15 = .ok (.aload_n 0, 1) := by decide +kernel
theorem dX6_mark_16 : decode cX6_mark 16 = .ok (.iload_n 2, 1) := by decide +kernel
theorem dX6_mark_17 : decode cX6_mark 17 = .ok (.dup2, 1) := by decide +kernel
theorem dX6_mark_18 : decode cX6_mark 18 = .ok (.laload, 1) := by decide +kernel
theorem dX6_mark_19 : decode cX6_mark 19 = .ok (.lconst 1, 1) := by decide +kernel
theorem dX6_mark_20 : decode cX6_mark 20 = .ok (.iload_n 1, 1) := by decide +kernel
theorem dX6_mark_21 : decode cX6_mark 21 = .ok (.bipush 63, 2) := by decide +kernel
theorem dX6_mark_23 : decode cX6_mark 23 = .ok (.iand, 1) := by decide +kernel
theorem dX6_mark_24 : decode cX6_mark 24 = .ok (.lshl, 1) := by decide +kernel
theorem dX6_mark_25 : decode cX6_mark 25 = .ok (.lor, 1) := by decide +kernel
theorem dX6_mark_26 : decode cX6_mark 26 = .ok (.lastore, 1) := by decide +kernel
theorem dX6_mark_27 : decode cX6_mark 27 = .ok (.return_, 1) := by decide +kernel
theorem dX6_brings_0 : decode cX6_brings 0 = .ok (.aload_n 0, 1) := by decide +kernel
theorem dX6_brings_1 : decode cX6_brings 1 = .ok (.iload_n 1, 1) := by decide +kernel
theorem dX6_brings_2 : decode cX6_brings 2 = .ok (.invokevirtual 70, 3) := by decide +kernel
theorem dX6_brings_5 : decode cX6_brings 5 = .ok (.ifCond .eq 13, 3) := by decide +kernel
theorem dX6_brings_8 : decode cX6_brings 8 = .ok (.iload_n 3, 1) := by decide +kernel
theorem dX6_brings_9 : decode cX6_brings 9 = .ok (.aload_n 0, 1) := by decide +kernel
theorem dX6_brings_10 : decode cX6_brings 10 = .ok (.getfield 9, 3) := by decide +kernel
theorem dX6_brings_13 : decode cX6_brings 13 = .ok (.iload_n 1, 1) := by decide +kernel
theorem dX6_brings_14 : decode cX6_brings 14 = .ok (.iaload, 1) := by decide +kernel
theorem dX6_brings_15 : decode cX6_brings 15 = .ok (.if_icmp .ge 5, 3) := by decide +kernel
theorem dX6_brings_18 : decode cX6_brings 18 = .ok (.iconst 0, 1) := by decide +kernel
theorem dX6_brings_19 : decode cX6_brings 19 = .ok (.ireturn, 1) := by decide +kernel
theorem dX6_brings_20 : decode cX6_brings 20 = .ok (.iload_n 3, 1) := by decide +kernel
theorem dX6_brings_21 : decode cX6_brings 21 = .ok (.aload_n 0, 1) := by decide +kernel
theorem dX6_brings_22 : decode cX6_brings 22 = .ok (.iload_n 1, 1) := by decide +kernel
theorem dX6_brings_23 : decode cX6_brings 23 = .ok (.invokevirtual 74, 3) := by decide +kernel
theorem dX6_brings_26 : decode cX6_brings 26 = .ok (.irem, 1) := by decide +kernel
theorem dX6_brings_27 : decode cX6_brings 27 = .ok (.iload_n 2, 1) := by decide +kernel
theorem dX6_brings_28 : decode cX6_brings 28 = .ok (.if_icmp .eq 16, 3) := by decide +kernel
theorem dX6_brings_31 : decode cX6_brings 31 = .ok (.aload_n 0, 1) := by decide +kernel
theorem dX6_brings_32 : decode cX6_brings 32 = .ok (.getfield 24, 3) := by decide +kernel
theorem dX6_brings_35 : decode cX6_brings 35 = .ok (.iload_n 3, 1) := by decide +kernel
theorem dX6_brings_36 : decode cX6_brings 36 = .ok (.invokestatic 66, 3) := by decide +kernel
theorem dX6_brings_39 : decode cX6_brings 39 = .ok (.ifCond .ne 5, 3) := by decide +kernel
theorem dX6_brings_42 : decode cX6_brings 42 = .ok (.iconst 0, 1) := by decide +kernel
theorem dX6_brings_43 : decode cX6_brings 43 = .ok (.ireturn, 1) := by decide +kernel
theorem dX6_brings_44 : decode cX6_brings 44 = .ok (.aload_n 0, 1) := by decide +kernel
theorem dX6_brings_45 : decode cX6_brings 45 = .ok (.getfield 9, 3) := by decide +kernel
theorem dX6_brings_48 : decode cX6_brings 48 = .ok (.iload_n 1, 1) := by decide +kernel
theorem dX6_brings_49 : decode cX6_brings 49 = .ok (.iaload, 1) := by decide +kernel
theorem dX6_brings_50 : decode cX6_brings 50 = .ok (.ifCond .eq 14, 3) := by decide +kernel
theorem dX6_brings_53 : decode cX6_brings 53 = .ok (.aload_n 0, 1) := by decide +kernel
theorem dX6_brings_54 : decode cX6_brings 54 = .ok (.getfield 28, 3) := by decide +kernel
theorem dX6_brings_57 : decode cX6_brings 57 = .ok (.iload_n 3, 1) := by decide +kernel
theorem dX6_brings_58 : decode cX6_brings 58 = .ok (.invokestatic 66, 3) := by decide +kernel
theorem dX6_brings_61 : decode cX6_brings 61 = .ok (.ifCond .ne 7, 3) := by decide +kernel
theorem dX6_brings_64 : decode cX6_brings 64 = .ok (.iconst 1, 1) := by decide +kernel
theorem dX6_brings_65 : decode cX6_brings 65 = .ok (.goto 4, 3) := by decide +kernel
theorem dX6_brings_68 : decode cX6_brings 68 = .ok (.iconst 0, 1) := by decide +kernel
theorem dX6_brings_69 : decode cX6_brings 69 = .ok (.ireturn, 1) := by decide +kernel
theorem dX6_feetOf_0 : decode cX6_feetOf 0 = .ok (.iconst 0, 1) := by decide +kernel
theorem dX6_feetOf_1 : decode cX6_feetOf 1 = .ok (.istore_n 2, 1) := by decide +kernel
theorem dX6_feetOf_2 : decode cX6_feetOf 2 = .ok (.iconst 0, 1) := by decide +kernel
theorem dX6_feetOf_3 : decode cX6_feetOf 3 = .ok (.istore_n 3, 1) := by decide +kernel
theorem dX6_feetOf_4 : decode cX6_feetOf 4 = .ok (.iload_n 3, 1) := by decide +kernel
theorem dX6_feetOf_5 : decode cX6_feetOf 5 = .ok (.aload_n 0, 1) := by decide +kernel
theorem dX6_feetOf_6 : decode cX6_feetOf 6 = .ok (.getfield 45, 3) := by decide +kernel
theorem dX6_feetOf_9 : decode cX6_feetOf 9 = .ok (.if_icmp .ge 37, 3) := by decide +kernel
theorem dX6_feetOf_12 : decode cX6_feetOf 12 = .ok (.iload_n 3, 1) := by decide +kernel
theorem dX6_feetOf_13 : decode cX6_feetOf 13 = .ok (.aload_n 0, 1) := by decide +kernel
theorem dX6_feetOf_14 : decode cX6_feetOf 14 = .ok (.getfield 9, 3) := by decide +kernel
theorem dX6_feetOf_17 : decode cX6_feetOf 17 = .ok (.arraylength, 1) := by decide +kernel
theorem dX6_feetOf_18 : decode cX6_feetOf 18 = .ok (.if_icmp .ge 28, 3) := by decide +kernel
theorem dX6_feetOf_21 : decode cX6_feetOf 21 = .ok (.iload_n 1, 1) := by decide +kernel
theorem dX6_feetOf_22 : decode cX6_feetOf 22 = .ok (.iload_n 3, 1) := by decide +kernel
theorem dX6_feetOf_23 : decode cX6_feetOf 23 = .ok (.ishr, 1) := by decide +kernel
theorem dX6_feetOf_24 : decode cX6_feetOf 24 = .ok (.iconst 1, 1) := by decide +kernel
theorem dX6_feetOf_25 : decode cX6_feetOf 25 = .ok (.iand, 1) := by decide +kernel
theorem dX6_feetOf_26 : decode cX6_feetOf 26 = .ok (.ifCond .eq 14, 3) := by decide +kernel
theorem dX6_feetOf_29 : decode cX6_feetOf 29 = .ok (.iload_n 2, 1) := by decide +kernel
theorem dX6_feetOf_30 : decode cX6_feetOf 30 = .ok (.iconst 2, 1) := by decide +kernel
theorem dX6_feetOf_31 : decode cX6_feetOf 31 = .ok (.aload_n 0, 1) := by decide +kernel
theorem dX6_feetOf_32 : decode cX6_feetOf 32 = .ok (.getfield 9, 3) := by decide +kernel
theorem dX6_feetOf_35 : decode cX6_feetOf 35 = .ok (.iload_n 3, 1) := by decide +kernel
theorem dX6_feetOf_36 : decode cX6_feetOf 36 = .ok (.iaload, 1) := by decide +kernel
theorem dX6_feetOf_37 : decode cX6_feetOf 37 = .ok (.imul, 1) := by decide +kernel
theorem dX6_feetOf_38 : decode cX6_feetOf 38 = .ok (.iadd, 1) := by decide +kernel
theorem dX6_feetOf_39 : decode cX6_feetOf 39 = .ok (.istore_n 2, 1) := by decide +kernel
theorem dX6_feetOf_40 : decode cX6_feetOf 40 = .ok (.iinc 3 1, 3) := by decide +kernel
theorem dX6_feetOf_43 : decode cX6_feetOf 43 = .ok (.goto (-39), 3) := by decide +kernel
theorem dX6_feetOf_46 : decode cX6_feetOf 46 = .ok (.iload_n 2, 1) := by decide +kernel
theorem dX6_feetOf_47 : decode cX6_feetOf 47 = .ok (.ireturn, 1) := by decide +kernel
theorem dX7_init_0 : decode cX7_init 0 = .ok (.aload_n 0, 1) := by decide +kernel
theorem dX7_init_1 : decode cX7_init 1 = .ok (.invokespecial 1, 3) := by decide +kernel
theorem dX7_init_4 : decode cX7_init 4 = .ok (.aload_n 0, 1) := by decide +kernel
theorem dX7_init_5 : decode cX7_init 5 = .ok (.sipush 240, 3) := by decide +kernel
theorem dX7_init_8 : decode cX7_init 8 = .ok (.newarray .char, 2) := by decide +kernel
theorem dX7_init_10 : decode cX7_init 10 = .ok (.putfield 9, 3) := by decide +kernel
theorem dX7_init_13 : decode cX7_init 13 = .ok (.aload_n 0, 1) := by decide +kernel
theorem dX7_init_14 : decode cX7_init 14 = .ok (.iconst (-1), 1) := by decide +kernel
theorem dX7_init_15 : decode cX7_init 15 = .ok (.putfield 13, 3) := by decide +kernel
theorem dX7_init_18 : decode cX7_init 18 = .ok (.aload_n 0, 1) := by decide +kernel
theorem dX7_init_19 : decode cX7_init 19 = .ok (.new 17, 3) := by decide +kernel
theorem dX7_init_22 : decode cX7_init 22 = .ok (.dup, 1) := by decide +kernel
theorem dX7_init_23 : decode cX7_init 23 = .ok (.invokespecial 19, 3) := by decide +kernel
theorem dX7_init_26 : decode cX7_init 26 = .ok (.putfield 20, 3) := by decide +kernel
theorem dX7_init_29 : decode cX7_init 29 = .ok (.aload_n 0, 1) := by decide +kernel
theorem dX7_init_30 : decode cX7_init 30 = .ok (.new 24, 3) := by decide +kernel
theorem dX7_init_33 : decode cX7_init 33 = .ok (.dup, 1) := by decide +kernel
theorem dX7_init_34 : decode cX7_init 34 = .ok (.invokespecial 26, 3) := by decide +kernel
theorem dX7_init_37 : decode cX7_init 37 = .ok (.putfield 27, 3) := by decide +kernel
theorem dX7_init_40 : decode cX7_init 40 = .ok (.aload_n 0, 1) := by decide +kernel
theorem dX7_init_41 : decode cX7_init 41 = .ok (.new 24, 3) := by decide +kernel
theorem dX7_init_44 : decode cX7_init 44 = .ok (.dup, 1) := by decide +kernel
theorem dX7_init_45 : decode cX7_init 45 = .ok (.invokespecial 26, 3) := by decide +kernel
theorem dX7_init_48 : decode cX7_init 48 = .ok (.putfield 31, 3) := by decide +kernel
theorem dX7_init_51 : decode cX7_init 51 = .ok (.aload_n 0, 1) := by decide +kernel
theorem dX7_init_52 : decode cX7_init 52 = .ok (.new 34, 3) := by decide +kernel
theorem dX7_init_55 : decode cX7_init 55 = .ok (.dup, 1) := by decide +kernel
theorem dX7_init_56 : decode cX7_init 56 = .ok (.invokespecial 36, 3) := by decide +kernel
theorem dX7_init_59 : decode cX7_init 59 = .ok (.putfield 37, 3) := by decide +kernel
theorem dX7_init_62 : decode cX7_init 62 = .ok (.aload_n 0, 1) := by decide +kernel
theorem dX7_init_63 : decode cX7_init 63 = .ok (.new 34, 3) := by decide +kernel
theorem dX7_init_66 : decode cX7_init 66 = .ok (.dup, 1) := by decide +kernel
theorem dX7_init_67 : decode cX7_init 67 = .ok (.invokespecial 36, 3) := by decide +kernel
theorem dX7_init_70 : decode cX7_init 70 = .ok (.putfield 41, 3) := by decide +kernel
theorem dX7_init_73 : decode cX7_init 73 = .ok (.aload_n 0, 1) := by decide +kernel
theorem dX7_init_74 : decode cX7_init 74 = .ok (.new 44, 3) := by decide +kernel
theorem dX7_init_77 : decode cX7_init 77 = .ok (.dup, 1) := by decide +kernel
theorem dX7_init_78 : decode cX7_init 78 = .ok (.invokespecial 46, 3) := by decide +kernel
theorem dX7_init_81 : decode cX7_init 81 = .ok (.putfield 47, 3) := by decide +kernel
theorem dX7_init_84 : decode cX7_init 84 = .ok (.aload_n 0, 1) := by decide +kernel
theorem dX7_init_85 : decode cX7_init 85 = .ok (.iconst 2, 1) := by decide +kernel
theorem dX7_init_86 : decode cX7_init 86 = .ok (.anewarray 34, 3) := by decide +kernel
theorem dX7_init_89 : decode cX7_init 89 = .ok (.putfield 51, 3) := by decide +kernel
theorem dX7_init_92 : decode cX7_init 92 = .ok (.aload_n 0, 1) := by decide +kernel
theorem dX7_init_93 : decode cX7_init 93 = .ok (.iconst 2, 1) := by decide +kernel
theorem dX7_init_94 : decode cX7_init 94 = .ok (.newarray .int, 2) := by decide +kernel
theorem dX7_init_96 : decode cX7_init 96 = .ok (.putfield 55, 3) := by decide +kernel
theorem dX7_init_99 : decode cX7_init 99 = .ok (.aload_n 0, 1) := by decide +kernel
theorem dX7_init_100 : decode cX7_init 100 = .ok (.new 59, 3) := by decide +kernel
theorem dX7_init_103 : decode cX7_init 103 = .ok (.dup, 1) := by decide +kernel
theorem dX7_init_104 : decode cX7_init 104 = .ok (.invokespecial 61, 3) := by decide +kernel
theorem dX7_init_107 : decode cX7_init 107 = .ok (.putfield 62, 3) := by decide +kernel
theorem dX7_init_110 : decode cX7_init 110 = .ok (.aload_n 0, 1) := by decide +kernel
theorem dX7_init_111 : decode cX7_init 111 = .ok (.new 66, 3) := by decide +kernel
theorem dX7_init_114 : decode cX7_init 114 = .ok (.dup, 1) := by decide +kernel
theorem dX7_init_115 : decode cX7_init 115 = .ok (.invokespecial 68, 3) := by decide +kernel
theorem dX7_init_118 : decode cX7_init 118 = .ok (.putfield 69, 3) := by decide +kernel
theorem dX7_init_121 : decode cX7_init 121 = .ok (.aload_n 0, 1) := by decide +kernel
theorem dX7_init_122 : decode cX7_init 122 = .ok (.new 73, 3) := by decide +kernel
theorem dX7_init_125 : decode cX7_init 125 = .ok (.dup, 1) := by decide +kernel
theorem dX7_init_126 : decode cX7_init 126 = .ok (.invokespecial 75, 3) := by decide +kernel
theorem dX7_init_129 : decode cX7_init 129 = .ok (.putfield 76, 3) := by decide +kernel
theorem dX7_init_132 : decode cX7_init 132 = .ok (.iconst 0, 1) := by decide +kernel
theorem dX7_init_133 : decode cX7_init 133 = .ok (.istore_n 1, 1) := by decide +kernel
theorem dX7_init_134 : decode cX7_init 134 = .ok (.iload_n 1, 1) := by decide +kernel
theorem dX7_init_135 : decode cX7_init 135 = .ok (.aload_n 0, 1) := by decide +kernel
theorem dX7_init_136 : decode cX7_init 136 = .ok (.getfield 51, 3) := by decide +kernel
theorem dX7_init_139 : decode cX7_init 139 = .ok (.arraylength, 1) := by decide +kernel
theorem dX7_init_140 : decode cX7_init 140 = .ok (.if_icmp .ge 22, 3) := by decide +kernel
theorem dX7_init_143 : decode cX7_init 143 = .ok (.aload_n 0, 1) := by decide +kernel
theorem dX7_init_144 : decode cX7_init 144 = .ok (.getfield 51, 3) := by decide +kernel
theorem dX7_init_147 : decode cX7_init 147 = .ok (.iload_n 1, 1) := by decide +kernel
theorem dX7_init_148 : decode cX7_init 148 = .ok (.new 34, 3) := by decide +kernel
theorem dX7_init_151 : decode cX7_init 151 = .ok (.dup, 1) := by decide +kernel
theorem dX7_init_152 : decode cX7_init 152 = .ok (.invokespecial 36, 3) := by decide +kernel
theorem dX7_init_155 : decode cX7_init 155 = .ok (.aastore, 1) := by decide +kernel
theorem dX7_init_156 : decode cX7_init 156 = .ok (.iinc 1 1, 3) := by decide +kernel
theorem dX7_init_159 : decode cX7_init 159 = .ok (.goto (-25), 3) := by decide +kernel
theorem dX7_init_162 : decode cX7_init 162 = .ok (.return_, 1) := by decide +kernel
theorem dX7_feed_0 : decode cX7_feed 0 = .ok (.iload_n 1, 1) := by decide +kernel
theorem dX7_feed_1 : decode cX7_feed 1 = .ok (.ifCond .lt 10, 3) := by decide +kernel
theorem dX7_feed_4 : decode cX7_feed 4 = .ok (.iload_n 1, 1) := by decide +kernel
theorem dX7_feed_5 : decode cX7_feed 5 = .ok (.sipush 255, 3) := by decide +kernel
theorem dX7_feed_8 : decode cX7_feed 8 = .ok (.if_icmp .le 6, 3) := by decide +kernel
theorem dX7_feed_11 : decode cX7_feed 11 = .ok (.ldc 80, 2) := by decide +kernel
theorem dX7_feed_13 : decode cX7_feed 13 = .ok (.ireturn, 1) := by decide +kernel
theorem dX7_feed_14 : decode cX7_feed 14 = .ok (.aload_n 0, 1) := by decide +kernel
theorem dX7_feed_15 : decode cX7_feed 15 = .ok (.getfield 81, 3) := by decide +kernel
theorem dX7_feed_18 : decode cX7_feed 18 = .ok (.ifCond .lt 15, 3) := by decide +kernel
theorem dX7_feed_21 : decode cX7_feed 21 = .ok (.aload_n 0, 1) := by decide +kernel
theorem dX7_feed_22 : decode cX7_feed 22 = .ok (.getfield 81, 3) := by decide +kernel
theorem dX7_feed_25 : decode cX7_feed 25 = .ok (.aload_n 0, 1) := by decide +kernel
theorem dX7_feed_26 : decode cX7_feed 26 = .ok (.getfield 9, 3) := by decide +kernel
theorem dX7_feed_29 : decode cX7_feed 29 = .ok (.arraylength, 1) := by decide +kernel
theorem dX7_feed_30 : decode cX7_feed 30 = .ok (.if_icmp .lt 6, 3) := by decide +kernel
theorem dX7_feed_33 : decode cX7_feed 33 = .ok (.ldc 84, 2) := by decide +kernel
theorem dX7_feed_35 : decode cX7_feed 35 = .ok (.ireturn, 1) := by decide +kernel
theorem dX7_feed_36 : decode cX7_feed 36 = .ok (.aload_n 0, 1) := by decide +kernel
theorem dX7_feed_37 : decode cX7_feed 37 = .ok (.getfield 9, 3) := by decide +kernel
theorem dX7_feed_40 : decode cX7_feed 40 = .ok (.aload_n 0, 1) := by decide +kernel
theorem dX7_feed_41 : decode cX7_feed 41 = .ok (.getfield 81, 3) := by decide +kernel
theorem dX7_feed_44 : decode cX7_feed 44 = .ok (.iload_n 1, 1) := by decide +kernel
theorem dX7_feed_45 : decode cX7_feed 45 = .ok (.i2c, 1) := by decide +kernel
theorem dX7_feed_46 : decode cX7_feed 46 = .ok (.castore, 1) := by decide +kernel
theorem dX7_feed_47 : decode cX7_feed 47 = .ok (.aload_n 0, 1) := by decide +kernel
theorem dX7_feed_48 : decode cX7_feed 48 = .ok (.dup, 1) := by decide +kernel
theorem dX7_feed_49 : decode cX7_feed 49 = .ok (.getfield 81, 3) := by decide +kernel
theorem dX7_feed_52 : decode cX7_feed 52 = .ok (.iconst 1, 1) := by decide +kernel
theorem dX7_feed_53 : decode cX7_feed 53 = .ok (.iadd, 1) := by decide +kernel
theorem dX7_feed_54 : decode cX7_feed 54 = .ok (.putfield 81, 3) := by decide +kernel
theorem dX7_feed_57 : decode cX7_feed 57 = .ok (.aload_n 0, 1) := by decide +kernel
theorem dX7_feed_58 : decode cX7_feed 58 = .ok (.getfield 81, 3) := by decide +kernel
theorem dX7_feed_61 : decode cX7_feed 61 = .ok (.ireturn, 1) := by decide +kernel
theorem dX7_rock_0 : decode cX7_rock 0 = .ok (.aload_n 0, 1) := by decide +kernel
theorem dX7_rock_1 : decode cX7_rock 1 = .ok (.getfield 20, 3) := by decide +kernel
theorem dX7_rock_4 : decode cX7_rock 4 = .ok (.aload_n 0, 1) := by decide +kernel
theorem dX7_rock_5 : decode cX7_rock 5 = .ok (.getfield 9, 3) := by decide +kernel
theorem dX7_rock_8 : decode cX7_rock 8 = .ok (.aload_n 0, 1) := by decide +kernel
theorem dX7_rock_9 : decode cX7_rock 9 = .ok (.getfield 81, 3) := by decide +kernel
theorem dX7_rock_12 : decode cX7_rock 12 = .ok (.aload_n 0, 1) := by decide +kernel
theorem dX7_rock_13 : decode cX7_rock 13 = .ok (.getfield 31, 3) := by decide +kernel
theorem dX7_rock_16 : decode cX7_rock 16 = .ok (.invokevirtual 85, 3) := by decide +kernel
theorem dX7_rock_19 : decode cX7_rock 19 = .ok (.istore_n 1, 1) := by decide +kernel
theorem dX7_rock_20 : decode cX7_rock 20 = .ok (.aload_n 0, 1) := by decide +kernel
theorem dX7_rock_21 : decode cX7_rock 21 = .ok (.iconst 0, 1) := by decide +kernel
theorem dX7_rock_22 : decode cX7_rock 22 = .ok (.putfield 81, 3) := by decide +kernel
theorem dX7_rock_25 : decode cX7_rock 25 = .ok (.iload_n 1, 1) := by decide +kernel
theorem dX7_rock_26 : decode cX7_rock 26 = .ok (.ifCond .eq 19, 3) := by decide +kernel
theorem dX7_rock_29 : decode cX7_rock 29 = .ok (.aload_n 0, 1) := by decide +kernel
theorem dX7_rock_30 : decode cX7_rock 30 = .ok (.aload_n 0, 1) := by decide +kernel
theorem dX7_rock_31 : decode cX7_rock 31 = .ok (.getfield 20, 3) := by decide +kernel
theorem dX7_rock_34 : decode cX7_rock 34 = .ok (.getfield 89, 3) := by decide +kernel
theorem dX7_rock_37 : decode cX7_rock 37 = .ok (.putfield 13, 3) := by decide +kernel
theorem dX7_rock_40 : decode cX7_rock 40 = .ok (.bipush (-10), 2) := by decide +kernel
theorem dX7_rock_42 : decode cX7_rock 42 = .ok (.iload_n 1, 1) := by decide +kernel
theorem dX7_rock_43 : decode cX7_rock 43 = .ok (.isub, 1) := by decide +kernel
theorem dX7_rock_44 : decode cX7_rock 44 = .ok (.ireturn, 1) := by decide +kernel
theorem dX7_rock_45 : decode cX7_rock 45 = .ok (.aload_n 0, 1) := by decide +kernel
theorem dX7_rock_46 : decode cX7_rock 46 = .ok (.iconst (-1), 1) := by decide +kernel
theorem dX7_rock_47 : decode cX7_rock 47 = .ok (.putfield 13, 3) := by decide +kernel
theorem dX7_rock_50 : decode cX7_rock 50 = .ok (.aload_n 0, 1) := by decide +kernel
theorem dX7_rock_51 : decode cX7_rock 51 = .ok (.getfield 27, 3) := by decide +kernel
theorem dX7_rock_54 : decode cX7_rock 54 = .ok (.astore_n 2, 1) := by decide +kernel
theorem dX7_rock_55 : decode cX7_rock 55 = .ok (.aload_n 0, 1) := by decide +kernel
theorem dX7_rock_56 : decode cX7_rock 56 = .ok (.aload_n 0, 1) := by decide +kernel
theorem dX7_rock_57 : decode cX7_rock 57 = .ok (.getfield 31, 3) := by decide +kernel
theorem dX7_rock_60 : decode cX7_rock 60 = .ok (.putfield 27, 3) := by decide +kernel
theorem dX7_rock_63 : decode cX7_rock 63 = .ok (.aload_n 0, 1) := by decide +kernel
theorem dX7_rock_64 : decode cX7_rock 64 = .ok (.aload_n 2, 1) := by decide +kernel
theorem dX7_rock_65 : decode cX7_rock 65 = .ok (.putfield 31, 3) := by decide +kernel
theorem dX7_rock_68 : decode cX7_rock 68 = .ok (.aload_n 0, 1) := by decide +kernel
theorem dX7_rock_69 : decode cX7_rock 69 = .ok (.getfield 37, 3) := by decide +kernel
theorem dX7_rock_72 : decode cX7_rock 72 = .ok (.aload_n 0, 1) := by decide +kernel
theorem dX7_rock_73 : decode cX7_rock 73 = .ok (.getfield 27, 3) := by decide +kernel
theorem dX7_rock_76 : decode cX7_rock 76 = .ok (.invokevirtual 92, 3) := by decide +kernel
theorem dX7_rock_79 : decode cX7_rock 79 = .ok (.aload_n 0, 1) := by decide +kernel
theorem dX7_rock_80 : decode cX7_rock 80 = .ok (.getfield 62, 3) := by decide +kernel
theorem dX7_rock_83 : decode cX7_rock 83 = .ok (.invokevirtual 96, 3) := by decide +kernel
theorem dX7_rock_86 : decode cX7_rock 86 = .ok (.aload_n 0, 1) := by decide +kernel
theorem dX7_rock_87 : decode cX7_rock 87 = .ok (.getfield 47, 3) := by decide +kernel
theorem dX7_rock_90 : decode cX7_rock 90 = .ok (.invokevirtual 99, 3) := by decide +kernel
theorem dX7_rock_93 : decode cX7_rock 93 = .ok (.aload_n 0, 1) := by decide +kernel
theorem dX7_rock_94 : decode cX7_rock 94 = .ok (.iconst 0, 1) := by decide +kernel
theorem dX7_rock_95 : decode cX7_rock 95 = .ok (.putfield 100, 3) := by decide +kernel
theorem dX7_rock_98 : decode cX7_rock 98 = .ok (.aload_n 0, 1) := by decide +kernel
theorem dX7_rock_99 : decode cX7_rock 99 = .ok (.getfield 27, 3) := by decide +kernel
theorem dX7_rock_102 : decode cX7_rock 102 = .ok (.getfield 103, 3) := by decide +kernel
theorem dX7_rock_105 : decode cX7_rock 105 = .ok (.ireturn, 1) := by decide +kernel
theorem dX7_fault_0 : decode cX7_fault 0 = .ok (.aload_n 0, 1) := by decide +kernel
theorem dX7_fault_1 : decode cX7_fault 1 = .ok (.getfield 13, 3) := by decide +kernel
theorem dX7_fault_4 : decode cX7_fault 4 = .ok (.ireturn, 1) := by decide +kernel
theorem dX7_told_0 : decode cX7_told 0 = .ok (.iload_n 1, 1) := by decide +kernel
theorem dX7_told_1 : decode cX7_told 1 = .ok (.tableswitch 248 0 18 #[91, 99, 107, 115, 123, 131, 139, 144, 152, 160, 176, 184, 192, 200, 208, 216, 224, 232, 240], 91) := by decide +kernel
theorem dX7_told_92 : decode cX7_told 92 = .ok (.aload_n 0, 1) := by decide +kernel
theorem dX7_told_93 : decode cX7_told 93 = .ok (.getfield 27, 3) := by decide +kernel
theorem dX7_told_96 : decode cX7_told 96 = .ok (.getfield 106, 3) := by decide +kernel
theorem dX7_told_99 : decode cX7_told 99 = .ok (.ireturn, 1) := by decide +kernel
theorem dX7_told_100 : decode cX7_told 100 = .ok (.aload_n 0, 1) := by decide +kernel
theorem dX7_told_101 : decode cX7_told 101 = .ok (.getfield 27, 3) := by decide +kernel
theorem dX7_told_104 : decode cX7_told 104 = .ok (.getfield 109, 3) := by decide +kernel
theorem dX7_told_107 : decode cX7_told 107 = .ok (.ireturn, 1) := by decide +kernel
theorem dX7_told_108 : decode cX7_told 108 = .ok (.aload_n 0, 1) := by decide +kernel
theorem dX7_told_109 : decode cX7_told 109 = .ok (.getfield 27, 3) := by decide +kernel
theorem dX7_told_112 : decode cX7_told 112 = .ok (.getfield 112, 3) := by decide +kernel
theorem dX7_told_115 : decode cX7_told 115 = .ok (.ireturn, 1) := by decide +kernel
theorem dX7_told_116 : decode cX7_told 116 = .ok (.aload_n 0, 1) := by decide +kernel
theorem dX7_told_117 : decode cX7_told 117 = .ok (.getfield 27, 3) := by decide +kernel
theorem dX7_told_120 : decode cX7_told 120 = .ok (.getfield 103, 3) := by decide +kernel
theorem dX7_told_123 : decode cX7_told 123 = .ok (.ireturn, 1) := by decide +kernel
theorem dX7_told_124 : decode cX7_told 124 = .ok (.aload_n 0, 1) := by decide +kernel
theorem dX7_told_125 : decode cX7_told 125 = .ok (.getfield 27, 3) := by decide +kernel
theorem dX7_told_128 : decode cX7_told 128 = .ok (.getfield 115, 3) := by decide +kernel
theorem dX7_told_131 : decode cX7_told 131 = .ok (.ireturn, 1) := by decide +kernel
theorem dX7_told_132 : decode cX7_told 132 = .ok (.aload_n 0, 1) := by decide +kernel
theorem dX7_told_133 : decode cX7_told 133 = .ok (.getfield 27, 3) := by decide +kernel
theorem dX7_told_136 : decode cX7_told 136 = .ok (.getfield 118, 3) := by decide +kernel
theorem dX7_told_139 : decode cX7_told 139 = .ok (.ireturn, 1) := by decide +kernel
theorem dX7_told_140 : decode cX7_told 140 = .ok (.aload_n 0, 1) := by decide +kernel
theorem dX7_told_141 : decode cX7_told 141 = .ok (.getfield 81, 3) := by decide +kernel
theorem dX7_told_144 : decode cX7_told 144 = .ok (.ireturn, 1) := by decide +kernel
theorem dX7_told_145 : decode cX7_told 145 = .ok (.aload_n 0, 1) := by decide +kernel
theorem dX7_told_146 : decode cX7_told 146 = .ok (.getfield 37, 3) := by decide +kernel
theorem dX7_told_149 : decode cX7_told 149 = .ok (.getfield 121, 3) := by decide +kernel
theorem dX7_told_152 : decode cX7_told 152 = .ok (.ireturn, 1) := by decide +kernel
theorem dX7_told_153 : decode cX7_told 153 = .ok (.aload_n 0, 1) := by decide +kernel
theorem dX7_told_154 : decode cX7_told 154 = .ok (.getfield 37, 3) := by decide +kernel
theorem dX7_told_157 : decode cX7_told 157 = .ok (.getfield 124, 3) := by decide +kernel
theorem dX7_told_160 : decode cX7_told 160 = .ok (.ireturn, 1) := by decide +kernel
theorem dX7_told_161 : decode cX7_told 161 = .ok (.aload_n 0, 1) := by decide +kernel
theorem dX7_told_162 : decode cX7_told 162 = .ok (.getfield 37, 3) := by decide +kernel
theorem dX7_told_165 : decode cX7_told 165 = .ok (.getfield 127, 3) := by decide +kernel
theorem dX7_told_168 : decode cX7_told 168 = .ok (.ifCond .eq 7, 3) := by decide +kernel
theorem dX7_told_171 : decode cX7_told 171 = .ok (.iconst 1, 1) := by decide +kernel
theorem dX7_told_172 : decode cX7_told 172 = .ok (.goto 4, 3) := by decide +kernel
theorem dX7_told_175 : decode cX7_told 175 = .ok (.iconst 0, 1) := by decide +kernel
theorem dX7_told_176 : decode cX7_told 176 = .ok (.ireturn, 1) := by decide +kernel
theorem dX7_told_177 : decode cX7_told 177 = .ok (.aload_n 0, 1) := by decide +kernel
theorem dX7_told_178 : decode cX7_told 178 = .ok (.getfield 37, 3) := by decide +kernel
theorem dX7_told_181 : decode cX7_told 181 = .ok (.getfield 131, 3) := by decide +kernel
theorem dX7_told_184 : decode cX7_told 184 = .ok (.ireturn, 1) := by decide +kernel
theorem dX7_told_185 : decode cX7_told 185 = .ok (.aload_n 0, 1) := by decide +kernel
theorem dX7_told_186 : decode cX7_told 186 = .ok (.getfield 37, 3) := by decide +kernel
theorem dX7_told_189 : decode cX7_told 189 = .ok (.getfield 134, 3) := by decide +kernel
theorem dX7_told_192 : decode cX7_told 192 = .ok (.ireturn, 1) := by decide +kernel
theorem dX7_told_193 : decode cX7_told 193 = .ok (.aload_n 0, 1) := by decide +kernel
theorem dX7_told_194 : decode cX7_told 194 = .ok (.getfield 37, 3) := by decide +kernel
theorem dX7_told_197 : decode cX7_told 197 = .ok (.getfield 137, 3) := by decide +kernel
theorem dX7_told_200 : decode cX7_told 200 = .ok (.ireturn, 1) := by decide +kernel
theorem dX7_told_201 : decode cX7_told 201 = .ok (.aload_n 0, 1) := by decide +kernel
theorem dX7_told_202 : decode cX7_told 202 = .ok (.getfield 37, 3) := by decide +kernel
theorem dX7_told_205 : decode cX7_told 205 = .ok (.getfield 140, 3) := by decide +kernel
theorem dX7_told_208 : decode cX7_told 208 = .ok (.ireturn, 1) := by decide +kernel
theorem dX7_told_209 : decode cX7_told 209 = .ok (.aload_n 0, 1) := by decide +kernel
theorem dX7_told_210 : decode cX7_told 210 = .ok (.getfield 37, 3) := by decide +kernel
theorem dX7_told_213 : decode cX7_told 213 = .ok (.getfield 143, 3) := by decide +kernel
theorem dX7_told_216 : decode cX7_told 216 = .ok (.ireturn, 1) := by decide +kernel
theorem dX7_told_217 : decode cX7_told 217 = .ok (.aload_n 0, 1) := by decide +kernel
theorem dX7_told_218 : decode cX7_told 218 = .ok (.getfield 37, 3) := by decide +kernel
theorem dX7_told_221 : decode cX7_told 221 = .ok (.getfield 146, 3) := by decide +kernel
theorem dX7_told_224 : decode cX7_told 224 = .ok (.ireturn, 1) := by decide +kernel
theorem dX7_told_225 : decode cX7_told 225 = .ok (.aload_n 0, 1) := by decide +kernel
theorem dX7_told_226 : decode cX7_told 226 = .ok (.getfield 62, 3) := by decide +kernel
theorem dX7_told_229 : decode cX7_told 229 = .ok (.getfield 149, 3) := by decide +kernel
theorem dX7_told_232 : decode cX7_told 232 = .ok (.ireturn, 1) := by decide +kernel
theorem dX7_told_233 : decode cX7_told 233 = .ok (.aload_n 0, 1) := by decide +kernel
theorem dX7_told_234 : decode cX7_told 234 = .ok (.getfield 62, 3) := by decide +kernel
theorem dX7_told_237 : decode cX7_told 237 = .ok (.getfield 152, 3) := by decide +kernel
theorem dX7_told_240 : decode cX7_told 240 = .ok (.ireturn, 1) := by decide +kernel
theorem dX7_told_241 : decode cX7_told 241 = .ok (.aload_n 0, 1) := by decide +kernel
theorem dX7_told_242 : decode cX7_told 242 = .ok (.getfield 47, 3) := by decide +kernel
theorem dX7_told_245 : decode cX7_told 245 = .ok (.getfield 155, 3) := by decide +kernel
theorem dX7_told_248 : decode cX7_told 248 = .ok (.ireturn, 1) := by decide +kernel
theorem dX7_told_249 : decode cX7_told 249 = .ok (.ldc 80, 2) := by decide +kernel
theorem dX7_told_251 : decode cX7_told 251 = .ok (.ireturn, 1) := by decide +kernel
theorem dX7_village_0 : decode cX7_village 0 = .ok (.aload_n 0, 1) := by decide +kernel
theorem dX7_village_1 : decode cX7_village 1 = .ok (.getfield 27, 3) := by decide +kernel
theorem dX7_village_4 : decode cX7_village 4 = .ok (.iload_n 1, 1) := by decide +kernel
theorem dX7_village_5 : decode cX7_village 5 = .ok (.invokevirtual 158, 3) := by decide +kernel
theorem dX7_village_8 : decode cX7_village 8 = .ok (.ifCond .ne 6, 3) := by decide +kernel
theorem dX7_village_11 : decode cX7_village 11 = .ok (.ldc 162, 2) := by decide +kernel
theorem dX7_village_13 : decode cX7_village 13 = .ok (.ireturn, 1) := by decide +kernel
theorem dX7_village_14 : decode cX7_village 14 = .ok (.iload_n 2, 1) := by decide +kernel
theorem dX7_village_15 : decode cX7_village 15 = .ok (.tableswitch 104 0 5 #[37, 47, 57, 67, 77, 94], 37) := by decide +kernel
theorem dX7_village_52 : decode cX7_village 52 = .ok (.aload_n 0, 1) := by decide +kernel
theorem dX7_village_53 : decode cX7_village 53 = .ok (.getfield 27, 3) := by decide +kernel
theorem dX7_village_56 : decode cX7_village 56 = .ok (.getfield 163, 3) := by decide +kernel
theorem dX7_village_59 : decode cX7_village 59 = .ok (.iload_n 1, 1) := by decide +kernel
theorem dX7_village_60 : decode cX7_village 60 = .ok (.iaload, 1) := by decide +kernel
theorem dX7_village_61 : decode cX7_village 61 = .ok (.ireturn, 1) := by decide +kernel
theorem dX7_village_62 : decode cX7_village 62 = .ok (.aload_n 0, 1) := by decide +kernel
theorem dX7_village_63 : decode cX7_village 63 = .ok (.getfield 27, 3) := by decide +kernel
theorem dX7_village_66 : decode cX7_village 66 = .ok (.getfield 166, 3) := by decide +kernel
theorem dX7_village_69 : decode cX7_village 69 = .ok (.iload_n 1, 1) := by decide +kernel
theorem dX7_village_70 : decode cX7_village 70 = .ok (.iaload, 1) := by decide +kernel
theorem dX7_village_71 : decode cX7_village 71 = .ok (.ireturn, 1) := by decide +kernel
theorem dX7_village_72 : decode cX7_village 72 = .ok (.aload_n 0, 1) := by decide +kernel
theorem dX7_village_73 : decode cX7_village 73 = .ok (.getfield 37, 3) := by decide +kernel
theorem dX7_village_76 : decode cX7_village 76 = .ok (.getfield 169, 3) := by decide +kernel
theorem dX7_village_79 : decode cX7_village 79 = .ok (.iload_n 1, 1) := by decide +kernel
theorem dX7_village_80 : decode cX7_village 80 = .ok (.iaload, 1) := by decide +kernel
theorem dX7_village_81 : decode cX7_village 81 = .ok (.ireturn, 1) := by decide +kernel
theorem dX7_village_82 : decode cX7_village 82 = .ok (.aload_n 0, 1) := by decide +kernel
theorem dX7_village_83 : decode cX7_village 83 = .ok (.getfield 27, 3) := by decide +kernel
theorem dX7_village_86 : decode cX7_village 86 = .ok (.getfield 172, 3) := by decide +kernel
theorem dX7_village_89 : decode cX7_village 89 = .ok (.iload_n 1, 1) := by decide +kernel
theorem dX7_village_90 : decode cX7_village 90 = .ok (.iaload, 1) := by decide +kernel
theorem dX7_village_91 : decode cX7_village 91 = .ok (.ireturn, 1) := by decide +kernel
theorem dX7_village_92 : decode cX7_village 92 = .ok (.aload_n 0, 1) := by decide +kernel
theorem dX7_village_93 : decode cX7_village 93 = .ok (.getfield 37, 3) := by decide +kernel
theorem dX7_village_96 : decode cX7_village 96 = .ok (.iload_n 1, 1) := by decide +kernel
theorem dX7_village_97 : decode cX7_village 97 = .ok (.invokevirtual 175, 3) := by decide +kernel
theorem dX7_village_100 : decode cX7_village 100 = .ok (.ifCond .eq 7, 3) := by decide +kernel
theorem dX7_village_103 : decode cX7_village 103 = .ok (.iconst 1, 1) := by decide +kernel
theorem dX7_village_104 : decode cX7_village 104 = .ok (.goto 4, 3) := by decide +kernel
theorem dX7_village_107 : decode cX7_village 107 = .ok (.iconst 0, 1) := by decide +kernel
theorem dX7_village_108 : decode cX7_village 108 = .ok (.ireturn, 1) := by decide +kernel
theorem dX7_village_109 : decode cX7_village 109 = .ok (.aload_n 0, 1) := by decide +kernel
theorem dX7_village_110 : decode cX7_village 110 = .ok (.getfield 37, 3) := by decide +kernel
theorem dX7_village_113 : decode cX7_village 113 = .ok (.getfield 178, 3) := by decide +kernel
theorem dX7_village_116 : decode cX7_village 116 = .ok (.iload_n 1, 1) := by decide +kernel
theorem dX7_village_117 : decode cX7_village 117 = .ok (.iaload, 1) := by decide +kernel
theorem dX7_village_118 : decode cX7_village 118 = .ok (.ireturn, 1) := by decide +kernel
theorem dX7_village_119 : decode cX7_village 119 = .ok (.ldc 80, 2) := by decide +kernel
theorem dX7_village_121 : decode cX7_village 121 = .ok (.ireturn, 1) := by decide +kernel
theorem dX7_comes_0 : decode cX7_comes 0 = .ok (.iload_n 1, 1) := by decide +kernel
theorem dX7_comes_1 : decode cX7_comes 1 = .ok (.ifCond .lt 10, 3) := by decide +kernel
theorem dX7_comes_4 : decode cX7_comes 4 = .ok (.iload_n 1, 1) := by decide +kernel
theorem dX7_comes_5 : decode cX7_comes 5 = .ok (.sipush 9999, 3) := by decide +kernel
theorem dX7_comes_8 : decode cX7_comes 8 = .ok (.if_icmp .le 6, 3) := by decide +kernel
theorem dX7_comes_11 : decode cX7_comes 11 = .ok (.ldc 80, 2) := by decide +kernel
theorem dX7_comes_13 : decode cX7_comes 13 = .ok (.ireturn, 1) := by decide +kernel
theorem dX7_comes_14 : decode cX7_comes 14 = .ok (.aload_n 0, 1) := by decide +kernel
theorem dX7_comes_15 : decode cX7_comes 15 = .ok (.getfield 37, 3) := by decide +kernel
theorem dX7_comes_18 : decode cX7_comes 18 = .ok (.aload_n 0, 1) := by decide +kernel
theorem dX7_comes_19 : decode cX7_comes 19 = .ok (.getfield 27, 3) := by decide +kernel
theorem dX7_comes_22 : decode cX7_comes 22 = .ok (.iload_n 1, 1) := by decide +kernel
theorem dX7_comes_23 : decode cX7_comes 23 = .ok (.invokevirtual 181, 3) := by decide +kernel
theorem dX7_comes_26 : decode cX7_comes 26 = .ok (.ireturn, 1) := by decide +kernel
theorem dX7_blessed_0 : decode cX7_blessed 0 = .ok (.aload_n 0, 1) := by decide +kernel
theorem dX7_blessed_1 : decode cX7_blessed 1 = .ok (.getfield 37, 3) := by decide +kernel
theorem dX7_blessed_4 : decode cX7_blessed 4 = .ok (.iload_n 1, 1) := by decide +kernel
theorem dX7_blessed_5 : decode cX7_blessed 5 = .ok (.invokevirtual 185, 3) := by decide +kernel
theorem dX7_blessed_8 : decode cX7_blessed 8 = .ok (.ireturn, 1) := by decide +kernel
theorem dX7_day_0 : decode cX7_day 0 = .ok (.aload_n 0, 1) := by decide +kernel
theorem dX7_day_1 : decode cX7_day 1 = .ok (.iload_n 1, 1) := by decide +kernel
theorem dX7_day_2 : decode cX7_day 2 = .ok (.invokevirtual 189, 3) := by decide +kernel
theorem dX7_day_5 : decode cX7_day 5 = .ok (.istore_n 2, 1) := by decide +kernel
theorem dX7_day_6 : decode cX7_day 6 = .ok (.iload_n 2, 1) := by decide +kernel
theorem dX7_day_7 : decode cX7_day 7 = .ok (.ifCond .eq 5, 3) := by decide +kernel
theorem dX7_day_10 : decode cX7_day 10 = .ok (.iload_n 2, 1) := by decide +kernel
theorem dX7_day_11 : decode cX7_day 11 = .ok (.ireturn, 1) := by decide +kernel
theorem dX7_day_12 : decode cX7_day 12 = .ok (.aload_n 0, 1) := by decide +kernel
theorem dX7_day_13 : decode cX7_day 13 = .ok (.getfield 47, 3) := by decide +kernel
theorem dX7_day_16 : decode cX7_day 16 = .ok (.aload_n 0, 1) := by decide +kernel
theorem dX7_day_17 : decode cX7_day 17 = .ok (.getfield 37, 3) := by decide +kernel
theorem dX7_day_20 : decode cX7_day 20 = .ok (.invokevirtual 192, 3) := by decide +kernel
theorem dX7_day_23 : decode cX7_day 23 = .ok (.iconst 0, 1) := by decide +kernel
theorem dX7_day_24 : decode cX7_day 24 = .ok (.istore_n 3, 1) := by decide +kernel
theorem dX7_day_25 : decode cX7_day 25 = .ok (.iload_n 3, 1) := by decide +kernel
theorem dX7_day_26 : decode cX7_day 26 = .ok (.iload_n 1, 1) := by decide +kernel
theorem dX7_day_27 : decode cX7_day 27 = .ok (.if_icmp .ge 37, 3) := by decide +kernel
theorem dX7_day_30 : decode cX7_day 30 = .ok (.aload_n 0, 1) := by decide +kernel
theorem dX7_day_31 : decode cX7_day 31 = .ok (.getfield 37, 3) := by decide +kernel
theorem dX7_day_34 : decode cX7_day 34 = .ok (.getfield 127, 3) := by decide +kernel
theorem dX7_day_37 : decode cX7_day 37 = .ok (.ifCond .ne 27, 3) := by decide +kernel
theorem dX7_day_40 : decode cX7_day 40 = .ok (.aload_n 0, 1) := by decide +kernel
theorem dX7_day_41 : decode cX7_day 41 = .ok (.getfield 37, 3) := by decide +kernel
theorem dX7_day_44 : decode cX7_day 44 = .ok (.aload_n 0, 1) := by decide +kernel
theorem dX7_day_45 : decode cX7_day 45 = .ok (.getfield 27, 3) := by decide +kernel
theorem dX7_day_48 : decode cX7_day 48 = .ok (.aload_n 0, 1) := by decide +kernel
theorem dX7_day_49 : decode cX7_day 49 = .ok (.getfield 27, 3) := by decide +kernel
theorem dX7_day_52 : decode cX7_day 52 = .ok (.getfield 112, 3) := by decide +kernel
theorem dX7_day_55 : decode cX7_day 55 = .ok (.invokevirtual 196, 3) := by decide +kernel
theorem dX7_day_58 : decode cX7_day 58 = .ok (.iinc 3 1, 3) := by decide +kernel
theorem dX7_day_61 : decode cX7_day 61 = .ok (.goto (-36), 3) := by decide +kernel
theorem dX7_day_64 : decode cX7_day 64 = .ok (.aload_n 0, 1) := by decide +kernel
theorem dX7_day_65 : decode cX7_day 65 = .ok (.getfield 37, 3) := by decide +kernel
theorem dX7_day_68 : decode cX7_day 68 = .ok (.getfield 121, 3) := by decide +kernel
theorem dX7_day_71 : decode cX7_day 71 = .ok (.ireturn, 1) := by decide +kernel
theorem dX7_calendar_0 : decode cX7_calendar 0 = .ok (.aload_n 0, 1) := by decide +kernel
theorem dX7_calendar_1 : decode cX7_calendar 1 = .ok (.getfield 27, 3) := by decide +kernel
theorem dX7_calendar_4 : decode cX7_calendar 4 = .ok (.iload_n 1, 1) := by decide +kernel
theorem dX7_calendar_5 : decode cX7_calendar 5 = .ok (.invokevirtual 158, 3) := by decide +kernel
theorem dX7_calendar_8 : decode cX7_calendar 8 = .ok (.ifCond .ne 6, 3) := by decide +kernel
theorem dX7_calendar_11 : decode cX7_calendar 11 = .ok (.ldc 162, 2) := by decide +kernel
theorem dX7_calendar_13 : decode cX7_calendar 13 = .ok (.ireturn, 1) := by decide +kernel
theorem dX7_calendar_14 : decode cX7_calendar 14 = .ok (.iload_n 2, 1) := by decide +kernel
theorem dX7_calendar_15 : decode cX7_calendar 15 = .ok (.iconst (-1), 1) := by decide +kernel
theorem dX7_calendar_16 : decode cX7_calendar 16 = .ok (.if_icmp .lt 16, 3) := by decide +kernel
theorem dX7_calendar_19 : decode cX7_calendar 19 = .ok (.iload_n 2, 1) := by decide +kernel
theorem dX7_calendar_20 : decode cX7_calendar 20 = .ok (.aload_n 0, 1) := by decide +kernel
theorem dX7_calendar_21 : decode cX7_calendar 21 = .ok (.getfield 27, 3) := by decide +kernel
theorem dX7_calendar_24 : decode cX7_calendar 24 = .ok (.getfield 166, 3) := by decide +kernel
theorem dX7_calendar_27 : decode cX7_calendar 27 = .ok (.iload_n 1, 1) := by decide +kernel
theorem dX7_calendar_28 : decode cX7_calendar 28 = .ok (.iaload, 1) := by decide +kernel
theorem dX7_calendar_29 : decode cX7_calendar 29 = .ok (.if_icmp .lt 6, 3) := by decide +kernel
theorem dX7_calendar_32 : decode cX7_calendar 32 = .ok (.ldc 80, 2) := by decide +kernel
theorem dX7_calendar_34 : decode cX7_calendar 34 = .ok (.ireturn, 1) := by decide +kernel
theorem dX7_calendar_35 : decode cX7_calendar 35 = .ok (.aload_n 0, 1) := by decide +kernel
theorem dX7_calendar_36 : decode cX7_calendar 36 = .ok (.getfield 47, 3) := by decide +kernel
theorem dX7_calendar_39 : decode cX7_calendar 39 = .ok (.aload_n 0, 1) := by decide +kernel
theorem dX7_calendar_40 : decode cX7_calendar 40 = .ok (.getfield 37, 3) := by decide +kernel
theorem dX7_calendar_43 : decode cX7_calendar 43 = .ok (.invokevirtual 192, 3) := by decide +kernel
theorem dX7_calendar_46 : decode cX7_calendar 46 = .ok (.aload_n 0, 1) := by decide +kernel
theorem dX7_calendar_47 : decode cX7_calendar 47 = .ok (.getfield 37, 3) := by decide +kernel
theorem dX7_calendar_50 : decode cX7_calendar 50 = .ok (.iload_n 1, 1) := by decide +kernel
theorem dX7_calendar_51 : decode cX7_calendar 51 = .ok (.invokevirtual 175, 3) := by decide +kernel
theorem dX7_calendar_54 : decode cX7_calendar 54 = .ok (.ifCond .eq 7, 3) := by decide +kernel
theorem dX7_calendar_57 : decode cX7_calendar 57 = .ok (.iconst (-1), 1) := by decide +kernel
theorem dX7_calendar_58 : decode cX7_calendar 58 = .ok (.goto 12, 3) := by decide +kernel
theorem dX7_calendar_61 : decode cX7_calendar 61 = .ok (.aload_n 0, 1) := by decide +kernel
theorem dX7_calendar_62 : decode cX7_calendar 62 = .ok (.getfield 37, 3) := by decide +kernel
theorem dX7_calendar_65 : decode cX7_calendar 65 = .ok (.getfield 169, 3) := by decide +kernel
theorem dX7_calendar_68 : decode cX7_calendar 68 = .ok (.iload_n 1, 1) := by decide +kernel
theorem dX7_calendar_69 : decode cX7_calendar 69 = .ok (.iaload, 1) := by decide +kernel
theorem dX7_calendar_70 : decode cX7_calendar 70 = .ok (.istore_n 3, 1) := by decide +kernel
theorem dX7_calendar_71 : decode cX7_calendar 71 = .ok (.iload_n 2, 1) := by decide +kernel
theorem dX7_calendar_72 : decode cX7_calendar 72 = .ok (.iconst (-1), 1) := by decide +kernel
theorem dX7_calendar_73 : decode cX7_calendar 73 = .ok (.if_icmp .ne 21, 3) := by decide +kernel
theorem dX7_calendar_76 : decode cX7_calendar 76 = .ok (.aload_n 0, 1) := by decide +kernel
theorem dX7_calendar_77 : decode cX7_calendar 77 = .ok (.getfield 37, 3) := by decide +kernel
theorem dX7_calendar_80 : decode cX7_calendar 80 = .ok (.dup, 1) := by decide +kernel
theorem dX7_calendar_81 : decode cX7_calendar 81 = .ok (.getfield 200, 3) := by decide +kernel
theorem dX7_calendar_84 : decode cX7_calendar 84 = .ok (.iconst 1, 1) := by decide +kernel
theorem dX7_calendar_85 : decode cX7_calendar 85 = .ok (.iload_n 1, 1) := by decide +kernel
theorem dX7_calendar_86 : decode cX7_calendar 86 = .ok (.ishl, 1) := by decide +kernel
theorem dX7_calendar_87 : decode cX7_calendar 87 = .ok (.ior, 1) := by decide +kernel
theorem dX7_calendar_88 : decode cX7_calendar 88 = .ok (.putfield 200, 3) := by decide +kernel
theorem dX7_calendar_91 : decode cX7_calendar 91 = .ok (.goto 30, 3) := by decide +kernel
theorem dX7_calendar_94 : decode cX7_calendar 94 = .ok (.aload_n 0, 1) := by decide +kernel
theorem dX7_calendar_95 : decode cX7_calendar 95 = .ok (.getfield 37, 3) := by decide +kernel
theorem dX7_calendar_98 : decode cX7_calendar 98 = .ok (.dup, 1) := by decide +kernel
theorem dX7_calendar_99 : decode cX7_calendar 99 = .ok (.getfield 200, 3) := by decide +kernel
theorem dX7_calendar_102 : decode cX7_calendar 102 = .ok (.iconst 1, 1) := by decide +kernel
theorem dX7_calendar_103 : decode cX7_calendar 103 = .ok (.iload_n 1, 1) := by decide +kernel
theorem dX7_calendar_104 : decode cX7_calendar 104 = .ok (.ishl, 1) := by decide +kernel
theorem dX7_calendar_105 : decode cX7_calendar 105 = .ok (.iconst (-1), 1) := by decide +kernel
theorem dX7_calendar_106 : decode cX7_calendar 106 = .ok (.ixor, 1) := by decide +kernel
theorem dX7_calendar_107 : decode cX7_calendar 107 = .ok (.iand, 1) := by decide +kernel
theorem dX7_calendar_108 : decode cX7_calendar 108 = .ok (.putfield 200, 3) := by decide +kernel
theorem dX7_calendar_111 : decode cX7_calendar 111 = .ok (.aload_n 0, 1) := by decide +kernel
theorem dX7_calendar_112 : decode cX7_calendar 112 = .ok (.getfield 37, 3) := by decide +kernel
theorem dX7_calendar_115 : decode cX7_calendar 115 = .ok (.getfield 169, 3) := by decide +kernel
theorem dX7_calendar_118 : decode cX7_calendar 118 = .ok (.iload_n 1, 1) := by decide +kernel
theorem dX7_calendar_119 : decode cX7_calendar 119 = .ok (.iload_n 2, 1) := by decide +kernel
theorem dX7_calendar_120 : decode cX7_calendar 120 = .ok (.iastore, 1) := by decide +kernel
theorem dX7_calendar_121 : decode cX7_calendar 121 = .ok (.iload_n 3, 1) := by decide +kernel
theorem dX7_calendar_122 : decode cX7_calendar 122 = .ok (.ireturn, 1) := by decide +kernel
theorem dX7_drift_0 : decode cX7_drift 0 = .ok (.aload_n 0, 1) := by decide +kernel
theorem dX7_drift_1 : decode cX7_drift 1 = .ok (.iload_n 1, 1) := by decide +kernel
theorem dX7_drift_2 : decode cX7_drift 2 = .ok (.invokevirtual 189, 3) := by decide +kernel
theorem dX7_drift_5 : decode cX7_drift 5 = .ok (.istore_n 2, 1) := by decide +kernel
theorem dX7_drift_6 : decode cX7_drift 6 = .ok (.iload_n 2, 1) := by decide +kernel
theorem dX7_drift_7 : decode cX7_drift 7 = .ok (.ifCond .eq 5, 3) := by decide +kernel
theorem dX7_drift_10 : decode cX7_drift 10 = .ok (.iload_n 2, 1) := by decide +kernel
theorem dX7_drift_11 : decode cX7_drift 11 = .ok (.ireturn, 1) := by decide +kernel
theorem dX7_drift_12 : decode cX7_drift 12 = .ok (.aload_n 0, 1) := by decide +kernel
theorem dX7_drift_13 : decode cX7_drift 13 = .ok (.getfield 47, 3) := by decide +kernel
theorem dX7_drift_16 : decode cX7_drift 16 = .ok (.aload_n 0, 1) := by decide +kernel
theorem dX7_drift_17 : decode cX7_drift 17 = .ok (.getfield 37, 3) := by decide +kernel
theorem dX7_drift_20 : decode cX7_drift 20 = .ok (.invokevirtual 192, 3) := by decide +kernel
theorem dX7_drift_23 : decode cX7_drift 23 = .ok (.iconst 0, 1) := by decide +kernel
theorem dX7_drift_24 : decode cX7_drift 24 = .ok (.istore_n 3, 1) := by decide +kernel
theorem dX7_drift_25 : decode cX7_drift 25 = .ok (.iload_n 3, 1) := by decide +kernel
theorem dX7_drift_26 : decode cX7_drift 26 = .ok (.iload_n 1, 1) := by decide +kernel
theorem dX7_drift_27 : decode cX7_drift 27 = .ok (.if_icmp .ge 41, 3) := by decide +kernel
theorem dX7_drift_30 : decode cX7_drift 30 = .ok (.aload_n 0, 1) := by decide +kernel
theorem dX7_drift_31 : decode cX7_drift 31 = .ok (.getfield 37, 3) := by decide +kernel
theorem dX7_drift_34 : decode cX7_drift 34 = .ok (.getfield 127, 3) := by decide +kernel
theorem dX7_drift_37 : decode cX7_drift 37 = .ok (.ifCond .ne 31, 3) := by decide +kernel
theorem dX7_drift_40 : decode cX7_drift 40 = .ok (.aload_n 0, 1) := by decide +kernel
theorem dX7_drift_41 : decode cX7_drift 41 = .ok (.invokevirtual 203, 3) := by decide +kernel
theorem dX7_drift_44 : decode cX7_drift 44 = .ok (.aload_n 0, 1) := by decide +kernel
theorem dX7_drift_45 : decode cX7_drift 45 = .ok (.getfield 37, 3) := by decide +kernel
theorem dX7_drift_48 : decode cX7_drift 48 = .ok (.aload_n 0, 1) := by decide +kernel
theorem dX7_drift_49 : decode cX7_drift 49 = .ok (.getfield 27, 3) := by decide +kernel
theorem dX7_drift_52 : decode cX7_drift 52 = .ok (.aload_n 0, 1) := by decide +kernel
theorem dX7_drift_53 : decode cX7_drift 53 = .ok (.getfield 27, 3) := by decide +kernel
theorem dX7_drift_56 : decode cX7_drift 56 = .ok (.getfield 112, 3) := by decide +kernel
theorem dX7_drift_59 : decode cX7_drift 59 = .ok (.invokevirtual 196, 3) := by decide +kernel
theorem dX7_drift_62 : decode cX7_drift 62 = .ok (.iinc 3 1, 3) := by decide +kernel
theorem dX7_drift_65 : decode cX7_drift 65 = .ok (.goto (-40), 3) := by decide +kernel
theorem dX7_drift_68 : decode cX7_drift 68 = .ok (.aload_n 0, 1) := by decide +kernel
theorem dX7_drift_69 : decode cX7_drift 69 = .ok (.getfield 37, 3) := by decide +kernel
theorem dX7_drift_72 : decode cX7_drift 72 = .ok (.getfield 121, 3) := by decide +kernel
theorem dX7_drift_75 : decode cX7_drift 75 = .ok (.ireturn, 1) := by decide +kernel
theorem dX7_undo_0 : decode cX7_undo 0 = .ok (.aload_n 0, 1) := by decide +kernel
theorem dX7_undo_1 : decode cX7_undo 1 = .ok (.getfield 47, 3) := by decide +kernel
theorem dX7_undo_4 : decode cX7_undo 4 = .ok (.getfield 155, 3) := by decide +kernel
theorem dX7_undo_7 : decode cX7_undo 7 = .ok (.iconst 1, 1) := by decide +kernel
theorem dX7_undo_8 : decode cX7_undo 8 = .ok (.if_icmp .ge 6, 3) := by decide +kernel
theorem dX7_undo_11 : decode cX7_undo 11 = .ok (.ldc 206, 2) := by decide +kernel
theorem dX7_undo_13 : decode cX7_undo 13 = .ok (.ireturn, 1) := by decide +kernel
theorem dX7_undo_14 : decode cX7_undo 14 = .ok (.aload_n 0, 1) := by decide +kernel
theorem dX7_undo_15 : decode cX7_undo 15 = .ok (.getfield 47, 3) := by decide +kernel
theorem dX7_undo_18 : decode cX7_undo 18 = .ok (.aload_n 0, 1) := by decide +kernel
theorem dX7_undo_19 : decode cX7_undo 19 = .ok (.getfield 37, 3) := by decide +kernel
theorem dX7_undo_22 : decode cX7_undo 22 = .ok (.invokevirtual 207, 3) := by decide +kernel
theorem dX7_undo_25 : decode cX7_undo 25 = .ok (.aload_n 0, 1) := by decide +kernel
theorem dX7_undo_26 : decode cX7_undo 26 = .ok (.getfield 47, 3) := by decide +kernel
theorem dX7_undo_29 : decode cX7_undo 29 = .ok (.getfield 155, 3) := by decide +kernel
theorem dX7_undo_32 : decode cX7_undo 32 = .ok (.ireturn, 1) := by decide +kernel
theorem dX7_whenDown_0 : decode cX7_whenDown 0 = .ok (.aload_n 0, 1) := by decide +kernel
theorem dX7_whenDown_1 : decode cX7_whenDown 1 = .ok (.getfield 27, 3) := by decide +kernel
theorem dX7_whenDown_4 : decode cX7_whenDown 4 = .ok (.getfield 210, 3) := by decide +kernel
theorem dX7_whenDown_7 : decode cX7_whenDown 7 = .ok (.ifCond .eq 13, 3) := by decide +kernel
theorem dX7_whenDown_10 : decode cX7_whenDown 10 = .ok (.aload_n 0, 1) := by decide +kernel
theorem dX7_whenDown_11 : decode cX7_whenDown 11 = .ok (.getfield 37, 3) := by decide +kernel
theorem dX7_whenDown_14 : decode cX7_whenDown 14 = .ok (.getfield 127, 3) := by decide +kernel
theorem dX7_whenDown_17 : decode cX7_whenDown 17 = .ok (.ifCond .eq 6, 3) := by decide +kernel
theorem dX7_whenDown_20 : decode cX7_whenDown 20 = .ok (.ldc 206, 2) := by decide +kernel
theorem dX7_whenDown_22 : decode cX7_whenDown 22 = .ok (.ireturn, 1) := by decide +kernel
theorem dX7_whenDown_23 : decode cX7_whenDown 23 = .ok (.aload_n 0, 1) := by decide +kernel
theorem dX7_whenDown_24 : decode cX7_whenDown 24 = .ok (.getfield 41, 3) := by decide +kernel
theorem dX7_whenDown_27 : decode cX7_whenDown 27 = .ok (.aload_n 0, 1) := by decide +kernel
theorem dX7_whenDown_28 : decode cX7_whenDown 28 = .ok (.getfield 37, 3) := by decide +kernel
theorem dX7_whenDown_31 : decode cX7_whenDown 31 = .ok (.invokevirtual 213, 3) := by decide +kernel
theorem dX7_whenDown_34 : decode cX7_whenDown 34 = .ok (.iconst 0, 1) := by decide +kernel
theorem dX7_whenDown_35 : decode cX7_whenDown 35 = .ok (.istore_n 1, 1) := by decide +kernel
theorem dX7_whenDown_36 : decode cX7_whenDown 36 = .ok (.iload_n 1, 1) := by decide +kernel
theorem dX7_whenDown_37 : decode cX7_whenDown 37 = .ok (.sipush 999, 3) := by decide +kernel
theorem dX7_whenDown_40 : decode cX7_whenDown 40 = .ok (.if_icmp .ge 47, 3) := by decide +kernel
theorem dX7_whenDown_43 : decode cX7_whenDown 43 = .ok (.aload_n 0, 1) := by decide +kernel
theorem dX7_whenDown_44 : decode cX7_whenDown 44 = .ok (.getfield 41, 3) := by decide +kernel
theorem dX7_whenDown_47 : decode cX7_whenDown 47 = .ok (.aload_n 0, 1) := by decide +kernel
theorem dX7_whenDown_48 : decode cX7_whenDown 48 = .ok (.getfield 27, 3) := by decide +kernel
theorem dX7_whenDown_51 : decode cX7_whenDown 51 = .ok (.aload_n 0, 1) := by decide +kernel
theorem dX7_whenDown_52 : decode cX7_whenDown 52 = .ok (.getfield 27, 3) := by decide +kernel
theorem dX7_whenDown_55 : decode cX7_whenDown 55 = .ok (.getfield 112, 3) := by decide +kernel
theorem dX7_whenDown_58 : decode cX7_whenDown 58 = .ok (.invokevirtual 196, 3) := by decide +kernel
theorem dX7_whenDown_61 : decode cX7_whenDown 61 = .ok (.aload_n 0, 1) := by decide +kernel
theorem dX7_whenDown_62 : decode cX7_whenDown 62 = .ok (.getfield 41, 3) := by decide +kernel
theorem dX7_whenDown_65 : decode cX7_whenDown 65 = .ok (.getfield 127, 3) := by decide +kernel
theorem dX7_whenDown_68 : decode cX7_whenDown 68 = .ok (.ifCond .eq 13, 3) := by decide +kernel
theorem dX7_whenDown_71 : decode cX7_whenDown 71 = .ok (.aload_n 0, 1) := by decide +kernel
theorem dX7_whenDown_72 : decode cX7_whenDown 72 = .ok (.getfield 41, 3) := by decide +kernel
theorem dX7_whenDown_75 : decode cX7_whenDown 75 = .ok (.getfield 121, 3) := by decide +kernel
theorem dX7_whenDown_78 : decode cX7_whenDown 78 = .ok (.iconst 1, 1) := by decide +kernel
theorem dX7_whenDown_79 : decode cX7_whenDown 79 = .ok (.isub, 1) := by decide +kernel
theorem dX7_whenDown_80 : decode cX7_whenDown 80 = .ok (.ireturn, 1) := by decide +kernel
theorem dX7_whenDown_81 : decode cX7_whenDown 81 = .ok (.iinc 1 1, 3) := by decide +kernel
theorem dX7_whenDown_84 : decode cX7_whenDown 84 = .ok (.goto (-48), 3) := by decide +kernel
theorem dX7_whenDown_87 : decode cX7_whenDown 87 = .ok (.iconst (-1), 1) := by decide +kernel
theorem dX7_whenDown_88 : decode cX7_whenDown 88 = .ok (.ireturn, 1) := by decide +kernel
theorem dX7_ahead_0 : decode cX7_ahead 0 = .ok (.iload_n 1, 1) := by decide +kernel
theorem dX7_ahead_1 : decode cX7_ahead 1 = .ok (.ifCond .lt 18, 3) := by decide +kernel
theorem dX7_ahead_4 : decode cX7_ahead 4 = .ok (.iload_n 1, 1) := by decide +kernel
theorem dX7_ahead_5 : decode cX7_ahead 5 = .ok (.bipush 60, 2) := by decide +kernel
theorem dX7_ahead_7 : decode cX7_ahead 7 = .ok (.if_icmp .gt 12, 3) := by decide +kernel
theorem dX7_ahead_10 : decode cX7_ahead 10 = .ok (.iload_n 2, 1) := by decide +kernel
theorem dX7_ahead_11 : decode cX7_ahead 11 = .ok (.ifCond .lt 8, 3) := by decide +kernel
theorem dX7_ahead_14 : decode cX7_ahead 14 = .ok (.iload_n 2, 1) := by decide +kernel
theorem dX7_ahead_15 : decode cX7_ahead 15 = .ok (.iconst 1, 1) := by decide +kernel
theorem dX7_ahead_16 : decode cX7_ahead 16 = .ok (.if_icmp .le 6, 3) := by decide +kernel
theorem dX7_ahead_19 : decode cX7_ahead 19 = .ok (.ldc 80, 2) := by decide +kernel
theorem dX7_ahead_21 : decode cX7_ahead 21 = .ok (.ireturn, 1) := by decide +kernel
theorem dX7_ahead_22 : decode cX7_ahead 22 = .ok (.aload_n 0, 1) := by decide +kernel
theorem dX7_ahead_23 : decode cX7_ahead 23 = .ok (.getfield 27, 3) := by decide +kernel
theorem dX7_ahead_26 : decode cX7_ahead 26 = .ok (.getfield 210, 3) := by decide +kernel
theorem dX7_ahead_29 : decode cX7_ahead 29 = .ok (.ifCond .ne 6, 3) := by decide +kernel
theorem dX7_ahead_32 : decode cX7_ahead 32 = .ok (.ldc 206, 2) := by decide +kernel
theorem dX7_ahead_34 : decode cX7_ahead 34 = .ok (.ireturn, 1) := by decide +kernel
theorem dX7_ahead_35 : decode cX7_ahead 35 = .ok (.aload_n 0, 1) := by decide +kernel
theorem dX7_ahead_36 : decode cX7_ahead 36 = .ok (.getfield 41, 3) := by decide +kernel
theorem dX7_ahead_39 : decode cX7_ahead 39 = .ok (.aload_n 0, 1) := by decide +kernel
theorem dX7_ahead_40 : decode cX7_ahead 40 = .ok (.getfield 37, 3) := by decide +kernel
theorem dX7_ahead_43 : decode cX7_ahead 43 = .ok (.invokevirtual 213, 3) := by decide +kernel
theorem dX7_ahead_46 : decode cX7_ahead 46 = .ok (.iconst 0, 1) := by decide +kernel
theorem dX7_ahead_47 : decode cX7_ahead 47 = .ok (.istore_n 3, 1) := by decide +kernel
theorem dX7_ahead_48 : decode cX7_ahead 48 = .ok (.iload_n 3, 1) := by decide +kernel
theorem dX7_ahead_49 : decode cX7_ahead 49 = .ok (.iload_n 1, 1) := by decide +kernel
theorem dX7_ahead_50 : decode cX7_ahead 50 = .ok (.if_icmp .ge 37, 3) := by decide +kernel
theorem dX7_ahead_53 : decode cX7_ahead 53 = .ok (.aload_n 0, 1) := by decide +kernel
theorem dX7_ahead_54 : decode cX7_ahead 54 = .ok (.getfield 41, 3) := by decide +kernel
theorem dX7_ahead_57 : decode cX7_ahead 57 = .ok (.getfield 127, 3) := by decide +kernel
theorem dX7_ahead_60 : decode cX7_ahead 60 = .ok (.ifCond .ne 27, 3) := by decide +kernel
theorem dX7_ahead_63 : decode cX7_ahead 63 = .ok (.aload_n 0, 1) := by decide +kernel
theorem dX7_ahead_64 : decode cX7_ahead 64 = .ok (.getfield 41, 3) := by decide +kernel
theorem dX7_ahead_67 : decode cX7_ahead 67 = .ok (.aload_n 0, 1) := by decide +kernel
theorem dX7_ahead_68 : decode cX7_ahead 68 = .ok (.getfield 27, 3) := by decide +kernel
theorem dX7_ahead_71 : decode cX7_ahead 71 = .ok (.aload_n 0, 1) := by decide +kernel
theorem dX7_ahead_72 : decode cX7_ahead 72 = .ok (.getfield 27, 3) := by decide +kernel
theorem dX7_ahead_75 : decode cX7_ahead 75 = .ok (.getfield 112, 3) := by decide +kernel
theorem dX7_ahead_78 : decode cX7_ahead 78 = .ok (.invokevirtual 196, 3) := by decide +kernel
theorem dX7_ahead_81 : decode cX7_ahead 81 = .ok (.iinc 3 1, 3) := by decide +kernel
theorem dX7_ahead_84 : decode cX7_ahead 84 = .ok (.goto (-36), 3) := by decide +kernel
theorem dX7_ahead_87 : decode cX7_ahead 87 = .ok (.iload_n 2, 1) := by decide +kernel
theorem dX7_ahead_88 : decode cX7_ahead 88 = .ok (.ifCond .ne 21, 3) := by decide +kernel
theorem dX7_ahead_91 : decode cX7_ahead 91 = .ok (.aload_n 0, 1) := by decide +kernel
theorem dX7_ahead_92 : decode cX7_ahead 92 = .ok (.getfield 41, 3) := by decide +kernel
theorem dX7_ahead_95 : decode cX7_ahead 95 = .ok (.getfield 137, 3) := by decide +kernel
theorem dX7_ahead_98 : decode cX7_ahead 98 = .ok (.aload_n 0, 1) := by decide +kernel
theorem dX7_ahead_99 : decode cX7_ahead 99 = .ok (.getfield 37, 3) := by decide +kernel
theorem dX7_ahead_102 : decode cX7_ahead 102 = .ok (.getfield 137, 3) := by decide +kernel
theorem dX7_ahead_105 : decode cX7_ahead 105 = .ok (.isub, 1) := by decide +kernel
theorem dX7_ahead_106 : decode cX7_ahead 106 = .ok (.goto 18, 3) := by decide +kernel
theorem dX7_ahead_109 : decode cX7_ahead 109 = .ok (.aload_n 0, 1) := by decide +kernel
theorem dX7_ahead_110 : decode cX7_ahead 110 = .ok (.getfield 41, 3) := by decide +kernel
theorem dX7_ahead_113 : decode cX7_ahead 113 = .ok (.getfield 134, 3) := by decide +kernel
theorem dX7_ahead_116 : decode cX7_ahead 116 = .ok (.aload_n 0, 1) := by decide +kernel
theorem dX7_ahead_117 : decode cX7_ahead 117 = .ok (.getfield 37, 3) := by decide +kernel
theorem dX7_ahead_120 : decode cX7_ahead 120 = .ok (.getfield 134, 3) := by decide +kernel
theorem dX7_ahead_123 : decode cX7_ahead 123 = .ok (.isub, 1) := by decide +kernel
theorem dX7_ahead_124 : decode cX7_ahead 124 = .ok (.ireturn, 1) := by decide +kernel
theorem dX7_certain_0 : decode cX7_certain 0 = .ok (.aload_n 0, 1) := by decide +kernel
theorem dX7_certain_1 : decode cX7_certain 1 = .ok (.getfield 27, 3) := by decide +kernel
theorem dX7_certain_4 : decode cX7_certain 4 = .ok (.iload_n 2, 1) := by decide +kernel
theorem dX7_certain_5 : decode cX7_certain 5 = .ok (.invokevirtual 158, 3) := by decide +kernel
theorem dX7_certain_8 : decode cX7_certain 8 = .ok (.ifCond .eq 17, 3) := by decide +kernel
theorem dX7_certain_11 : decode cX7_certain 11 = .ok (.iload_n 1, 1) := by decide +kernel
theorem dX7_certain_12 : decode cX7_certain 12 = .ok (.aload_n 0, 1) := by decide +kernel
theorem dX7_certain_13 : decode cX7_certain 13 = .ok (.getfield 27, 3) := by decide +kernel
theorem dX7_certain_16 : decode cX7_certain 16 = .ok (.invokevirtual 216, 3) := by decide +kernel
theorem dX7_certain_19 : decode cX7_certain 19 = .ok (.iconst (-1), 1) := by decide +kernel
theorem dX7_certain_20 : decode cX7_certain 20 = .ok (.ixor, 1) := by decide +kernel
theorem dX7_certain_21 : decode cX7_certain 21 = .ok (.iand, 1) := by decide +kernel
theorem dX7_certain_22 : decode cX7_certain 22 = .ok (.ifCond .eq 6, 3) := by decide +kernel
theorem dX7_certain_25 : decode cX7_certain 25 = .ok (.ldc 162, 2) := by decide +kernel
theorem dX7_certain_27 : decode cX7_certain 27 = .ok (.ireturn, 1) := by decide +kernel
theorem dX7_certain_28 : decode cX7_certain 28 = .ok (.iload_n 1, 1) := by decide +kernel
theorem dX7_certain_29 : decode cX7_certain 29 = .ok (.iload_n 2, 1) := by decide +kernel
theorem dX7_certain_30 : decode cX7_certain 30 = .ok (.ishr, 1) := by decide +kernel
theorem dX7_certain_31 : decode cX7_certain 31 = .ok (.iconst 1, 1) := by decide +kernel
theorem dX7_certain_32 : decode cX7_certain 32 = .ok (.iand, 1) := by decide +kernel
theorem dX7_certain_33 : decode cX7_certain 33 = .ok (.ifCond .ne 5, 3) := by decide +kernel
theorem dX7_certain_36 : decode cX7_certain 36 = .ok (.iconst (-1), 1) := by decide +kernel
theorem dX7_certain_37 : decode cX7_certain 37 = .ok (.ireturn, 1) := by decide +kernel
theorem dX7_certain_38 : decode cX7_certain 38 = .ok (.aload_n 0, 1) := by decide +kernel
theorem dX7_certain_39 : decode cX7_certain 39 = .ok (.getfield 69, 3) := by decide +kernel
theorem dX7_certain_42 : decode cX7_certain 42 = .ok (.aload_n 0, 1) := by decide +kernel
theorem dX7_certain_43 : decode cX7_certain 43 = .ok (.getfield 27, 3) := by decide +kernel
theorem dX7_certain_46 : decode cX7_certain 46 = .ok (.iload_n 1, 1) := by decide +kernel
theorem dX7_certain_47 : decode cX7_certain 47 = .ok (.invokevirtual 220, 3) := by decide +kernel
theorem dX7_certain_50 : decode cX7_certain 50 = .ok (.ifCond .eq 15, 3) := by decide +kernel
theorem dX7_certain_53 : decode cX7_certain 53 = .ok (.aload_n 0, 1) := by decide +kernel
theorem dX7_certain_54 : decode cX7_certain 54 = .ok (.getfield 69, 3) := by decide +kernel
theorem dX7_certain_57 : decode cX7_certain 57 = .ok (.getfield 224, 3) := by decide +kernel
theorem dX7_certain_60 : decode cX7_certain 60 = .ok (.iload_n 2, 1) := by decide +kernel
theorem dX7_certain_61 : decode cX7_certain 61 = .ok (.iaload, 1) := by decide +kernel
theorem dX7_certain_62 : decode cX7_certain 62 = .ok (.goto 4, 3) := by decide +kernel
theorem dX7_certain_65 : decode cX7_certain 65 = .ok (.iconst (-1), 1) := by decide +kernel
theorem dX7_certain_66 : decode cX7_certain 66 = .ok (.ireturn, 1) := by decide +kernel
theorem dX7_away_0 : decode cX7_away 0 = .ok (.iload_n 1, 1) := by decide +kernel
theorem dX7_away_1 : decode cX7_away 1 = .ok (.iconst 1, 1) := by decide +kernel
theorem dX7_away_2 : decode cX7_away 2 = .ok (.if_icmp .lt 9, 3) := by decide +kernel
theorem dX7_away_5 : decode cX7_away 5 = .ok (.iload_n 1, 1) := by decide +kernel
theorem dX7_away_6 : decode cX7_away 6 = .ok (.bipush 30, 2) := by decide +kernel
theorem dX7_away_8 : decode cX7_away 8 = .ok (.if_icmp .le 6, 3) := by decide +kernel
theorem dX7_away_11 : decode cX7_away 11 = .ok (.ldc 80, 2) := by decide +kernel
theorem dX7_away_13 : decode cX7_away 13 = .ok (.ireturn, 1) := by decide +kernel
theorem dX7_away_14 : decode cX7_away 14 = .ok (.aload_n 0, 1) := by decide +kernel
theorem dX7_away_15 : decode cX7_away 15 = .ok (.getfield 27, 3) := by decide +kernel
theorem dX7_away_18 : decode cX7_away 18 = .ok (.getfield 210, 3) := by decide +kernel
theorem dX7_away_21 : decode cX7_away 21 = .ok (.ifCond .ne 6, 3) := by decide +kernel
theorem dX7_away_24 : decode cX7_away 24 = .ok (.ldc 206, 2) := by decide +kernel
theorem dX7_away_26 : decode cX7_away 26 = .ok (.ireturn, 1) := by decide +kernel
theorem dX7_away_27 : decode cX7_away 27 = .ok (.aload_n 0, 1) := by decide +kernel
theorem dX7_away_28 : decode cX7_away 28 = .ok (.getfield 27, 3) := by decide +kernel
theorem dX7_away_31 : decode cX7_away 31 = .ok (.invokevirtual 216, 3) := by decide +kernel
theorem dX7_away_34 : decode cX7_away 34 = .ok (.istore_n 2, 1) := by decide +kernel
theorem dX7_away_35 : decode cX7_away 35 = .ok (.iconst 0, 1) := by decide +kernel
theorem dX7_away_36 : decode cX7_away 36 = .ok (.istore_n 3, 1) := by decide +kernel
theorem dX7_away_37 : decode cX7_away 37 = .ok (.iload_n 3, 1) := by decide +kernel
theorem dX7_away_38 : decode cX7_away 38 = .ok (.bipush 8, 2) := by decide +kernel
theorem dX7_away_40 : decode cX7_away 40 = .ok (.if_icmp .gt 71, 3) := by decide +kernel
theorem dX7_away_43 : decode cX7_away 43 = .ok (.iconst 0, 1) := by decide +kernel
theorem dX7_away_44 : decode cX7_away 44 = .ok (.istore 4, 2) := by decide +kernel
theorem dX7_away_46 : decode cX7_away 46 = .ok (.iload 4, 2) := by decide +kernel
theorem dX7_away_48 : decode cX7_away 48 = .ok (.iload_n 2, 1) := by decide +kernel
theorem dX7_away_49 : decode cX7_away 49 = .ok (.if_icmp .gt 56, 3) := by decide +kernel
theorem dX7_away_52 : decode cX7_away 52 = .ok (.iload 4, 2) := by decide +kernel
theorem dX7_away_54 : decode cX7_away 54 = .ok (.aload_n 0, 1) := by decide +kernel
theorem dX7_away_55 : decode cX7_away 55 = .ok (.getfield 37, 3) := by decide +kernel
theorem dX7_away_58 : decode cX7_away 58 = .ok (.getfield 200, 3) := by decide +kernel
theorem dX7_away_61 : decode cX7_away 61 = .ok (.iand, 1) := by decide +kernel
theorem dX7_away_62 : decode cX7_away 62 = .ok (.ifCond .ne 16, 3) := by decide +kernel
theorem dX7_away_65 : decode cX7_away 65 = .ok (.iload 4, 2) := by decide +kernel
theorem dX7_away_67 : decode cX7_away 67 = .ok (.invokestatic 225, 3) := by decide +kernel
theorem dX7_away_70 : decode cX7_away 70 = .ok (.iload_n 3, 1) := by decide +kernel
theorem dX7_away_71 : decode cX7_away 71 = .ok (.if_icmp .ne 7, 3) := by decide +kernel
theorem dX7_away_74 : decode cX7_away 74 = .ok (.iconst 1, 1) := by decide +kernel
theorem dX7_away_75 : decode cX7_away 75 = .ok (.goto 4, 3) := by decide +kernel
theorem dX7_away_78 : decode cX7_away 78 = .ok (.iconst 0, 1) := by decide +kernel
