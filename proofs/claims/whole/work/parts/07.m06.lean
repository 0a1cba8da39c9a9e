-- X5_read OneADay$Reader
def f5_read_36  (a2 : Int32) (d3 : Nat)  : Nat → Int32 → Mem → Option (Int32 × Mem)
  | 0, _, _ => none
  | n + 1, x4, w =>
  if 240 < x4 then (some (w.1 27 2 0, w)) else (if (w.1 27 2 0) = 0 then (if (w.1 27 1 0) ≤ (w.1 27 4 0) then (some (w.1 27 2 0, w)) else (bndV (f5_readClause d3 w) fun w4 => bndV (f5_skipBlanks  w4) fun w5 => bnd (x4 + 1) fun y6 => f5_read_36  a2 d3  n y6 w5)) else (some (w.1 27 2 0, w)))
set_option maxRecDepth 100000 in
set_option maxHeartbeats 4000000 in
theorem t5_read_36   (a2 : Int32) (d3 : Nat) (hd3 : Ob d3 6)   : ∀ (n : Nat) (x4 : Int32) (w w' : Mem) (r : Int32), f5_read_36  a2 d3  n x4 w = some (r, w') → Bk yX5_read cX5_read 5 (some .int) 6 36 [(0, vR 27 0), (3, vR d3 0), (4, vI x4)] [] w (some (vI r)) w' := by
  intro n
  induction n with
  | zero =>
    intro x4 w w' r h
    cases (show (none : Option (Int32 × Mem)) = some _ from h)
  | succ n ih =>
    intro x4 w w' r h
    rw [f5_read_36] at h
    refine b_iload dX5_read_36 (k := 2) rfl ?_
    refine b_sipush (v := 240) dX5_read_38 (by decide) ?_
    refine b_icgt (tgt := 77) dX5_read_41 (by decide) (fun c1 => ?_) (fun c1 => ?_)
    · replace h := ifT c1 h
      refine b_aload_n dX5_read_77 rfl (k := 0) rfl ?_
      refine b_getI fl5_28 ob27 rfl dX5_read_78 ?_
      obtain ⟨rfl, rfl⟩ := rtE h
      exact b_iret rfl dX5_read_81
    · replace h := ifF c1 h
      refine b_aload_n dX5_read_44 rfl (k := 0) rfl ?_
      refine b_getI fl5_28 ob27 rfl dX5_read_45 ?_
      refine b_ifne (tgt := 77) dX5_read_48 (by decide) (fun c2 => ?_) (fun c2 => ?_)
      · replace h := ifF c2 h
        refine b_aload_n dX5_read_77 rfl (k := 0) rfl ?_
        refine b_getI fl5_28 ob27 rfl dX5_read_78 ?_
        obtain ⟨rfl, rfl⟩ := rtE h
        exact b_iret rfl dX5_read_81
      · replace h := ifT c2 h
        refine b_aload_n dX5_read_51 rfl (k := 0) rfl ?_
        refine b_getI fl5_25 ob27 rfl dX5_read_52 ?_
        refine b_aload_n dX5_read_55 rfl (k := 0) rfl ?_
        refine b_getI fl5_21 ob27 rfl dX5_read_56 ?_
        refine b_icge (tgt := 77) dX5_read_59 (by decide) (fun c3 => ?_) (fun c3 => ?_)
        · replace h := ifT c3 h
          refine b_aload_n dX5_read_77 rfl (k := 0) rfl ?_
          refine b_getI fl5_28 ob27 rfl dX5_read_78 ?_
          obtain ⟨rfl, rfl⟩ := rtE h
          exact b_iret rfl dX5_read_81
        · replace h := ifF c3 h
          refine b_aload_n dX5_read_62 rfl (k := 0) rfl ?_
          refine b_aload_n dX5_read_63 rfl (k := 1) rfl ?_
          obtain ⟨w4, hw4, h⟩ := bdV h
          refine b_callVv mv5_readClause ml5_39 ob27 (s5_readClause d3 hd3 _ _  hw4) rfl (by decide) (by decide) (Nat.le_of_ble_eq_true rfl) rfl dX5_read_64 ?_
          refine b_aload_n dX5_read_67 rfl (k := 0) rfl ?_
          obtain ⟨w5, hw5, h⟩ := bdV h
          refine b_callVv mv5_skipBlanks ml5_36 ob27 (s5_skipBlanks   _ _  hw5) rfl (by decide) (by decide) (Nat.le_of_ble_eq_true rfl) rfl dX5_read_68 ?_
          obtain ⟨y6, ey6, h⟩ := nmE h
          refine b_iinc (v := y6) (lv' := [(4, vI y6), (0, vR 27 0), (3, vR d3 0)]) dX5_read_71 (k := 2) rfl ey6.symm (by decide) rfl ?_
          refine b_goto (tgt := 36) dX5_read_74 (by decide) ?_
          refine b_sub [1, 2, 0] rfl ?_
          exact ih y6 _ _ _ h
def f5_read  (a2 : Int32) (d3 : Nat)   (w : Mem) : Option (Int32 × Mem) :=
  bnd (sR w 27 0 (26, 1)) fun w1 => bnd (sI w1 27 1 0 (jmin a2 240)) fun w2 => bnd (sI w2 27 4 0 0) fun w3 => bnd (sI w3 27 2 0 0) fun w4 => bndV (f6_clear d3 w4) fun w5 => bndV (f5_skipBlanks  w5) fun w6 => f5_read_36  a2 d3  100000 0 w6
set_option maxRecDepth 100000 in
set_option maxHeartbeats 4000000 in
theorem t5_read   (a2 : Int32) (d3 : Nat) (hd3 : Ob d3 6)    (w w' : Mem) (r : Int32) (h : f5_read  a2 d3   w = some (r, w')) : Bk yX5_read cX5_read 5 (some .int) 6 0 [(0, vR 27 0), (1, vR 26 1), (2, vI a2), (3, vR d3 0)] [] w (some (vI r)) w' := by
  unfold f5_read at h
  refine b_aload_n dX5_read_0 rfl (k := 0) rfl ?_
  refine b_aload_n dX5_read_1 rfl (k := 1) rfl ?_
  obtain ⟨w1, ew1, h⟩ := nmE h
  refine b_putR fw5_9 ob27 rfl (fun _ => rfl) (fun _ => rfl) dX5_read_2 ?_
  refine b_nmW ew1 ?_
  refine b_aload_n dX5_read_5 rfl (k := 0) rfl ?_
  refine b_iload_n dX5_read_6 rfl (k := 2) rfl ?_
  refine b_aload_n dX5_read_7 rfl (k := 1) rfl ?_
  refine b_alen (v := 240) ar26_0 (by decide) (by decide) dX5_read_8 ?_
  refine b_mmin ml5_15 (Nat.le_of_ble_eq_true rfl) (by first | decide | omega) dX5_read_9 ?_
  obtain ⟨w2, ew2, h⟩ := nmE h
  refine b_putI fw5_21 ob27 rfl dX5_read_12 ?_
  refine b_nmW ew2 ?_
  refine b_aload_n dX5_read_15 rfl (k := 0) rfl ?_
  refine b_iconst (v := 0) dX5_read_16 (by decide) ?_
  obtain ⟨w3, ew3, h⟩ := nmE h
  refine b_putI fw5_25 ob27 rfl dX5_read_17 ?_
  refine b_nmW ew3 ?_
  refine b_aload_n dX5_read_20 rfl (k := 0) rfl ?_
  refine b_iconst (v := 0) dX5_read_21 (by decide) ?_
  obtain ⟨w4, ew4, h⟩ := nmE h
  refine b_putI fw5_28 ob27 rfl dX5_read_22 ?_
  refine b_nmW ew4 ?_
  refine b_aload_n dX5_read_25 rfl (k := 3) rfl ?_
  obtain ⟨w5, hw5, h⟩ := bdV h
  refine b_callVv mv6_clear ml5_31 hd3 (s6_clear d3 hd3 _ _  hw5) rfl (by decide) (by decide) (Nat.le_of_ble_eq_true rfl) rfl dX5_read_26 ?_
  refine b_aload_n dX5_read_29 rfl (k := 0) rfl ?_
  obtain ⟨w6, hw6, h⟩ := bdV h
  refine b_callVv mv5_skipBlanks ml5_36 ob27 (s5_skipBlanks   _ _  hw6) rfl (by decide) (by decide) (Nat.le_of_ble_eq_true rfl) rfl dX5_read_30 ?_
  refine b_iconst (v := 0) dX5_read_33 (by decide) ?_
  refine b_istore (lv' := [(4, vI 0), (0, vR 27 0), (1, vR 26 1), (2, vI a2), (3, vR d3 0)]) dX5_read_34 (by decide) rfl ?_
  refine b_sub [1, 4, 0] rfl ?_
  exact t5_read_36  a2 d3 hd3   100000 0 _ _ _ h
theorem s5_read (a2 : Int32) (d3 : Nat) (hd3 : Ob d3 6) (w w' : Mem) (r : Int32) (h : f5_read  a2 d3  w = some (r, w')) : Sp yX5_read cX5_read 5 (some .int) 6 [vR 27 0, vR 26 1, vI a2, vR d3 0] w (some (vI r)) w' := sp_of (by decide) (fun _ => rfl) (fun _ => Nat.le_of_ble_eq_true rfl) (t5_read  a2 d3 hd3  _ _ _ h)
-- X7_feed OneADay
def f7_feed  (a1 : Int32)   (w : Mem) : Option (Int32 × Mem) :=
  if a1 < 0 then (some ((-1000000002), w)) else (if a1 ≤ 255 then (if (w.1 26 1 0) < 0 then (some ((-1000000004), w)) else (if (w.1 26 1 0) < 240 then (if (w.1 26 1 0) < 0 ∨ 240 ≤ Int32.toNatClampNeg (w.1 26 1 0) then none else if ¬ (j2c a1).toUInt32.toUInt16.toUInt32.toInt32 = (j2c a1) then none else bnd (sI w 26 0 (Int32.toNatClampNeg (w.1 26 1 0)) (j2c a1)) fun w7 => bnd (sI w7 26 1 0 ((w7.1 26 1 0) + 1)) fun w8 => some (w8.1 26 1 0, w8)) else (some ((-1000000004), w)))) else (some ((-1000000002), w)))
set_option maxRecDepth 100000 in
set_option maxHeartbeats 4000000 in
theorem t7_feed   (a1 : Int32)     (w w' : Mem) (r : Int32) (h : f7_feed  a1   w = some (r, w')) : Bk yX7_feed cX7_feed 2 (some .int) 1 0 [(0, vR 26 0), (1, vI a1)] [] w (some (vI r)) w' := by
  unfold f7_feed at h
  refine b_iload_n dX7_feed_0 rfl (k := 1) rfl ?_
  refine b_iflt (tgt := 11) dX7_feed_1 (by decide) (fun c1 => ?_) (fun c1 => ?_)
  · replace h := ifT c1 h
    refine b_ldc dX7_feed_11 kk7_80 ?_
    obtain ⟨rfl, rfl⟩ := rtE h
    exact b_iret rfl dX7_feed_13
  · replace h := ifF c1 h
    refine b_iload_n dX7_feed_4 rfl (k := 1) rfl ?_
    refine b_sipush (v := 255) dX7_feed_5 (by decide) ?_
    refine b_icle (tgt := 14) dX7_feed_8 (by decide) (fun c2 => ?_) (fun c2 => ?_)
    · replace h := ifT c2 h
      refine b_aload_n dX7_feed_14 rfl (k := 0) rfl ?_
      refine b_getI fl7_81 ob26 rfl dX7_feed_15 ?_
      refine b_iflt (tgt := 33) dX7_feed_18 (by decide) (fun c3 => ?_) (fun c3 => ?_)
      · replace h := ifT c3 h
        refine b_ldc dX7_feed_33 kk7_84 ?_
        obtain ⟨rfl, rfl⟩ := rtE h
        exact b_iret rfl dX7_feed_35
      · replace h := ifF c3 h
        refine b_aload_n dX7_feed_21 rfl (k := 0) rfl ?_
        refine b_getI fl7_81 ob26 rfl dX7_feed_22 ?_
        refine b_aload_n dX7_feed_25 rfl (k := 0) rfl ?_
        refine b_getF fl7_9 ob26 rfl rfl dX7_feed_26 ?_
        refine b_alen (v := 240) ar26_0 (by decide) (by decide) dX7_feed_29 ?_
        refine b_iclt (tgt := 36) dX7_feed_30 (by decide) (fun c4 => ?_) (fun c4 => ?_)
        · replace h := ifT c4 h
          refine b_aload_n dX7_feed_36 rfl (k := 0) rfl ?_
          refine b_getF fl7_9 ob26 rfl rfl dX7_feed_37 ?_
          refine b_aload_n dX7_feed_40 rfl (k := 0) rfl ?_
          refine b_getI fl7_81 ob26 rfl dX7_feed_41 ?_
          refine b_iload_n dX7_feed_44 rfl (k := 1) rfl ?_
          refine b_i2c dX7_feed_45 ?_
          obtain ⟨g5, h⟩ := gdE h
          obtain ⟨g6, h⟩ := gdE h
          obtain ⟨w7, ew7, h⟩ := nmE h
          refine b_cast ar26_0 g5 rfl (Decidable.not_not.mp g6) dX7_feed_46 ?_
          refine b_nmW ew7 ?_
          refine b_aload_n dX7_feed_47 rfl (k := 0) rfl ?_
          refine b_dup dX7_feed_48 rfl ?_
          refine b_getI fl7_81 ob26 rfl dX7_feed_49 ?_
          refine b_iconst (v := 1) dX7_feed_52 (by decide) ?_
          refine b_iadd dX7_feed_53 ?_
          obtain ⟨w8, ew8, h⟩ := nmE h
          refine b_putI fw7_81 ob26 rfl dX7_feed_54 ?_
          refine b_nmW ew8 ?_
          refine b_aload_n dX7_feed_57 rfl (k := 0) rfl ?_
          refine b_getI fl7_81 ob26 rfl dX7_feed_58 ?_
          obtain ⟨rfl, rfl⟩ := rtE h
          exact b_iret rfl dX7_feed_61
        · replace h := ifF c4 h
          refine b_ldc dX7_feed_33 kk7_84 ?_
          obtain ⟨rfl, rfl⟩ := rtE h
          exact b_iret rfl dX7_feed_35
    · replace h := ifF c2 h
      refine b_ldc dX7_feed_11 kk7_80 ?_
      obtain ⟨rfl, rfl⟩ := rtE h
      exact b_iret rfl dX7_feed_13
theorem s7_feed (a1 : Int32)  (w w' : Mem) (r : Int32) (h : f7_feed  a1  w = some (r, w')) : Sp yX7_feed cX7_feed 2 (some .int) 1 [vR 26 0, vI a1] w (some (vI r)) w' := sp_of (by decide) (fun _ => rfl) (fun _ => Nat.le_of_ble_eq_true rfl) (t7_feed  a1   _ _ _ h)
-- X7_rock OneADay
def f7_rock     (w : Mem) : Option (Int32 × Mem) :=
  (rk (w.2.2 26 5)).bind fun g1 => bndO (f5_read (w.1 26 1 0) g1 w) fun r3 w2 => bnd (sI w2 26 1 0 0) fun w4 => if r3 = 0 then (bnd (sI w4 26 2 0 (-1)) fun w6 => (rk (w6.2.2 26 4)).bind fun g7 => (rk (w6.2.2 26 5)).bind fun g8 => bnd (sR w6 26 4 (g8, 0)) fun w9 => bnd (sR w9 26 5 (g7, 0)) fun w10 => (rk (w10.2.2 26 4)).bind fun g11 => bndV (f1_begin 0 g11 w10) fun w12 => bndV (f2_clear  w12) fun w13 => bndV (f3_clear  w13) fun w14 => bnd (sI w14 26 11 0 0) fun w15 => (rk (w15.2.2 26 4)).bind fun g16 => some (w15.1 g16 4 0, w15)) else (bnd (sI w4 26 2 0 (w4.1 27 4 0)) fun w17 => some ((-10) - r3, w17))
set_option maxRecDepth 100000 in
set_option maxHeartbeats 4000000 in
theorem t7_rock        (w w' : Mem) (r : Int32) (h : f7_rock     w = some (r, w')) : Bk yX7_rock cX7_rock 3 (some .int) 7 0 [(0, vR 26 0)] [] w (some (vI r)) w' := by
  unfold f7_rock at h
  refine b_aload_n dX7_rock_0 rfl (k := 0) rfl ?_
  refine b_getF fl7_20 ob26 rfl rfl dX7_rock_1 ?_
  refine b_aload_n dX7_rock_4 rfl (k := 0) rfl ?_
  refine b_getF fl7_9 ob26 rfl rfl dX7_rock_5 ?_
  refine b_aload_n dX7_rock_8 rfl (k := 0) rfl ?_
  refine b_getI fl7_81 ob26 rfl dX7_rock_9 ?_
  refine b_aload_n dX7_rock_12 rfl (k := 0) rfl ?_
  obtain ⟨g1, qg1, og1, h⟩ := bdR h
  refine b_getM qg1 fl7_31 ob26 rfl dX7_rock_13 ?_
  obtain ⟨r3, w2, hw2, h⟩ := bdO h
  refine b_callVi mv5_read ml7_85 ob27 (s5_read (w.1 26 1 0) g1 og1 _ _ _ hw2) rfl (by decide) (by decide) (Nat.le_of_ble_eq_true rfl) rfl dX7_rock_16 ?_
  refine b_istore_n (lv' := [(1, vI r3), (0, vR 26 0)]) dX7_rock_19 rfl (by decide) rfl ?_
  refine b_aload_n dX7_rock_20 rfl (k := 1) rfl ?_
  refine b_iconst (v := 0) dX7_rock_21 (by decide) ?_
  obtain ⟨w4, ew4, h⟩ := nmE h
  refine b_putI fw7_81 ob26 rfl dX7_rock_22 ?_
  refine b_nmW ew4 ?_
  refine b_iload_n dX7_rock_25 rfl (k := 0) rfl ?_
  refine b_ifeq (tgt := 45) dX7_rock_26 (by decide) (fun c5 => ?_) (fun c5 => ?_)
  · replace h := ifT c5 h
    refine b_aload_n dX7_rock_45 rfl (k := 1) rfl ?_
    refine b_iconst (v := (-1)) dX7_rock_46 (by decide) ?_
    obtain ⟨w6, ew6, h⟩ := nmE h
    refine b_putI fw7_13 ob26 rfl dX7_rock_47 ?_
    refine b_nmW ew6 ?_
    refine b_aload_n dX7_rock_50 rfl (k := 1) rfl ?_
    obtain ⟨g7, qg7, og7, h⟩ := bdR h
    refine b_getM qg7 fl7_27 ob26 rfl dX7_rock_51 ?_
    refine b_astore_n (lv' := [(2, vR g7 0), (1, vI r3), (0, vR 26 0)]) dX7_rock_54 rfl (by decide) rfl ?_
    refine b_aload_n dX7_rock_55 rfl (k := 2) rfl ?_
    refine b_aload_n dX7_rock_56 rfl (k := 2) rfl ?_
    obtain ⟨g8, qg8, og8, h⟩ := bdR h
    refine b_getM qg8 fl7_31 ob26 rfl dX7_rock_57 ?_
    obtain ⟨w9, ew9, h⟩ := nmE h
    refine b_putR fw7_27 ob26 rfl (fun _ => rfl) (fun _ => rfl) dX7_rock_60 ?_
    refine b_nmW ew9 ?_
    refine b_aload_n dX7_rock_63 rfl (k := 2) rfl ?_
    refine b_aload_n dX7_rock_64 rfl (k := 0) rfl ?_
    obtain ⟨w10, ew10, h⟩ := nmE h
    refine b_putR fw7_31 ob26 rfl (fun _ => rfl) (fun _ => rfl) dX7_rock_65 ?_
    refine b_nmW ew10 ?_
    refine b_aload_n dX7_rock_68 rfl (k := 2) rfl ?_
    refine b_getF fl7_37 ob26 rfl rfl dX7_rock_69 ?_
    refine b_aload_n dX7_rock_72 rfl (k := 2) rfl ?_
    obtain ⟨g11, qg11, og11, h⟩ := bdR h
    refine b_getM qg11 fl7_27 ob26 rfl dX7_rock_73 ?_
    obtain ⟨w12, hw12, h⟩ := bdV h
    refine b_callVv mv1_begin ml7_92 ob0 (s1_begin 0 g11 ob0 og11 _ _  hw12) rfl (by decide) (by decide) (Nat.le_of_ble_eq_true rfl) rfl dX7_rock_76 ?_
    refine b_aload_n dX7_rock_79 rfl (k := 2) rfl ?_
    refine b_getF fl7_62 ob26 rfl rfl dX7_rock_80 ?_
    obtain ⟨w13, hw13, h⟩ := bdV h
    refine b_callVv mv2_clear ml7_96 ob29 (s2_clear   _ _  hw13) rfl (by decide) (by decide) (Nat.le_of_ble_eq_true rfl) rfl dX7_rock_83 ?_
    refine b_aload_n dX7_rock_86 rfl (k := 2) rfl ?_
    refine b_getF fl7_47 ob26 rfl rfl dX7_rock_87 ?_
    obtain ⟨w14, hw14, h⟩ := bdV h
    refine b_callVv mv3_clear ml7_99 ob28 (s3_clear   _ _  hw14) rfl (by decide) (by decide) (Nat.le_of_ble_eq_true rfl) rfl dX7_rock_90 ?_
    refine b_aload_n dX7_rock_93 rfl (k := 2) rfl ?_
    refine b_iconst (v := 0) dX7_rock_94 (by decide) ?_
    obtain ⟨w15, ew15, h⟩ := nmE h
    refine b_putI fw7_100 ob26 rfl dX7_rock_95 ?_
    refine b_nmW ew15 ?_
    refine b_aload_n dX7_rock_98 rfl (k := 2) rfl ?_
    obtain ⟨g16, qg16, og16, h⟩ := bdR h
    refine b_getM qg16 fl7_27 ob26 rfl dX7_rock_99 ?_
    refine b_getI fl7_103 og16 rfl dX7_rock_102 ?_
    obtain ⟨rfl, rfl⟩ := rtE h
    exact b_iret rfl dX7_rock_105
  · replace h := ifF c5 h
    refine b_aload_n dX7_rock_29 rfl (k := 1) rfl ?_
    refine b_aload_n dX7_rock_30 rfl (k := 1) rfl ?_
    refine b_getF fl7_20 ob26 rfl rfl dX7_rock_31 ?_
    refine b_getI fl7_89 ob27 rfl dX7_rock_34 ?_
    obtain ⟨w17, ew17, h⟩ := nmE h
    refine b_putI fw7_13 ob26 rfl dX7_rock_37 ?_
    refine b_nmW ew17 ?_
    refine b_bipush (v := (-10)) dX7_rock_40 (by decide) ?_
    refine b_iload_n dX7_rock_42 rfl (k := 0) rfl ?_
    refine b_isub dX7_rock_43 ?_
    obtain ⟨rfl, rfl⟩ := rtE h
    exact b_iret rfl dX7_rock_44
theorem s7_rock   (w w' : Mem) (r : Int32) (h : f7_rock    w = some (r, w')) : Sp yX7_rock cX7_rock 3 (some .int) 7 [vR 26 0] w (some (vI r)) w' := sp_of (by decide) (fun _ => rfl) (fun _ => Nat.le_of_ble_eq_true rfl) (t7_rock     _ _ _ h)
-- X7_fault OneADay
def f7_fault     (w : Mem) : Option (Int32 × Mem) :=
  some (w.1 26 2 0, w)
set_option maxRecDepth 100000 in
set_option maxHeartbeats 4000000 in
theorem t7_fault        (w w' : Mem) (r : Int32) (h : f7_fault     w = some (r, w')) : Bk yX7_fault cX7_fault 1 (some .int) 1 0 [(0, vR 26 0)] [] w (some (vI r)) w' := by
  unfold f7_fault at h
  refine b_aload_n dX7_fault_0 rfl (k := 0) rfl ?_
  refine b_getI fl7_13 ob26 rfl dX7_fault_1 ?_
  obtain ⟨rfl, rfl⟩ := rtE h
  exact b_iret rfl dX7_fault_4
theorem s7_fault   (w w' : Mem) (r : Int32) (h : f7_fault    w = some (r, w')) : Sp yX7_fault cX7_fault 1 (some .int) 1 [vR 26 0] w (some (vI r)) w' := sp_of (by decide) (fun _ => rfl) (fun _ => Nat.le_of_ble_eq_true rfl) (t7_fault     _ _ _ h)
-- X7_told OneADay
def f7_told  (a1 : Int32)   (w : Mem) : Option (Int32 × Mem) :=
  if a1 = 0 then ((rk (w.2.2 26 4)).bind fun g2 => some (w.1 g2 1 0, w)) else (if a1 = 1 then ((rk (w.2.2 26 4)).bind fun g4 => some (w.1 g4 2 0, w)) else (if a1 = 2 then ((rk (w.2.2 26 4)).bind fun g6 => some (w.1 g6 3 0, w)) else (if a1 = 3 then ((rk (w.2.2 26 4)).bind fun g8 => some (w.1 g8 4 0, w)) else (if a1 = 4 then ((rk (w.2.2 26 4)).bind fun g10 => some (w.1 g10 5 0, w)) else (if a1 = 5 then ((rk (w.2.2 26 4)).bind fun g12 => some (w.1 g12 6 0, w)) else (if a1 = 6 then (some (w.1 26 1 0, w)) else (if a1 = 7 then (some (w.1 0 6 0, w)) else (if a1 = 8 then (some (w.1 0 7 0, w)) else (if a1 = 9 then (if (w.1 0 13 0) = 0 then (some (0, w)) else (some (1, w))) else (if a1 = 10 then (some (w.1 0 8 0, w)) else (if a1 = 11 then (some (w.1 0 9 0, w)) else (if a1 = 12 then (some (w.1 0 10 0, w)) else (if a1 = 13 then (some (w.1 0 11 0, w)) else (if a1 = 14 then (some (w.1 0 5 0, w)) else (if a1 = 15 then (some (w.1 0 12 0, w)) else (if a1 = 16 then (some (w.1 29 4 0, w)) else (if a1 = 17 then (some (w.1 29 5 0, w)) else (if a1 = 18 then (some (w.1 28 2 0, w)) else (some ((-1000000002), w))))))))))))))))))))
set_option maxRecDepth 100000 in
set_option maxHeartbeats 4000000 in
theorem t7_told   (a1 : Int32)     (w w' : Mem) (r : Int32) (h : f7_told  a1   w = some (r, w')) : Bk yX7_told cX7_told 2 (some .int) 1 0 [(0, vR 26 0), (1, vI a1)] [] w (some (vI r)) w' := by
  unfold f7_told at h
  refine b_iload_n dX7_told_0 rfl (k := 1) rfl ?_
  by_cases c1 : a1 = 0
  · replace h := ifT c1 h
    refine b_tabIn (j := 0) (tgt := 92) (by rw [c1]; decide) dX7_told_1 (by decide) (by decide) rfl (by decide) ?_
    refine b_aload_n dX7_told_92 rfl (k := 0) rfl ?_
    obtain ⟨g2, qg2, og2, h⟩ := bdR h
    refine b_getM qg2 fl7_27 ob26 rfl dX7_told_93 ?_
    refine b_getI fl7_106 og2 rfl dX7_told_96 ?_
    obtain ⟨rfl, rfl⟩ := rtE h
    exact b_iret rfl dX7_told_99
  · replace h := ifF c1 h
    by_cases c3 : a1 = 1
    · replace h := ifT c3 h
      refine b_tabIn (j := 1) (tgt := 100) (by rw [c3]; decide) dX7_told_1 (by decide) (by decide) rfl (by decide) ?_
      refine b_aload_n dX7_told_100 rfl (k := 0) rfl ?_
      obtain ⟨g4, qg4, og4, h⟩ := bdR h
      refine b_getM qg4 fl7_27 ob26 rfl dX7_told_101 ?_
      refine b_getI fl7_109 og4 rfl dX7_told_104 ?_
      obtain ⟨rfl, rfl⟩ := rtE h
      exact b_iret rfl dX7_told_107
    · replace h := ifF c3 h
      by_cases c5 : a1 = 2
      · replace h := ifT c5 h
        refine b_tabIn (j := 2) (tgt := 108) (by rw [c5]; decide) dX7_told_1 (by decide) (by decide) rfl (by decide) ?_
        refine b_aload_n dX7_told_108 rfl (k := 0) rfl ?_
        obtain ⟨g6, qg6, og6, h⟩ := bdR h
        refine b_getM qg6 fl7_27 ob26 rfl dX7_told_109 ?_
        refine b_getI fl7_112 og6 rfl dX7_told_112 ?_
        obtain ⟨rfl, rfl⟩ := rtE h
        exact b_iret rfl dX7_told_115
      · replace h := ifF c5 h
        by_cases c7 : a1 = 3
        · replace h := ifT c7 h
          refine b_tabIn (j := 3) (tgt := 116) (by rw [c7]; decide) dX7_told_1 (by decide) (by decide) rfl (by decide) ?_
          refine b_aload_n dX7_told_116 rfl (k := 0) rfl ?_
          obtain ⟨g8, qg8, og8, h⟩ := bdR h
          refine b_getM qg8 fl7_27 ob26 rfl dX7_told_117 ?_
          refine b_getI fl7_103 og8 rfl dX7_told_120 ?_
          obtain ⟨rfl, rfl⟩ := rtE h
          exact b_iret rfl dX7_told_123
        · replace h := ifF c7 h
          by_cases c9 : a1 = 4
          · replace h := ifT c9 h
            refine b_tabIn (j := 4) (tgt := 124) (by rw [c9]; decide) dX7_told_1 (by decide) (by decide) rfl (by decide) ?_
            refine b_aload_n dX7_told_124 rfl (k := 0) rfl ?_
            obtain ⟨g10, qg10, og10, h⟩ := bdR h
            refine b_getM qg10 fl7_27 ob26 rfl dX7_told_125 ?_
            refine b_getI fl7_115 og10 rfl dX7_told_128 ?_
            obtain ⟨rfl, rfl⟩ := rtE h
            exact b_iret rfl dX7_told_131
          · replace h := ifF c9 h
            by_cases c11 : a1 = 5
            · replace h := ifT c11 h
              refine b_tabIn (j := 5) (tgt := 132) (by rw [c11]; decide) dX7_told_1 (by decide) (by decide) rfl (by decide) ?_
              refine b_aload_n dX7_told_132 rfl (k := 0) rfl ?_
              obtain ⟨g12, qg12, og12, h⟩ := bdR h
              refine b_getM qg12 fl7_27 ob26 rfl dX7_told_133 ?_
              refine b_getI fl7_118 og12 rfl dX7_told_136 ?_
              obtain ⟨rfl, rfl⟩ := rtE h
              exact b_iret rfl dX7_told_139
            · replace h := ifF c11 h
              by_cases c13 : a1 = 6
              · replace h := ifT c13 h
                refine b_tabIn (j := 6) (tgt := 140) (by rw [c13]; decide) dX7_told_1 (by decide) (by decide) rfl (by decide) ?_
                refine b_aload_n dX7_told_140 rfl (k := 0) rfl ?_
                refine b_getI fl7_81 ob26 rfl dX7_told_141 ?_
                obtain ⟨rfl, rfl⟩ := rtE h
                exact b_iret rfl dX7_told_144
              · replace h := ifF c13 h
                by_cases c14 : a1 = 7
                · replace h := ifT c14 h
                  refine b_tabIn (j := 7) (tgt := 145) (by rw [c14]; decide) dX7_told_1 (by decide) (by decide) rfl (by decide) ?_
                  refine b_aload_n dX7_told_145 rfl (k := 0) rfl ?_
                  refine b_getF fl7_37 ob26 rfl rfl dX7_told_146 ?_
                  refine b_getI fl7_121 ob0 rfl dX7_told_149 ?_
                  obtain ⟨rfl, rfl⟩ := rtE h
                  exact b_iret rfl dX7_told_152
                · replace h := ifF c14 h
                  by_cases c15 : a1 = 8
                  · replace h := ifT c15 h
                    refine b_tabIn (j := 8) (tgt := 153) (by rw [c15]; decide) dX7_told_1 (by decide) (by decide) rfl (by decide) ?_
                    refine b_aload_n dX7_told_153 rfl (k := 0) rfl ?_
                    refine b_getF fl7_37 ob26 rfl rfl dX7_told_154 ?_
                    refine b_getI fl7_124 ob0 rfl dX7_told_157 ?_
                    obtain ⟨rfl, rfl⟩ := rtE h
                    exact b_iret rfl dX7_told_160
                  · replace h := ifF c15 h
                    by_cases c16 : a1 = 9
                    · replace h := ifT c16 h
                      refine b_tabIn (j := 9) (tgt := 161) (by rw [c16]; decide) dX7_told_1 (by decide) (by decide) rfl (by decide) ?_
                      refine b_aload_n dX7_told_161 rfl (k := 0) rfl ?_
                      refine b_getF fl7_37 ob26 rfl rfl dX7_told_162 ?_
                      refine b_getI fl7_127 ob0 rfl dX7_told_165 ?_
                      refine b_ifeq (tgt := 175) dX7_told_168 (by decide) (fun c17 => ?_) (fun c17 => ?_)
                      · replace h := ifT c17 h
                        refine b_iconst (v := 0) dX7_told_175 (by decide) ?_
                        obtain ⟨rfl, rfl⟩ := rtE h
                        exact b_iret rfl dX7_told_176
                      · replace h := ifF c17 h
                        refine b_iconst (v := 1) dX7_told_171 (by decide) ?_
                        refine b_goto (tgt := 176) dX7_told_172 (by decide) ?_
                        obtain ⟨rfl, rfl⟩ := rtE h
                        exact b_iret rfl dX7_told_176
                    · replace h := ifF c16 h
                      by_cases c18 : a1 = 10
                      · replace h := ifT c18 h
                        refine b_tabIn (j := 10) (tgt := 177) (by rw [c18]; decide) dX7_told_1 (by decide) (by decide) rfl (by decide) ?_
                        refine b_aload_n dX7_told_177 rfl (k := 0) rfl ?_
                        refine b_getF fl7_37 ob26 rfl rfl dX7_told_178 ?_
                        refine b_getI fl7_131 ob0 rfl dX7_told_181 ?_
                        obtain ⟨rfl, rfl⟩ := rtE h
                        exact b_iret rfl dX7_told_184
                      · replace h := ifF c18 h
                        by_cases c19 : a1 = 11
                        · replace h := ifT c19 h
                          refine b_tabIn (j := 11) (tgt := 185) (by rw [c19]; decide) dX7_told_1 (by decide) (by decide) rfl (by decide) ?_
                          refine b_aload_n dX7_told_185 rfl (k := 0) rfl ?_
                          refine b_getF fl7_37 ob26 rfl rfl dX7_told_186 ?_
                          refine b_getI fl7_134 ob0 rfl dX7_told_189 ?_
                          obtain ⟨rfl, rfl⟩ := rtE h
                          exact b_iret rfl dX7_told_192
                        · replace h := ifF c19 h
                          by_cases c20 : a1 = 12
                          · replace h := ifT c20 h
                            refine b_tabIn (j := 12) (tgt := 193) (by rw [c20]; decide) dX7_told_1 (by decide) (by decide) rfl (by decide) ?_
                            refine b_aload_n dX7_told_193 rfl (k := 0) rfl ?_
                            refine b_getF fl7_37 ob26 rfl rfl dX7_told_194 ?_
                            refine b_getI fl7_137 ob0 rfl dX7_told_197 ?_
                            obtain ⟨rfl, rfl⟩ := rtE h
                            exact b_iret rfl dX7_told_200
                          · replace h := ifF c20 h
                            by_cases c21 : a1 = 13
                            · replace h := ifT c21 h
                              refine b_tabIn (j := 13) (tgt := 201) (by rw [c21]; decide) dX7_told_1 (by decide) (by decide) rfl (by decide) ?_
                              refine b_aload_n dX7_told_201 rfl (k := 0) rfl ?_
                              refine b_getF fl7_37 ob26 rfl rfl dX7_told_202 ?_
                              refine b_getI fl7_140 ob0 rfl dX7_told_205 ?_
                              obtain ⟨rfl, rfl⟩ := rtE h
                              exact b_iret rfl dX7_told_208
                            · replace h := ifF c21 h
                              by_cases c22 : a1 = 14
                              · replace h := ifT c22 h
                                refine b_tabIn (j := 14) (tgt := 209) (by rw [c22]; decide) dX7_told_1 (by decide) (by decide) rfl (by decide) ?_
                                refine b_aload_n dX7_told_209 rfl (k := 0) rfl ?_
                                refine b_getF fl7_37 ob26 rfl rfl dX7_told_210 ?_
                                refine b_getI fl7_143 ob0 rfl dX7_told_213 ?_
                                obtain ⟨rfl, rfl⟩ := rtE h
                                exact b_iret rfl dX7_told_216
                              · replace h := ifF c22 h
                                by_cases c23 : a1 = 15
                                · replace h := ifT c23 h
                                  refine b_tabIn (j := 15) (tgt := 217) (by rw [c23]; decide) dX7_told_1 (by decide) (by decide) rfl (by decide) ?_
                                  refine b_aload_n dX7_told_217 rfl (k := 0) rfl ?_
                                  refine b_getF fl7_37 ob26 rfl rfl dX7_told_218 ?_
                                  refine b_getI fl7_146 ob0 rfl dX7_told_221 ?_
                                  obtain ⟨rfl, rfl⟩ := rtE h
                                  exact b_iret rfl dX7_told_224
                                · replace h := ifF c23 h
                                  by_cases c24 : a1 = 16
                                  · replace h := ifT c24 h
                                    refine b_tabIn (j := 16) (tgt := 225) (by rw [c24]; decide) dX7_told_1 (by decide) (by decide) rfl (by decide) ?_
                                    refine b_aload_n dX7_told_225 rfl (k := 0) rfl ?_
                                    refine b_getF fl7_62 ob26 rfl rfl dX7_told_226 ?_
                                    refine b_getI fl7_149 ob29 rfl dX7_told_229 ?_
                                    obtain ⟨rfl, rfl⟩ := rtE h
                                    exact b_iret rfl dX7_told_232
                                  · replace h := ifF c24 h
                                    by_cases c25 : a1 = 17
                                    · replace h := ifT c25 h
                                      refine b_tabIn (j := 17) (tgt := 233) (by rw [c25]; decide) dX7_told_1 (by decide) (by decide) rfl (by decide) ?_
                                      refine b_aload_n dX7_told_233 rfl (k := 0) rfl ?_
                                      refine b_getF fl7_62 ob26 rfl rfl dX7_told_234 ?_
                                      refine b_getI fl7_152 ob29 rfl dX7_told_237 ?_
                                      obtain ⟨rfl, rfl⟩ := rtE h
                                      exact b_iret rfl dX7_told_240
                                    · replace h := ifF c25 h
                                      by_cases c26 : a1 = 18
                                      · replace h := ifT c26 h
                                        refine b_tabIn (j := 18) (tgt := 241) (by rw [c26]; decide) dX7_told_1 (by decide) (by decide) rfl (by decide) ?_
                                        refine b_aload_n dX7_told_241 rfl (k := 0) rfl ?_
                                        refine b_getF fl7_47 ob26 rfl rfl dX7_told_242 ?_
                                        refine b_getI fl7_155 ob28 rfl dX7_told_245 ?_
                                        obtain ⟨rfl, rfl⟩ := rtE h
                                        exact b_iret rfl dX7_told_248
                                      · replace h := ifF c26 h
                                        have nc1 := lv_neT (a := 0) c1 (by decide)
                                        have nc3 := lv_neT (a := 1) c3 (by decide)
                                        have nc5 := lv_neT (a := 2) c5 (by decide)
                                        have nc7 := lv_neT (a := 3) c7 (by decide)
                                        have nc9 := lv_neT (a := 4) c9 (by decide)
                                        have nc11 := lv_neT (a := 5) c11 (by decide)
                                        have nc13 := lv_neT (a := 6) c13 (by decide)
                                        have nc14 := lv_neT (a := 7) c14 (by decide)
                                        have nc15 := lv_neT (a := 8) c15 (by decide)
                                        have nc16 := lv_neT (a := 9) c16 (by decide)
                                        have nc18 := lv_neT (a := 10) c18 (by decide)
                                        have nc19 := lv_neT (a := 11) c19 (by decide)
                                        have nc20 := lv_neT (a := 12) c20 (by decide)
                                        have nc21 := lv_neT (a := 13) c21 (by decide)
                                        have nc22 := lv_neT (a := 14) c22 (by decide)
                                        have nc23 := lv_neT (a := 15) c23 (by decide)
                                        have nc24 := lv_neT (a := 16) c24 (by decide)
                                        have nc25 := lv_neT (a := 17) c25 (by decide)
                                        have nc26 := lv_neT (a := 18) c26 (by decide)
                                        refine b_tabOut (tgt := 249) dX7_told_1 (by omega) (by decide) ?_
                                        refine b_ldc dX7_told_249 kk7_80 ?_
                                        obtain ⟨rfl, rfl⟩ := rtE h
                                        exact b_iret rfl dX7_told_251
theorem s7_told (a1 : Int32)  (w w' : Mem) (r : Int32) (h : f7_told  a1  w = some (r, w')) : Sp yX7_told cX7_told 2 (some .int) 1 [vR 26 0, vI a1] w (some (vI r)) w' := sp_of (by decide) (fun _ => rfl) (fun _ => Nat.le_of_ble_eq_true rfl) (t7_told  a1   _ _ _ h)
-- X7_village OneADay
def f7_village  (a1 : Int32) (a2 : Int32)   (w : Mem) : Option (Int32 × Mem) :=
  (rk (w.2.2 26 4)).bind fun g1 => bndO (f6_has g1 a1 w) fun r3 w2 => if r3 = 0 then (some ((-1000000001), w2)) else (if a2 = 0 then ((rk (w2.2.2 26 4)).bind fun g6 => if a1 < 0 ∨ 8 ≤ Int32.toNatClampNeg a1 then none else some (w2.1 g6 7 (Int32.toNatClampNeg a1), w2)) else (if a2 = 1 then ((rk (w2.2.2 26 4)).bind fun g9 => if a1 < 0 ∨ 8 ≤ Int32.toNatClampNeg a1 then none else some (w2.1 g9 8 (Int32.toNatClampNeg a1), w2)) else (if a2 = 2 then (if a1 < 0 ∨ 8 ≤ Int32.toNatClampNeg a1 then none else some (w2.1 0 0 (Int32.toNatClampNeg a1), w2)) else (if a2 = 3 then ((rk (w2.2.2 26 4)).bind fun g14 => if a1 < 0 ∨ 8 ≤ Int32.toNatClampNeg a1 then none else some (w2.1 g14 10 (Int32.toNatClampNeg a1), w2)) else (if a2 = 4 then (bndO (f1_staysAway 0 a1 w2) fun r18 w17 => if r18 = 0 then (some (0, w17)) else (some (1, w17))) else (if a2 = 5 then (if a1 < 0 ∨ 8 ≤ Int32.toNatClampNeg a1 then none else some (w2.1 0 1 (Int32.toNatClampNeg a1), w2)) else (some ((-1000000002), w2))))))))
set_option maxRecDepth 100000 in
set_option maxHeartbeats 4000000 in
theorem t7_village   (a1 : Int32) (a2 : Int32)     (w w' : Mem) (r : Int32) (h : f7_village  a1 a2   w = some (r, w')) : Bk yX7_village cX7_village 3 (some .int) 2 0 [(0, vR 26 0), (1, vI a1), (2, vI a2)] [] w (some (vI r)) w' := by
  unfold f7_village at h
  refine b_aload_n dX7_village_0 rfl (k := 0) rfl ?_
  obtain ⟨g1, qg1, og1, h⟩ := bdR h
  refine b_getM qg1 fl7_27 ob26 rfl dX7_village_1 ?_
  refine b_iload_n dX7_village_4 rfl (k := 1) rfl ?_
  obtain ⟨r3, w2, hw2, h⟩ := bdO h
  refine b_callVi mv6_has ml7_158 og1 (s6_has g1 a1 og1 _ _ _ hw2) rfl (by decide) (by decide) (Nat.le_of_ble_eq_true rfl) rfl dX7_village_5 ?_
  refine b_ifne (tgt := 14) dX7_village_8 (by decide) (fun c4 => ?_) (fun c4 => ?_)
  · replace h := ifF c4 h
    refine b_iload_n dX7_village_14 rfl (k := 2) rfl ?_
    by_cases c5 : a2 = 0
    · replace h := ifT c5 h
      refine b_tabIn (j := 0) (tgt := 52) (by rw [c5]; decide) dX7_village_15 (by decide) (by decide) rfl (by decide) ?_
      refine b_aload_n dX7_village_52 rfl (k := 0) rfl ?_
      obtain ⟨g6, qg6, og6, h⟩ := bdR h
      refine b_getM qg6 fl7_27 ob26 rfl dX7_village_53 ?_
      refine b_getF fl7_163 og6 rfl (grC6 og6 7) dX7_village_56 ?_
      refine b_iload_n dX7_village_59 rfl (k := 1) rfl ?_
      obtain ⟨g7, h⟩ := gdE h
      refine b_iald (arC6_7 og6) g7 rfl dX7_village_60 ?_
      obtain ⟨rfl, rfl⟩ := rtE h
      exact b_iret rfl dX7_village_61
    · replace h := ifF c5 h
      by_cases c8 : a2 = 1
      · replace h := ifT c8 h
        refine b_tabIn (j := 1) (tgt := 62) (by rw [c8]; decide) dX7_village_15 (by decide) (by decide) rfl (by decide) ?_
        refine b_aload_n dX7_village_62 rfl (k := 0) rfl ?_
        obtain ⟨g9, qg9, og9, h⟩ := bdR h
        refine b_getM qg9 fl7_27 ob26 rfl dX7_village_63 ?_
        refine b_getF fl7_166 og9 rfl (grC6 og9 8) dX7_village_66 ?_
        refine b_iload_n dX7_village_69 rfl (k := 1) rfl ?_
        obtain ⟨g10, h⟩ := gdE h
        refine b_iald (arC6_8 og9) g10 rfl dX7_village_70 ?_
        obtain ⟨rfl, rfl⟩ := rtE h
        exact b_iret rfl dX7_village_71
      · replace h := ifF c8 h
        by_cases c11 : a2 = 2
        · replace h := ifT c11 h
          refine b_tabIn (j := 2) (tgt := 72) (by rw [c11]; decide) dX7_village_15 (by decide) (by decide) rfl (by decide) ?_
          refine b_aload_n dX7_village_72 rfl (k := 0) rfl ?_
          refine b_getF fl7_37 ob26 rfl rfl dX7_village_73 ?_
          refine b_getF fl7_169 ob0 rfl rfl dX7_village_76 ?_
          refine b_iload_n dX7_village_79 rfl (k := 1) rfl ?_
          obtain ⟨g12, h⟩ := gdE h
          refine b_iald ar0_0 g12 rfl dX7_village_80 ?_
          obtain ⟨rfl, rfl⟩ := rtE h
          exact b_iret rfl dX7_village_81
        · replace h := ifF c11 h
          by_cases c13 : a2 = 3
          · replace h := ifT c13 h
            refine b_tabIn (j := 3) (tgt := 82) (by rw [c13]; decide) dX7_village_15 (by decide) (by decide) rfl (by decide) ?_
            refine b_aload_n dX7_village_82 rfl (k := 0) rfl ?_
            obtain ⟨g14, qg14, og14, h⟩ := bdR h
            refine b_getM qg14 fl7_27 ob26 rfl dX7_village_83 ?_
            refine b_getF fl7_172 og14 rfl (grC6 og14 10) dX7_village_86 ?_
            refine b_iload_n dX7_village_89 rfl (k := 1) rfl ?_
            obtain ⟨g15, h⟩ := gdE h
            refine b_iald (arC6_10 og14) g15 rfl dX7_village_90 ?_
            obtain ⟨rfl, rfl⟩ := rtE h
            exact b_iret rfl dX7_village_91
          · replace h := ifF c13 h
            by_cases c16 : a2 = 4
            · replace h := ifT c16 h
              refine b_tabIn (j := 4) (tgt := 92) (by rw [c16]; decide) dX7_village_15 (by decide) (by decide) rfl (by decide) ?_
              refine b_aload_n dX7_village_92 rfl (k := 0) rfl ?_
              refine b_getF fl7_37 ob26 rfl rfl dX7_village_93 ?_
              refine b_iload_n dX7_village_96 rfl (k := 1) rfl ?_
              obtain ⟨r18, w17, hw17, h⟩ := bdO h
              refine b_callVi mv1_staysAway ml7_175 ob0 (s1_staysAway 0 a1 ob0 _ _ _ hw17) rfl (by decide) (by decide) (Nat.le_of_ble_eq_true rfl) rfl dX7_village_97 ?_
              refine b_ifeq (tgt := 107) dX7_village_100 (by decide) (fun c19 => ?_) (fun c19 => ?_)
              · replace h := ifT c19 h
                refine b_iconst (v := 0) dX7_village_107 (by decide) ?_
                obtain ⟨rfl, rfl⟩ := rtE h
                exact b_iret rfl dX7_village_108
              · replace h := ifF c19 h
                refine b_iconst (v := 1) dX7_village_103 (by decide) ?_
                refine b_goto (tgt := 108) dX7_village_104 (by decide) ?_
                obtain ⟨rfl, rfl⟩ := rtE h
                exact b_iret rfl dX7_village_108
            · replace h := ifF c16 h
              by_cases c20 : a2 = 5
              · replace h := ifT c20 h
                refine b_tabIn (j := 5) (tgt := 109) (by rw [c20]; decide) dX7_village_15 (by decide) (by decide) rfl (by decide) ?_
                refine b_aload_n dX7_village_109 rfl (k := 0) rfl ?_
                refine b_getF fl7_37 ob26 rfl rfl dX7_village_110 ?_
                refine b_getF fl7_178 ob0 rfl rfl dX7_village_113 ?_
                refine b_iload_n dX7_village_116 rfl (k := 1) rfl ?_
                obtain ⟨g21, h⟩ := gdE h
                refine b_iald ar0_1 g21 rfl dX7_village_117 ?_
                obtain ⟨rfl, rfl⟩ := rtE h
                exact b_iret rfl dX7_village_118
              · replace h := ifF c20 h
                have nc5 := lv_neT (a := 0) c5 (by decide)
                have nc8 := lv_neT (a := 1) c8 (by decide)
                have nc11 := lv_neT (a := 2) c11 (by decide)
                have nc13 := lv_neT (a := 3) c13 (by decide)
                have nc16 := lv_neT (a := 4) c16 (by decide)
                have nc20 := lv_neT (a := 5) c20 (by decide)
                refine b_tabOut (tgt := 119) dX7_village_15 (by omega) (by decide) ?_
                refine b_ldc dX7_village_119 kk7_80 ?_
                obtain ⟨rfl, rfl⟩ := rtE h
                exact b_iret rfl dX7_village_121
  · replace h := ifT c4 h
    refine b_ldc dX7_village_11 kk7_162 ?_
    obtain ⟨rfl, rfl⟩ := rtE h
    exact b_iret rfl dX7_village_13
theorem s7_village (a1 : Int32) (a2 : Int32)  (w w' : Mem) (r : Int32) (h : f7_village  a1 a2  w = some (r, w')) : Sp yX7_village cX7_village 3 (some .int) 2 [vR 26 0, vI a1, vI a2] w (some (vI r)) w' := sp_of (by decide) (fun _ => rfl) (fun _ => Nat.le_of_ble_eq_true rfl) (t7_village  a1 a2   _ _ _ h)
-- X7_comes OneADay
def f7_comes  (a1 : Int32)   (w : Mem) : Option (Int32 × Mem) :=
  if a1 < 0 then (some ((-1000000002), w)) else (if a1 ≤ 9999 then ((rk (w.2.2 26 4)).bind fun g3 => bndO (f1_comers 0 g3 a1 w) fun r5 w4 => some (r5, w4)) else (some ((-1000000002), w)))
set_option maxRecDepth 100000 in
set_option maxHeartbeats 4000000 in
theorem t7_comes   (a1 : Int32)     (w w' : Mem) (r : Int32) (h : f7_comes  a1   w = some (r, w')) : Bk yX7_comes cX7_comes 2 (some .int) 6 0 [(0, vR 26 0), (1, vI a1)] [] w (some (vI r)) w' := by
  unfold f7_comes at h
  refine b_iload_n dX7_comes_0 rfl (k := 1) rfl ?_
  refine b_iflt (tgt := 11) dX7_comes_1 (by decide) (fun c1 => ?_) (fun c1 => ?_)
  · replace h := ifT c1 h
    refine b_ldc dX7_comes_11 kk7_80 ?_
    obtain ⟨rfl, rfl⟩ := rtE h
    exact b_iret rfl dX7_comes_13
  · replace h := ifF c1 h
    refine b_iload_n dX7_comes_4 rfl (k := 1) rfl ?_
    refine b_sipush (v := 9999) dX7_comes_5 (by decide) ?_
    refine b_icle (tgt := 14) dX7_comes_8 (by decide) (fun c2 => ?_) (fun c2 => ?_)
    · replace h := ifT c2 h
      refine b_aload_n dX7_comes_14 rfl (k := 0) rfl ?_
      refine b_getF fl7_37 ob26 rfl rfl dX7_comes_15 ?_
      refine b_aload_n dX7_comes_18 rfl (k := 0) rfl ?_
      obtain ⟨g3, qg3, og3, h⟩ := bdR h
      refine b_getM qg3 fl7_27 ob26 rfl dX7_comes_19 ?_
      refine b_iload_n dX7_comes_22 rfl (k := 1) rfl ?_
      obtain ⟨r5, w4, hw4, h⟩ := bdO h
      refine b_callVi mv1_comers ml7_181 ob0 (s1_comers 0 g3 a1 ob0 og3 _ _ _ hw4) rfl (by decide) (by decide) (Nat.le_of_ble_eq_true rfl) rfl dX7_comes_23 ?_
      obtain ⟨rfl, rfl⟩ := rtE h
      exact b_iret rfl dX7_comes_26
    · replace h := ifF c2 h
      refine b_ldc dX7_comes_11 kk7_80 ?_
      obtain ⟨rfl, rfl⟩ := rtE h
      exact b_iret rfl dX7_comes_13
theorem s7_comes (a1 : Int32)  (w w' : Mem) (r : Int32) (h : f7_comes  a1  w = some (r, w')) : Sp yX7_comes cX7_comes 2 (some .int) 6 [vR 26 0, vI a1] w (some (vI r)) w' := sp_of (by decide) (fun _ => rfl) (fun _ => Nat.le_of_ble_eq_true rfl) (t7_comes  a1   _ _ _ h)
-- X7_blessed OneADay
def f7_blessed  (a1 : Int32)   (w : Mem) : Option (Int32 × Mem) :=
  bndO (f1_blessedOn 0 a1 w) fun r2 w1 => some (r2, w1)
set_option maxRecDepth 100000 in
set_option maxHeartbeats 4000000 in
theorem t7_blessed   (a1 : Int32)     (w w' : Mem) (r : Int32) (h : f7_blessed  a1   w = some (r, w')) : Bk yX7_blessed cX7_blessed 2 (some .int) 3 0 [(0, vR 26 0), (1, vI a1)] [] w (some (vI r)) w' := by
  unfold f7_blessed at h
  refine b_aload_n dX7_blessed_0 rfl (k := 0) rfl ?_
  refine b_getF fl7_37 ob26 rfl rfl dX7_blessed_1 ?_
  refine b_iload_n dX7_blessed_4 rfl (k := 1) rfl ?_
  obtain ⟨r2, w1, hw1, h⟩ := bdO h
  refine b_callVi mv1_blessedOn ml7_185 ob0 (s1_blessedOn 0 a1 ob0 _ _ _ hw1) rfl (by decide) (by decide) (Nat.le_of_ble_eq_true rfl) rfl dX7_blessed_5 ?_
  obtain ⟨rfl, rfl⟩ := rtE h
  exact b_iret rfl dX7_blessed_8
theorem s7_blessed (a1 : Int32)  (w w' : Mem) (r : Int32) (h : f7_blessed  a1  w = some (r, w')) : Sp yX7_blessed cX7_blessed 2 (some .int) 3 [vR 26 0, vI a1] w (some (vI r)) w' := sp_of (by decide) (fun _ => rfl) (fun _ => Nat.le_of_ble_eq_true rfl) (t7_blessed  a1   _ _ _ h)
-- X7_refusalOfDays OneADay
def f7_refusalOfDays  (a1 : Int32)   (w : Mem) : Option (Int32 × Mem) :=
  if a1 < 1 then (some ((-1000000002), w)) else (if a1 ≤ 99 then ((rk (w.2.2 26 4)).bind fun g3 => if (w.1 g3 0 0) = 0 then (some ((-1000000003), w)) else (if (w.1 0 13 0) = 0 then (if (w.1 0 6 0) ≤ 9000 then (some (0, w)) else (some ((-1000000004), w))) else (some ((-1000000003), w)))) else (some ((-1000000002), w)))
set_option maxRecDepth 100000 in
set_option maxHeartbeats 4000000 in
theorem t7_refusalOfDays   (a1 : Int32)     (w w' : Mem) (r : Int32) (h : f7_refusalOfDays  a1   w = some (r, w')) : Bk yX7_refusalOfDays cX7_refusalOfDays 2 (some .int) 1 0 [(0, vR 26 0), (1, vI a1)] [] w (some (vI r)) w' := by
  unfold f7_refusalOfDays at h
  refine b_iload_n dX7_refusalOfDays_0 rfl (k := 1) rfl ?_
  refine b_iconst (v := 1) dX7_refusalOfDays_1 (by decide) ?_
  refine b_iclt (tgt := 11) dX7_refusalOfDays_2 (by decide) (fun c1 => ?_) (fun c1 => ?_)
  · replace h := ifT c1 h
    refine b_ldc dX7_refusalOfDays_11 kk7_80 ?_
    obtain ⟨rfl, rfl⟩ := rtE h
    exact b_iret rfl dX7_refusalOfDays_13
  · replace h := ifF c1 h
    refine b_iload_n dX7_refusalOfDays_5 rfl (k := 1) rfl ?_
    refine b_bipush (v := 99) dX7_refusalOfDays_6 (by decide) ?_
    refine b_icle (tgt := 14) dX7_refusalOfDays_8 (by decide) (fun c2 => ?_) (fun c2 => ?_)
    · replace h := ifT c2 h
      refine b_aload_n dX7_refusalOfDays_14 rfl (k := 0) rfl ?_
      obtain ⟨g3, qg3, og3, h⟩ := bdR h
      refine b_getM qg3 fl7_27 ob26 rfl dX7_refusalOfDays_15 ?_
      refine b_getI fl7_210 og3 rfl dX7_refusalOfDays_18 ?_
      refine b_ifeq (tgt := 34) dX7_refusalOfDays_21 (by decide) (fun c4 => ?_) (fun c4 => ?_)
      · replace h := ifT c4 h
        refine b_ldc dX7_refusalOfDays_34 kk7_206 ?_
        obtain ⟨rfl, rfl⟩ := rtE h
        exact b_iret rfl dX7_refusalOfDays_36
      · replace h := ifF c4 h
        refine b_aload_n dX7_refusalOfDays_24 rfl (k := 0) rfl ?_
        refine b_getF fl7_37 ob26 rfl rfl dX7_refusalOfDays_25 ?_
        refine b_getI fl7_127 ob0 rfl dX7_refusalOfDays_28 ?_
        refine b_ifeq (tgt := 37) dX7_refusalOfDays_31 (by decide) (fun c5 => ?_) (fun c5 => ?_)
        · replace h := ifT c5 h
          refine b_aload_n dX7_refusalOfDays_37 rfl (k := 0) rfl ?_
          refine b_getF fl7_37 ob26 rfl rfl dX7_refusalOfDays_38 ?_
          refine b_getI fl7_121 ob0 rfl dX7_refusalOfDays_41 ?_
          refine b_sipush (v := 9000) dX7_refusalOfDays_44 (by decide) ?_
          refine b_icle (tgt := 55) dX7_refusalOfDays_47 (by decide) (fun c6 => ?_) (fun c6 => ?_)
          · replace h := ifT c6 h
            refine b_iconst (v := 0) dX7_refusalOfDays_55 (by decide) ?_
            obtain ⟨rfl, rfl⟩ := rtE h
            exact b_iret rfl dX7_refusalOfDays_56
          · replace h := ifF c6 h
            refine b_ldc dX7_refusalOfDays_50 kk7_84 ?_
            refine b_goto (tgt := 56) dX7_refusalOfDays_52 (by decide) ?_
            obtain ⟨rfl, rfl⟩ := rtE h
            exact b_iret rfl dX7_refusalOfDays_56
        · replace h := ifF c5 h
          refine b_ldc dX7_refusalOfDays_34 kk7_206 ?_
          obtain ⟨rfl, rfl⟩ := rtE h
          exact b_iret rfl dX7_refusalOfDays_36
    · replace h := ifF c2 h
      refine b_ldc dX7_refusalOfDays_11 kk7_80 ?_
      obtain ⟨rfl, rfl⟩ := rtE h
      exact b_iret rfl dX7_refusalOfDays_13
theorem s7_refusalOfDays (a1 : Int32)  (w w' : Mem) (r : Int32) (h : f7_refusalOfDays  a1  w = some (r, w')) : Sp yX7_refusalOfDays cX7_refusalOfDays 2 (some .int) 1 [vR 26 0, vI a1] w (some (vI r)) w' := sp_of (by decide) (fun _ => rfl) (fun _ => Nat.le_of_ble_eq_true rfl) (t7_refusalOfDays  a1   _ _ _ h)
-- X7_day OneADay
def f7_day_25  (a1 : Int32)  : Nat → Int32 → Mem → Option (Int32 × Mem)
  | 0, _, _ => none
  | n + 1, x3, w =>
  if a1 ≤ x3 then (some (w.1 0 6 0, w)) else (if (w.1 0 13 0) = 0 then ((rk (w.2.2 26 4)).bind fun g3 => (rk (w.2.2 26 4)).bind fun g4 => bndV (f1_live 0 g3 (w.1 g4 3 0) w) fun w5 => bnd (x3 + 1) fun y6 => f7_day_25  a1  n y6 w5) else (some (w.1 0 6 0, w)))
set_option maxRecDepth 100000 in
set_option maxHeartbeats 4000000 in
theorem t7_day_25   (a1 : Int32)    : ∀ (n : Nat) (x3 : Int32) (w w' : Mem) (r : Int32), f7_day_25  a1  n x3 w = some (r, w') → Bk yX7_day cX7_day 4 (some .int) 7 25 [(0, vR 26 0), (1, vI a1), (3, vI x3)] [] w (some (vI r)) w' := by
  intro n
  induction n with
  | zero =>
    intro x3 w w' r h
    cases (show (none : Option (Int32 × Mem)) = some _ from h)
  | succ n ih =>
    intro x3 w w' r h
    rw [f7_day_25] at h
    refine b_iload_n dX7_day_25 rfl (k := 2) rfl ?_
    refine b_iload_n dX7_day_26 rfl (k := 1) rfl ?_
    refine b_icge (tgt := 64) dX7_day_27 (by decide) (fun c1 => ?_) (fun c1 => ?_)
    · replace h := ifT c1 h
      refine b_aload_n dX7_day_64 rfl (k := 0) rfl ?_
      refine b_getF fl7_37 ob26 rfl rfl dX7_day_65 ?_
      refine b_getI fl7_121 ob0 rfl dX7_day_68 ?_
      obtain ⟨rfl, rfl⟩ := rtE h
      exact b_iret rfl dX7_day_71
    · replace h := ifF c1 h
      refine b_aload_n dX7_day_30 rfl (k := 0) rfl ?_
      refine b_getF fl7_37 ob26 rfl rfl dX7_day_31 ?_
      refine b_getI fl7_127 ob0 rfl dX7_day_34 ?_
      refine b_ifne (tgt := 64) dX7_day_37 (by decide) (fun c2 => ?_) (fun c2 => ?_)
      · replace h := ifF c2 h
        refine b_aload_n dX7_day_64 rfl (k := 0) rfl ?_
        refine b_getF fl7_37 ob26 rfl rfl dX7_day_65 ?_
        refine b_getI fl7_121 ob0 rfl dX7_day_68 ?_
        obtain ⟨rfl, rfl⟩ := rtE h
        exact b_iret rfl dX7_day_71
      · replace h := ifT c2 h
        refine b_aload_n dX7_day_40 rfl (k := 0) rfl ?_
        refine b_getF fl7_37 ob26 rfl rfl dX7_day_41 ?_
        refine b_aload_n dX7_day_44 rfl (k := 0) rfl ?_
        obtain ⟨g3, qg3, og3, h⟩ := bdR h
        refine b_getM qg3 fl7_27 ob26 rfl dX7_day_45 ?_
        refine b_aload_n dX7_day_48 rfl (k := 0) rfl ?_
        obtain ⟨g4, qg4, og4, h⟩ := bdR h
        refine b_getM qg4 fl7_27 ob26 rfl dX7_day_49 ?_
        refine b_getI fl7_112 og4 rfl dX7_day_52 ?_
        obtain ⟨w5, hw5, h⟩ := bdV h
        refine b_callVv mv1_live ml7_196 ob0 (s1_live 0 g3 (w.1 g4 3 0) ob0 og3 _ _  hw5) rfl (by decide) (by decide) (Nat.le_of_ble_eq_true rfl) rfl dX7_day_55 ?_
        obtain ⟨y6, ey6, h⟩ := nmE h
        refine b_iinc (v := y6) (lv' := [(3, vI y6), (0, vR 26 0), (1, vI a1)]) dX7_day_58 (k := 2) rfl ey6.symm (by decide) rfl ?_
        refine b_goto (tgt := 25) dX7_day_61 (by decide) ?_
        refine b_sub [1, 2, 0] rfl ?_
        exact ih y6 _ _ _ h
def f7_day  (a1 : Int32)   (w : Mem) : Option (Int32 × Mem) :=
  bndO (f7_refusalOfDays a1 w) fun r2 w1 => if r2 = 0 then (bndV (f3_push 0 w1) fun w4 => f7_day_25  a1  100000 0 w4) else (some (r2, w1))
set_option maxRecDepth 100000 in
set_option maxHeartbeats 4000000 in
theorem t7_day   (a1 : Int32)     (w w' : Mem) (r : Int32) (h : f7_day  a1   w = some (r, w')) : Bk yX7_day cX7_day 4 (some .int) 7 0 [(0, vR 26 0), (1, vI a1)] [] w (some (vI r)) w' := by
  unfold f7_day at h
  refine b_aload_n dX7_day_0 rfl (k := 0) rfl ?_
  refine b_iload_n dX7_day_1 rfl (k := 1) rfl ?_
  obtain ⟨r2, w1, hw1, h⟩ := bdO h
  refine b_callVi mv7_refusalOfDays ml7_189 ob26 (s7_refusalOfDays a1  _ _ _ hw1) rfl (by decide) (by decide) (Nat.le_of_ble_eq_true rfl) rfl dX7_day_2 ?_
  refine b_istore_n (lv' := [(2, vI r2), (0, vR 26 0), (1, vI a1)]) dX7_day_5 rfl (by decide) rfl ?_
  refine b_iload_n dX7_day_6 rfl (k := 0) rfl ?_
  refine b_ifeq (tgt := 12) dX7_day_7 (by decide) (fun c3 => ?_) (fun c3 => ?_)
  · replace h := ifT c3 h
    refine b_aload_n dX7_day_12 rfl (k := 1) rfl ?_
    refine b_getF fl7_47 ob26 rfl rfl dX7_day_13 ?_
    refine b_aload_n dX7_day_16 rfl (k := 1) rfl ?_
    refine b_getF fl7_37 ob26 rfl rfl dX7_day_17 ?_
    obtain ⟨w4, hw4, h⟩ := bdV h
    refine b_callVv mv3_push ml7_192 ob28 (s3_push 0 ob0 _ _  hw4) rfl (by decide) (by decide) (Nat.le_of_ble_eq_true rfl) rfl dX7_day_20 ?_
    refine b_iconst (v := 0) dX7_day_23 (by decide) ?_
    refine b_istore_n (lv' := [(3, vI 0), (2, vI r2), (0, vR 26 0), (1, vI a1)]) dX7_day_24 rfl (by decide) rfl ?_
    refine b_sub [2, 3, 0] rfl ?_
    exact t7_day_25  a1    100000 0 _ _ _ h
  · replace h := ifF c3 h
    refine b_iload_n dX7_day_10 rfl (k := 0) rfl ?_
    obtain ⟨rfl, rfl⟩ := rtE h
    exact b_iret rfl dX7_day_11
theorem s7_day (a1 : Int32)  (w w' : Mem) (r : Int32) (h : f7_day  a1  w = some (r, w')) : Sp yX7_day cX7_day 4 (some .int) 7 [vR 26 0, vI a1] w (some (vI r)) w' := sp_of (by decide) (fun _ => rfl) (fun _ => Nat.le_of_ble_eq_true rfl) (t7_day  a1   _ _ _ h)
-- X7_calendar OneADay
def f7_calendar_70  (a1 : Int32) (a2 : Int32)  (s0 : Int32) (w : Mem) : Option (Int32 × Mem) :=
  if a2 = (-1) then (bnd (sI w 0 4 0 ((w.1 0 4 0) ||| (jshl 1 a1))) fun w5 => some (s0, w5)) else (bnd (sI w 0 4 0 ((w.1 0 4 0) &&& ((jshl 1 a1) ^^^ (-1)))) fun w2 => if a1 < 0 ∨ 8 ≤ Int32.toNatClampNeg a1 then none else bnd (sI w2 0 0 (Int32.toNatClampNeg a1) a2) fun w4 => some (s0, w4))
set_option maxRecDepth 100000 in
set_option maxHeartbeats 4000000 in
theorem t7_calendar_70   (a1 : Int32) (a2 : Int32)    (s0 : Int32) (w w' : Mem) (r : Int32) (h : f7_calendar_70  a1 a2  s0 w = some (r, w')) : Bk yX7_calendar cX7_calendar 4 (some .int) 4 70 [(0, vR 26 0), (1, vI a1), (2, vI a2)] [vI s0] w (some (vI r)) w' := by
  unfold f7_calendar_70 at h
  refine b_istore_n (lv' := [(3, vI s0), (0, vR 26 0), (1, vI a1), (2, vI a2)]) dX7_calendar_70 rfl (by decide) rfl ?_
  refine b_iload_n dX7_calendar_71 rfl (k := 3) rfl ?_
  refine b_iconst (v := (-1)) dX7_calendar_72 (by decide) ?_
  refine b_icne (tgt := 94) dX7_calendar_73 (by decide) (fun c1 => ?_) (fun c1 => ?_)
  · replace h := ifF c1 h
    refine b_aload_n dX7_calendar_94 rfl (k := 1) rfl ?_
    refine b_getF fl7_37 ob26 rfl rfl dX7_calendar_95 ?_
    refine b_dup dX7_calendar_98 rfl ?_
    refine b_getI fl7_200 ob0 rfl dX7_calendar_99 ?_
    refine b_iconst (v := 1) dX7_calendar_102 (by decide) ?_
    refine b_iload_n dX7_calendar_103 rfl (k := 2) rfl ?_
    refine b_ishl dX7_calendar_104 ?_
    refine b_iconst (v := (-1)) dX7_calendar_105 (by decide) ?_
    refine b_ixor dX7_calendar_106 ?_
    refine b_iand dX7_calendar_107 ?_
    obtain ⟨w2, ew2, h⟩ := nmE h
    refine b_putI fw7_200 ob0 rfl dX7_calendar_108 ?_
    refine b_nmW ew2 ?_
    refine b_aload_n dX7_calendar_111 rfl (k := 1) rfl ?_
    refine b_getF fl7_37 ob26 rfl rfl dX7_calendar_112 ?_
    refine b_getF fl7_169 ob0 rfl rfl dX7_calendar_115 ?_
    refine b_iload_n dX7_calendar_118 rfl (k := 2) rfl ?_
    refine b_iload_n dX7_calendar_119 rfl (k := 3) rfl ?_
    obtain ⟨g3, h⟩ := gdE h
    obtain ⟨w4, ew4, h⟩ := nmE h
    refine b_iast ar0_0 g3 rfl dX7_calendar_120 ?_
    refine b_nmW ew4 ?_
    refine b_iload_n dX7_calendar_121 rfl (k := 0) rfl ?_
    obtain ⟨rfl, rfl⟩ := rtE h
    exact b_iret rfl dX7_calendar_122
  · replace h := ifT c1 h
    refine b_aload_n dX7_calendar_76 rfl (k := 1) rfl ?_
    refine b_getF fl7_37 ob26 rfl rfl dX7_calendar_77 ?_
    refine b_dup dX7_calendar_80 rfl ?_
    refine b_getI fl7_200 ob0 rfl dX7_calendar_81 ?_
    refine b_iconst (v := 1) dX7_calendar_84 (by decide) ?_
    refine b_iload_n dX7_calendar_85 rfl (k := 2) rfl ?_
    refine b_ishl dX7_calendar_86 ?_
    refine b_ior dX7_calendar_87 ?_
    obtain ⟨w5, ew5, h⟩ := nmE h
    refine b_putI fw7_200 ob0 rfl dX7_calendar_88 ?_
    refine b_nmW ew5 ?_
    refine b_goto (tgt := 121) dX7_calendar_91 (by decide) ?_
    refine b_iload_n dX7_calendar_121 rfl (k := 0) rfl ?_
    obtain ⟨rfl, rfl⟩ := rtE h
    exact b_iret rfl dX7_calendar_122
def f7_calendar  (a1 : Int32) (a2 : Int32)   (w : Mem) : Option (Int32 × Mem) :=
  (rk (w.2.2 26 4)).bind fun g1 => bndO (f6_has g1 a1 w) fun r3 w2 => if r3 = 0 then (some ((-1000000001), w2)) else (if a2 < (-1) then (some ((-1000000002), w2)) else ((rk (w2.2.2 26 4)).bind fun g6 => if a1 < 0 ∨ 8 ≤ Int32.toNatClampNeg a1 then none else if a2 < (w2.1 g6 8 (Int32.toNatClampNeg a1)) then (bndV (f3_push 0 w2) fun w9 => bndO (f1_staysAway 0 a1 w9) fun r11 w10 => if r11 = 0 then (if a1 < 0 ∨ 8 ≤ Int32.toNatClampNeg a1 then none else f7_calendar_70  a1 a2  (w10.1 0 0 (Int32.toNatClampNeg a1)) w10) else (f7_calendar_70  a1 a2  (-1) w10)) else (some ((-1000000002), w2))))
set_option maxRecDepth 100000 in
set_option maxHeartbeats 4000000 in
theorem t7_calendar   (a1 : Int32) (a2 : Int32)     (w w' : Mem) (r : Int32) (h : f7_calendar  a1 a2   w = some (r, w')) : Bk yX7_calendar cX7_calendar 4 (some .int) 4 0 [(0, vR 26 0), (1, vI a1), (2, vI a2)] [] w (some (vI r)) w' := by
  unfold f7_calendar at h
  refine b_aload_n dX7_calendar_0 rfl (k := 0) rfl ?_
  obtain ⟨g1, qg1, og1, h⟩ := bdR h
  refine b_getM qg1 fl7_27 ob26 rfl dX7_calendar_1 ?_
  refine b_iload_n dX7_calendar_4 rfl (k := 1) rfl ?_
  obtain ⟨r3, w2, hw2, h⟩ := bdO h
  refine b_callVi mv6_has ml7_158 og1 (s6_has g1 a1 og1 _ _ _ hw2) rfl (by decide) (by decide) (Nat.le_of_ble_eq_true rfl) rfl dX7_calendar_5 ?_
  refine b_ifne (tgt := 14) dX7_calendar_8 (by decide) (fun c4 => ?_) (fun c4 => ?_)
  · replace h := ifF c4 h
    refine b_iload_n dX7_calendar_14 rfl (k := 2) rfl ?_
    refine b_iconst (v := (-1)) dX7_calendar_15 (by decide) ?_
    refine b_iclt (tgt := 32) dX7_calendar_16 (by decide) (fun c5 => ?_) (fun c5 => ?_)
    · replace h := ifT c5 h
      refine b_ldc dX7_calendar_32 kk7_80 ?_
      obtain ⟨rfl, rfl⟩ := rtE h
      exact b_iret rfl dX7_calendar_34
    · replace h := ifF c5 h
      refine b_iload_n dX7_calendar_19 rfl (k := 2) rfl ?_
      refine b_aload_n dX7_calendar_20 rfl (k := 0) rfl ?_
      obtain ⟨g6, qg6, og6, h⟩ := bdR h
      refine b_getM qg6 fl7_27 ob26 rfl dX7_calendar_21 ?_
      refine b_getF fl7_166 og6 rfl (grC6 og6 8) dX7_calendar_24 ?_
      refine b_iload_n dX7_calendar_27 rfl (k := 1) rfl ?_
      obtain ⟨g7, h⟩ := gdE h
      refine b_iald (arC6_8 og6) g7 rfl dX7_calendar_28 ?_
      refine b_iclt (tgt := 35) dX7_calendar_29 (by decide) (fun c8 => ?_) (fun c8 => ?_)
      · replace h := ifT c8 h
        refine b_aload_n dX7_calendar_35 rfl (k := 0) rfl ?_
        refine b_getF fl7_47 ob26 rfl rfl dX7_calendar_36 ?_
        refine b_aload_n dX7_calendar_39 rfl (k := 0) rfl ?_
        refine b_getF fl7_37 ob26 rfl rfl dX7_calendar_40 ?_
        obtain ⟨w9, hw9, h⟩ := bdV h
        refine b_callVv mv3_push ml7_192 ob28 (s3_push 0 ob0 _ _  hw9) rfl (by decide) (by decide) (Nat.le_of_ble_eq_true rfl) rfl dX7_calendar_43 ?_
        refine b_aload_n dX7_calendar_46 rfl (k := 0) rfl ?_
        refine b_getF fl7_37 ob26 rfl rfl dX7_calendar_47 ?_
        refine b_iload_n dX7_calendar_50 rfl (k := 1) rfl ?_
        obtain ⟨r11, w10, hw10, h⟩ := bdO h
        refine b_callVi mv1_staysAway ml7_175 ob0 (s1_staysAway 0 a1 ob0 _ _ _ hw10) rfl (by decide) (by decide) (Nat.le_of_ble_eq_true rfl) rfl dX7_calendar_51 ?_
        refine b_ifeq (tgt := 61) dX7_calendar_54 (by decide) (fun c12 => ?_) (fun c12 => ?_)
        · replace h := ifT c12 h
          refine b_aload_n dX7_calendar_61 rfl (k := 0) rfl ?_
          refine b_getF fl7_37 ob26 rfl rfl dX7_calendar_62 ?_
          refine b_getF fl7_169 ob0 rfl rfl dX7_calendar_65 ?_
          refine b_iload_n dX7_calendar_68 rfl (k := 1) rfl ?_
          obtain ⟨g13, h⟩ := gdE h
          refine b_iald ar0_0 g13 rfl dX7_calendar_69 ?_
          refine b_sub [0, 1, 2] rfl ?_
          exact t7_calendar_70  a1 a2    (w10.1 0 0 (Int32.toNatClampNeg a1)) _ _ _ h
        · replace h := ifF c12 h
          refine b_iconst (v := (-1)) dX7_calendar_57 (by decide) ?_
          refine b_goto (tgt := 70) dX7_calendar_58 (by decide) ?_
          refine b_sub [0, 1, 2] rfl ?_
          exact t7_calendar_70  a1 a2    (-1) _ _ _ h
      · replace h := ifF c8 h
        refine b_ldc dX7_calendar_32 kk7_80 ?_
        obtain ⟨rfl, rfl⟩ := rtE h
        exact b_iret rfl dX7_calendar_34
  · replace h := ifT c4 h
    refine b_ldc dX7_calendar_11 kk7_162 ?_
    obtain ⟨rfl, rfl⟩ := rtE h
    exact b_iret rfl dX7_calendar_13
theorem s7_calendar (a1 : Int32) (a2 : Int32)  (w w' : Mem) (r : Int32) (h : f7_calendar  a1 a2  w = some (r, w')) : Sp yX7_calendar cX7_calendar 4 (some .int) 4 [vR 26 0, vI a1, vI a2] w (some (vI r)) w' := sp_of (by decide) (fun _ => rfl) (fun _ => Nat.le_of_ble_eq_true rfl) (t7_calendar  a1 a2   _ _ _ h)
