-- X8_feet OneADayModel
def f8_feet  (a1 : Int32) (a2 : Int32)   (w : Mem) : Option (Int32 × Mem) :=
  bndO (f8_in (Int32.toInt64 a1) 1 10 w) fun r2 w1 => if r2 = 0 then (some ((-1000000002), w1)) else (if (w1.1 32 0 0) = 0 then (some ((-1000000003), w1)) else (bndV (f8_findFeet a1 w1) fun w5 => if (w5.1 32 36 0) = 1000000 then (some ((-1), w5)) else (if a2 = (-1) then (some (w5.1 32 36 0, w5)) else (bndO (f8_in (Int32.toInt64 a2) 0 (Int32.toInt64 (a1 - 1)) w5) fun r9 w8 => if r9 = 0 then (some ((-1), w8)) else (if a2 < 0 ∨ 10 ≤ Int32.toNatClampNeg a2 then none else some (w8.1 32 35 (Int32.toNatClampNeg a2), w8))))))
set_option maxRecDepth 100000 in
set_option maxHeartbeats 4000000 in
theorem t8_feet   (a1 : Int32) (a2 : Int32)     (w w' : Mem) (r : Int32) (h : f8_feet  a1 a2   w = some (r, w')) : Bk yX8_feet cX8_feet 3 (some .int) 5 0 [(0, vR 32 0), (1, vI a1), (2, vI a2)] [] w (some (vI r)) w' := by
  unfold f8_feet at h
  refine b_iload_n dX8_feet_0 rfl (k := 1) rfl ?_
  refine b_i2l dX8_feet_1 ?_
  refine b_lconst (v := 1) dX8_feet_2 (by decide) ?_
  refine b_ldc2 dX8_feet_3 kl8_296 ?_
  obtain ⟨r2, w1, hw1, h⟩ := bdO h
  refine b_callSi ms8_in ml8_97 (s8_in (Int32.toInt64 a1) 1 10  _ _ _ hw1) rfl (by decide) (by decide) (Nat.le_of_ble_eq_true rfl) rfl dX8_feet_6 ?_
  refine b_ifne (tgt := 15) dX8_feet_9 (by decide) (fun c3 => ?_) (fun c3 => ?_)
  · replace h := ifF c3 h
    refine b_aload_n dX8_feet_15 rfl (k := 0) rfl ?_
    refine b_getI fl8_155 ob32 rfl dX8_feet_16 ?_
    refine b_ifne (tgt := 25) dX8_feet_19 (by decide) (fun c4 => ?_) (fun c4 => ?_)
    · replace h := ifF c4 h
      refine b_aload_n dX8_feet_25 rfl (k := 0) rfl ?_
      refine b_iload_n dX8_feet_26 rfl (k := 1) rfl ?_
      obtain ⟨w5, hw5, h⟩ := bdV h
      refine b_callVv mv8_findFeet ml8_298 ob32 (s8_findFeet a1  _ _  hw5) rfl (by decide) (by decide) (Nat.le_of_ble_eq_true rfl) rfl dX8_feet_27 ?_
      refine b_aload_n dX8_feet_30 rfl (k := 0) rfl ?_
      refine b_getI fl8_284 ob32 rfl dX8_feet_31 ?_
      refine b_ldcw dX8_feet_34 kk8_277 ?_
      refine b_icne (tgt := 42) dX8_feet_37 (by decide) (fun c6 => ?_) (fun c6 => ?_)
      · replace h := ifF c6 h
        refine b_iload_n dX8_feet_42 rfl (k := 2) rfl ?_
        refine b_iconst (v := (-1)) dX8_feet_43 (by decide) ?_
        refine b_icne (tgt := 54) dX8_feet_44 (by decide) (fun c7 => ?_) (fun c7 => ?_)
        · replace h := ifF c7 h
          refine b_iload_n dX8_feet_54 rfl (k := 2) rfl ?_
          refine b_i2l dX8_feet_55 ?_
          refine b_lconst (v := 0) dX8_feet_56 (by decide) ?_
          refine b_iload_n dX8_feet_57 rfl (k := 1) rfl ?_
          refine b_iconst (v := 1) dX8_feet_58 (by decide) ?_
          refine b_isub dX8_feet_59 ?_
          refine b_i2l dX8_feet_60 ?_
          obtain ⟨r9, w8, hw8, h⟩ := bdO h
          refine b_callSi ms8_in ml8_97 (s8_in (Int32.toInt64 a2) 0 (Int32.toInt64 (a1 - 1))  _ _ _ hw8) rfl (by decide) (by decide) (Nat.le_of_ble_eq_true rfl) rfl dX8_feet_61 ?_
          refine b_ifeq (tgt := 76) dX8_feet_64 (by decide) (fun c10 => ?_) (fun c10 => ?_)
          · replace h := ifT c10 h
            refine b_iconst (v := (-1)) dX8_feet_76 (by decide) ?_
            obtain ⟨rfl, rfl⟩ := rtE h
            exact b_iret rfl dX8_feet_77
          · replace h := ifF c10 h
            refine b_aload_n dX8_feet_67 rfl (k := 0) rfl ?_
            refine b_getF fl8_72 ob32 rfl rfl dX8_feet_68 ?_
            refine b_iload_n dX8_feet_71 rfl (k := 2) rfl ?_
            obtain ⟨g11, h⟩ := gdE h
            refine b_iald ar32_35 g11 rfl dX8_feet_72 ?_
            refine b_goto (tgt := 77) dX8_feet_73 (by decide) ?_
            obtain ⟨rfl, rfl⟩ := rtE h
            exact b_iret rfl dX8_feet_77
        · replace h := ifT c7 h
          refine b_aload_n dX8_feet_47 rfl (k := 0) rfl ?_
          refine b_getI fl8_284 ob32 rfl dX8_feet_48 ?_
          refine b_goto (tgt := 77) dX8_feet_51 (by decide) ?_
          obtain ⟨rfl, rfl⟩ := rtE h
          exact b_iret rfl dX8_feet_77
      · replace h := ifT c6 h
        refine b_iconst (v := (-1)) dX8_feet_40 (by decide) ?_
        obtain ⟨rfl, rfl⟩ := rtE h
        exact b_iret rfl dX8_feet_41
    · replace h := ifT c4 h
      refine b_ldc dX8_feet_22 kk8_224 ?_
      obtain ⟨rfl, rfl⟩ := rtE h
      exact b_iret rfl dX8_feet_24
  · replace h := ifT c3 h
    refine b_ldc dX8_feet_12 kk8_103 ?_
    obtain ⟨rfl, rfl⟩ := rtE h
    exact b_iret rfl dX8_feet_14
theorem s8_feet (a1 : Int32) (a2 : Int32)  (w w' : Mem) (r : Int32) (h : f8_feet  a1 a2  w = some (r, w')) : Sp yX8_feet cX8_feet 3 (some .int) 5 [vR 32 0, vI a1, vI a2] w (some (vI r)) w' := sp_of (by decide) (fun _ => rfl) (fun _ => Nat.le_of_ble_eq_true rfl) (t8_feet  a1 a2   _ _ _ h)
-- X8_odds OneADayModel
def f8_odds_31  (a1 : Int32)  : Nat → Int32 → Int32 → Int32 → Int32 → Mem → Option (Int32 × Mem)
  | 0, _, _, _, _, _ => none
  | n + 1, x2, x3, x4, x5, w =>
  if (w.1 32 3 0) ≤ x5 then (some (x3, w)) else (bndO (f8_has x4 x5 w) fun r3 w2 => if r3 = 0 then (bnd (x5 + 1) fun y5 => f8_odds_31  a1  n x2 x3 x4 y5 w2) else (if x5 < 0 ∨ 8 ≤ Int32.toNatClampNeg x5 then none else if x5 < 0 ∨ 8 ≤ Int32.toNatClampNeg x5 then none else bnd (((x3 * (w2.1 32 6 (Int32.toNatClampNeg x5))) / 100) + ((x2 * (100 - (w2.1 32 6 (Int32.toNatClampNeg x5)))) / 100)) fun y8 => if x5 < 0 ∨ 8 ≤ Int32.toNatClampNeg x5 then none else bnd ((x2 * (w2.1 32 6 (Int32.toNatClampNeg x5))) / 100) fun y10 => bnd (x5 + 1) fun y11 => f8_odds_31  a1  n y10 y8 x4 y11 w2))
set_option maxRecDepth 100000 in
set_option maxHeartbeats 4000000 in
theorem t8_odds_31   (a1 : Int32)    : ∀ (n : Nat) (x2 : Int32) (x3 : Int32) (x4 : Int32) (x5 : Int32) (w w' : Mem) (r : Int32), f8_odds_31  a1  n x2 x3 x4 x5 w = some (r, w') → Bk yX8_odds cX8_odds 6 (some .int) 4 31 [(0, vR 32 0), (2, vI x2), (3, vI x3), (4, vI x4), (5, vI x5)] [] w (some (vI r)) w' := by
  intro n
  induction n with
  | zero =>
    intro x2 x3 x4 x5 w w' r h
    cases (show (none : Option (Int32 × Mem)) = some _ from h)
  | succ n ih =>
    intro x2 x3 x4 x5 w w' r h
    rw [f8_odds_31] at h
    refine b_iload dX8_odds_31 (k := 4) rfl ?_
    refine b_aload_n dX8_odds_33 rfl (k := 0) rfl ?_
    refine b_getI fl8_94 ob32 rfl dX8_odds_34 ?_
    refine b_icge (tgt := 98) dX8_odds_37 (by decide) (fun c1 => ?_) (fun c1 => ?_)
    · replace h := ifT c1 h
      refine b_iload_n dX8_odds_98 rfl (k := 2) rfl ?_
      obtain ⟨rfl, rfl⟩ := rtE h
      exact b_iret rfl dX8_odds_99
    · replace h := ifF c1 h
      refine b_iload dX8_odds_40 (k := 3) rfl ?_
      refine b_iload dX8_odds_42 (k := 4) rfl ?_
      obtain ⟨r3, w2, hw2, h⟩ := bdO h
      refine b_callSi ms8_has ml8_196 (s8_has x4 x5  _ _ _ hw2) rfl (by decide) (by decide) (Nat.le_of_ble_eq_true rfl) rfl dX8_odds_44 ?_
      refine b_ifeq (tgt := 92) dX8_odds_47 (by decide) (fun c4 => ?_) (fun c4 => ?_)
      · replace h := ifT c4 h
        obtain ⟨y5, ey5, h⟩ := nmE h
        refine b_iinc (v := y5) (lv' := [(5, vI y5), (0, vR 32 0), (2, vI x2), (3, vI x3), (4, vI x4)]) dX8_odds_92 (k := 4) rfl ey5.symm (by decide) rfl ?_
        refine b_goto (tgt := 31) dX8_odds_95 (by decide) ?_
        refine b_sub [1, 2, 3, 4, 0] rfl ?_
        exact ih x2 x3 x4 y5 _ _ _ h
      · replace h := ifF c4 h
        refine b_iload_n dX8_odds_50 rfl (k := 2) rfl ?_
        refine b_aload_n dX8_odds_51 rfl (k := 0) rfl ?_
        refine b_getF fl8_16 ob32 rfl rfl dX8_odds_52 ?_
        refine b_iload dX8_odds_55 (k := 4) rfl ?_
        obtain ⟨g6, h⟩ := gdE h
        refine b_iald ar32_6 g6 rfl dX8_odds_57 ?_
        refine b_imul dX8_odds_58 ?_
        refine b_bipush (v := 100) dX8_odds_59 (by decide) ?_
        refine b_idiv dX8_odds_61 (by decide) ?_
        refine b_iload_n dX8_odds_62 rfl (k := 1) rfl ?_
        refine b_bipush (v := 100) dX8_odds_63 (by decide) ?_
        refine b_aload_n dX8_odds_65 rfl (k := 0) rfl ?_
        refine b_getF fl8_16 ob32 rfl rfl dX8_odds_66 ?_
        refine b_iload dX8_odds_69 (k := 4) rfl ?_
        obtain ⟨g7, h⟩ := gdE h
        refine b_iald ar32_6 g7 rfl dX8_odds_71 ?_
        refine b_isub dX8_odds_72 ?_
        refine b_imul dX8_odds_73 ?_
        refine b_bipush (v := 100) dX8_odds_74 (by decide) ?_
        refine b_idiv dX8_odds_76 (by decide) ?_
        refine b_iadd dX8_odds_77 ?_
        obtain ⟨y8, ey8, h⟩ := nmE h
        refine b_nmI ey8 ?_
        refine b_istore_n (lv' := [(3, vI y8), (0, vR 32 0), (2, vI x2), (4, vI x4), (5, vI x5)]) dX8_odds_78 rfl (by decide) rfl ?_
        refine b_iload_n dX8_odds_79 rfl (k := 2) rfl ?_
        refine b_aload_n dX8_odds_80 rfl (k := 1) rfl ?_
        refine b_getF fl8_16 ob32 rfl rfl dX8_odds_81 ?_
        refine b_iload dX8_odds_84 (k := 4) rfl ?_
        obtain ⟨g9, h⟩ := gdE h
        refine b_iald ar32_6 g9 rfl dX8_odds_86 ?_
        refine b_imul dX8_odds_87 ?_
        refine b_bipush (v := 100) dX8_odds_88 (by decide) ?_
        refine b_idiv dX8_odds_90 (by decide) ?_
        obtain ⟨y10, ey10, h⟩ := nmE h
        refine b_nmI ey10 ?_
        refine b_istore_n (lv' := [(2, vI y10), (3, vI y8), (0, vR 32 0), (4, vI x4), (5, vI x5)]) dX8_odds_91 rfl (by decide) rfl ?_
        obtain ⟨y11, ey11, h⟩ := nmE h
        refine b_iinc (v := y11) (lv' := [(5, vI y11), (2, vI y10), (3, vI y8), (0, vR 32 0), (4, vI x4)]) dX8_odds_92 (k := 4) rfl ey11.symm (by decide) rfl ?_
        refine b_goto (tgt := 31) dX8_odds_95 (by decide) ?_
        refine b_sub [3, 1, 2, 4, 0] rfl ?_
        exact ih y10 y8 x4 y11 _ _ _ h
def f8_odds  (a1 : Int32)   (w : Mem) : Option (Int32 × Mem) :=
  bndO (f8_in (Int32.toInt64 a1) 0 999 w) fun r2 w1 => if r2 = 0 then (some ((-1000000002), w1)) else (bndO (f8_goers a1 w1) fun r5 w4 => f8_odds_31  a1  100000 1000000 0 r5 0 w4)
set_option maxRecDepth 100000 in
set_option maxHeartbeats 4000000 in
theorem t8_odds   (a1 : Int32)     (w w' : Mem) (r : Int32) (h : f8_odds  a1   w = some (r, w')) : Bk yX8_odds cX8_odds 6 (some .int) 4 0 [(0, vR 32 0), (1, vI a1)] [] w (some (vI r)) w' := by
  unfold f8_odds at h
  refine b_iload_n dX8_odds_0 rfl (k := 1) rfl ?_
  refine b_i2l dX8_odds_1 ?_
  refine b_lconst (v := 0) dX8_odds_2 (by decide) ?_
  refine b_ldc2 dX8_odds_3 kl8_275 ?_
  obtain ⟨r2, w1, hw1, h⟩ := bdO h
  refine b_callSi ms8_in ml8_97 (s8_in (Int32.toInt64 a1) 0 999  _ _ _ hw1) rfl (by decide) (by decide) (Nat.le_of_ble_eq_true rfl) rfl dX8_odds_6 ?_
  refine b_ifne (tgt := 15) dX8_odds_9 (by decide) (fun c3 => ?_) (fun c3 => ?_)
  · replace h := ifF c3 h
    refine b_ldcw dX8_odds_15 kk8_277 ?_
    refine b_istore_n (lv' := [(2, vI 1000000), (0, vR 32 0), (1, vI a1)]) dX8_odds_18 rfl (by decide) rfl ?_
    refine b_iconst (v := 0) dX8_odds_19 (by decide) ?_
    refine b_istore_n (lv' := [(3, vI 0), (2, vI 1000000), (0, vR 32 0), (1, vI a1)]) dX8_odds_20 rfl (by decide) rfl ?_
    refine b_aload_n dX8_odds_21 rfl (k := 2) rfl ?_
    refine b_iload_n dX8_odds_22 rfl (k := 3) rfl ?_
    obtain ⟨r5, w4, hw4, h⟩ := bdO h
    refine b_callVi mv8_goers ml8_204 ob32 (s8_goers a1  _ _ _ hw4) rfl (by decide) (by decide) (Nat.le_of_ble_eq_true rfl) rfl dX8_odds_23 ?_
    refine b_istore (lv' := [(4, vI r5), (3, vI 0), (2, vI 1000000), (0, vR 32 0), (1, vI a1)]) dX8_odds_26 (by decide) rfl ?_
    refine b_iconst (v := 0) dX8_odds_28 (by decide) ?_
    refine b_istore (lv' := [(5, vI 0), (4, vI r5), (3, vI 0), (2, vI 1000000), (0, vR 32 0), (1, vI a1)]) dX8_odds_29 (by decide) rfl ?_
    refine b_sub [4, 3, 2, 1, 0] rfl ?_
    exact t8_odds_31  a1    100000 1000000 0 r5 0 _ _ _ h
  · replace h := ifT c3 h
    refine b_ldc dX8_odds_12 kk8_103 ?_
    obtain ⟨rfl, rfl⟩ := rtE h
    exact b_iret rfl dX8_odds_14
theorem s8_odds (a1 : Int32)  (w w' : Mem) (r : Int32) (h : f8_odds  a1  w = some (r, w')) : Sp yX8_odds cX8_odds 6 (some .int) 4 [vR 32 0, vI a1] w (some (vI r)) w' := sp_of (by decide) (fun _ => rfl) (fun _ => Nat.le_of_ble_eq_true rfl) (t8_odds  a1   _ _ _ h)
-- X8_see OneADayModel
def f8_see  (a1 : Int32) (a2 : Int32)   (w : Mem) : Option (Int32 × Mem) :=
  bndO (f8_in (Int32.toInt64 a1) 0 99 w) fun r2 w1 => if r2 = 0 then (some ((-1000000002), w1)) else (bndO (f8_in (Int32.toInt64 a2) 0 2 w1) fun r5 w4 => if r5 = 0 then (some ((-1000000002), w4)) else (if (w4.1 32 37 0) = 10 then (some ((-1000000004), w4)) else (if (w4.1 32 37 0) < 0 ∨ 10 ≤ Int32.toNatClampNeg (w4.1 32 37 0) then none else bnd (sI w4 32 38 (Int32.toNatClampNeg (w4.1 32 37 0)) a1) fun w9 => if (w9.1 32 37 0) < 0 ∨ 10 ≤ Int32.toNatClampNeg (w9.1 32 37 0) then none else bnd (sI w9 32 39 (Int32.toNatClampNeg (w9.1 32 37 0)) a2) fun w11 => bnd (sI w11 32 37 0 ((w11.1 32 37 0) + 1)) fun w12 => some (w12.1 32 37 0, w12))))
set_option maxRecDepth 100000 in
set_option maxHeartbeats 4000000 in
theorem t8_see   (a1 : Int32) (a2 : Int32)     (w w' : Mem) (r : Int32) (h : f8_see  a1 a2   w = some (r, w')) : Bk yX8_see cX8_see 3 (some .int) 2 0 [(0, vR 32 0), (1, vI a1), (2, vI a2)] [] w (some (vI r)) w' := by
  unfold f8_see at h
  refine b_iload_n dX8_see_0 rfl (k := 1) rfl ?_
  refine b_i2l dX8_see_1 ?_
  refine b_lconst (v := 0) dX8_see_2 (by decide) ?_
  refine b_ldc2 dX8_see_3 kl8_222 ?_
  obtain ⟨r2, w1, hw1, h⟩ := bdO h
  refine b_callSi ms8_in ml8_97 (s8_in (Int32.toInt64 a1) 0 99  _ _ _ hw1) rfl (by decide) (by decide) (Nat.le_of_ble_eq_true rfl) rfl dX8_see_6 ?_
  refine b_ifeq (tgt := 24) dX8_see_9 (by decide) (fun c3 => ?_) (fun c3 => ?_)
  · replace h := ifT c3 h
    refine b_ldc dX8_see_24 kk8_103 ?_
    obtain ⟨rfl, rfl⟩ := rtE h
    exact b_iret rfl dX8_see_26
  · replace h := ifF c3 h
    refine b_iload_n dX8_see_12 rfl (k := 2) rfl ?_
    refine b_i2l dX8_see_13 ?_
    refine b_lconst (v := 0) dX8_see_14 (by decide) ?_
    refine b_ldc2 dX8_see_15 kl8_301 ?_
    obtain ⟨r5, w4, hw4, h⟩ := bdO h
    refine b_callSi ms8_in ml8_97 (s8_in (Int32.toInt64 a2) 0 2  _ _ _ hw4) rfl (by decide) (by decide) (Nat.le_of_ble_eq_true rfl) rfl dX8_see_18 ?_
    refine b_ifne (tgt := 27) dX8_see_21 (by decide) (fun c6 => ?_) (fun c6 => ?_)
    · replace h := ifF c6 h
      refine b_aload_n dX8_see_27 rfl (k := 0) rfl ?_
      refine b_getI fl8_176 ob32 rfl dX8_see_28 ?_
      refine b_bipush (v := 10) dX8_see_31 (by decide) ?_
      refine b_icne (tgt := 39) dX8_see_33 (by decide) (fun c7 => ?_) (fun c7 => ?_)
      · replace h := ifF c7 h
        refine b_aload_n dX8_see_39 rfl (k := 0) rfl ?_
        refine b_getF fl8_75 ob32 rfl rfl dX8_see_40 ?_
        refine b_aload_n dX8_see_43 rfl (k := 0) rfl ?_
        refine b_getI fl8_176 ob32 rfl dX8_see_44 ?_
        refine b_iload_n dX8_see_47 rfl (k := 1) rfl ?_
        obtain ⟨g8, h⟩ := gdE h
        obtain ⟨w9, ew9, h⟩ := nmE h
        refine b_iast ar32_38 g8 rfl dX8_see_48 ?_
        refine b_nmW ew9 ?_
        refine b_aload_n dX8_see_49 rfl (k := 0) rfl ?_
        refine b_getF fl8_78 ob32 rfl rfl dX8_see_50 ?_
        refine b_aload_n dX8_see_53 rfl (k := 0) rfl ?_
        refine b_getI fl8_176 ob32 rfl dX8_see_54 ?_
        refine b_iload_n dX8_see_57 rfl (k := 2) rfl ?_
        obtain ⟨g10, h⟩ := gdE h
        obtain ⟨w11, ew11, h⟩ := nmE h
        refine b_iast ar32_39 g10 rfl dX8_see_58 ?_
        refine b_nmW ew11 ?_
        refine b_aload_n dX8_see_59 rfl (k := 0) rfl ?_
        refine b_dup dX8_see_60 rfl ?_
        refine b_getI fl8_176 ob32 rfl dX8_see_61 ?_
        refine b_iconst (v := 1) dX8_see_64 (by decide) ?_
        refine b_iadd dX8_see_65 ?_
        obtain ⟨w12, ew12, h⟩ := nmE h
        refine b_putI fw8_176 ob32 rfl dX8_see_66 ?_
        refine b_nmW ew12 ?_
        refine b_aload_n dX8_see_69 rfl (k := 0) rfl ?_
        refine b_getI fl8_176 ob32 rfl dX8_see_70 ?_
        obtain ⟨rfl, rfl⟩ := rtE h
        exact b_iret rfl dX8_see_73
      · replace h := ifT c7 h
        refine b_ldc dX8_see_36 kk8_107 ?_
        obtain ⟨rfl, rfl⟩ := rtE h
        exact b_iret rfl dX8_see_38
    · replace h := ifT c6 h
      refine b_ldc dX8_see_24 kk8_103 ?_
      obtain ⟨rfl, rfl⟩ := rtE h
      exact b_iret rfl dX8_see_26
theorem s8_see (a1 : Int32) (a2 : Int32)  (w w' : Mem) (r : Int32) (h : f8_see  a1 a2  w = some (r, w')) : Sp yX8_see cX8_see 3 (some .int) 2 [vR 32 0, vI a1, vI a2] w (some (vI r)) w' := sp_of (by decide) (fun _ => rfl) (fun _ => Nat.le_of_ble_eq_true rfl) (t8_see  a1 a2   _ _ _ h)
-- X8_howBy OneADayModel
def f8_howBy_29  (a1 : Int32) (a2 : Int32) (a3 : Int32)  (s0 : Int32) (s1 : Int32) (w : Mem) : Option (Int32 × Mem) :=
  bnd (s0 + s1) fun y1 => if y1 ≤ 1 then (some (y1, w)) else (some (2, w))
set_option maxRecDepth 100000 in
set_option maxHeartbeats 4000000 in
theorem t8_howBy_29   (a1 : Int32) (a2 : Int32) (a3 : Int32)    (s0 : Int32) (s1 : Int32) (w w' : Mem) (r : Int32) (h : f8_howBy_29  a1 a2 a3  s0 s1 w = some (r, w')) : Bk yX8_howBy cX8_howBy 5 (some .int) 4 29 [] [vI s1, vI s0] w (some (vI r)) w' := by
  unfold f8_howBy_29 at h
  refine b_iadd dX8_howBy_29 ?_
  obtain ⟨y1, ey1, h⟩ := nmE h
  refine b_nmI ey1 ?_
  refine b_istore (lv' := [(4, vI y1)]) dX8_howBy_30 (by decide) rfl ?_
  refine b_iload dX8_howBy_32 (k := 0) rfl ?_
  refine b_iconst (v := 1) dX8_howBy_34 (by decide) ?_
  refine b_icle (tgt := 42) dX8_howBy_35 (by decide) (fun c2 => ?_) (fun c2 => ?_)
  · replace h := ifT c2 h
    refine b_iload dX8_howBy_42 (k := 0) rfl ?_
    obtain ⟨rfl, rfl⟩ := rtE h
    exact b_iret rfl dX8_howBy_44
  · replace h := ifF c2 h
    refine b_iconst (v := 2) dX8_howBy_38 (by decide) ?_
    refine b_goto (tgt := 44) dX8_howBy_39 (by decide) ?_
    obtain ⟨rfl, rfl⟩ := rtE h
    exact b_iret rfl dX8_howBy_44
def f8_howBy  (a1 : Int32) (a2 : Int32) (a3 : Int32)   (w : Mem) : Option (Int32 × Mem) :=
  bndO (f8_goers a3 w) fun r2 w1 => bndO (f8_bits (r2 &&& ((jshl 1 a1) ^^^ (-1))) w1) fun r4 w3 => bndO (f8_goesBy a1 a3 a2 w3) fun r6 w5 => if r6 = 0 then (f8_howBy_29  a1 a2 a3  r4 0 w5) else (f8_howBy_29  a1 a2 a3  r4 1 w5)
set_option maxRecDepth 100000 in
set_option maxHeartbeats 4000000 in
theorem t8_howBy   (a1 : Int32) (a2 : Int32) (a3 : Int32)     (w w' : Mem) (r : Int32) (h : f8_howBy  a1 a2 a3   w = some (r, w')) : Bk yX8_howBy cX8_howBy 5 (some .int) 4 0 [(0, vR 32 0), (1, vI a1), (2, vI a2), (3, vI a3)] [] w (some (vI r)) w' := by
  unfold f8_howBy at h
  refine b_aload_n dX8_howBy_0 rfl (k := 0) rfl ?_
  refine b_iload_n dX8_howBy_1 rfl (k := 3) rfl ?_
  obtain ⟨r2, w1, hw1, h⟩ := bdO h
  refine b_callVi mv8_goers ml8_204 ob32 (s8_goers a3  _ _ _ hw1) rfl (by decide) (by decide) (Nat.le_of_ble_eq_true rfl) rfl dX8_howBy_2 ?_
  refine b_iconst (v := 1) dX8_howBy_5 (by decide) ?_
  refine b_iload_n dX8_howBy_6 rfl (k := 1) rfl ?_
  refine b_ishl dX8_howBy_7 ?_
  refine b_iconst (v := (-1)) dX8_howBy_8 (by decide) ?_
  refine b_ixor dX8_howBy_9 ?_
  refine b_iand dX8_howBy_10 ?_
  obtain ⟨r4, w3, hw3, h⟩ := bdO h
  refine b_callSi ms8_bits ml8_216 (s8_bits (r2 &&& ((jshl 1 a1) ^^^ (-1)))  _ _ _ hw3) rfl (by decide) (by decide) (Nat.le_of_ble_eq_true rfl) rfl dX8_howBy_11 ?_
  refine b_aload_n dX8_howBy_14 rfl (k := 0) rfl ?_
  refine b_iload_n dX8_howBy_15 rfl (k := 1) rfl ?_
  refine b_iload_n dX8_howBy_16 rfl (k := 3) rfl ?_
  refine b_iload_n dX8_howBy_17 rfl (k := 2) rfl ?_
  obtain ⟨r6, w5, hw5, h⟩ := bdO h
  refine b_callVi mv8_goesBy ml8_200 ob32 (s8_goesBy a1 a3 a2  _ _ _ hw5) rfl (by decide) (by decide) (Nat.le_of_ble_eq_true rfl) rfl dX8_howBy_18 ?_
  refine b_ifeq (tgt := 28) dX8_howBy_21 (by decide) (fun c7 => ?_) (fun c7 => ?_)
  · replace h := ifT c7 h
    refine b_iconst (v := 0) dX8_howBy_28 (by decide) ?_
    refine b_sub [] rfl ?_
    exact t8_howBy_29  a1 a2 a3    r4 0 _ _ _ h
  · replace h := ifF c7 h
    refine b_iconst (v := 1) dX8_howBy_24 (by decide) ?_
    refine b_goto (tgt := 29) dX8_howBy_25 (by decide) ?_
    refine b_sub [] rfl ?_
    exact t8_howBy_29  a1 a2 a3    r4 1 _ _ _ h
theorem s8_howBy (a1 : Int32) (a2 : Int32) (a3 : Int32)  (w w' : Mem) (r : Int32) (h : f8_howBy  a1 a2 a3  w = some (r, w')) : Sp yX8_howBy cX8_howBy 5 (some .int) 4 [vR 32 0, vI a1, vI a2, vI a3] w (some (vI r)) w' := sp_of (by decide) (fun _ => rfl) (fun _ => Nat.le_of_ble_eq_true rfl) (t8_howBy  a1 a2 a3   _ _ _ h)
-- X8_offsetsOf OneADayModel
def f8_offsetsOf_70  (a1 : Int32) (rec4 : Int32 → Int32 → Mem → Option (Int32 × Mem)) (x2 : Int32) (x3 : Int32) (x4 : Int32) (w : Mem) : Option (Int32 × Mem) :=
  if x4 = 0 then (bnd (x2 ||| 0) fun y2 => bnd (x3 + 1) fun y3 => rec4 y2 y3 w) else (bnd (x2 ||| (jshl 1 x3)) fun y4 => bnd (x3 + 1) fun y5 => rec4 y4 y5 w)
set_option maxRecDepth 100000 in
set_option maxHeartbeats 4000000 in
theorem t8_offsetsOf_70   (a1 : Int32)  (rec4 : Int32 → Int32 → Mem → Option (Int32 × Mem)) (hrec4 : ∀ (x2 : Int32) (x3 : Int32) (w w' : Mem) (r : Int32), rec4 x2 x3 w = some (r, w') → Bk yX8_offsetsOf cX8_offsetsOf 6 (some .int) 5 4 [(0, vR 32 0), (1, vI a1), (2, vI x2), (3, vI x3)] [] w (some (vI r)) w') (x2 : Int32) (x3 : Int32) (x4 : Int32) (w w' : Mem) (r : Int32) (h : f8_offsetsOf_70  a1 rec4 x2 x3 x4 w = some (r, w')) : Bk yX8_offsetsOf cX8_offsetsOf 6 (some .int) 5 70 [(0, vR 32 0), (1, vI a1), (2, vI x2), (3, vI x3), (4, vI x4)] [] w (some (vI r)) w' := by
  unfold f8_offsetsOf_70 at h
  refine b_iload_n dX8_offsetsOf_70 rfl (k := 2) rfl ?_
  refine b_iload dX8_offsetsOf_71 (k := 4) rfl ?_
  refine b_ifeq (tgt := 82) dX8_offsetsOf_73 (by decide) (fun c1 => ?_) (fun c1 => ?_)
  · replace h := ifT c1 h
    refine b_iconst (v := 0) dX8_offsetsOf_82 (by decide) ?_
    refine b_ior dX8_offsetsOf_83 ?_
    obtain ⟨y2, ey2, h⟩ := nmE h
    refine b_nmI ey2 ?_
    refine b_istore_n (lv' := [(2, vI y2), (0, vR 32 0), (1, vI a1), (3, vI x3), (4, vI x4)]) dX8_offsetsOf_84 rfl (by decide) rfl ?_
    obtain ⟨y3, ey3, h⟩ := nmE h
    refine b_iinc (v := y3) (lv' := [(3, vI y3), (2, vI y2), (0, vR 32 0), (1, vI a1), (4, vI x4)]) dX8_offsetsOf_85 (k := 3) rfl ey3.symm (by decide) rfl ?_
    refine b_goto (tgt := 4) dX8_offsetsOf_88 (by decide) ?_
    refine b_sub [2, 3, 1, 0] rfl ?_
    exact hrec4 y2 y3 _ _ _ h
  · replace h := ifF c1 h
    refine b_iconst (v := 1) dX8_offsetsOf_76 (by decide) ?_
    refine b_iload_n dX8_offsetsOf_77 rfl (k := 3) rfl ?_
    refine b_ishl dX8_offsetsOf_78 ?_
    refine b_goto (tgt := 83) dX8_offsetsOf_79 (by decide) ?_
    refine b_ior dX8_offsetsOf_83 ?_
    obtain ⟨y4, ey4, h⟩ := nmE h
    refine b_nmI ey4 ?_
    refine b_istore_n (lv' := [(2, vI y4), (0, vR 32 0), (1, vI a1), (3, vI x3), (4, vI x4)]) dX8_offsetsOf_84 rfl (by decide) rfl ?_
    obtain ⟨y5, ey5, h⟩ := nmE h
    refine b_iinc (v := y5) (lv' := [(3, vI y5), (2, vI y4), (0, vR 32 0), (1, vI a1), (4, vI x4)]) dX8_offsetsOf_85 (k := 3) rfl ey5.symm (by decide) rfl ?_
    refine b_goto (tgt := 4) dX8_offsetsOf_88 (by decide) ?_
    refine b_sub [2, 3, 1, 0] rfl ?_
    exact hrec4 y4 y5 _ _ _ h
def f8_offsetsOf_20  (a1 : Int32) (rec4 : Int32 → Int32 → Mem → Option (Int32 × Mem)) : Nat → Int32 → Int32 → Int32 → Int32 → Mem → Option (Int32 × Mem)
  | 0, _, _, _, _, _ => none
  | n + 1, x2, x3, x4, x5, w =>
  if (w.1 32 37 0) ≤ x5 then (f8_offsetsOf_70  a1 rec4 x2 x3 x4 w) else (if x4 = 0 then (bnd (x5 + 1) fun y3 => f8_offsetsOf_20  a1 rec4 n x2 x3 0 y3 w) else (if x5 < 0 ∨ 10 ≤ Int32.toNatClampNeg x5 then none else bndO (f8_howBy a1 x3 (w.1 32 38 (Int32.toNatClampNeg x5)) w) fun r6 w5 => if x5 < 0 ∨ 10 ≤ Int32.toNatClampNeg x5 then none else if r6 = (w5.1 32 39 (Int32.toNatClampNeg x5)) then (bnd (x5 + 1) fun y10 => f8_offsetsOf_20  a1 rec4 n x2 x3 1 y10 w5) else (bnd (x5 + 1) fun y9 => f8_offsetsOf_20  a1 rec4 n x2 x3 0 y9 w5)))
set_option maxRecDepth 100000 in
set_option maxHeartbeats 4000000 in
theorem t8_offsetsOf_20   (a1 : Int32)  (rec4 : Int32 → Int32 → Mem → Option (Int32 × Mem)) (hrec4 : ∀ (x2 : Int32) (x3 : Int32) (w w' : Mem) (r : Int32), rec4 x2 x3 w = some (r, w') → Bk yX8_offsetsOf cX8_offsetsOf 6 (some .int) 5 4 [(0, vR 32 0), (1, vI a1), (2, vI x2), (3, vI x3)] [] w (some (vI r)) w') : ∀ (n : Nat) (x2 : Int32) (x3 : Int32) (x4 : Int32) (x5 : Int32) (w w' : Mem) (r : Int32), f8_offsetsOf_20  a1 rec4 n x2 x3 x4 x5 w = some (r, w') → Bk yX8_offsetsOf cX8_offsetsOf 6 (some .int) 5 20 [(0, vR 32 0), (1, vI a1), (2, vI x2), (3, vI x3), (4, vI x4), (5, vI x5)] [] w (some (vI r)) w' := by
  intro n
  induction n with
  | zero =>
    intro x2 x3 x4 x5 w w' r h
    cases (show (none : Option (Int32 × Mem)) = some _ from h)
  | succ n ih =>
    intro x2 x3 x4 x5 w w' r h
    rw [f8_offsetsOf_20] at h
    refine b_iload dX8_offsetsOf_20 (k := 5) rfl ?_
    refine b_aload_n dX8_offsetsOf_22 rfl (k := 0) rfl ?_
    refine b_getI fl8_176 ob32 rfl dX8_offsetsOf_23 ?_
    refine b_icge (tgt := 70) dX8_offsetsOf_26 (by decide) (fun c1 => ?_) (fun c1 => ?_)
    · replace h := ifT c1 h
      refine b_sub [0, 1, 2, 3, 4] rfl ?_
      exact t8_offsetsOf_70  a1  rec4 hrec4 x2 x3 x4 _ _ _ h
    · replace h := ifF c1 h
      refine b_iload dX8_offsetsOf_29 (k := 4) rfl ?_
      refine b_ifeq (tgt := 61) dX8_offsetsOf_31 (by decide) (fun c2 => ?_) (fun c2 => ?_)
      · replace h := ifT c2 h
        refine b_iconst (v := 0) dX8_offsetsOf_61 (by decide) ?_
        refine b_istore (lv' := [(4, vI 0), (0, vR 32 0), (1, vI a1), (2, vI x2), (3, vI x3), (5, vI x5)]) dX8_offsetsOf_62 (by decide) rfl ?_
        obtain ⟨y3, ey3, h⟩ := nmE h
        refine b_iinc (v := y3) (lv' := [(5, vI y3), (4, vI 0), (0, vR 32 0), (1, vI a1), (2, vI x2), (3, vI x3)]) dX8_offsetsOf_64 (k := 5) rfl ey3.symm (by decide) rfl ?_
        refine b_goto (tgt := 20) dX8_offsetsOf_67 (by decide) ?_
        refine b_sub [2, 3, 4, 5, 1, 0] rfl ?_
        exact ih x2 x3 0 y3 _ _ _ h
      · replace h := ifF c2 h
        refine b_aload_n dX8_offsetsOf_34 rfl (k := 0) rfl ?_
        refine b_iload_n dX8_offsetsOf_35 rfl (k := 1) rfl ?_
        refine b_iload_n dX8_offsetsOf_36 rfl (k := 3) rfl ?_
        refine b_aload_n dX8_offsetsOf_37 rfl (k := 0) rfl ?_
        refine b_getF fl8_75 ob32 rfl rfl dX8_offsetsOf_38 ?_
        refine b_iload dX8_offsetsOf_41 (k := 5) rfl ?_
        obtain ⟨g4, h⟩ := gdE h
        refine b_iald ar32_38 g4 rfl dX8_offsetsOf_43 ?_
        obtain ⟨r6, w5, hw5, h⟩ := bdO h
        refine b_callVi mv8_howBy ml8_303 ob32 (s8_howBy a1 x3 (w.1 32 38 (Int32.toNatClampNeg x5))  _ _ _ hw5) rfl (by decide) (by decide) (Nat.le_of_ble_eq_true rfl) rfl dX8_offsetsOf_44 ?_
        refine b_aload_n dX8_offsetsOf_47 rfl (k := 0) rfl ?_
        refine b_getF fl8_78 ob32 rfl rfl dX8_offsetsOf_48 ?_
        refine b_iload dX8_offsetsOf_51 (k := 5) rfl ?_
        obtain ⟨g7, h⟩ := gdE h
        refine b_iald ar32_39 g7 rfl dX8_offsetsOf_53 ?_
        refine b_icne (tgt := 61) dX8_offsetsOf_54 (by decide) (fun c8 => ?_) (fun c8 => ?_)
        · replace h := ifF c8 h
          refine b_iconst (v := 0) dX8_offsetsOf_61 (by decide) ?_
          refine b_istore (lv' := [(4, vI 0), (0, vR 32 0), (1, vI a1), (2, vI x2), (3, vI x3), (5, vI x5)]) dX8_offsetsOf_62 (by decide) rfl ?_
          obtain ⟨y9, ey9, h⟩ := nmE h
          refine b_iinc (v := y9) (lv' := [(5, vI y9), (4, vI 0), (0, vR 32 0), (1, vI a1), (2, vI x2), (3, vI x3)]) dX8_offsetsOf_64 (k := 5) rfl ey9.symm (by decide) rfl ?_
          refine b_goto (tgt := 20) dX8_offsetsOf_67 (by decide) ?_
          refine b_sub [2, 3, 4, 5, 1, 0] rfl ?_
          exact ih x2 x3 0 y9 _ _ _ h
        · replace h := ifT c8 h
          refine b_iconst (v := 1) dX8_offsetsOf_57 (by decide) ?_
          refine b_goto (tgt := 62) dX8_offsetsOf_58 (by decide) ?_
          refine b_istore (lv' := [(4, vI 1), (0, vR 32 0), (1, vI a1), (2, vI x2), (3, vI x3), (5, vI x5)]) dX8_offsetsOf_62 (by decide) rfl ?_
          obtain ⟨y10, ey10, h⟩ := nmE h
          refine b_iinc (v := y10) (lv' := [(5, vI y10), (4, vI 1), (0, vR 32 0), (1, vI a1), (2, vI x2), (3, vI x3)]) dX8_offsetsOf_64 (k := 5) rfl ey10.symm (by decide) rfl ?_
          refine b_goto (tgt := 20) dX8_offsetsOf_67 (by decide) ?_
          refine b_sub [2, 3, 4, 5, 1, 0] rfl ?_
          exact ih x2 x3 1 y10 _ _ _ h
def f8_offsetsOf_4  (a1 : Int32)  : Nat → Int32 → Int32 → Mem → Option (Int32 × Mem)
  | 0, _, _, _ => none
  | n + 1, x2, x3, w =>
  if a1 < 0 ∨ 8 ≤ Int32.toNatClampNeg a1 then none else if (w.1 32 5 (Int32.toNatClampNeg a1)) ≤ x3 then (some (x2, w)) else (f8_offsetsOf_20  a1 (f8_offsetsOf_4  a1  n) 100000 x2 x3 1 0 w)
set_option maxRecDepth 100000 in
set_option maxHeartbeats 4000000 in
theorem t8_offsetsOf_4   (a1 : Int32)    : ∀ (n : Nat) (x2 : Int32) (x3 : Int32) (w w' : Mem) (r : Int32), f8_offsetsOf_4  a1  n x2 x3 w = some (r, w') → Bk yX8_offsetsOf cX8_offsetsOf 6 (some .int) 5 4 [(0, vR 32 0), (1, vI a1), (2, vI x2), (3, vI x3)] [] w (some (vI r)) w' := by
  intro n
  induction n with
  | zero =>
    intro x2 x3 w w' r h
    cases (show (none : Option (Int32 × Mem)) = some _ from h)
  | succ n ih =>
    intro x2 x3 w w' r h
    rw [f8_offsetsOf_4] at h
    refine b_iload_n dX8_offsetsOf_4 rfl (k := 3) rfl ?_
    refine b_aload_n dX8_offsetsOf_5 rfl (k := 0) rfl ?_
    refine b_getF fl8_13 ob32 rfl rfl dX8_offsetsOf_6 ?_
    refine b_iload_n dX8_offsetsOf_9 rfl (k := 1) rfl ?_
    obtain ⟨g1, h⟩ := gdE h
    refine b_iald ar32_5 g1 rfl dX8_offsetsOf_10 ?_
    refine b_icge (tgt := 91) dX8_offsetsOf_11 (by decide) (fun c2 => ?_) (fun c2 => ?_)
    · replace h := ifT c2 h
      refine b_iload_n dX8_offsetsOf_91 rfl (k := 2) rfl ?_
      obtain ⟨rfl, rfl⟩ := rtE h
      exact b_iret rfl dX8_offsetsOf_92
    · replace h := ifF c2 h
      refine b_iconst (v := 1) dX8_offsetsOf_14 (by decide) ?_
      refine b_istore (lv' := [(4, vI 1), (0, vR 32 0), (1, vI a1), (2, vI x2), (3, vI x3)]) dX8_offsetsOf_15 (by decide) rfl ?_
      refine b_iconst (v := 0) dX8_offsetsOf_17 (by decide) ?_
      refine b_istore (lv' := [(5, vI 0), (4, vI 1), (0, vR 32 0), (1, vI a1), (2, vI x2), (3, vI x3)]) dX8_offsetsOf_18 (by decide) rfl ?_
      refine b_sub [2, 3, 4, 5, 1, 0] rfl ?_
      exact t8_offsetsOf_20  a1  (f8_offsetsOf_4  a1  n) ih 100000 x2 x3 1 0 _ _ _ h
def f8_offsetsOf  (a1 : Int32)   (w : Mem) : Option (Int32 × Mem) :=
  f8_offsetsOf_4  a1  100000 0 0 w
set_option maxRecDepth 100000 in
set_option maxHeartbeats 4000000 in
theorem t8_offsetsOf   (a1 : Int32)     (w w' : Mem) (r : Int32) (h : f8_offsetsOf  a1   w = some (r, w')) : Bk yX8_offsetsOf cX8_offsetsOf 6 (some .int) 5 0 [(0, vR 32 0), (1, vI a1)] [] w (some (vI r)) w' := by
  unfold f8_offsetsOf at h
  refine b_iconst (v := 0) dX8_offsetsOf_0 (by decide) ?_
  refine b_istore_n (lv' := [(2, vI 0), (0, vR 32 0), (1, vI a1)]) dX8_offsetsOf_1 rfl (by decide) rfl ?_
  refine b_iconst (v := 0) dX8_offsetsOf_2 (by decide) ?_
  refine b_istore_n (lv' := [(3, vI 0), (2, vI 0), (0, vR 32 0), (1, vI a1)]) dX8_offsetsOf_3 rfl (by decide) rfl ?_
  refine b_sub [2, 3, 1, 0] rfl ?_
  exact t8_offsetsOf_4  a1    100000 0 0 _ _ _ h
theorem s8_offsetsOf (a1 : Int32)  (w w' : Mem) (r : Int32) (h : f8_offsetsOf  a1  w = some (r, w')) : Sp yX8_offsetsOf cX8_offsetsOf 6 (some .int) 5 [vR 32 0, vI a1] w (some (vI r)) w' := sp_of (by decide) (fun _ => rfl) (fun _ => Nat.le_of_ble_eq_true rfl) (t8_offsetsOf  a1   _ _ _ h)
-- X8_went OneADayModel
def f8_went_98  (a1 : Int32) (a2 : Int32) (rec39 : Int32 → Int32 → Mem → Option (Int32 × Mem)) (x3 : Int32) (x4 : Int32) (x5 : Int32) (w : Mem) : Option (Int32 × Mem) :=
  bndO (f8_bits x5 w) fun r2 w1 => if r2 ≤ 1 then (bnd (x4 + 1) fun y4 => rec39 x3 y4 w1) else (some (x4, w1))
set_option maxRecDepth 100000 in
set_option maxHeartbeats 4000000 in
theorem t8_went_98   (a1 : Int32) (a2 : Int32)  (rec39 : Int32 → Int32 → Mem → Option (Int32 × Mem)) (hrec39 : ∀ (x3 : Int32) (x4 : Int32) (w w' : Mem) (r : Int32), rec39 x3 x4 w = some (r, w') → Bk yX8_went cX8_went 7 (some .int) 6 39 [(0, vR 32 0), (1, vI a1), (3, vI x3), (4, vI x4)] [] w (some (vI r)) w') (x3 : Int32) (x4 : Int32) (x5 : Int32) (w w' : Mem) (r : Int32) (h : f8_went_98  a1 a2 rec39 x3 x4 x5 w = some (r, w')) : Bk yX8_went cX8_went 7 (some .int) 6 98 [(0, vR 32 0), (1, vI a1), (3, vI x3), (4, vI x4), (5, vI x5)] [] w (some (vI r)) w' := by
  unfold f8_went_98 at h
  refine b_iload dX8_went_98 (k := 4) rfl ?_
  obtain ⟨r2, w1, hw1, h⟩ := bdO h
  refine b_callSi ms8_bits ml8_216 (s8_bits x5  _ _ _ hw1) rfl (by decide) (by decide) (Nat.le_of_ble_eq_true rfl) rfl dX8_went_100 ?_
  refine b_iconst (v := 1) dX8_went_103 (by decide) ?_
  refine b_icle (tgt := 110) dX8_went_104 (by decide) (fun c3 => ?_) (fun c3 => ?_)
  · replace h := ifT c3 h
    obtain ⟨y4, ey4, h⟩ := nmE h
    refine b_iinc (v := y4) (lv' := [(4, vI y4), (0, vR 32 0), (1, vI a1), (3, vI x3), (5, vI x5)]) dX8_went_110 (k := 3) rfl ey4.symm (by decide) rfl ?_
    refine b_goto (tgt := 39) dX8_went_113 (by decide) ?_
    refine b_sub [1, 2, 3, 0] rfl ?_
    exact hrec39 x3 y4 _ _ _ h
  · replace h := ifF c3 h
    refine b_iload dX8_went_107 (k := 3) rfl ?_
    obtain ⟨rfl, rfl⟩ := rtE h
    exact b_iret rfl dX8_went_109
def f8_went_52  (a1 : Int32) (a2 : Int32) (rec39 : Int32 → Int32 → Mem → Option (Int32 × Mem)) : Nat → Int32 → Int32 → Int32 → Int32 → Mem → Option (Int32 × Mem)
  | 0, _, _, _, _, _ => none
  | n + 1, x3, x4, x5, x6, w =>
  if a1 < 0 ∨ 8 ≤ Int32.toNatClampNeg a1 then none else if (w.1 32 5 (Int32.toNatClampNeg a1)) ≤ x6 then (f8_went_98  a1 a2 rec39 x3 x4 x5 w) else (bndO (f8_has x3 x6 w) fun r4 w3 => if r4 = 0 then (bnd (x5 ||| 0) fun y6 => bnd (x6 + 1) fun y7 => f8_went_52  a1 a2 rec39 n x3 x4 y6 y7 w3) else (bndO (f8_howBy a1 x6 x4 w3) fun r9 w8 => bnd (x5 ||| (jshl 1 r9)) fun y10 => bnd (x6 + 1) fun y11 => f8_went_52  a1 a2 rec39 n x3 x4 y10 y11 w8))
set_option maxRecDepth 100000 in
set_option maxHeartbeats 4000000 in
theorem t8_went_52   (a1 : Int32) (a2 : Int32)  (rec39 : Int32 → Int32 → Mem → Option (Int32 × Mem)) (hrec39 : ∀ (x3 : Int32) (x4 : Int32) (w w' : Mem) (r : Int32), rec39 x3 x4 w = some (r, w') → Bk yX8_went cX8_went 7 (some .int) 6 39 [(0, vR 32 0), (1, vI a1), (3, vI x3), (4, vI x4)] [] w (some (vI r)) w') : ∀ (n : Nat) (x3 : Int32) (x4 : Int32) (x5 : Int32) (x6 : Int32) (w w' : Mem) (r : Int32), f8_went_52  a1 a2 rec39 n x3 x4 x5 x6 w = some (r, w') → Bk yX8_went cX8_went 7 (some .int) 6 52 [(0, vR 32 0), (1, vI a1), (3, vI x3), (4, vI x4), (5, vI x5), (6, vI x6)] [] w (some (vI r)) w' := by
  intro n
  induction n with
  | zero =>
    intro x3 x4 x5 x6 w w' r h
    cases (show (none : Option (Int32 × Mem)) = some _ from h)
  | succ n ih =>
    intro x3 x4 x5 x6 w w' r h
    rw [f8_went_52] at h
    refine b_iload dX8_went_52 (k := 5) rfl ?_
    refine b_aload_n dX8_went_54 rfl (k := 0) rfl ?_
    refine b_getF fl8_13 ob32 rfl rfl dX8_went_55 ?_
    refine b_iload_n dX8_went_58 rfl (k := 1) rfl ?_
    obtain ⟨g1, h⟩ := gdE h
    refine b_iald ar32_5 g1 rfl dX8_went_59 ?_
    refine b_icge (tgt := 98) dX8_went_60 (by decide) (fun c2 => ?_) (fun c2 => ?_)
    · replace h := ifT c2 h
      refine b_sub [0, 1, 2, 3, 4] rfl ?_
      exact t8_went_98  a1 a2  rec39 hrec39 x3 x4 x5 _ _ _ h
    · replace h := ifF c2 h
      refine b_iload dX8_went_63 (k := 4) rfl ?_
      refine b_iload_n dX8_went_65 rfl (k := 2) rfl ?_
      refine b_iload dX8_went_66 (k := 5) rfl ?_
      obtain ⟨r4, w3, hw3, h⟩ := bdO h
      refine b_callSi ms8_has ml8_196 (s8_has x3 x6  _ _ _ hw3) rfl (by decide) (by decide) (Nat.le_of_ble_eq_true rfl) rfl dX8_went_68 ?_
      refine b_ifeq (tgt := 88) dX8_went_71 (by decide) (fun c5 => ?_) (fun c5 => ?_)
      · replace h := ifT c5 h
        refine b_iconst (v := 0) dX8_went_88 (by decide) ?_
        refine b_ior dX8_went_89 ?_
        obtain ⟨y6, ey6, h⟩ := nmE h
        refine b_nmI ey6 ?_
        refine b_istore (lv' := [(5, vI y6), (0, vR 32 0), (1, vI a1), (3, vI x3), (4, vI x4), (6, vI x6)]) dX8_went_90 (by decide) rfl ?_
        obtain ⟨y7, ey7, h⟩ := nmE h
        refine b_iinc (v := y7) (lv' := [(6, vI y7), (5, vI y6), (0, vR 32 0), (1, vI a1), (3, vI x3), (4, vI x4)]) dX8_went_92 (k := 5) rfl ey7.symm (by decide) rfl ?_
        refine b_goto (tgt := 52) dX8_went_95 (by decide) ?_
        refine b_sub [2, 3, 4, 5, 1, 0] rfl ?_
        exact ih x3 x4 y6 y7 _ _ _ h
      · replace h := ifF c5 h
        refine b_iconst (v := 1) dX8_went_74 (by decide) ?_
        refine b_aload_n dX8_went_75 rfl (k := 0) rfl ?_
        refine b_iload_n dX8_went_76 rfl (k := 1) rfl ?_
        refine b_iload dX8_went_77 (k := 5) rfl ?_
        refine b_iload dX8_went_79 (k := 3) rfl ?_
        obtain ⟨r9, w8, hw8, h⟩ := bdO h
        refine b_callVi mv8_howBy ml8_303 ob32 (s8_howBy a1 x6 x4  _ _ _ hw8) rfl (by decide) (by decide) (Nat.le_of_ble_eq_true rfl) rfl dX8_went_81 ?_
        refine b_ishl dX8_went_84 ?_
        refine b_goto (tgt := 89) dX8_went_85 (by decide) ?_
        refine b_ior dX8_went_89 ?_
        obtain ⟨y10, ey10, h⟩ := nmE h
        refine b_nmI ey10 ?_
        refine b_istore (lv' := [(5, vI y10), (0, vR 32 0), (1, vI a1), (3, vI x3), (4, vI x4), (6, vI x6)]) dX8_went_90 (by decide) rfl ?_
        obtain ⟨y11, ey11, h⟩ := nmE h
        refine b_iinc (v := y11) (lv' := [(6, vI y11), (5, vI y10), (0, vR 32 0), (1, vI a1), (3, vI x3), (4, vI x4)]) dX8_went_92 (k := 5) rfl ey11.symm (by decide) rfl ?_
        refine b_goto (tgt := 52) dX8_went_95 (by decide) ?_
        refine b_sub [2, 3, 4, 5, 1, 0] rfl ?_
        exact ih x3 x4 y10 y11 _ _ _ h
def f8_went_39  (a1 : Int32) (a2 : Int32)  : Nat → Int32 → Int32 → Mem → Option (Int32 × Mem)
  | 0, _, _, _ => none
  | n + 1, x3, x4, w =>
  if 100 ≤ x4 then (some ((-1), w)) else (f8_went_52  a1 a2 (f8_went_39  a1 a2  n) 100000 x3 x4 0 0 w)
set_option maxRecDepth 100000 in
set_option maxHeartbeats 4000000 in
theorem t8_went_39   (a1 : Int32) (a2 : Int32)    : ∀ (n : Nat) (x3 : Int32) (x4 : Int32) (w w' : Mem) (r : Int32), f8_went_39  a1 a2  n x3 x4 w = some (r, w') → Bk yX8_went cX8_went 7 (some .int) 6 39 [(0, vR 32 0), (1, vI a1), (3, vI x3), (4, vI x4)] [] w (some (vI r)) w' := by
  intro n
  induction n with
  | zero =>
    intro x3 x4 w w' r h
    cases (show (none : Option (Int32 × Mem)) = some _ from h)
  | succ n ih =>
    intro x3 x4 w w' r h
    rw [f8_went_39] at h
    refine b_iload dX8_went_39 (k := 3) rfl ?_
    refine b_bipush (v := 100) dX8_went_41 (by decide) ?_
    refine b_icge (tgt := 116) dX8_went_43 (by decide) (fun c1 => ?_) (fun c1 => ?_)
    · replace h := ifT c1 h
      refine b_iconst (v := (-1)) dX8_went_116 (by decide) ?_
      obtain ⟨rfl, rfl⟩ := rtE h
      exact b_iret rfl dX8_went_117
    · replace h := ifF c1 h
      refine b_iconst (v := 0) dX8_went_46 (by decide) ?_
      refine b_istore (lv' := [(5, vI 0), (0, vR 32 0), (1, vI a1), (3, vI x3), (4, vI x4)]) dX8_went_47 (by decide) rfl ?_
      refine b_iconst (v := 0) dX8_went_49 (by decide) ?_
      refine b_istore (lv' := [(6, vI 0), (5, vI 0), (0, vR 32 0), (1, vI a1), (3, vI x3), (4, vI x4)]) dX8_went_50 (by decide) rfl ?_
      refine b_sub [2, 3, 4, 5, 1, 0] rfl ?_
      exact t8_went_52  a1 a2  (f8_went_39  a1 a2  n) ih 100000 x3 x4 0 0 _ _ _ h
def f8_went  (a1 : Int32) (a2 : Int32)   (w : Mem) : Option (Int32 × Mem) :=
  bndO (f8_isVillage a1 w) fun r2 w1 => if r2 = 0 then (some ((-1000000001), w1)) else (bndO (f8_in (Int32.toInt64 a2) 0 1 w1) fun r5 w4 => if r5 = 0 then (some ((-1000000002), w4)) else (bndO (f8_offsetsOf a1 w4) fun r8 w7 => if a2 = 0 then (some (r8, w7)) else (f8_went_39  a1 a2  100000 r8 0 w7)))
set_option maxRecDepth 100000 in
set_option maxHeartbeats 4000000 in
theorem t8_went   (a1 : Int32) (a2 : Int32)     (w w' : Mem) (r : Int32) (h : f8_went  a1 a2   w = some (r, w')) : Bk yX8_went cX8_went 7 (some .int) 6 0 [(0, vR 32 0), (1, vI a1), (2, vI a2)] [] w (some (vI r)) w' := by
  unfold f8_went at h
  refine b_aload_n dX8_went_0 rfl (k := 0) rfl ?_
  refine b_iload_n dX8_went_1 rfl (k := 1) rfl ?_
  obtain ⟨r2, w1, hw1, h⟩ := bdO h
  refine b_callVi mv8_isVillage ml8_185 ob32 (s8_isVillage a1  _ _ _ hw1) rfl (by decide) (by decide) (Nat.le_of_ble_eq_true rfl) rfl dX8_went_2 ?_
  refine b_ifne (tgt := 11) dX8_went_5 (by decide) (fun c3 => ?_) (fun c3 => ?_)
  · replace h := ifF c3 h
    refine b_iload_n dX8_went_11 rfl (k := 2) rfl ?_
    refine b_i2l dX8_went_12 ?_
    refine b_lconst (v := 0) dX8_went_13 (by decide) ?_
    refine b_lconst (v := 1) dX8_went_14 (by decide) ?_
    obtain ⟨r5, w4, hw4, h⟩ := bdO h
    refine b_callSi ms8_in ml8_97 (s8_in (Int32.toInt64 a2) 0 1  _ _ _ hw4) rfl (by decide) (by decide) (Nat.le_of_ble_eq_true rfl) rfl dX8_went_15 ?_
    refine b_ifne (tgt := 24) dX8_went_18 (by decide) (fun c6 => ?_) (fun c6 => ?_)
    · replace h := ifF c6 h
      refine b_aload_n dX8_went_24 rfl (k := 0) rfl ?_
      refine b_iload_n dX8_went_25 rfl (k := 1) rfl ?_
      obtain ⟨r8, w7, hw7, h⟩ := bdO h
      refine b_callVi mv8_offsetsOf ml8_307 ob32 (s8_offsetsOf a1  _ _ _ hw7) rfl (by decide) (by decide) (Nat.le_of_ble_eq_true rfl) rfl dX8_went_26 ?_
      refine b_istore_n (lv' := [(3, vI r8), (0, vR 32 0), (1, vI a1), (2, vI a2)]) dX8_went_29 rfl (by decide) rfl ?_
      refine b_iload_n dX8_went_30 rfl (k := 3) rfl ?_
      refine b_ifne (tgt := 36) dX8_went_31 (by decide) (fun c9 => ?_) (fun c9 => ?_)
      · replace h := ifF c9 h
        refine b_iconst (v := 0) dX8_went_36 (by decide) ?_
        refine b_istore (lv' := [(4, vI 0), (3, vI r8), (0, vR 32 0), (1, vI a1), (2, vI a2)]) dX8_went_37 (by decide) rfl ?_
        refine b_sub [2, 3, 1, 0] rfl ?_
        exact t8_went_39  a1 a2    100000 r8 0 _ _ _ h
      · replace h := ifT c9 h
        refine b_iload_n dX8_went_34 rfl (k := 0) rfl ?_
        obtain ⟨rfl, rfl⟩ := rtE h
        exact b_iret rfl dX8_went_35
    · replace h := ifT c6 h
      refine b_ldc dX8_went_21 kk8_103 ?_
      obtain ⟨rfl, rfl⟩ := rtE h
      exact b_iret rfl dX8_went_23
  · replace h := ifT c3 h
    refine b_ldc dX8_went_8 kk8_189 ?_
    obtain ⟨rfl, rfl⟩ := rtE h
    exact b_iret rfl dX8_went_10
theorem s8_went (a1 : Int32) (a2 : Int32)  (w w' : Mem) (r : Int32) (h : f8_went  a1 a2  w = some (r, w')) : Sp yX8_went cX8_went 7 (some .int) 6 [vR 32 0, vI a1, vI a2] w (some (vI r)) w' := sp_of (by decide) (fun _ => rfl) (fun _ => Nat.le_of_ble_eq_true rfl) (t8_went  a1 a2   _ _ _ h)
-- X8_write OneADayModel
def f8_write_16  (a1 : Int32) (a2 : Int32)   (w : Mem) : Option (Int32 × Mem) :=
  bndO (f8_in (Int32.toInt64 a1) 0 9999 w) fun r2 w1 => if r2 = 0 then (some ((-1000000002), w1)) else (if (w1.1 32 40 0) = 15 then (some ((-1000000004), w1)) else (if (w1.1 32 40 0) < 0 ∨ 15 ≤ Int32.toNatClampNeg (w1.1 32 40 0) then none else bnd (sI w1 32 41 (Int32.toNatClampNeg (w1.1 32 40 0)) a1) fun w6 => if (w6.1 32 40 0) < 0 ∨ 15 ≤ Int32.toNatClampNeg (w6.1 32 40 0) then none else bnd (sI w6 32 42 (Int32.toNatClampNeg (w6.1 32 40 0)) a2) fun w8 => bnd (sI w8 32 40 0 ((w8.1 32 40 0) + 1)) fun w9 => some (w9.1 32 40 0, w9)))
set_option maxRecDepth 100000 in
set_option maxHeartbeats 4000000 in
theorem t8_write_16   (a1 : Int32) (a2 : Int32)     (w w' : Mem) (r : Int32) (h : f8_write_16  a1 a2   w = some (r, w')) : Bk yX8_write cX8_write 3 (some .int) 3 16 [(0, vR 32 0), (1, vI a1), (2, vI a2)] [] w (some (vI r)) w' := by
  unfold f8_write_16 at h
  refine b_iload_n dX8_write_16 rfl (k := 1) rfl ?_
  refine b_i2l dX8_write_17 ?_
  refine b_lconst (v := 0) dX8_write_18 (by decide) ?_
  refine b_ldc2 dX8_write_19 kl8_208 ?_
  obtain ⟨r2, w1, hw1, h⟩ := bdO h
  refine b_callSi ms8_in ml8_97 (s8_in (Int32.toInt64 a1) 0 9999  _ _ _ hw1) rfl (by decide) (by decide) (Nat.le_of_ble_eq_true rfl) rfl dX8_write_22 ?_
  refine b_ifne (tgt := 31) dX8_write_25 (by decide) (fun c3 => ?_) (fun c3 => ?_)
  · replace h := ifF c3 h
    refine b_aload_n dX8_write_31 rfl (k := 0) rfl ?_
    refine b_getI fl8_179 ob32 rfl dX8_write_32 ?_
    refine b_bipush (v := 15) dX8_write_35 (by decide) ?_
    refine b_icne (tgt := 43) dX8_write_37 (by decide) (fun c4 => ?_) (fun c4 => ?_)
    · replace h := ifF c4 h
      refine b_aload_n dX8_write_43 rfl (k := 0) rfl ?_
      refine b_getF fl8_81 ob32 rfl rfl dX8_write_44 ?_
      refine b_aload_n dX8_write_47 rfl (k := 0) rfl ?_
      refine b_getI fl8_179 ob32 rfl dX8_write_48 ?_
      refine b_iload_n dX8_write_51 rfl (k := 1) rfl ?_
      obtain ⟨g5, h⟩ := gdE h
      obtain ⟨w6, ew6, h⟩ := nmE h
      refine b_iast ar32_41 g5 rfl dX8_write_52 ?_
      refine b_nmW ew6 ?_
      refine b_aload_n dX8_write_53 rfl (k := 0) rfl ?_
      refine b_getF fl8_84 ob32 rfl rfl dX8_write_54 ?_
      refine b_aload_n dX8_write_57 rfl (k := 0) rfl ?_
      refine b_getI fl8_179 ob32 rfl dX8_write_58 ?_
      refine b_iload_n dX8_write_61 rfl (k := 2) rfl ?_
      obtain ⟨g7, h⟩ := gdE h
      obtain ⟨w8, ew8, h⟩ := nmE h
      refine b_iast ar32_42 g7 rfl dX8_write_62 ?_
      refine b_nmW ew8 ?_
      refine b_aload_n dX8_write_63 rfl (k := 0) rfl ?_
      refine b_dup dX8_write_64 rfl ?_
      refine b_getI fl8_179 ob32 rfl dX8_write_65 ?_
      refine b_iconst (v := 1) dX8_write_68 (by decide) ?_
      refine b_iadd dX8_write_69 ?_
      obtain ⟨w9, ew9, h⟩ := nmE h
      refine b_putI fw8_179 ob32 rfl dX8_write_70 ?_
      refine b_nmW ew9 ?_
      refine b_aload_n dX8_write_73 rfl (k := 0) rfl ?_
      refine b_getI fl8_179 ob32 rfl dX8_write_74 ?_
      obtain ⟨rfl, rfl⟩ := rtE h
      exact b_iret rfl dX8_write_77
    · replace h := ifT c4 h
      refine b_ldc dX8_write_40 kk8_107 ?_
      obtain ⟨rfl, rfl⟩ := rtE h
      exact b_iret rfl dX8_write_42
  · replace h := ifT c3 h
    refine b_ldc dX8_write_28 kk8_103 ?_
    obtain ⟨rfl, rfl⟩ := rtE h
    exact b_iret rfl dX8_write_30
def f8_write  (a1 : Int32) (a2 : Int32)   (w : Mem) : Option (Int32 × Mem) :=
  if a2 = (-1) then (f8_write_16  a1 a2   w) else (bndO (f8_isVillage a2 w) fun r3 w2 => if r3 = 0 then (some ((-1000000001), w2)) else (f8_write_16  a1 a2   w2))
set_option maxRecDepth 100000 in
set_option maxHeartbeats 4000000 in
theorem t8_write   (a1 : Int32) (a2 : Int32)     (w w' : Mem) (r : Int32) (h : f8_write  a1 a2   w = some (r, w')) : Bk yX8_write cX8_write 3 (some .int) 3 0 [(0, vR 32 0), (1, vI a1), (2, vI a2)] [] w (some (vI r)) w' := by
  unfold f8_write at h
  refine b_iload_n dX8_write_0 rfl (k := 2) rfl ?_
  refine b_iconst (v := (-1)) dX8_write_1 (by decide) ?_
  refine b_iceq (tgt := 16) dX8_write_2 (by decide) (fun c1 => ?_) (fun c1 => ?_)
  · replace h := ifT c1 h
    refine b_sub [0, 1, 2] rfl ?_
    exact t8_write_16  a1 a2     _ _ _ h
  · replace h := ifF c1 h
    refine b_aload_n dX8_write_5 rfl (k := 0) rfl ?_
    refine b_iload_n dX8_write_6 rfl (k := 2) rfl ?_
    obtain ⟨r3, w2, hw2, h⟩ := bdO h
    refine b_callVi mv8_isVillage ml8_185 ob32 (s8_isVillage a2  _ _ _ hw2) rfl (by decide) (by decide) (Nat.le_of_ble_eq_true rfl) rfl dX8_write_7 ?_
    refine b_ifne (tgt := 16) dX8_write_10 (by decide) (fun c4 => ?_) (fun c4 => ?_)
    · replace h := ifF c4 h
      refine b_sub [0, 1, 2] rfl ?_
      exact t8_write_16  a1 a2     _ _ _ h
    · replace h := ifT c4 h
      refine b_ldc dX8_write_13 kk8_189 ?_
      obtain ⟨rfl, rfl⟩ := rtE h
      exact b_iret rfl dX8_write_15
theorem s8_write (a1 : Int32) (a2 : Int32)  (w w' : Mem) (r : Int32) (h : f8_write  a1 a2  w = some (r, w')) : Sp yX8_write cX8_write 3 (some .int) 3 [vR 32 0, vI a1, vI a2] w (some (vI r)) w' := sp_of (by decide) (fun _ => rfl) (fun _ => Nat.le_of_ble_eq_true rfl) (t8_write  a1 a2   _ _ _ h)
-- X8_tear OneADayModel
def f8_tear     (w : Mem) : Option (Int32 × Mem) :=
  bnd ((w.1 32 37 0) + (w.1 32 40 0)) fun y1 => bnd (sI w 32 37 0 0) fun w2 => bnd (sI w2 32 40 0 0) fun w3 => some (y1, w3)
set_option maxRecDepth 100000 in
set_option maxHeartbeats 4000000 in
theorem t8_tear        (w w' : Mem) (r : Int32) (h : f8_tear     w = some (r, w')) : Bk yX8_tear cX8_tear 2 (some .int) 1 0 [(0, vR 32 0)] [] w (some (vI r)) w' := by
  unfold f8_tear at h
  refine b_aload_n dX8_tear_0 rfl (k := 0) rfl ?_
  refine b_getI fl8_176 ob32 rfl dX8_tear_1 ?_
  refine b_aload_n dX8_tear_4 rfl (k := 0) rfl ?_
  refine b_getI fl8_179 ob32 rfl dX8_tear_5 ?_
  refine b_iadd dX8_tear_8 ?_
  obtain ⟨y1, ey1, h⟩ := nmE h
  refine b_nmI ey1 ?_
  refine b_istore_n (lv' := [(1, vI y1), (0, vR 32 0)]) dX8_tear_9 rfl (by decide) rfl ?_
  refine b_aload_n dX8_tear_10 rfl (k := 1) rfl ?_
  refine b_iconst (v := 0) dX8_tear_11 (by decide) ?_
  obtain ⟨w2, ew2, h⟩ := nmE h
  refine b_putI fw8_176 ob32 rfl dX8_tear_12 ?_
  refine b_nmW ew2 ?_
  refine b_aload_n dX8_tear_15 rfl (k := 1) rfl ?_
  refine b_iconst (v := 0) dX8_tear_16 (by decide) ?_
  obtain ⟨w3, ew3, h⟩ := nmE h
  refine b_putI fw8_179 ob32 rfl dX8_tear_17 ?_
  refine b_nmW ew3 ?_
  refine b_iload_n dX8_tear_20 rfl (k := 0) rfl ?_
  obtain ⟨rfl, rfl⟩ := rtE h
  exact b_iret rfl dX8_tear_21
theorem s8_tear   (w w' : Mem) (r : Int32) (h : f8_tear    w = some (r, w')) : Sp yX8_tear cX8_tear 2 (some .int) 1 [vR 32 0] w (some (vI r)) w' := sp_of (by decide) (fun _ => rfl) (fun _ => Nat.le_of_ble_eq_true rfl) (t8_tear     _ _ _ h)
-- X8_judge OneADayModel
def f8_judge_48   (rec2 : Int32 → Mem → Option (Int32 × Mem)) (x1 : Int32) (s0 : Int32) (w : Mem) : Option (Int32 × Mem) :=
  if s0 = 0 then (some (x1, w)) else (if x1 < 0 ∨ 15 ≤ Int32.toNatClampNeg x1 then none else bndO (f8_blessed (w.1 32 41 (Int32.toNatClampNeg x1)) w) fun r4 w3 => if x1 < 0 ∨ 15 ≤ Int32.toNatClampNeg x1 then none else if r4 = (w3.1 32 42 (Int32.toNatClampNeg x1)) then (bnd (x1 + 1) fun y7 => rec2 y7 w3) else (some (x1, w3)))
set_option maxRecDepth 100000 in
set_option maxHeartbeats 4000000 in
theorem t8_judge_48     (rec2 : Int32 → Mem → Option (Int32 × Mem)) (hrec2 : ∀ (x1 : Int32) (w w' : Mem) (r : Int32), rec2 x1 w = some (r, w') → Bk yX8_judge cX8_judge 3 (some .int) 3 2 [(0, vR 32 0), (1, vI x1)] [] w (some (vI r)) w') (x1 : Int32) (s0 : Int32) (w w' : Mem) (r : Int32) (h : f8_judge_48   rec2 x1 s0 w = some (r, w')) : Bk yX8_judge cX8_judge 3 (some .int) 3 48 [(0, vR 32 0), (1, vI x1)] [vI s0] w (some (vI r)) w' := by
  unfold f8_judge_48 at h
  refine b_istore_n (lv' := [(2, vI s0), (0, vR 32 0), (1, vI x1)]) dX8_judge_48 rfl (by decide) rfl ?_
  refine b_iload_n dX8_judge_49 rfl (k := 0) rfl ?_
  refine b_ifeq (tgt := 72) dX8_judge_50 (by decide) (fun c1 => ?_) (fun c1 => ?_)
  · replace h := ifT c1 h
    refine b_iload_n dX8_judge_72 rfl (k := 2) rfl ?_
    obtain ⟨rfl, rfl⟩ := rtE h
    exact b_iret rfl dX8_judge_73
  · replace h := ifF c1 h
    refine b_aload_n dX8_judge_53 rfl (k := 1) rfl ?_
    refine b_aload_n dX8_judge_54 rfl (k := 1) rfl ?_
    refine b_getF fl8_81 ob32 rfl rfl dX8_judge_55 ?_
    refine b_iload_n dX8_judge_58 rfl (k := 2) rfl ?_
    obtain ⟨g2, h⟩ := gdE h
    refine b_iald ar32_41 g2 rfl dX8_judge_59 ?_
    obtain ⟨r4, w3, hw3, h⟩ := bdO h
    refine b_callVi mv8_blessed ml8_310 ob32 (s8_blessed (w.1 32 41 (Int32.toNatClampNeg x1))  _ _ _ hw3) rfl (by decide) (by decide) (Nat.le_of_ble_eq_true rfl) rfl dX8_judge_60 ?_
    refine b_aload_n dX8_judge_63 rfl (k := 1) rfl ?_
    refine b_getF fl8_84 ob32 rfl rfl dX8_judge_64 ?_
    refine b_iload_n dX8_judge_67 rfl (k := 2) rfl ?_
    obtain ⟨g5, h⟩ := gdE h
    refine b_iald ar32_42 g5 rfl dX8_judge_68 ?_
    refine b_iceq (tgt := 74) dX8_judge_69 (by decide) (fun c6 => ?_) (fun c6 => ?_)
    · replace h := ifT c6 h
      obtain ⟨y7, ey7, h⟩ := nmE h
      refine b_iinc (v := y7) (lv' := [(1, vI y7), (2, vI s0), (0, vR 32 0)]) dX8_judge_74 (k := 2) rfl ey7.symm (by decide) rfl ?_
      refine b_goto (tgt := 2) dX8_judge_77 (by decide) ?_
      refine b_sub [2, 0] rfl ?_
      exact hrec2 y7 _ _ _ h
    · replace h := ifF c6 h
      refine b_iload_n dX8_judge_72 rfl (k := 2) rfl ?_
      obtain ⟨rfl, rfl⟩ := rtE h
      exact b_iret rfl dX8_judge_73
def f8_judge_2    : Nat → Int32 → Mem → Option (Int32 × Mem)
  | 0, _, _ => none
  | n + 1, x1, w =>
  if (w.1 32 40 0) ≤ x1 then (some ((-1), w)) else (if x1 < 0 ∨ 15 ≤ Int32.toNatClampNeg x1 then none else if (w.1 32 11 0) ≤ (w.1 32 41 (Int32.toNatClampNeg x1)) then (f8_judge_48   (f8_judge_2    n) x1 0 w) else (if x1 < 0 ∨ 15 ≤ Int32.toNatClampNeg x1 then none else if (w.1 32 41 (Int32.toNatClampNeg x1)) < ((w.1 32 11 0) - 60) then (f8_judge_48   (f8_judge_2    n) x1 0 w) else (f8_judge_48   (f8_judge_2    n) x1 1 w)))
set_option maxRecDepth 100000 in
set_option maxHeartbeats 4000000 in
theorem t8_judge_2       : ∀ (n : Nat) (x1 : Int32) (w w' : Mem) (r : Int32), f8_judge_2    n x1 w = some (r, w') → Bk yX8_judge cX8_judge 3 (some .int) 3 2 [(0, vR 32 0), (1, vI x1)] [] w (some (vI r)) w' := by
  intro n
  induction n with
  | zero =>
    intro x1 w w' r h
    cases (show (none : Option (Int32 × Mem)) = some _ from h)
  | succ n ih =>
    intro x1 w w' r h
    rw [f8_judge_2] at h
    refine b_iload_n dX8_judge_2 rfl (k := 1) rfl ?_
    refine b_aload_n dX8_judge_3 rfl (k := 0) rfl ?_
    refine b_getI fl8_179 ob32 rfl dX8_judge_4 ?_
    refine b_icge (tgt := 80) dX8_judge_7 (by decide) (fun c1 => ?_) (fun c1 => ?_)
    · replace h := ifT c1 h
      refine b_iconst (v := (-1)) dX8_judge_80 (by decide) ?_
      obtain ⟨rfl, rfl⟩ := rtE h
      exact b_iret rfl dX8_judge_81
    · replace h := ifF c1 h
      refine b_aload_n dX8_judge_10 rfl (k := 0) rfl ?_
      refine b_getF fl8_81 ob32 rfl rfl dX8_judge_11 ?_
      refine b_iload_n dX8_judge_14 rfl (k := 1) rfl ?_
      obtain ⟨g2, h⟩ := gdE h
      refine b_iald ar32_41 g2 rfl dX8_judge_15 ?_
      refine b_aload_n dX8_judge_16 rfl (k := 0) rfl ?_
      refine b_getF fl8_25 ob32 rfl rfl dX8_judge_17 ?_
      refine b_iconst (v := 0) dX8_judge_20 (by decide) ?_
      refine b_iald ar32_11 (j0 := 0) (by decide) (by decide) dX8_judge_21 ?_
      refine b_icge (tgt := 47) dX8_judge_22 (by decide) (fun c3 => ?_) (fun c3 => ?_)
      · replace h := ifT c3 h
        refine b_iconst (v := 0) dX8_judge_47 (by decide) ?_
        refine b_sub [0, 1] rfl ?_
        exact t8_judge_48    (f8_judge_2    n) ih x1 0 _ _ _ h
      · replace h := ifF c3 h
        refine b_aload_n dX8_judge_25 rfl (k := 0) rfl ?_
        refine b_getF fl8_81 ob32 rfl rfl dX8_judge_26 ?_
        refine b_iload_n dX8_judge_29 rfl (k := 1) rfl ?_
        obtain ⟨g4, h⟩ := gdE h
        refine b_iald ar32_41 g4 rfl dX8_judge_30 ?_
        refine b_aload_n dX8_judge_31 rfl (k := 0) rfl ?_
        refine b_getF fl8_25 ob32 rfl rfl dX8_judge_32 ?_
        refine b_iconst (v := 0) dX8_judge_35 (by decide) ?_
        refine b_iald ar32_11 (j0 := 0) (by decide) (by decide) dX8_judge_36 ?_
        refine b_bipush (v := 60) dX8_judge_37 (by decide) ?_
        refine b_isub dX8_judge_39 ?_
        refine b_iclt (tgt := 47) dX8_judge_40 (by decide) (fun c5 => ?_) (fun c5 => ?_)
        · replace h := ifT c5 h
          refine b_iconst (v := 0) dX8_judge_47 (by decide) ?_
          refine b_sub [0, 1] rfl ?_
          exact t8_judge_48    (f8_judge_2    n) ih x1 0 _ _ _ h
        · replace h := ifF c5 h
          refine b_iconst (v := 1) dX8_judge_43 (by decide) ?_
          refine b_goto (tgt := 48) dX8_judge_44 (by decide) ?_
          refine b_sub [0, 1] rfl ?_
          exact t8_judge_48    (f8_judge_2    n) ih x1 1 _ _ _ h
def f8_judge     (w : Mem) : Option (Int32 × Mem) :=
  f8_judge_2    100000 0 w
set_option maxRecDepth 100000 in
set_option maxHeartbeats 4000000 in
theorem t8_judge        (w w' : Mem) (r : Int32) (h : f8_judge     w = some (r, w')) : Bk yX8_judge cX8_judge 3 (some .int) 3 0 [(0, vR 32 0)] [] w (some (vI r)) w' := by
  unfold f8_judge at h
  refine b_iconst (v := 0) dX8_judge_0 (by decide) ?_
  refine b_istore_n (lv' := [(1, vI 0), (0, vR 32 0)]) dX8_judge_1 rfl (by decide) rfl ?_
  refine b_sub [1, 0] rfl ?_
  exact t8_judge_2      100000 0 _ _ _ h
theorem s8_judge   (w w' : Mem) (r : Int32) (h : f8_judge    w = some (r, w')) : Sp yX8_judge cX8_judge 3 (some .int) 3 [vR 32 0] w (some (vI r)) w' := sp_of (by decide) (fun _ => rfl) (fun _ => Nat.le_of_ble_eq_true rfl) (t8_judge     _ _ _ h)
-- X8_seed OneADayModel
def f8_seed  (a1 : Int32)   (w : Mem) : Option (Int32 × Mem) :=
  if 0 ≤ a1 then (bnd (w.1 32 12 0) fun y2 => bnd (sI w 32 12 0 a1) fun w3 => some (y2, w3)) else (some ((-1000000002), w))
set_option maxRecDepth 100000 in
set_option maxHeartbeats 4000000 in
theorem t8_seed   (a1 : Int32)     (w w' : Mem) (r : Int32) (h : f8_seed  a1   w = some (r, w')) : Bk yX8_seed cX8_seed 3 (some .int) 1 0 [(0, vR 32 0), (1, vI a1)] [] w (some (vI r)) w' := by
  unfold f8_seed at h
  refine b_iload_n dX8_seed_0 rfl (k := 1) rfl ?_
  refine b_ifge (tgt := 7) dX8_seed_1 (by decide) (fun c1 => ?_) (fun c1 => ?_)
  · replace h := ifT c1 h
    refine b_aload_n dX8_seed_7 rfl (k := 0) rfl ?_
    refine b_getI fl8_237 ob32 rfl dX8_seed_8 ?_
    obtain ⟨y2, ey2, h⟩ := nmE h
    refine b_nmI ey2 ?_
    refine b_istore_n (lv' := [(2, vI y2), (0, vR 32 0), (1, vI a1)]) dX8_seed_11 rfl (by decide) rfl ?_
    refine b_aload_n dX8_seed_12 rfl (k := 1) rfl ?_
    refine b_iload_n dX8_seed_13 rfl (k := 2) rfl ?_
    obtain ⟨w3, ew3, h⟩ := nmE h
    refine b_putI fw8_237 ob32 rfl dX8_seed_14 ?_
    refine b_nmW ew3 ?_
    refine b_iload_n dX8_seed_17 rfl (k := 0) rfl ?_
    obtain ⟨rfl, rfl⟩ := rtE h
    exact b_iret rfl dX8_seed_18
  · replace h := ifF c1 h
    refine b_ldc dX8_seed_4 kk8_103 ?_
    obtain ⟨rfl, rfl⟩ := rtE h
    exact b_iret rfl dX8_seed_6
theorem s8_seed (a1 : Int32)  (w w' : Mem) (r : Int32) (h : f8_seed  a1  w = some (r, w')) : Sp yX8_seed cX8_seed 3 (some .int) 1 [vR 32 0, vI a1] w (some (vI r)) w' := sp_of (by decide) (fun _ => rfl) (fun _ => Nat.le_of_ble_eq_true rfl) (t8_seed  a1   _ _ _ h)
