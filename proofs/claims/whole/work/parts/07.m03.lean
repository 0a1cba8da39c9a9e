-- J6_bitCount_0f7a4 java/lang/Integer
def f6_bitCount_0f7a4    (x0 : Int32) (w : Mem) : Option (Int32 × Mem) :=
  bnd (x0 - ((jushr x0 1) &&& 1431655765)) fun y1 => bnd ((y1 &&& 858993459) + ((jushr y1 2) &&& 858993459)) fun y2 => bnd ((y2 + (jushr y2 4)) &&& 252645135) fun y3 => bnd (y3 + (jushr y3 8)) fun y4 => bnd (y4 + (jushr y4 16)) fun y5 => some (y5 &&& 63, w)
set_option maxRecDepth 100000 in
set_option maxHeartbeats 4000000 in
theorem t6_bitCount_0f7a4       (x0 : Int32) (w w' : Mem) (r : Int32) (h : f6_bitCount_0f7a4    x0 w = some (r, w')) : Bk yJ6_bitCount_0f7a4 cJ6_bitCount_0f7a4 1 (some .int) 1 0 [(0, vI x0)] [] w (some (vI r)) w' := by
  unfold f6_bitCount_0f7a4 at h
  refine b_iload_n dJ6_bitCount_0f7a4_0 rfl (k := 0) rfl ?_
  refine b_iload_n dJ6_bitCount_0f7a4_1 rfl (k := 0) rfl ?_
  refine b_iconst (v := 1) dJ6_bitCount_0f7a4_2 (by decide) ?_
  refine b_iushr dJ6_bitCount_0f7a4_3 ?_
  refine b_ldcw dJ6_bitCount_0f7a4_4 kkJ6_265 ?_
  refine b_iand dJ6_bitCount_0f7a4_7 ?_
  refine b_isub dJ6_bitCount_0f7a4_8 ?_
  obtain ⟨y1, ey1, h⟩ := nmE h
  refine b_nmI ey1 ?_
  refine b_istore_n (lv' := [(0, vI y1)]) dJ6_bitCount_0f7a4_9 rfl (by decide) rfl ?_
  refine b_iload_n dJ6_bitCount_0f7a4_10 rfl (k := 0) rfl ?_
  refine b_ldcw dJ6_bitCount_0f7a4_11 kkJ6_266 ?_
  refine b_iand dJ6_bitCount_0f7a4_14 ?_
  refine b_iload_n dJ6_bitCount_0f7a4_15 rfl (k := 0) rfl ?_
  refine b_iconst (v := 2) dJ6_bitCount_0f7a4_16 (by decide) ?_
  refine b_iushr dJ6_bitCount_0f7a4_17 ?_
  refine b_ldcw dJ6_bitCount_0f7a4_18 kkJ6_266 ?_
  refine b_iand dJ6_bitCount_0f7a4_21 ?_
  refine b_iadd dJ6_bitCount_0f7a4_22 ?_
  obtain ⟨y2, ey2, h⟩ := nmE h
  refine b_nmI ey2 ?_
  refine b_istore_n (lv' := [(0, vI y2)]) dJ6_bitCount_0f7a4_23 rfl (by decide) rfl ?_
  refine b_iload_n dJ6_bitCount_0f7a4_24 rfl (k := 0) rfl ?_
  refine b_iload_n dJ6_bitCount_0f7a4_25 rfl (k := 0) rfl ?_
  refine b_iconst (v := 4) dJ6_bitCount_0f7a4_26 (by decide) ?_
  refine b_iushr dJ6_bitCount_0f7a4_27 ?_
  refine b_iadd dJ6_bitCount_0f7a4_28 ?_
  refine b_ldcw dJ6_bitCount_0f7a4_29 kkJ6_267 ?_
  refine b_iand dJ6_bitCount_0f7a4_32 ?_
  obtain ⟨y3, ey3, h⟩ := nmE h
  refine b_nmI ey3 ?_
  refine b_istore_n (lv' := [(0, vI y3)]) dJ6_bitCount_0f7a4_33 rfl (by decide) rfl ?_
  refine b_iload_n dJ6_bitCount_0f7a4_34 rfl (k := 0) rfl ?_
  refine b_iload_n dJ6_bitCount_0f7a4_35 rfl (k := 0) rfl ?_
  refine b_bipush (v := 8) dJ6_bitCount_0f7a4_36 (by decide) ?_
  refine b_iushr dJ6_bitCount_0f7a4_38 ?_
  refine b_iadd dJ6_bitCount_0f7a4_39 ?_
  obtain ⟨y4, ey4, h⟩ := nmE h
  refine b_nmI ey4 ?_
  refine b_istore_n (lv' := [(0, vI y4)]) dJ6_bitCount_0f7a4_40 rfl (by decide) rfl ?_
  refine b_iload_n dJ6_bitCount_0f7a4_41 rfl (k := 0) rfl ?_
  refine b_iload_n dJ6_bitCount_0f7a4_42 rfl (k := 0) rfl ?_
  refine b_bipush (v := 16) dJ6_bitCount_0f7a4_43 (by decide) ?_
  refine b_iushr dJ6_bitCount_0f7a4_45 ?_
  refine b_iadd dJ6_bitCount_0f7a4_46 ?_
  obtain ⟨y5, ey5, h⟩ := nmE h
  refine b_nmI ey5 ?_
  refine b_istore_n (lv' := [(0, vI y5)]) dJ6_bitCount_0f7a4_47 rfl (by decide) rfl ?_
  refine b_iload_n dJ6_bitCount_0f7a4_48 rfl (k := 0) rfl ?_
  refine b_bipush (v := 63) dJ6_bitCount_0f7a4_49 (by decide) ?_
  refine b_iand dJ6_bitCount_0f7a4_51 ?_
  obtain ⟨rfl, rfl⟩ := rtE h
  exact b_iret rfl dJ6_bitCount_0f7a4_52
theorem s6_bitCount_0f7a4 (x0 : Int32)  (w w' : Mem) (r : Int32) (h : f6_bitCount_0f7a4   x0 w = some (r, w')) : Sp yJ6_bitCount_0f7a4 cJ6_bitCount_0f7a4 1 (some .int) 1 [vI x0] w (some (vI r)) w' := sp_of (by decide) (fun _ => rfl) (fun _ => Nat.le_of_ble_eq_true rfl) (t6_bitCount_0f7a4    x0 _ _ _ h)
-- X7_outcomeOf OneADay
def f7_outcomeOf  (a0 : Int32)   (w : Mem) : Option (Int32 × Mem) :=
  bndO (f6_bitCount_0f7a4 a0 w) fun r2 w1 => if r2 = 0 then (some (0, w1)) else (if r2 = 1 then (some (1, w1)) else (some (2, w1)))
set_option maxRecDepth 100000 in
set_option maxHeartbeats 4000000 in
theorem t7_outcomeOf   (a0 : Int32)     (w w' : Mem) (r : Int32) (h : f7_outcomeOf  a0   w = some (r, w')) : Bk yX7_outcomeOf cX7_outcomeOf 2 (some .int) 2 0 [(0, vI a0)] [] w (some (vI r)) w' := by
  unfold f7_outcomeOf at h
  refine b_iload_n dX7_outcomeOf_0 rfl (k := 0) rfl ?_
  obtain ⟨r2, w1, hw1, h⟩ := bdO h
  refine b_callSi ms6_bitCount_0f7a4 ml7_225 (s6_bitCount_0f7a4 a0  _ _ _ hw1) rfl (by decide) (by decide) (Nat.le_of_ble_eq_true rfl) rfl dX7_outcomeOf_1 ?_
  refine b_istore_n (lv' := [(1, vI r2), (0, vI a0)]) dX7_outcomeOf_4 rfl (by decide) rfl ?_
  refine b_iload_n dX7_outcomeOf_5 rfl (k := 0) rfl ?_
  refine b_ifne (tgt := 11) dX7_outcomeOf_6 (by decide) (fun c3 => ?_) (fun c3 => ?_)
  · replace h := ifF c3 h
    refine b_iload_n dX7_outcomeOf_11 rfl (k := 0) rfl ?_
    refine b_iconst (v := 1) dX7_outcomeOf_12 (by decide) ?_
    refine b_icne (tgt := 20) dX7_outcomeOf_13 (by decide) (fun c4 => ?_) (fun c4 => ?_)
    · replace h := ifF c4 h
      refine b_iconst (v := 2) dX7_outcomeOf_20 (by decide) ?_
      obtain ⟨rfl, rfl⟩ := rtE h
      exact b_iret rfl dX7_outcomeOf_21
    · replace h := ifT c4 h
      refine b_iconst (v := 1) dX7_outcomeOf_16 (by decide) ?_
      refine b_goto (tgt := 21) dX7_outcomeOf_17 (by decide) ?_
      obtain ⟨rfl, rfl⟩ := rtE h
      exact b_iret rfl dX7_outcomeOf_21
  · replace h := ifT c3 h
    refine b_iconst (v := 0) dX7_outcomeOf_9 (by decide) ?_
    obtain ⟨rfl, rfl⟩ := rtE h
    exact b_iret rfl dX7_outcomeOf_10
theorem s7_outcomeOf (a0 : Int32)  (w w' : Mem) (r : Int32) (h : f7_outcomeOf  a0  w = some (r, w')) : Sp yX7_outcomeOf cX7_outcomeOf 2 (some .int) 2 [vI a0] w (some (vI r)) w' := sp_of (by decide) (fun _ => rfl) (fun _ => Nat.le_of_ble_eq_true rfl) (t7_outcomeOf  a0   _ _ _ h)
-- X1_outcomeWith OneADay$Days
def f1_outcomeWith_37  (d0 : Nat) (d1 : Nat) (a2 : Int32) (a3 : Int32) (a4 : Int32)  (s0 : Int32) (w : Mem) : Option (Int32 × Mem) :=
  bndO (f7_outcomeOf s0 w) fun r2 w1 => some (r2, w1)
set_option maxRecDepth 100000 in
set_option maxHeartbeats 4000000 in
theorem t1_outcomeWith_37   (d0 : Nat) (d1 : Nat) (a2 : Int32) (a3 : Int32) (a4 : Int32) (hd0 : Ob d0 1) (hd1 : Ob d1 6)   (s0 : Int32) (w w' : Mem) (r : Int32) (h : f1_outcomeWith_37  d0 d1 a2 a3 a4  s0 w = some (r, w')) : Bk yX1_outcomeWith cX1_outcomeWith 6 (some .int) 5 37 [] [vI s0] w (some (vI r)) w' := by
  unfold f1_outcomeWith_37 at h
  obtain ⟨r2, w1, hw1, h⟩ := bdO h
  refine b_callN ms7_outcomeOf (fun _ hU => hU.1) (s7_outcomeOf s0  _ _ _ hw1) rfl (by decide) (by decide) (Nat.le_of_ble_eq_true rfl) rfl dX1_outcomeWith_37 ?_
  obtain ⟨rfl, rfl⟩ := rtE h
  exact b_iret rfl dX1_outcomeWith_40
def f1_outcomeWith  (d0 : Nat) (d1 : Nat) (a2 : Int32) (a3 : Int32) (a4 : Int32)   (w : Mem) : Option (Int32 × Mem) :=
  bndO (f1_comersByCalendar d0 d1 a4 w) fun r2 w1 => bnd (r2 &&& ((jshl 1 a2) ^^^ (-1))) fun y3 => bndO (f6_brings d1 a2 a3 a4 w1) fun r5 w4 => if r5 = 0 then (f1_outcomeWith_37  d0 d1 a2 a3 a4  y3 w4) else (f1_outcomeWith_37  d0 d1 a2 a3 a4  (y3 ||| (jshl 1 a2)) w4)
set_option maxRecDepth 100000 in
set_option maxHeartbeats 4000000 in
theorem t1_outcomeWith   (d0 : Nat) (d1 : Nat) (a2 : Int32) (a3 : Int32) (a4 : Int32) (hd0 : Ob d0 1) (hd1 : Ob d1 6)    (w w' : Mem) (r : Int32) (h : f1_outcomeWith  d0 d1 a2 a3 a4   w = some (r, w')) : Bk yX1_outcomeWith cX1_outcomeWith 6 (some .int) 5 0 [(0, vR d0 0), (1, vR d1 0), (2, vI a2), (3, vI a3), (4, vI a4)] [] w (some (vI r)) w' := by
  unfold f1_outcomeWith at h
  refine b_aload_n dX1_outcomeWith_0 rfl (k := 0) rfl ?_
  refine b_aload_n dX1_outcomeWith_1 rfl (k := 1) rfl ?_
  refine b_iload dX1_outcomeWith_2 (k := 4) rfl ?_
  obtain ⟨r2, w1, hw1, h⟩ := bdO h
  refine b_callVi mv1_comersByCalendar ml1_88 hd0 (s1_comersByCalendar d0 d1 a4 hd0 hd1 _ _ _ hw1) rfl (by decide) (by decide) (Nat.le_of_ble_eq_true rfl) rfl dX1_outcomeWith_4 ?_
  refine b_iconst (v := 1) dX1_outcomeWith_7 (by decide) ?_
  refine b_iload_n dX1_outcomeWith_8 rfl (k := 2) rfl ?_
  refine b_ishl dX1_outcomeWith_9 ?_
  refine b_iconst (v := (-1)) dX1_outcomeWith_10 (by decide) ?_
  refine b_ixor dX1_outcomeWith_11 ?_
  refine b_iand dX1_outcomeWith_12 ?_
  obtain ⟨y3, ey3, h⟩ := nmE h
  refine b_nmI ey3 ?_
  refine b_istore (lv' := [(5, vI y3), (0, vR d0 0), (1, vR d1 0), (2, vI a2), (3, vI a3), (4, vI a4)]) dX1_outcomeWith_13 (by decide) rfl ?_
  refine b_aload_n dX1_outcomeWith_15 rfl (k := 2) rfl ?_
  refine b_iload_n dX1_outcomeWith_16 rfl (k := 3) rfl ?_
  refine b_iload_n dX1_outcomeWith_17 rfl (k := 4) rfl ?_
  refine b_iload dX1_outcomeWith_18 (k := 5) rfl ?_
  obtain ⟨r5, w4, hw4, h⟩ := bdO h
  refine b_callVi mv6_brings ml1_84 hd1 (s6_brings d1 a2 a3 a4 hd1 _ _ _ hw4) rfl (by decide) (by decide) (Nat.le_of_ble_eq_true rfl) rfl dX1_outcomeWith_20 ?_
  refine b_ifeq (tgt := 35) dX1_outcomeWith_23 (by decide) (fun c6 => ?_) (fun c6 => ?_)
  · replace h := ifT c6 h
    refine b_iload dX1_outcomeWith_35 (k := 0) rfl ?_
    refine b_sub [] rfl ?_
    exact t1_outcomeWith_37  d0 d1 a2 a3 a4 hd0 hd1   y3 _ _ _ h
  · replace h := ifF c6 h
    refine b_iload dX1_outcomeWith_26 (k := 0) rfl ?_
    refine b_iconst (v := 1) dX1_outcomeWith_28 (by decide) ?_
    refine b_iload_n dX1_outcomeWith_29 rfl (k := 3) rfl ?_
    refine b_ishl dX1_outcomeWith_30 ?_
    refine b_ior dX1_outcomeWith_31 ?_
    refine b_goto (tgt := 37) dX1_outcomeWith_32 (by decide) ?_
    refine b_sub [] rfl ?_
    exact t1_outcomeWith_37  d0 d1 a2 a3 a4 hd0 hd1   (y3 ||| (jshl 1 a2)) _ _ _ h
theorem s1_outcomeWith (d0 : Nat) (d1 : Nat) (a2 : Int32) (a3 : Int32) (a4 : Int32) (hd0 : Ob d0 1) (hd1 : Ob d1 6) (w w' : Mem) (r : Int32) (h : f1_outcomeWith  d0 d1 a2 a3 a4  w = some (r, w')) : Sp yX1_outcomeWith cX1_outcomeWith 6 (some .int) 5 [vR d0 0, vR d1 0, vI a2, vI a3, vI a4] w (some (vI r)) w' := sp_of (by decide) (fun _ => rfl) (fun _ => Nat.le_of_ble_eq_true rfl) (t1_outcomeWith  d0 d1 a2 a3 a4 hd0 hd1  _ _ _ h)
-- X1_close OneADay$Days
def f1_close_80  (d0 : Nat) (a1 : Int32) (a2 : Int32)   (w : Mem) : Option Mem :=
  bnd (jrem (w.1 d0 6 0) 60) fun y1 => if y1 < 0 then (bnd (sI w d0 6 0 ((w.1 d0 6 0) + 1)) fun w3 => some w3) else (if 60 ≤ y1 then (bnd (sI w d0 6 0 ((w.1 d0 6 0) + 1)) fun w5 => some w5) else (if y1 < 0 ∨ 60 ≤ Int32.toNatClampNeg y1 then none else bnd (sI w d0 3 (Int32.toNatClampNeg y1) a1) fun w7 => bnd (sI w7 d0 6 0 ((w7.1 d0 6 0) + 1)) fun w8 => some w8))
set_option maxRecDepth 100000 in
set_option maxHeartbeats 4000000 in
theorem t1_close_80   (d0 : Nat) (a1 : Int32) (a2 : Int32) (hd0 : Ob d0 1)    (w w' : Mem) (h : f1_close_80  d0 a1 a2   w = some w') : Bk yX1_close cX1_close 4 none 1 80 [(0, vR d0 0), (1, vI a1)] [] w none w' := by
  unfold f1_close_80 at h
  refine b_aload_n dX1_close_80 rfl (k := 0) rfl ?_
  refine b_getI fl1_48 hd0 rfl dX1_close_81 ?_
  refine b_bipush (v := 60) dX1_close_84 (by decide) ?_
  refine b_irem dX1_close_86 (by decide) ?_
  obtain ⟨y1, ey1, h⟩ := nmE h
  refine b_nmI ey1 ?_
  refine b_istore_n (lv' := [(3, vI y1), (0, vR d0 0), (1, vI a1)]) dX1_close_87 rfl (by decide) rfl ?_
  refine b_iload_n dX1_close_88 rfl (k := 0) rfl ?_
  refine b_iflt (tgt := 108) dX1_close_89 (by decide) (fun c2 => ?_) (fun c2 => ?_)
  · replace h := ifT c2 h
    refine b_aload_n dX1_close_108 rfl (k := 1) rfl ?_
    refine b_dup dX1_close_109 rfl ?_
    refine b_getI fl1_48 hd0 rfl dX1_close_110 ?_
    refine b_iconst (v := 1) dX1_close_113 (by decide) ?_
    refine b_iadd dX1_close_114 ?_
    obtain ⟨w3, ew3, h⟩ := nmE h
    refine b_putI fw1_48 hd0 rfl dX1_close_115 ?_
    refine b_nmW ew3 ?_
    cases h
    exact b_vret rfl dX1_close_118
  · replace h := ifF c2 h
    refine b_iload_n dX1_close_92 rfl (k := 0) rfl ?_
    refine b_aload_n dX1_close_93 rfl (k := 1) rfl ?_
    refine b_getF fl1_21 hd0 rfl (grC1 hd0 3) dX1_close_94 ?_
    refine b_alen (v := 60) (arC1_3 hd0) (by decide) (by decide) dX1_close_97 ?_
    refine b_icge (tgt := 108) dX1_close_98 (by decide) (fun c4 => ?_) (fun c4 => ?_)
    · replace h := ifT c4 h
      refine b_aload_n dX1_close_108 rfl (k := 1) rfl ?_
      refine b_dup dX1_close_109 rfl ?_
      refine b_getI fl1_48 hd0 rfl dX1_close_110 ?_
      refine b_iconst (v := 1) dX1_close_113 (by decide) ?_
      refine b_iadd dX1_close_114 ?_
      obtain ⟨w5, ew5, h⟩ := nmE h
      refine b_putI fw1_48 hd0 rfl dX1_close_115 ?_
      refine b_nmW ew5 ?_
      cases h
      exact b_vret rfl dX1_close_118
    · replace h := ifF c4 h
      refine b_aload_n dX1_close_101 rfl (k := 1) rfl ?_
      refine b_getF fl1_21 hd0 rfl (grC1 hd0 3) dX1_close_102 ?_
      refine b_iload_n dX1_close_105 rfl (k := 0) rfl ?_
      refine b_iload_n dX1_close_106 rfl (k := 2) rfl ?_
      obtain ⟨g6, h⟩ := gdE h
      obtain ⟨w7, ew7, h⟩ := nmE h
      refine b_iast (arC1_3 hd0) g6 rfl dX1_close_107 ?_
      refine b_nmW ew7 ?_
      refine b_aload_n dX1_close_108 rfl (k := 1) rfl ?_
      refine b_dup dX1_close_109 rfl ?_
      refine b_getI fl1_48 hd0 rfl dX1_close_110 ?_
      refine b_iconst (v := 1) dX1_close_113 (by decide) ?_
      refine b_iadd dX1_close_114 ?_
      obtain ⟨w8, ew8, h⟩ := nmE h
      refine b_putI fw1_48 hd0 rfl dX1_close_115 ?_
      refine b_nmW ew8 ?_
      cases h
      exact b_vret rfl dX1_close_118
def f1_close_47  (d0 : Nat) (a1 : Int32) (a2 : Int32)   (w : Mem) : Option Mem :=
  if a1 < 0 then (f1_close_80  d0 a1 a2   w) else (if 8 ≤ a1 then (f1_close_80  d0 a1 a2   w) else (bnd (sI w d0 8 0 ((w.1 d0 8 0) + 1)) fun w3 => if a1 < 0 ∨ 8 ≤ Int32.toNatClampNeg a1 then none else bnd (sI w3 d0 1 (Int32.toNatClampNeg a1) (w3.1 d0 6 0)) fun w5 => f1_close_80  d0 a1 a2   w5))
set_option maxRecDepth 100000 in
set_option maxHeartbeats 4000000 in
theorem t1_close_47   (d0 : Nat) (a1 : Int32) (a2 : Int32) (hd0 : Ob d0 1)    (w w' : Mem) (h : f1_close_47  d0 a1 a2   w = some w') : Bk yX1_close cX1_close 4 none 1 47 [(0, vR d0 0), (1, vI a1)] [] w none w' := by
  unfold f1_close_47 at h
  refine b_iload_n dX1_close_47 rfl (k := 1) rfl ?_
  refine b_iflt (tgt := 80) dX1_close_48 (by decide) (fun c1 => ?_) (fun c1 => ?_)
  · replace h := ifT c1 h
    refine b_sub [0, 1] rfl ?_
    exact t1_close_80  d0 a1 a2 hd0    _ _  h
  · replace h := ifF c1 h
    refine b_iload_n dX1_close_51 rfl (k := 1) rfl ?_
    refine b_aload_n dX1_close_52 rfl (k := 0) rfl ?_
    refine b_getF fl1_15 hd0 rfl (grC1 hd0 1) dX1_close_53 ?_
    refine b_alen (v := 8) (arC1_1 hd0) (by decide) (by decide) dX1_close_56 ?_
    refine b_icge (tgt := 80) dX1_close_57 (by decide) (fun c2 => ?_) (fun c2 => ?_)
    · replace h := ifT c2 h
      refine b_sub [0, 1] rfl ?_
      exact t1_close_80  d0 a1 a2 hd0    _ _  h
    · replace h := ifF c2 h
      refine b_aload_n dX1_close_60 rfl (k := 0) rfl ?_
      refine b_dup dX1_close_61 rfl ?_
      refine b_getI fl1_54 hd0 rfl dX1_close_62 ?_
      refine b_iconst (v := 1) dX1_close_65 (by decide) ?_
      refine b_iadd dX1_close_66 ?_
      obtain ⟨w3, ew3, h⟩ := nmE h
      refine b_putI fw1_54 hd0 rfl dX1_close_67 ?_
      refine b_nmW ew3 ?_
      refine b_aload_n dX1_close_70 rfl (k := 0) rfl ?_
      refine b_getF fl1_15 hd0 rfl (grC1 hd0 1) dX1_close_71 ?_
      refine b_iload_n dX1_close_74 rfl (k := 1) rfl ?_
      refine b_aload_n dX1_close_75 rfl (k := 0) rfl ?_
      refine b_getI fl1_48 hd0 rfl dX1_close_76 ?_
      obtain ⟨g4, h⟩ := gdE h
      obtain ⟨w5, ew5, h⟩ := nmE h
      refine b_iast (arC1_1 hd0) g4 rfl dX1_close_79 ?_
      refine b_nmW ew5 ?_
      refine b_sub [0, 1] rfl ?_
      exact t1_close_80  d0 a1 a2 hd0    _ _  h
def f1_close  (d0 : Nat) (a1 : Int32) (a2 : Int32)   (w : Mem) : Option Mem :=
  if a2 = 0 then (bnd (sI w d0 10 0 ((w.1 d0 10 0) + 1)) fun w5 => bnd (sI w5 d0 7 0 ((w5.1 d0 7 0) + 1)) fun w6 => f1_close_47  d0 a1 a2   w6) else (bnd (sI w d0 7 0 0) fun w2 => if a2 = 2 then (bnd (sI w2 d0 9 0 ((w2.1 d0 9 0) + 1)) fun w4 => f1_close_47  d0 a1 a2   w4) else (f1_close_47  d0 a1 a2   w2))
set_option maxRecDepth 100000 in
set_option maxHeartbeats 4000000 in
theorem t1_close   (d0 : Nat) (a1 : Int32) (a2 : Int32) (hd0 : Ob d0 1)    (w w' : Mem) (h : f1_close  d0 a1 a2   w = some w') : Bk yX1_close cX1_close 4 none 1 0 [(0, vR d0 0), (1, vI a1), (2, vI a2)] [] w none w' := by
  unfold f1_close at h
  refine b_iload_n dX1_close_0 rfl (k := 2) rfl ?_
  refine b_ifne (tgt := 27) dX1_close_1 (by decide) (fun c1 => ?_) (fun c1 => ?_)
  · replace h := ifF c1 h
    refine b_aload_n dX1_close_27 rfl (k := 0) rfl ?_
    refine b_iconst (v := 0) dX1_close_28 (by decide) ?_
    obtain ⟨w2, ew2, h⟩ := nmE h
    refine b_putI fw1_51 hd0 rfl dX1_close_29 ?_
    refine b_nmW ew2 ?_
    refine b_iload_n dX1_close_32 rfl (k := 2) rfl ?_
    refine b_iconst (v := 2) dX1_close_33 (by decide) ?_
    refine b_icne (tgt := 47) dX1_close_34 (by decide) (fun c3 => ?_) (fun c3 => ?_)
    · replace h := ifF c3 h
      refine b_sub [0, 1] rfl ?_
      exact t1_close_47  d0 a1 a2 hd0    _ _  h
    · replace h := ifT c3 h
      refine b_aload_n dX1_close_37 rfl (k := 0) rfl ?_
      refine b_dup dX1_close_38 rfl ?_
      refine b_getI fl1_57 hd0 rfl dX1_close_39 ?_
      refine b_iconst (v := 1) dX1_close_42 (by decide) ?_
      refine b_iadd dX1_close_43 ?_
      obtain ⟨w4, ew4, h⟩ := nmE h
      refine b_putI fw1_57 hd0 rfl dX1_close_44 ?_
      refine b_nmW ew4 ?_
      refine b_sub [0, 1] rfl ?_
      exact t1_close_47  d0 a1 a2 hd0    _ _  h
  · replace h := ifT c1 h
    refine b_aload_n dX1_close_4 rfl (k := 0) rfl ?_
    refine b_dup dX1_close_5 rfl ?_
    refine b_getI fl1_60 hd0 rfl dX1_close_6 ?_
    refine b_iconst (v := 1) dX1_close_9 (by decide) ?_
    refine b_iadd dX1_close_10 ?_
    obtain ⟨w5, ew5, h⟩ := nmE h
    refine b_putI fw1_60 hd0 rfl dX1_close_11 ?_
    refine b_nmW ew5 ?_
    refine b_aload_n dX1_close_14 rfl (k := 0) rfl ?_
    refine b_dup dX1_close_15 rfl ?_
    refine b_getI fl1_51 hd0 rfl dX1_close_16 ?_
    refine b_iconst (v := 1) dX1_close_19 (by decide) ?_
    refine b_iadd dX1_close_20 ?_
    obtain ⟨w6, ew6, h⟩ := nmE h
    refine b_putI fw1_51 hd0 rfl dX1_close_21 ?_
    refine b_nmW ew6 ?_
    refine b_goto (tgt := 47) dX1_close_24 (by decide) ?_
    refine b_sub [0, 1] rfl ?_
    exact t1_close_47  d0 a1 a2 hd0    _ _  h
theorem s1_close (d0 : Nat) (a1 : Int32) (a2 : Int32) (hd0 : Ob d0 1) (w w' : Mem) (h : f1_close  d0 a1 a2  w = some w') : Sp yX1_close cX1_close 4 none 1 [vR d0 0, vI a1, vI a2] w none w' := sp_of (by decide) (fun _ => rfl) (fun _ => Nat.le_of_ble_eq_true rfl) (t1_close  d0 a1 a2 hd0  _ _  h)
-- X1_firstThroughInn OneADay$Days
def f1_firstThroughInn_137  (d0 : Nat) (a1 : Int32) (a2 : Int32)  (x3 : Int32) (w : Mem) : Option (Int32 × Mem) :=
  if (w.1 d0 5 0) ≤ a2 then (some (x3, w)) else (bnd (sI w d0 12 0 ((w.1 d0 12 0) + ((w.1 d0 5 0) - a2))) fun w2 => bnd (sI w2 d0 5 0 a2) fun w3 => some (x3, w3))
set_option maxRecDepth 100000 in
set_option maxHeartbeats 4000000 in
theorem t1_firstThroughInn_137   (d0 : Nat) (a1 : Int32) (a2 : Int32) (hd0 : Ob d0 1)   (x3 : Int32) (w w' : Mem) (r : Int32) (h : f1_firstThroughInn_137  d0 a1 a2  x3 w = some (r, w')) : Bk yX1_firstThroughInn cX1_firstThroughInn 5 (some .int) 1 137 [(0, vR d0 0), (2, vI a2), (3, vI x3)] [] w (some (vI r)) w' := by
  unfold f1_firstThroughInn_137 at h
  refine b_aload_n dX1_firstThroughInn_137 rfl (k := 0) rfl ?_
  refine b_getI fl1_45 hd0 rfl dX1_firstThroughInn_138 ?_
  refine b_iload_n dX1_firstThroughInn_141 rfl (k := 1) rfl ?_
  refine b_icle (tgt := 165) dX1_firstThroughInn_142 (by decide) (fun c1 => ?_) (fun c1 => ?_)
  · replace h := ifT c1 h
    refine b_iload_n dX1_firstThroughInn_165 rfl (k := 2) rfl ?_
    obtain ⟨rfl, rfl⟩ := rtE h
    exact b_iret rfl dX1_firstThroughInn_166
  · replace h := ifF c1 h
    refine b_aload_n dX1_firstThroughInn_145 rfl (k := 0) rfl ?_
    refine b_dup dX1_firstThroughInn_146 rfl ?_
    refine b_getI fl1_66 hd0 rfl dX1_firstThroughInn_147 ?_
    refine b_aload_n dX1_firstThroughInn_150 rfl (k := 0) rfl ?_
    refine b_getI fl1_45 hd0 rfl dX1_firstThroughInn_151 ?_
    refine b_iload_n dX1_firstThroughInn_154 rfl (k := 1) rfl ?_
    refine b_isub dX1_firstThroughInn_155 ?_
    refine b_iadd dX1_firstThroughInn_156 ?_
    obtain ⟨w2, ew2, h⟩ := nmE h
    refine b_putI fw1_66 hd0 rfl dX1_firstThroughInn_157 ?_
    refine b_nmW ew2 ?_
    refine b_aload_n dX1_firstThroughInn_160 rfl (k := 0) rfl ?_
    refine b_iload_n dX1_firstThroughInn_161 rfl (k := 1) rfl ?_
    obtain ⟨w3, ew3, h⟩ := nmE h
    refine b_putI fw1_45 hd0 rfl dX1_firstThroughInn_162 ?_
    refine b_nmW ew3 ?_
    refine b_iload_n dX1_firstThroughInn_165 rfl (k := 2) rfl ?_
    obtain ⟨rfl, rfl⟩ := rtE h
    exact b_iret rfl dX1_firstThroughInn_166
def f1_firstThroughInn_94  (d0 : Nat) (a1 : Int32) (a2 : Int32)  : Nat → Int32 → Int32 → Mem → Option (Int32 × Mem)
  | 0, _, _, _ => none
  | n + 1, x3, x4, w =>
  if (w.1 d0 5 0) ≤ x4 then (f1_firstThroughInn_137  d0 a1 a2  x3 w) else (if 17 ≤ (x4 + 1) then (f1_firstThroughInn_137  d0 a1 a2  x3 w) else (if (x4 + 1) < 0 ∨ 17 ≤ Int32.toNatClampNeg (x4 + 1) then none else if x4 < 0 ∨ 17 ≤ Int32.toNatClampNeg x4 then none else bnd (sI w d0 2 (Int32.toNatClampNeg x4) (w.1 d0 2 (Int32.toNatClampNeg (x4 + 1)))) fun w5 => bnd (x4 + 1) fun y6 => f1_firstThroughInn_94  d0 a1 a2  n x3 y6 w5))
set_option maxRecDepth 100000 in
set_option maxHeartbeats 4000000 in
theorem t1_firstThroughInn_94   (d0 : Nat) (a1 : Int32) (a2 : Int32) (hd0 : Ob d0 1)   : ∀ (n : Nat) (x3 : Int32) (x4 : Int32) (w w' : Mem) (r : Int32), f1_firstThroughInn_94  d0 a1 a2  n x3 x4 w = some (r, w') → Bk yX1_firstThroughInn cX1_firstThroughInn 5 (some .int) 1 94 [(0, vR d0 0), (2, vI a2), (3, vI x3), (4, vI x4)] [] w (some (vI r)) w' := by
  intro n
  induction n with
  | zero =>
    intro x3 x4 w w' r h
    cases (show (none : Option (Int32 × Mem)) = some _ from h)
  | succ n ih =>
    intro x3 x4 w w' r h
    rw [f1_firstThroughInn_94] at h
    refine b_iload dX1_firstThroughInn_94 (k := 3) rfl ?_
    refine b_aload_n dX1_firstThroughInn_96 rfl (k := 0) rfl ?_
    refine b_getI fl1_45 hd0 rfl dX1_firstThroughInn_97 ?_
    refine b_icge (tgt := 137) dX1_firstThroughInn_100 (by decide) (fun c1 => ?_) (fun c1 => ?_)
    · replace h := ifT c1 h
      refine b_sub [0, 1, 2] rfl ?_
      exact t1_firstThroughInn_137  d0 a1 a2 hd0   x3 _ _ _ h
    · replace h := ifF c1 h
      refine b_iload dX1_firstThroughInn_103 (k := 3) rfl ?_
      refine b_iconst (v := 1) dX1_firstThroughInn_105 (by decide) ?_
      refine b_iadd dX1_firstThroughInn_106 ?_
      refine b_aload_n dX1_firstThroughInn_107 rfl (k := 0) rfl ?_
      refine b_getF fl1_18 hd0 rfl (grC1 hd0 2) dX1_firstThroughInn_108 ?_
      refine b_alen (v := 17) (arC1_2 hd0) (by decide) (by decide) dX1_firstThroughInn_111 ?_
      refine b_icge (tgt := 137) dX1_firstThroughInn_112 (by decide) (fun c2 => ?_) (fun c2 => ?_)
      · replace h := ifT c2 h
        refine b_sub [0, 1, 2] rfl ?_
        exact t1_firstThroughInn_137  d0 a1 a2 hd0   x3 _ _ _ h
      · replace h := ifF c2 h
        refine b_aload_n dX1_firstThroughInn_115 rfl (k := 0) rfl ?_
        refine b_getF fl1_18 hd0 rfl (grC1 hd0 2) dX1_firstThroughInn_116 ?_
        refine b_iload dX1_firstThroughInn_119 (k := 3) rfl ?_
        refine b_aload_n dX1_firstThroughInn_121 rfl (k := 0) rfl ?_
        refine b_getF fl1_18 hd0 rfl (grC1 hd0 2) dX1_firstThroughInn_122 ?_
        refine b_iload dX1_firstThroughInn_125 (k := 3) rfl ?_
        refine b_iconst (v := 1) dX1_firstThroughInn_127 (by decide) ?_
        refine b_iadd dX1_firstThroughInn_128 ?_
        obtain ⟨g3, h⟩ := gdE h
        refine b_iald (arC1_2 hd0) g3 rfl dX1_firstThroughInn_129 ?_
        obtain ⟨g4, h⟩ := gdE h
        obtain ⟨w5, ew5, h⟩ := nmE h
        refine b_iast (arC1_2 hd0) g4 rfl dX1_firstThroughInn_130 ?_
        refine b_nmW ew5 ?_
        obtain ⟨y6, ey6, h⟩ := nmE h
        refine b_iinc (v := y6) (lv' := [(4, vI y6), (0, vR d0 0), (2, vI a2), (3, vI x3)]) dX1_firstThroughInn_131 (k := 3) rfl ey6.symm (by decide) rfl ?_
        refine b_goto (tgt := 94) dX1_firstThroughInn_134 (by decide) ?_
        refine b_sub [1, 2, 3, 0] rfl ?_
        exact ih x3 y6 _ _ _ h
def f1_firstThroughInn_64  (d0 : Nat) (a1 : Int32) (a2 : Int32)   (w : Mem) : Option (Int32 × Mem) :=
  if 1 ≤ (w.1 d0 5 0) then (bnd (w.1 d0 2 0) fun y2 => bnd (sI w d0 5 0 ((w.1 d0 5 0) - 1)) fun w3 => f1_firstThroughInn_94  d0 a1 a2  100000 y2 0 w3) else (some ((-1), w))
set_option maxRecDepth 100000 in
set_option maxHeartbeats 4000000 in
theorem t1_firstThroughInn_64   (d0 : Nat) (a1 : Int32) (a2 : Int32) (hd0 : Ob d0 1)    (w w' : Mem) (r : Int32) (h : f1_firstThroughInn_64  d0 a1 a2   w = some (r, w')) : Bk yX1_firstThroughInn cX1_firstThroughInn 5 (some .int) 1 64 [(0, vR d0 0), (2, vI a2)] [] w (some (vI r)) w' := by
  unfold f1_firstThroughInn_64 at h
  refine b_aload_n dX1_firstThroughInn_64 rfl (k := 0) rfl ?_
  refine b_getI fl1_45 hd0 rfl dX1_firstThroughInn_65 ?_
  refine b_iconst (v := 1) dX1_firstThroughInn_68 (by decide) ?_
  refine b_icge (tgt := 74) dX1_firstThroughInn_69 (by decide) (fun c1 => ?_) (fun c1 => ?_)
  · replace h := ifT c1 h
    refine b_aload_n dX1_firstThroughInn_74 rfl (k := 0) rfl ?_
    refine b_getF fl1_18 hd0 rfl (grC1 hd0 2) dX1_firstThroughInn_75 ?_
    refine b_iconst (v := 0) dX1_firstThroughInn_78 (by decide) ?_
    refine b_iald (arC1_2 hd0) (j0 := 0) (by decide) (by decide) dX1_firstThroughInn_79 ?_
    obtain ⟨y2, ey2, h⟩ := nmE h
    refine b_nmI ey2 ?_
    refine b_istore_n (lv' := [(3, vI y2), (0, vR d0 0), (2, vI a2)]) dX1_firstThroughInn_80 rfl (by decide) rfl ?_
    refine b_aload_n dX1_firstThroughInn_81 rfl (k := 1) rfl ?_
    refine b_dup dX1_firstThroughInn_82 rfl ?_
    refine b_getI fl1_45 hd0 rfl dX1_firstThroughInn_83 ?_
    refine b_iconst (v := 1) dX1_firstThroughInn_86 (by decide) ?_
    refine b_isub dX1_firstThroughInn_87 ?_
    obtain ⟨w3, ew3, h⟩ := nmE h
    refine b_putI fw1_45 hd0 rfl dX1_firstThroughInn_88 ?_
    refine b_nmW ew3 ?_
    refine b_iconst (v := 0) dX1_firstThroughInn_91 (by decide) ?_
    refine b_istore (lv' := [(4, vI 0), (3, vI y2), (0, vR d0 0), (2, vI a2)]) dX1_firstThroughInn_92 (by decide) rfl ?_
    refine b_sub [2, 3, 1, 0] rfl ?_
    exact t1_firstThroughInn_94  d0 a1 a2 hd0   100000 y2 0 _ _ _ h
  · replace h := ifF c1 h
    refine b_iconst (v := (-1)) dX1_firstThroughInn_72 (by decide) ?_
    obtain ⟨rfl, rfl⟩ := rtE h
    exact b_iret rfl dX1_firstThroughInn_73
def f1_firstThroughInn_2  (d0 : Nat) (a1 : Int32) (a2 : Int32)  : Nat → Int32 → Mem → Option (Int32 × Mem)
  | 0, _, _ => none
  | n + 1, x3, w =>
  if 8 ≤ x3 then (f1_firstThroughInn_64  d0 a1 a2   w) else (if ((jshr a1 x3) &&& 1) = 0 then (bnd (x3 + 1) fun y3 => f1_firstThroughInn_2  d0 a1 a2  n y3 w) else (if (w.1 d0 5 0) < 0 then (bnd (x3 + 1) fun y5 => f1_firstThroughInn_2  d0 a1 a2  n y5 w) else (if (w.1 d0 5 0) < 17 then (if (w.1 d0 5 0) < 0 ∨ 17 ≤ Int32.toNatClampNeg (w.1 d0 5 0) then none else bnd (sI w d0 2 (Int32.toNatClampNeg (w.1 d0 5 0)) x3) fun w8 => bnd (sI w8 d0 5 0 ((w8.1 d0 5 0) + 1)) fun w9 => bnd (x3 + 1) fun y10 => f1_firstThroughInn_2  d0 a1 a2  n y10 w9) else (bnd (x3 + 1) fun y11 => f1_firstThroughInn_2  d0 a1 a2  n y11 w))))
set_option maxRecDepth 100000 in
set_option maxHeartbeats 4000000 in
theorem t1_firstThroughInn_2   (d0 : Nat) (a1 : Int32) (a2 : Int32) (hd0 : Ob d0 1)   : ∀ (n : Nat) (x3 : Int32) (w w' : Mem) (r : Int32), f1_firstThroughInn_2  d0 a1 a2  n x3 w = some (r, w') → Bk yX1_firstThroughInn cX1_firstThroughInn 5 (some .int) 1 2 [(0, vR d0 0), (1, vI a1), (2, vI a2), (3, vI x3)] [] w (some (vI r)) w' := by
  intro n
  induction n with
  | zero =>
    intro x3 w w' r h
    cases (show (none : Option (Int32 × Mem)) = some _ from h)
  | succ n ih =>
    intro x3 w w' r h
    rw [f1_firstThroughInn_2] at h
    refine b_iload_n dX1_firstThroughInn_2 rfl (k := 3) rfl ?_
    refine b_bipush (v := 8) dX1_firstThroughInn_3 (by decide) ?_
    refine b_icge (tgt := 64) dX1_firstThroughInn_5 (by decide) (fun c1 => ?_) (fun c1 => ?_)
    · replace h := ifT c1 h
      refine b_sub [0, 2] rfl ?_
      exact t1_firstThroughInn_64  d0 a1 a2 hd0    _ _ _ h
    · replace h := ifF c1 h
      refine b_iload_n dX1_firstThroughInn_8 rfl (k := 1) rfl ?_
      refine b_iload_n dX1_firstThroughInn_9 rfl (k := 3) rfl ?_
      refine b_ishr dX1_firstThroughInn_10 ?_
      refine b_iconst (v := 1) dX1_firstThroughInn_11 (by decide) ?_
      refine b_iand dX1_firstThroughInn_12 ?_
      refine b_ifeq (tgt := 58) dX1_firstThroughInn_13 (by decide) (fun c2 => ?_) (fun c2 => ?_)
      · replace h := ifT c2 h
        obtain ⟨y3, ey3, h⟩ := nmE h
        refine b_iinc (v := y3) (lv' := [(3, vI y3), (0, vR d0 0), (1, vI a1), (2, vI a2)]) dX1_firstThroughInn_58 (k := 3) rfl ey3.symm (by decide) rfl ?_
        refine b_goto (tgt := 2) dX1_firstThroughInn_61 (by decide) ?_
        refine b_sub [1, 2, 3, 0] rfl ?_
        exact ih y3 _ _ _ h
      · replace h := ifF c2 h
        refine b_aload_n dX1_firstThroughInn_16 rfl (k := 0) rfl ?_
        refine b_getI fl1_45 hd0 rfl dX1_firstThroughInn_17 ?_
        refine b_iflt (tgt := 58) dX1_firstThroughInn_20 (by decide) (fun c4 => ?_) (fun c4 => ?_)
        · replace h := ifT c4 h
          obtain ⟨y5, ey5, h⟩ := nmE h
          refine b_iinc (v := y5) (lv' := [(3, vI y5), (0, vR d0 0), (1, vI a1), (2, vI a2)]) dX1_firstThroughInn_58 (k := 3) rfl ey5.symm (by decide) rfl ?_
          refine b_goto (tgt := 2) dX1_firstThroughInn_61 (by decide) ?_
          refine b_sub [1, 2, 3, 0] rfl ?_
          exact ih y5 _ _ _ h
        · replace h := ifF c4 h
          refine b_aload_n dX1_firstThroughInn_23 rfl (k := 0) rfl ?_
          refine b_getI fl1_45 hd0 rfl dX1_firstThroughInn_24 ?_
          refine b_aload_n dX1_firstThroughInn_27 rfl (k := 0) rfl ?_
          refine b_getF fl1_18 hd0 rfl (grC1 hd0 2) dX1_firstThroughInn_28 ?_
          refine b_alen (v := 17) (arC1_2 hd0) (by decide) (by decide) dX1_firstThroughInn_31 ?_
          refine b_iclt (tgt := 38) dX1_firstThroughInn_32 (by decide) (fun c6 => ?_) (fun c6 => ?_)
          · replace h := ifT c6 h
            refine b_aload_n dX1_firstThroughInn_38 rfl (k := 0) rfl ?_
            refine b_getF fl1_18 hd0 rfl (grC1 hd0 2) dX1_firstThroughInn_39 ?_
            refine b_aload_n dX1_firstThroughInn_42 rfl (k := 0) rfl ?_
            refine b_getI fl1_45 hd0 rfl dX1_firstThroughInn_43 ?_
            refine b_iload_n dX1_firstThroughInn_46 rfl (k := 3) rfl ?_
            obtain ⟨g7, h⟩ := gdE h
            obtain ⟨w8, ew8, h⟩ := nmE h
            refine b_iast (arC1_2 hd0) g7 rfl dX1_firstThroughInn_47 ?_
            refine b_nmW ew8 ?_
            refine b_aload_n dX1_firstThroughInn_48 rfl (k := 0) rfl ?_
            refine b_dup dX1_firstThroughInn_49 rfl ?_
            refine b_getI fl1_45 hd0 rfl dX1_firstThroughInn_50 ?_
            refine b_iconst (v := 1) dX1_firstThroughInn_53 (by decide) ?_
            refine b_iadd dX1_firstThroughInn_54 ?_
            obtain ⟨w9, ew9, h⟩ := nmE h
            refine b_putI fw1_45 hd0 rfl dX1_firstThroughInn_55 ?_
            refine b_nmW ew9 ?_
            obtain ⟨y10, ey10, h⟩ := nmE h
            refine b_iinc (v := y10) (lv' := [(3, vI y10), (0, vR d0 0), (1, vI a1), (2, vI a2)]) dX1_firstThroughInn_58 (k := 3) rfl ey10.symm (by decide) rfl ?_
            refine b_goto (tgt := 2) dX1_firstThroughInn_61 (by decide) ?_
            refine b_sub [1, 2, 3, 0] rfl ?_
            exact ih y10 _ _ _ h
          · replace h := ifF c6 h
            refine b_goto (tgt := 58) dX1_firstThroughInn_35 (by decide) ?_
            obtain ⟨y11, ey11, h⟩ := nmE h
            refine b_iinc (v := y11) (lv' := [(3, vI y11), (0, vR d0 0), (1, vI a1), (2, vI a2)]) dX1_firstThroughInn_58 (k := 3) rfl ey11.symm (by decide) rfl ?_
            refine b_goto (tgt := 2) dX1_firstThroughInn_61 (by decide) ?_
            refine b_sub [1, 2, 3, 0] rfl ?_
            exact ih y11 _ _ _ h
def f1_firstThroughInn  (d0 : Nat) (a1 : Int32) (a2 : Int32)   (w : Mem) : Option (Int32 × Mem) :=
  f1_firstThroughInn_2  d0 a1 a2  100000 0 w
set_option maxRecDepth 100000 in
set_option maxHeartbeats 4000000 in
theorem t1_firstThroughInn   (d0 : Nat) (a1 : Int32) (a2 : Int32) (hd0 : Ob d0 1)    (w w' : Mem) (r : Int32) (h : f1_firstThroughInn  d0 a1 a2   w = some (r, w')) : Bk yX1_firstThroughInn cX1_firstThroughInn 5 (some .int) 1 0 [(0, vR d0 0), (1, vI a1), (2, vI a2)] [] w (some (vI r)) w' := by
  unfold f1_firstThroughInn at h
  refine b_iconst (v := 0) dX1_firstThroughInn_0 (by decide) ?_
  refine b_istore_n (lv' := [(3, vI 0), (0, vR d0 0), (1, vI a1), (2, vI a2)]) dX1_firstThroughInn_1 rfl (by decide) rfl ?_
  refine b_sub [1, 2, 3, 0] rfl ?_
  exact t1_firstThroughInn_2  d0 a1 a2 hd0   100000 0 _ _ _ h
theorem s1_firstThroughInn (d0 : Nat) (a1 : Int32) (a2 : Int32) (hd0 : Ob d0 1) (w w' : Mem) (r : Int32) (h : f1_firstThroughInn  d0 a1 a2  w = some (r, w')) : Sp yX1_firstThroughInn cX1_firstThroughInn 5 (some .int) 1 [vR d0 0, vI a1, vI a2] w (some (vI r)) w' := sp_of (by decide) (fun _ => rfl) (fun _ => Nat.le_of_ble_eq_true rfl) (t1_firstThroughInn  d0 a1 a2 hd0  _ _ _ h)
-- X6_feetOf OneADay$Rock
def f6_feetOf_4  (d0 : Nat) (a1 : Int32)  : Nat → Int32 → Int32 → Mem → Option (Int32 × Mem)
  | 0, _, _, _ => none
  | n + 1, x2, x3, w =>
  if (w.1 d0 4 0) ≤ x3 then (some (x2, w)) else (if 8 ≤ x3 then (some (x2, w)) else (if ((jshr a1 x3) &&& 1) = 0 then (bnd (x3 + 1) fun y4 => f6_feetOf_4  d0 a1  n x2 y4 w) else (if x3 < 0 ∨ 8 ≤ Int32.toNatClampNeg x3 then none else bnd (x2 + (2 * (w.1 d0 7 (Int32.toNatClampNeg x3)))) fun y6 => bnd (x3 + 1) fun y7 => f6_feetOf_4  d0 a1  n y6 y7 w)))
set_option maxRecDepth 100000 in
set_option maxHeartbeats 4000000 in
theorem t6_feetOf_4   (d0 : Nat) (a1 : Int32) (hd0 : Ob d0 6)   : ∀ (n : Nat) (x2 : Int32) (x3 : Int32) (w w' : Mem) (r : Int32), f6_feetOf_4  d0 a1  n x2 x3 w = some (r, w') → Bk yX6_feetOf cX6_feetOf 4 (some .int) 1 4 [(0, vR d0 0), (1, vI a1), (2, vI x2), (3, vI x3)] [] w (some (vI r)) w' := by
  intro n
  induction n with
  | zero =>
    intro x2 x3 w w' r h
    cases (show (none : Option (Int32 × Mem)) = some _ from h)
  | succ n ih =>
    intro x2 x3 w w' r h
    rw [f6_feetOf_4] at h
    refine b_iload_n dX6_feetOf_4 rfl (k := 3) rfl ?_
    refine b_aload_n dX6_feetOf_5 rfl (k := 0) rfl ?_
    refine b_getI fl6_45 hd0 rfl dX6_feetOf_6 ?_
    refine b_icge (tgt := 46) dX6_feetOf_9 (by decide) (fun c1 => ?_) (fun c1 => ?_)
    · replace h := ifT c1 h
      refine b_iload_n dX6_feetOf_46 rfl (k := 2) rfl ?_
      obtain ⟨rfl, rfl⟩ := rtE h
      exact b_iret rfl dX6_feetOf_47
    · replace h := ifF c1 h
      refine b_iload_n dX6_feetOf_12 rfl (k := 3) rfl ?_
      refine b_aload_n dX6_feetOf_13 rfl (k := 0) rfl ?_
      refine b_getF fl6_9 hd0 rfl (grC6 hd0 7) dX6_feetOf_14 ?_
      refine b_alen (v := 8) (arC6_7 hd0) (by decide) (by decide) dX6_feetOf_17 ?_
      refine b_icge (tgt := 46) dX6_feetOf_18 (by decide) (fun c2 => ?_) (fun c2 => ?_)
      · replace h := ifT c2 h
        refine b_iload_n dX6_feetOf_46 rfl (k := 2) rfl ?_
        obtain ⟨rfl, rfl⟩ := rtE h
        exact b_iret rfl dX6_feetOf_47
      · replace h := ifF c2 h
        refine b_iload_n dX6_feetOf_21 rfl (k := 1) rfl ?_
        refine b_iload_n dX6_feetOf_22 rfl (k := 3) rfl ?_
        refine b_ishr dX6_feetOf_23 ?_
        refine b_iconst (v := 1) dX6_feetOf_24 (by decide) ?_
        refine b_iand dX6_feetOf_25 ?_
        refine b_ifeq (tgt := 40) dX6_feetOf_26 (by decide) (fun c3 => ?_) (fun c3 => ?_)
        · replace h := ifT c3 h
          obtain ⟨y4, ey4, h⟩ := nmE h
          refine b_iinc (v := y4) (lv' := [(3, vI y4), (0, vR d0 0), (1, vI a1), (2, vI x2)]) dX6_feetOf_40 (k := 3) rfl ey4.symm (by decide) rfl ?_
          refine b_goto (tgt := 4) dX6_feetOf_43 (by decide) ?_
          refine b_sub [1, 2, 3, 0] rfl ?_
          exact ih x2 y4 _ _ _ h
        · replace h := ifF c3 h
          refine b_iload_n dX6_feetOf_29 rfl (k := 2) rfl ?_
          refine b_iconst (v := 2) dX6_feetOf_30 (by decide) ?_
          refine b_aload_n dX6_feetOf_31 rfl (k := 0) rfl ?_
          refine b_getF fl6_9 hd0 rfl (grC6 hd0 7) dX6_feetOf_32 ?_
          refine b_iload_n dX6_feetOf_35 rfl (k := 3) rfl ?_
          obtain ⟨g5, h⟩ := gdE h
          refine b_iald (arC6_7 hd0) g5 rfl dX6_feetOf_36 ?_
          refine b_imul dX6_feetOf_37 ?_
          refine b_iadd dX6_feetOf_38 ?_
          obtain ⟨y6, ey6, h⟩ := nmE h
          refine b_nmI ey6 ?_
          refine b_istore_n (lv' := [(2, vI y6), (0, vR d0 0), (1, vI a1), (3, vI x3)]) dX6_feetOf_39 rfl (by decide) rfl ?_
          obtain ⟨y7, ey7, h⟩ := nmE h
          refine b_iinc (v := y7) (lv' := [(3, vI y7), (2, vI y6), (0, vR d0 0), (1, vI a1)]) dX6_feetOf_40 (k := 3) rfl ey7.symm (by decide) rfl ?_
          refine b_goto (tgt := 4) dX6_feetOf_43 (by decide) ?_
          refine b_sub [2, 3, 1, 0] rfl ?_
          exact ih y6 y7 _ _ _ h
def f6_feetOf  (d0 : Nat) (a1 : Int32)   (w : Mem) : Option (Int32 × Mem) :=
  f6_feetOf_4  d0 a1  100000 0 0 w
set_option maxRecDepth 100000 in
set_option maxHeartbeats 4000000 in
theorem t6_feetOf   (d0 : Nat) (a1 : Int32) (hd0 : Ob d0 6)    (w w' : Mem) (r : Int32) (h : f6_feetOf  d0 a1   w = some (r, w')) : Bk yX6_feetOf cX6_feetOf 4 (some .int) 1 0 [(0, vR d0 0), (1, vI a1)] [] w (some (vI r)) w' := by
  unfold f6_feetOf at h
  refine b_iconst (v := 0) dX6_feetOf_0 (by decide) ?_
  refine b_istore_n (lv' := [(2, vI 0), (0, vR d0 0), (1, vI a1)]) dX6_feetOf_1 rfl (by decide) rfl ?_
  refine b_iconst (v := 0) dX6_feetOf_2 (by decide) ?_
  refine b_istore_n (lv' := [(3, vI 0), (2, vI 0), (0, vR d0 0), (1, vI a1)]) dX6_feetOf_3 rfl (by decide) rfl ?_
  refine b_sub [2, 3, 1, 0] rfl ?_
  exact t6_feetOf_4  d0 a1 hd0   100000 0 0 _ _ _ h
theorem s6_feetOf (d0 : Nat) (a1 : Int32) (hd0 : Ob d0 6) (w w' : Mem) (r : Int32) (h : f6_feetOf  d0 a1  w = some (r, w')) : Sp yX6_feetOf cX6_feetOf 4 (some .int) 1 [vR d0 0, vI a1] w (some (vI r)) w' := sp_of (by decide) (fun _ => rfl) (fun _ => Nat.le_of_ble_eq_true rfl) (t6_feetOf  d0 a1 hd0  _ _ _ h)
-- X7_firstOf OneADay
def f7_firstOf_2  (a0 : Int32)  : Nat → Int32 → Mem → Option (Int32 × Mem)
  | 0, _, _ => none
  | n + 1, x1, w =>
  if 8 ≤ x1 then (some ((-1), w)) else (if ((jshr a0 x1) &&& 1) = 0 then (bnd (x1 + 1) fun y3 => f7_firstOf_2  a0  n y3 w) else (some (x1, w)))
set_option maxRecDepth 100000 in
set_option maxHeartbeats 4000000 in
theorem t7_firstOf_2   (a0 : Int32)    : ∀ (n : Nat) (x1 : Int32) (w w' : Mem) (r : Int32), f7_firstOf_2  a0  n x1 w = some (r, w') → Bk yX7_firstOf cX7_firstOf 2 (some .int) 1 2 [(0, vI a0), (1, vI x1)] [] w (some (vI r)) w' := by
  intro n
  induction n with
  | zero =>
    intro x1 w w' r h
    cases (show (none : Option (Int32 × Mem)) = some _ from h)
  | succ n ih =>
    intro x1 w w' r h
    rw [f7_firstOf_2] at h
    refine b_iload_n dX7_firstOf_2 rfl (k := 1) rfl ?_
    refine b_bipush (v := 8) dX7_firstOf_3 (by decide) ?_
    refine b_icge (tgt := 24) dX7_firstOf_5 (by decide) (fun c1 => ?_) (fun c1 => ?_)
    · replace h := ifT c1 h
      refine b_iconst (v := (-1)) dX7_firstOf_24 (by decide) ?_
      obtain ⟨rfl, rfl⟩ := rtE h
      exact b_iret rfl dX7_firstOf_25
    · replace h := ifF c1 h
      refine b_iload_n dX7_firstOf_8 rfl (k := 0) rfl ?_
      refine b_iload_n dX7_firstOf_9 rfl (k := 1) rfl ?_
      refine b_ishr dX7_firstOf_10 ?_
      refine b_iconst (v := 1) dX7_firstOf_11 (by decide) ?_
      refine b_iand dX7_firstOf_12 ?_
      refine b_ifeq (tgt := 18) dX7_firstOf_13 (by decide) (fun c2 => ?_) (fun c2 => ?_)
      · replace h := ifT c2 h
        obtain ⟨y3, ey3, h⟩ := nmE h
        refine b_iinc (v := y3) (lv' := [(1, vI y3), (0, vI a0)]) dX7_firstOf_18 (k := 1) rfl ey3.symm (by decide) rfl ?_
        refine b_goto (tgt := 2) dX7_firstOf_21 (by decide) ?_
        refine b_sub [1, 0] rfl ?_
        exact ih y3 _ _ _ h
      · replace h := ifF c2 h
        refine b_iload_n dX7_firstOf_16 rfl (k := 1) rfl ?_
        obtain ⟨rfl, rfl⟩ := rtE h
        exact b_iret rfl dX7_firstOf_17
def f7_firstOf  (a0 : Int32)   (w : Mem) : Option (Int32 × Mem) :=
  f7_firstOf_2  a0  100000 0 w
set_option maxRecDepth 100000 in
set_option maxHeartbeats 4000000 in
theorem t7_firstOf   (a0 : Int32)     (w w' : Mem) (r : Int32) (h : f7_firstOf  a0   w = some (r, w')) : Bk yX7_firstOf cX7_firstOf 2 (some .int) 1 0 [(0, vI a0)] [] w (some (vI r)) w' := by
  unfold f7_firstOf at h
  refine b_iconst (v := 0) dX7_firstOf_0 (by decide) ?_
  refine b_istore_n (lv' := [(1, vI 0), (0, vI a0)]) dX7_firstOf_1 rfl (by decide) rfl ?_
  refine b_sub [1, 0] rfl ?_
  exact t7_firstOf_2  a0    100000 0 _ _ _ h
theorem s7_firstOf (a0 : Int32)  (w w' : Mem) (r : Int32) (h : f7_firstOf  a0  w = some (r, w')) : Sp yX7_firstOf cX7_firstOf 2 (some .int) 1 [vI a0] w (some (vI r)) w' := sp_of (by decide) (fun _ => rfl) (fun _ => Nat.le_of_ble_eq_true rfl) (t7_firstOf  a0   _ _ _ h)
-- X1_live OneADay$Days
def f1_live_82  (d0 : Nat) (d1 : Nat) (a2 : Int32)   (w : Mem) : Option Mem :=
  if (w.1 d0 7 0) < (w.1 d1 1 0) then (bnd (sI w d0 13 0 0) fun w2 => some w2) else (bnd (sI w d0 13 0 1) fun w3 => some w3)
set_option maxRecDepth 100000 in
set_option maxHeartbeats 4000000 in
theorem t1_live_82   (d0 : Nat) (d1 : Nat) (a2 : Int32) (hd0 : Ob d0 1) (hd1 : Ob d1 6)    (w w' : Mem) (h : f1_live_82  d0 d1 a2   w = some w') : Bk yX1_live cX1_live 5 none 6 82 [(0, vR d0 0), (1, vR d1 0)] [] w none w' := by
  unfold f1_live_82 at h
  refine b_aload_n dX1_live_82 rfl (k := 0) rfl ?_
  refine b_aload_n dX1_live_83 rfl (k := 0) rfl ?_
  refine b_getI fl1_51 hd0 rfl dX1_live_84 ?_
  refine b_aload_n dX1_live_87 rfl (k := 1) rfl ?_
  refine b_getI fl1_116 hd1 rfl dX1_live_88 ?_
  refine b_iclt (tgt := 98) dX1_live_91 (by decide) (fun c1 => ?_) (fun c1 => ?_)
  · replace h := ifT c1 h
    refine b_iconst (v := 0) dX1_live_98 (by decide) ?_
    obtain ⟨w2, ew2, h⟩ := nmE h
    refine b_putZ (by decide) fw1_69 hd0 rfl dX1_live_99 ?_
    refine b_nmW ew2 ?_
    cases h
    exact b_vret rfl dX1_live_102
  · replace h := ifF c1 h
    refine b_iconst (v := 1) dX1_live_94 (by decide) ?_
    refine b_goto (tgt := 99) dX1_live_95 (by decide) ?_
    obtain ⟨w3, ew3, h⟩ := nmE h
    refine b_putZ (by decide) fw1_69 hd0 rfl dX1_live_99 ?_
    refine b_nmW ew3 ?_
    cases h
    exact b_vret rfl dX1_live_102
def f1_live_50  (d0 : Nat) (d1 : Nat) (a2 : Int32)  (s1 : Int32) (s2 : Int32) (w : Mem) : Option Mem :=
  bndV (f1_close d0 s1 s2 w) fun w1 => f1_live_82  d0 d1 a2   w1
set_option maxRecDepth 100000 in
set_option maxHeartbeats 4000000 in
theorem t1_live_50   (d0 : Nat) (d1 : Nat) (a2 : Int32) (hd0 : Ob d0 1) (hd1 : Ob d1 6)   (s1 : Int32) (s2 : Int32) (w w' : Mem) (h : f1_live_50  d0 d1 a2  s1 s2 w = some w') : Bk yX1_live cX1_live 5 none 6 50 [(0, vR d0 0), (1, vR d1 0)] [vI s2, vI s1, vR d0 0] w none w' := by
  unfold f1_live_50 at h
  obtain ⟨w1, hw1, h⟩ := bdV h
  refine b_callVv mv1_close ml1_109 hd0 (s1_close d0 s1 s2 hd0 _ _  hw1) rfl (by decide) (by decide) (Nat.le_of_ble_eq_true rfl) rfl dX1_live_50 ?_
  refine b_goto (tgt := 82) dX1_live_53 (by decide) ?_
  refine b_sub [0, 1] rfl ?_
  exact t1_live_82  d0 d1 a2 hd0 hd1    _ _  h
def f1_live_77  (d0 : Nat) (d1 : Nat) (a2 : Int32)  (x4 : Int32) (s1 : Int32) (w : Mem) : Option Mem :=
  bndV (f1_close d0 s1 x4 w) fun w1 => f1_live_82  d0 d1 a2   w1
set_option maxRecDepth 100000 in
set_option maxHeartbeats 4000000 in
theorem t1_live_77   (d0 : Nat) (d1 : Nat) (a2 : Int32) (hd0 : Ob d0 1) (hd1 : Ob d1 6)   (x4 : Int32) (s1 : Int32) (w w' : Mem) (h : f1_live_77  d0 d1 a2  x4 s1 w = some w') : Bk yX1_live cX1_live 5 none 6 77 [(0, vR d0 0), (1, vR d1 0), (4, vI x4)] [vI s1, vR d0 0] w none w' := by
  unfold f1_live_77 at h
  refine b_iload dX1_live_77 (k := 2) rfl ?_
  obtain ⟨w1, hw1, h⟩ := bdV h
  refine b_callVv mv1_close ml1_109 hd0 (s1_close d0 s1 x4 hd0 _ _  hw1) rfl (by decide) (by decide) (Nat.le_of_ble_eq_true rfl) rfl dX1_live_79 ?_
  refine b_sub [0, 1] rfl ?_
  exact t1_live_82  d0 d1 a2 hd0 hd1    _ _  h
def f1_live  (d0 : Nat) (d1 : Nat) (a2 : Int32)   (w : Mem) : Option Mem :=
  bndO (f1_comers d0 d1 (w.1 d0 6 0) w) fun r2 w1 => bndO (f6_feetOf d1 r2 w1) fun r4 w3 => bnd (sI w3 d0 11 0 ((w1.1 d0 11 0) + r4)) fun w5 => if a2 ≤ 0 then (bndO (f7_outcomeOf r2 w5) fun r8 w7 => if r8 = 1 then (bndO (f7_firstOf r2 w7) fun r11 w10 => f1_live_77  d0 d1 a2  r8 r11 w10) else (f1_live_77  d0 d1 a2  r8 (-1) w7)) else (bndO (f1_firstThroughInn d0 r2 a2 w5) fun r13 w12 => if r13 = (-1) then (f1_live_50  d0 d1 a2  r13 0 w12) else (f1_live_50  d0 d1 a2  r13 1 w12))
set_option maxRecDepth 100000 in
set_option maxHeartbeats 4000000 in
theorem t1_live   (d0 : Nat) (d1 : Nat) (a2 : Int32) (hd0 : Ob d0 1) (hd1 : Ob d1 6)    (w w' : Mem) (h : f1_live  d0 d1 a2   w = some w') : Bk yX1_live cX1_live 5 none 6 0 [(0, vR d0 0), (1, vR d1 0), (2, vI a2)] [] w none w' := by
  unfold f1_live at h
  refine b_aload_n dX1_live_0 rfl (k := 0) rfl ?_
  refine b_aload_n dX1_live_1 rfl (k := 1) rfl ?_
  refine b_aload_n dX1_live_2 rfl (k := 0) rfl ?_
  refine b_getI fl1_48 hd0 rfl dX1_live_3 ?_
  obtain ⟨r2, w1, hw1, h⟩ := bdO h
  refine b_callVi mv1_comers ml1_99 hd0 (s1_comers d0 d1 (w.1 d0 6 0) hd0 hd1 _ _ _ hw1) rfl (by decide) (by decide) (Nat.le_of_ble_eq_true rfl) rfl dX1_live_6 ?_
  refine b_istore_n (lv' := [(3, vI r2), (0, vR d0 0), (1, vR d1 0), (2, vI a2)]) dX1_live_9 rfl (by decide) rfl ?_
  refine b_aload_n dX1_live_10 rfl (k := 1) rfl ?_
  refine b_dup dX1_live_11 rfl ?_
  refine b_getI fl1_63 hd0 rfl dX1_live_12 ?_
  refine b_aload_n dX1_live_15 rfl (k := 2) rfl ?_
  refine b_iload_n dX1_live_16 rfl (k := 0) rfl ?_
  obtain ⟨r4, w3, hw3, h⟩ := bdO h
  refine b_callVi mv6_feetOf ml1_102 hd1 (s6_feetOf d1 r2 hd1 _ _ _ hw3) rfl (by decide) (by decide) (Nat.le_of_ble_eq_true rfl) rfl dX1_live_17 ?_
  refine b_iadd dX1_live_20 ?_
  obtain ⟨w5, ew5, h⟩ := nmE h
  refine b_putI fw1_63 hd0 rfl dX1_live_21 ?_
  refine b_nmW ew5 ?_
  refine b_iload_n dX1_live_24 rfl (k := 3) rfl ?_
  refine b_ifle (tgt := 56) dX1_live_25 (by decide) (fun c6 => ?_) (fun c6 => ?_)
  · replace h := ifT c6 h
    refine b_iload_n dX1_live_56 rfl (k := 0) rfl ?_
    obtain ⟨r8, w7, hw7, h⟩ := bdO h
    refine b_callN ms7_outcomeOf (fun _ hU => hU.1) (s7_outcomeOf r2  _ _ _ hw7) rfl (by decide) (by decide) (Nat.le_of_ble_eq_true rfl) rfl dX1_live_57 ?_
    refine b_istore (lv' := [(4, vI r8), (3, vI r2), (0, vR d0 0), (1, vR d1 0), (2, vI a2)]) dX1_live_60 (by decide) rfl ?_
    refine b_aload_n dX1_live_62 rfl (k := 2) rfl ?_
    refine b_iload dX1_live_63 (k := 0) rfl ?_
    refine b_iconst (v := 1) dX1_live_65 (by decide) ?_
    refine b_icne (tgt := 76) dX1_live_66 (by decide) (fun c9 => ?_) (fun c9 => ?_)
    · replace h := ifF c9 h
      refine b_iconst (v := (-1)) dX1_live_76 (by decide) ?_
      refine b_sub [2, 3, 0] rfl ?_
      exact t1_live_77  d0 d1 a2 hd0 hd1   r8 (-1) _ _  h
    · replace h := ifT c9 h
      refine b_iload_n dX1_live_69 rfl (k := 1) rfl ?_
      obtain ⟨r11, w10, hw10, h⟩ := bdO h
      refine b_callN ms7_firstOf (fun _ hU => hU.2) (s7_firstOf r2  _ _ _ hw10) rfl (by decide) (by decide) (Nat.le_of_ble_eq_true rfl) rfl dX1_live_70 ?_
      refine b_goto (tgt := 77) dX1_live_73 (by decide) ?_
      refine b_sub [2, 3, 0] rfl ?_
      exact t1_live_77  d0 d1 a2 hd0 hd1   r8 r11 _ _  h
  · replace h := ifF c6 h
    refine b_aload_n dX1_live_28 rfl (k := 1) rfl ?_
    refine b_iload_n dX1_live_29 rfl (k := 0) rfl ?_
    refine b_iload_n dX1_live_30 rfl (k := 3) rfl ?_
    obtain ⟨r13, w12, hw12, h⟩ := bdO h
    refine b_callVi mv1_firstThroughInn ml1_105 hd0 (s1_firstThroughInn d0 r2 a2 hd0 _ _ _ hw12) rfl (by decide) (by decide) (Nat.le_of_ble_eq_true rfl) rfl dX1_live_31 ?_
    refine b_istore (lv' := [(4, vI r13), (3, vI r2), (0, vR d0 0), (1, vR d1 0), (2, vI a2)]) dX1_live_34 (by decide) rfl ?_
    refine b_aload_n dX1_live_36 rfl (k := 2) rfl ?_
    refine b_iload dX1_live_37 (k := 0) rfl ?_
    refine b_iload dX1_live_39 (k := 0) rfl ?_
    refine b_iconst (v := (-1)) dX1_live_41 (by decide) ?_
    refine b_icne (tgt := 49) dX1_live_42 (by decide) (fun c14 => ?_) (fun c14 => ?_)
    · replace h := ifF c14 h
      refine b_iconst (v := 1) dX1_live_49 (by decide) ?_
      refine b_sub [2, 3] rfl ?_
      exact t1_live_50  d0 d1 a2 hd0 hd1   r13 1 _ _  h
    · replace h := ifT c14 h
      refine b_iconst (v := 0) dX1_live_45 (by decide) ?_
      refine b_goto (tgt := 50) dX1_live_46 (by decide) ?_
      refine b_sub [2, 3] rfl ?_
      exact t1_live_50  d0 d1 a2 hd0 hd1   r13 0 _ _  h
theorem s1_live (d0 : Nat) (d1 : Nat) (a2 : Int32) (hd0 : Ob d0 1) (hd1 : Ob d1 6) (w w' : Mem) (h : f1_live  d0 d1 a2  w = some w') : Sp yX1_live cX1_live 5 none 6 [vR d0 0, vR d1 0, vI a2] w none w' := sp_of (by decide) (fun _ => rfl) (fun _ => Nat.le_of_ble_eq_true rfl) (t1_live  d0 d1 a2 hd0 hd1  _ _  h)
-- X1_isLatest OneADay$Days
def f1_isLatest  (d0 : Nat) (a1 : Int32)   (w : Mem) : Option (Int32 × Mem) :=
  if a1 < 0 then (some (0, w)) else (if (w.1 d0 6 0) ≤ a1 then (some (0, w)) else (if a1 < ((w.1 d0 6 0) - 60) then (some (0, w)) else (some (1, w))))
set_option maxRecDepth 100000 in
set_option maxHeartbeats 4000000 in
theorem t1_isLatest   (d0 : Nat) (a1 : Int32) (hd0 : Ob d0 1)    (w w' : Mem) (r : Int32) (h : f1_isLatest  d0 a1   w = some (r, w')) : Bk yX1_isLatest cX1_isLatest 2 (some .boolean) 1 0 [(0, vR d0 0), (1, vI a1)] [] w (some (vI r)) w' := by
  unfold f1_isLatest at h
  refine b_iload_n dX1_isLatest_0 rfl (k := 1) rfl ?_
  refine b_iflt (tgt := 27) dX1_isLatest_1 (by decide) (fun c1 => ?_) (fun c1 => ?_)
  · replace h := ifT c1 h
    refine b_iconst (v := 0) dX1_isLatest_27 (by decide) ?_
    obtain ⟨rfl, rfl⟩ := rtE h
    exact b_zret rfl (by decide) dX1_isLatest_28
  · replace h := ifF c1 h
    refine b_iload_n dX1_isLatest_4 rfl (k := 1) rfl ?_
    refine b_aload_n dX1_isLatest_5 rfl (k := 0) rfl ?_
    refine b_getI fl1_48 hd0 rfl dX1_isLatest_6 ?_
    refine b_icge (tgt := 27) dX1_isLatest_9 (by decide) (fun c2 => ?_) (fun c2 => ?_)
    · replace h := ifT c2 h
      refine b_iconst (v := 0) dX1_isLatest_27 (by decide) ?_
      obtain ⟨rfl, rfl⟩ := rtE h
      exact b_zret rfl (by decide) dX1_isLatest_28
    · replace h := ifF c2 h
      refine b_iload_n dX1_isLatest_12 rfl (k := 1) rfl ?_
      refine b_aload_n dX1_isLatest_13 rfl (k := 0) rfl ?_
      refine b_getI fl1_48 hd0 rfl dX1_isLatest_14 ?_
      refine b_bipush (v := 60) dX1_isLatest_17 (by decide) ?_
      refine b_isub dX1_isLatest_19 ?_
      refine b_iclt (tgt := 27) dX1_isLatest_20 (by decide) (fun c3 => ?_) (fun c3 => ?_)
      · replace h := ifT c3 h
        refine b_iconst (v := 0) dX1_isLatest_27 (by decide) ?_
        obtain ⟨rfl, rfl⟩ := rtE h
        exact b_zret rfl (by decide) dX1_isLatest_28
      · replace h := ifF c3 h
        refine b_iconst (v := 1) dX1_isLatest_23 (by decide) ?_
        refine b_goto (tgt := 28) dX1_isLatest_24 (by decide) ?_
        obtain ⟨rfl, rfl⟩ := rtE h
        exact b_zret rfl (by decide) dX1_isLatest_28
theorem s1_isLatest (d0 : Nat) (a1 : Int32) (hd0 : Ob d0 1) (w w' : Mem) (r : Int32) (h : f1_isLatest  d0 a1  w = some (r, w')) : Sp yX1_isLatest cX1_isLatest 2 (some .boolean) 1 [vR d0 0, vI a1] w (some (vI r)) w' := sp_of (by decide) (fun _ => rfl) (fun _ => Nat.le_of_ble_eq_true rfl) (t1_isLatest  d0 a1 hd0  _ _ _ h)
-- X1_blessedOn OneADay$Days
def f1_blessedOn  (d0 : Nat) (a1 : Int32)   (w : Mem) : Option (Int32 × Mem) :=
  bnd (jrem a1 60) fun y1 => bndO (f1_isLatest d0 a1 w) fun r3 w2 => if r3 = 0 then (some ((-1), w2)) else (if y1 < 0 then (some ((-1), w2)) else (if 60 ≤ y1 then (some ((-1), w2)) else (if y1 < 0 ∨ 60 ≤ Int32.toNatClampNeg y1 then none else some (w2.1 d0 3 (Int32.toNatClampNeg y1), w2))))
set_option maxRecDepth 100000 in
set_option maxHeartbeats 4000000 in
theorem t1_blessedOn   (d0 : Nat) (a1 : Int32) (hd0 : Ob d0 1)    (w w' : Mem) (r : Int32) (h : f1_blessedOn  d0 a1   w = some (r, w')) : Bk yX1_blessedOn cX1_blessedOn 3 (some .int) 2 0 [(0, vR d0 0), (1, vI a1)] [] w (some (vI r)) w' := by
  unfold f1_blessedOn at h
  refine b_iload_n dX1_blessedOn_0 rfl (k := 1) rfl ?_
  refine b_bipush (v := 60) dX1_blessedOn_1 (by decide) ?_
  refine b_irem dX1_blessedOn_3 (by decide) ?_
  obtain ⟨y1, ey1, h⟩ := nmE h
  refine b_nmI ey1 ?_
  refine b_istore_n (lv' := [(2, vI y1), (0, vR d0 0), (1, vI a1)]) dX1_blessedOn_4 rfl (by decide) rfl ?_
  refine b_aload_n dX1_blessedOn_5 rfl (k := 1) rfl ?_
  refine b_iload_n dX1_blessedOn_6 rfl (k := 2) rfl ?_
  obtain ⟨r3, w2, hw2, h⟩ := bdO h
  refine b_callVi mv1_isLatest ml1_119 hd0 (s1_isLatest d0 a1 hd0 _ _ _ hw2) rfl (by decide) (by decide) (Nat.le_of_ble_eq_true rfl) rfl dX1_blessedOn_7 ?_
  refine b_ifeq (tgt := 35) dX1_blessedOn_10 (by decide) (fun c4 => ?_) (fun c4 => ?_)
  · replace h := ifT c4 h
    refine b_iconst (v := (-1)) dX1_blessedOn_35 (by decide) ?_
    obtain ⟨rfl, rfl⟩ := rtE h
    exact b_iret rfl dX1_blessedOn_36
  · replace h := ifF c4 h
    refine b_iload_n dX1_blessedOn_13 rfl (k := 0) rfl ?_
    refine b_iflt (tgt := 35) dX1_blessedOn_14 (by decide) (fun c5 => ?_) (fun c5 => ?_)
    · replace h := ifT c5 h
      refine b_iconst (v := (-1)) dX1_blessedOn_35 (by decide) ?_
      obtain ⟨rfl, rfl⟩ := rtE h
      exact b_iret rfl dX1_blessedOn_36
    · replace h := ifF c5 h
      refine b_iload_n dX1_blessedOn_17 rfl (k := 0) rfl ?_
      refine b_aload_n dX1_blessedOn_18 rfl (k := 1) rfl ?_
      refine b_getF fl1_21 hd0 rfl (grC1 hd0 3) dX1_blessedOn_19 ?_
      refine b_alen (v := 60) (arC1_3 hd0) (by decide) (by decide) dX1_blessedOn_22 ?_
      refine b_icge (tgt := 35) dX1_blessedOn_23 (by decide) (fun c6 => ?_) (fun c6 => ?_)
      · replace h := ifT c6 h
        refine b_iconst (v := (-1)) dX1_blessedOn_35 (by decide) ?_
        obtain ⟨rfl, rfl⟩ := rtE h
        exact b_iret rfl dX1_blessedOn_36
      · replace h := ifF c6 h
        refine b_aload_n dX1_blessedOn_26 rfl (k := 1) rfl ?_
        refine b_getF fl1_21 hd0 rfl (grC1 hd0 3) dX1_blessedOn_27 ?_
        refine b_iload_n dX1_blessedOn_30 rfl (k := 0) rfl ?_
        obtain ⟨g7, h⟩ := gdE h
        refine b_iald (arC1_3 hd0) g7 rfl dX1_blessedOn_31 ?_
        refine b_goto (tgt := 36) dX1_blessedOn_32 (by decide) ?_
        obtain ⟨rfl, rfl⟩ := rtE h
        exact b_iret rfl dX1_blessedOn_36
theorem s1_blessedOn (d0 : Nat) (a1 : Int32) (hd0 : Ob d0 1) (w w' : Mem) (r : Int32) (h : f1_blessedOn  d0 a1  w = some (r, w')) : Sp yX1_blessedOn cX1_blessedOn 3 (some .int) 2 [vR d0 0, vI a1] w (some (vI r)) w' := sp_of (by decide) (fun _ => rfl) (fun _ => Nat.le_of_ble_eq_true rfl) (t1_blessedOn  d0 a1 hd0  _ _ _ h)
-- X2_clear OneADay$Notes
def f2_clear     (w : Mem) : Option Mem :=
  bnd (sI w 29 4 0 0) fun w1 => bnd (sI w1 29 5 0 0) fun w2 => some w2
set_option maxRecDepth 100000 in
set_option maxHeartbeats 4000000 in
theorem t2_clear        (w w' : Mem) (h : f2_clear     w = some w') : Bk yX2_clear cX2_clear 1 none 1 0 [(0, vR 29 0)] [] w none w' := by
  unfold f2_clear at h
  refine b_aload_n dX2_clear_0 rfl (k := 0) rfl ?_
  refine b_iconst (v := 0) dX2_clear_1 (by decide) ?_
  obtain ⟨w1, ew1, h⟩ := nmE h
  refine b_putI fw2_24 ob29 rfl dX2_clear_2 ?_
  refine b_nmW ew1 ?_
  refine b_aload_n dX2_clear_5 rfl (k := 0) rfl ?_
  refine b_iconst (v := 0) dX2_clear_6 (by decide) ?_
  obtain ⟨w2, ew2, h⟩ := nmE h
  refine b_putI fw2_28 ob29 rfl dX2_clear_7 ?_
  refine b_nmW ew2 ?_
  cases h
  exact b_vret rfl dX2_clear_10
theorem s2_clear   (w w' : Mem) (h : f2_clear    w = some w') : Sp yX2_clear cX2_clear 1 none 1 [vR 29 0] w none w' := sp_of (by decide) (fun _ => rfl) (fun _ => Nat.le_of_ble_eq_true rfl) (t2_clear     _ _  h)
