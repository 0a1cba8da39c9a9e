-- X8_next OneADayModel
def f8_next_4  (a1 : Int32) (a2 : Int32)  : Nat → Int32 → Mem → Option (Int32 × Mem)
  | 0, _, _ => none
  | n + 1, x3, w =>
  if (w.1 32 3 0) ≤ x3 then (some (x3, w)) else (bndO (f8_has a1 x3 w) fun r3 w2 => if r3 = 0 then (bnd (x3 + 1) fun y5 => f8_next_4  a1 a2  n y5 w2) else (some (x3, w2)))
set_option maxRecDepth 100000 in
set_option maxHeartbeats 4000000 in
theorem t8_next_4   (a1 : Int32) (a2 : Int32)    : ∀ (n : Nat) (x3 : Int32) (w w' : Mem) (r : Int32), f8_next_4  a1 a2  n x3 w = some (r, w') → Bk yX8_next cX8_next 4 (some .int) 2 4 [(0, vR 32 0), (1, vI a1), (3, vI x3)] [] w (some (vI r)) w' := by
  intro n
  induction n with
  | zero =>
    intro x3 w w' r h
    cases (show (none : Option (Int32 × Mem)) = some _ from h)
  | succ n ih =>
    intro x3 w w' r h
    rw [f8_next_4] at h
    refine b_iload_n dX8_next_4 rfl (k := 2) rfl ?_
    refine b_aload_n dX8_next_5 rfl (k := 0) rfl ?_
    refine b_getI fl8_94 ob32 rfl dX8_next_6 ?_
    refine b_icge (tgt := 26) dX8_next_9 (by decide) (fun c1 => ?_) (fun c1 => ?_)
    · replace h := ifT c1 h
      refine b_iload_n dX8_next_26 rfl (k := 2) rfl ?_
      obtain ⟨rfl, rfl⟩ := rtE h
      exact b_iret rfl dX8_next_27
    · replace h := ifF c1 h
      refine b_iload_n dX8_next_12 rfl (k := 1) rfl ?_
      refine b_iload_n dX8_next_13 rfl (k := 2) rfl ?_
      obtain ⟨r3, w2, hw2, h⟩ := bdO h
      refine b_callSi ms8_has ml8_196 (s8_has a1 x3  _ _ _ hw2) rfl (by decide) (by decide) (Nat.le_of_ble_eq_true rfl) rfl dX8_next_14 ?_
      refine b_ifne (tgt := 26) dX8_next_17 (by decide) (fun c4 => ?_) (fun c4 => ?_)
      · replace h := ifF c4 h
        refine b_iload_n dX8_next_26 rfl (k := 2) rfl ?_
        obtain ⟨rfl, rfl⟩ := rtE h
        exact b_iret rfl dX8_next_27
      · replace h := ifT c4 h
        obtain ⟨y5, ey5, h⟩ := nmE h
        refine b_iinc (v := y5) (lv' := [(3, vI y5), (0, vR 32 0), (1, vI a1)]) dX8_next_20 (k := 2) rfl ey5.symm (by decide) rfl ?_
        refine b_goto (tgt := 4) dX8_next_23 (by decide) ?_
        refine b_sub [1, 2, 0] rfl ?_
        exact ih y5 _ _ _ h
def f8_next  (a1 : Int32) (a2 : Int32)   (w : Mem) : Option (Int32 × Mem) :=
  bnd (a2 + 1) fun y1 => f8_next_4  a1 a2  100000 y1 w
set_option maxRecDepth 100000 in
set_option maxHeartbeats 4000000 in
theorem t8_next   (a1 : Int32) (a2 : Int32)     (w w' : Mem) (r : Int32) (h : f8_next  a1 a2   w = some (r, w')) : Bk yX8_next cX8_next 4 (some .int) 2 0 [(0, vR 32 0), (1, vI a1), (2, vI a2)] [] w (some (vI r)) w' := by
  unfold f8_next at h
  refine b_iload_n dX8_next_0 rfl (k := 2) rfl ?_
  refine b_iconst (v := 1) dX8_next_1 (by decide) ?_
  refine b_iadd dX8_next_2 ?_
  obtain ⟨y1, ey1, h⟩ := nmE h
  refine b_nmI ey1 ?_
  refine b_istore_n (lv' := [(3, vI y1), (0, vR 32 0), (1, vI a1), (2, vI a2)]) dX8_next_3 rfl (by decide) rfl ?_
  refine b_sub [1, 2, 0] rfl ?_
  exact t8_next_4  a1 a2    100000 y1 _ _ _ h
theorem s8_next (a1 : Int32) (a2 : Int32)  (w w' : Mem) (r : Int32) (h : f8_next  a1 a2  w = some (r, w')) : Sp yX8_next cX8_next 4 (some .int) 2 [vR 32 0, vI a1, vI a2] w (some (vI r)) w' := sp_of (by decide) (fun _ => rfl) (fun _ => Nat.le_of_ble_eq_true rfl) (t8_next  a1 a2   _ _ _ h)
-- X8_before OneADayModel
def f8_before_4  (a1 : Int32) (a2 : Int32)  : Nat → Int32 → Mem → Option (Int32 × Mem)
  | 0, _, _ => none
  | n + 1, x3, w =>
  if x3 < 0 then (some (x3, w)) else (bndO (f8_has a1 x3 w) fun r3 w2 => if r3 = 0 then (bnd (x3 + (-1)) fun y5 => f8_before_4  a1 a2  n y5 w2) else (some (x3, w2)))
set_option maxRecDepth 100000 in
set_option maxHeartbeats 4000000 in
theorem t8_before_4   (a1 : Int32) (a2 : Int32)    : ∀ (n : Nat) (x3 : Int32) (w w' : Mem) (r : Int32), f8_before_4  a1 a2  n x3 w = some (r, w') → Bk yX8_before cX8_before 4 (some .int) 2 4 [(1, vI a1), (3, vI x3)] [] w (some (vI r)) w' := by
  intro n
  induction n with
  | zero =>
    intro x3 w w' r h
    cases (show (none : Option (Int32 × Mem)) = some _ from h)
  | succ n ih =>
    intro x3 w w' r h
    rw [f8_before_4] at h
    refine b_iload_n dX8_before_4 rfl (k := 1) rfl ?_
    refine b_iflt (tgt := 22) dX8_before_5 (by decide) (fun c1 => ?_) (fun c1 => ?_)
    · replace h := ifT c1 h
      refine b_iload_n dX8_before_22 rfl (k := 1) rfl ?_
      obtain ⟨rfl, rfl⟩ := rtE h
      exact b_iret rfl dX8_before_23
    · replace h := ifF c1 h
      refine b_iload_n dX8_before_8 rfl (k := 0) rfl ?_
      refine b_iload_n dX8_before_9 rfl (k := 1) rfl ?_
      obtain ⟨r3, w2, hw2, h⟩ := bdO h
      refine b_callSi ms8_has ml8_196 (s8_has a1 x3  _ _ _ hw2) rfl (by decide) (by decide) (Nat.le_of_ble_eq_true rfl) rfl dX8_before_10 ?_
      refine b_ifne (tgt := 22) dX8_before_13 (by decide) (fun c4 => ?_) (fun c4 => ?_)
      · replace h := ifF c4 h
        refine b_iload_n dX8_before_22 rfl (k := 1) rfl ?_
        obtain ⟨rfl, rfl⟩ := rtE h
        exact b_iret rfl dX8_before_23
      · replace h := ifT c4 h
        obtain ⟨y5, ey5, h⟩ := nmE h
        refine b_iinc (v := y5) (lv' := [(3, vI y5), (1, vI a1)]) dX8_before_16 (k := 1) rfl ey5.symm (by decide) rfl ?_
        refine b_goto (tgt := 4) dX8_before_19 (by decide) ?_
        refine b_sub [1, 0] rfl ?_
        exact ih y5 _ _ _ h
def f8_before  (a1 : Int32) (a2 : Int32)   (w : Mem) : Option (Int32 × Mem) :=
  bnd (a2 - 1) fun y1 => f8_before_4  a1 a2  100000 y1 w
set_option maxRecDepth 100000 in
set_option maxHeartbeats 4000000 in
theorem t8_before   (a1 : Int32) (a2 : Int32)     (w w' : Mem) (r : Int32) (h : f8_before  a1 a2   w = some (r, w')) : Bk yX8_before cX8_before 4 (some .int) 2 0 [(0, vR 32 0), (1, vI a1), (2, vI a2)] [] w (some (vI r)) w' := by
  unfold f8_before at h
  refine b_iload_n dX8_before_0 rfl (k := 2) rfl ?_
  refine b_iconst (v := 1) dX8_before_1 (by decide) ?_
  refine b_isub dX8_before_2 ?_
  obtain ⟨y1, ey1, h⟩ := nmE h
  refine b_nmI ey1 ?_
  refine b_istore_n (lv' := [(3, vI y1), (0, vR 32 0), (1, vI a1), (2, vI a2)]) dX8_before_3 rfl (by decide) rfl ?_
  refine b_sub [2, 0] rfl ?_
  exact t8_before_4  a1 a2    100000 y1 _ _ _ h
theorem s8_before (a1 : Int32) (a2 : Int32)  (w w' : Mem) (r : Int32) (h : f8_before  a1 a2  w = some (r, w')) : Sp yX8_before cX8_before 4 (some .int) 2 [vR 32 0, vI a1, vI a2] w (some (vI r)) w' := sp_of (by decide) (fun _ => rfl) (fun _ => Nat.le_of_ble_eq_true rfl) (t8_before  a1 a2   _ _ _ h)
-- X8_findCertain OneADayModel
def f8_findCertain_143  (a1 : Int32)  (x3 : Int32) (w : Mem) : Option (Int32 × Mem) :=
  if x3 < (w.1 32 3 0) then (some (0, w)) else (some (1, w))
set_option maxRecDepth 100000 in
set_option maxHeartbeats 4000000 in
theorem t8_findCertain_143   (a1 : Int32)    (x3 : Int32) (w w' : Mem) (r : Int32) (h : f8_findCertain_143  a1  x3 w = some (r, w')) : Bk yX8_findCertain cX8_findCertain 4 (some .boolean) 3 143 [(0, vR 32 0), (3, vI x3)] [] w (some (vI r)) w' := by
  unfold f8_findCertain_143 at h
  refine b_iload_n dX8_findCertain_143 rfl (k := 1) rfl ?_
  refine b_aload_n dX8_findCertain_144 rfl (k := 0) rfl ?_
  refine b_getI fl8_94 ob32 rfl dX8_findCertain_145 ?_
  refine b_iclt (tgt := 155) dX8_findCertain_148 (by decide) (fun c1 => ?_) (fun c1 => ?_)
  · replace h := ifT c1 h
    refine b_iconst (v := 0) dX8_findCertain_155 (by decide) ?_
    obtain ⟨rfl, rfl⟩ := rtE h
    exact b_zret rfl (by decide) dX8_findCertain_156
  · replace h := ifF c1 h
    refine b_iconst (v := 1) dX8_findCertain_151 (by decide) ?_
    refine b_goto (tgt := 156) dX8_findCertain_152 (by decide) ?_
    obtain ⟨rfl, rfl⟩ := rtE h
    exact b_zret rfl (by decide) dX8_findCertain_156
def f8_findCertain_66  (a1 : Int32)  : Nat → Int32 → Mem → Option (Int32 × Mem)
  | 0, _, _ => none
  | n + 1, x3, w =>
  bndO (f8_in (Int32.toInt64 x3) 0 (Int32.toInt64 ((w.1 32 3 0) - 1)) w) fun r2 w1 => if r2 = 0 then (f8_findCertain_143  a1  x3 w1) else (if x3 < 0 ∨ 8 ≤ Int32.toNatClampNeg x3 then none else if x3 < 0 ∨ 8 ≤ Int32.toNatClampNeg x3 then none else bnd (sI w1 32 32 (Int32.toNatClampNeg x3) ((w1.1 32 32 (Int32.toNatClampNeg x3)) + 1)) fun w6 => if x3 < 0 ∨ 8 ≤ Int32.toNatClampNeg x3 then none else if x3 < 0 ∨ 8 ≤ Int32.toNatClampNeg x3 then none else if (w6.1 32 32 (Int32.toNatClampNeg x3)) = (w6.1 32 5 (Int32.toNatClampNeg x3)) then (if x3 < 0 ∨ 8 ≤ Int32.toNatClampNeg x3 then none else bnd (sI w6 32 32 (Int32.toNatClampNeg x3) (-1)) fun w16 => bndO (f8_before a1 x3 w16) fun r18 w17 => f8_findCertain_66  a1  n r18 w17) else (bndO (f8_isFree x3 a1 w6) fun r11 w10 => if r11 = 0 then (f8_findCertain_66  a1  n x3 w10) else (bndO (f8_next a1 x3 w10) fun r14 w13 => f8_findCertain_66  a1  n r14 w13)))
set_option maxRecDepth 100000 in
set_option maxHeartbeats 4000000 in
theorem t8_findCertain_66   (a1 : Int32)    : ∀ (n : Nat) (x3 : Int32) (w w' : Mem) (r : Int32), f8_findCertain_66  a1  n x3 w = some (r, w') → Bk yX8_findCertain cX8_findCertain 4 (some .boolean) 3 66 [(0, vR 32 0), (1, vI a1), (3, vI x3)] [] w (some (vI r)) w' := by
  intro n
  induction n with
  | zero =>
    intro x3 w w' r h
    cases (show (none : Option (Int32 × Mem)) = some _ from h)
  | succ n ih =>
    intro x3 w w' r h
    rw [f8_findCertain_66] at h
    refine b_iload_n dX8_findCertain_66 rfl (k := 2) rfl ?_
    refine b_i2l dX8_findCertain_67 ?_
    refine b_lconst (v := 0) dX8_findCertain_68 (by decide) ?_
    refine b_aload_n dX8_findCertain_69 rfl (k := 0) rfl ?_
    refine b_getI fl8_94 ob32 rfl dX8_findCertain_70 ?_
    refine b_iconst (v := 1) dX8_findCertain_73 (by decide) ?_
    refine b_isub dX8_findCertain_74 ?_
    refine b_i2l dX8_findCertain_75 ?_
    obtain ⟨r2, w1, hw1, h⟩ := bdO h
    refine b_callSi ms8_in ml8_97 (s8_in (Int32.toInt64 x3) 0 (Int32.toInt64 ((w.1 32 3 0) - 1))  _ _ _ hw1) rfl (by decide) (by decide) (Nat.le_of_ble_eq_true rfl) rfl dX8_findCertain_76 ?_
    refine b_ifeq (tgt := 143) dX8_findCertain_79 (by decide) (fun c3 => ?_) (fun c3 => ?_)
    · replace h := ifT c3 h
      refine b_sub [0, 2] rfl ?_
      exact t8_findCertain_143  a1    x3 _ _ _ h
    · replace h := ifF c3 h
      refine b_aload_n dX8_findCertain_82 rfl (k := 0) rfl ?_
      refine b_getF fl8_62 ob32 rfl rfl dX8_findCertain_83 ?_
      refine b_iload_n dX8_findCertain_86 rfl (k := 2) rfl ?_
      refine b_dup2 dX8_findCertain_87 rfl rfl ?_
      obtain ⟨g4, h⟩ := gdE h
      refine b_iald ar32_32 g4 rfl dX8_findCertain_88 ?_
      refine b_iconst (v := 1) dX8_findCertain_89 (by decide) ?_
      refine b_iadd dX8_findCertain_90 ?_
      obtain ⟨g5, h⟩ := gdE h
      obtain ⟨w6, ew6, h⟩ := nmE h
      refine b_iast ar32_32 g5 rfl dX8_findCertain_91 ?_
      refine b_nmW ew6 ?_
      refine b_aload_n dX8_findCertain_92 rfl (k := 0) rfl ?_
      refine b_getF fl8_62 ob32 rfl rfl dX8_findCertain_93 ?_
      refine b_iload_n dX8_findCertain_96 rfl (k := 2) rfl ?_
      obtain ⟨g7, h⟩ := gdE h
      refine b_iald ar32_32 g7 rfl dX8_findCertain_97 ?_
      refine b_aload_n dX8_findCertain_98 rfl (k := 0) rfl ?_
      refine b_getF fl8_13 ob32 rfl rfl dX8_findCertain_99 ?_
      refine b_iload_n dX8_findCertain_102 rfl (k := 2) rfl ?_
      obtain ⟨g8, h⟩ := gdE h
      refine b_iald ar32_5 g8 rfl dX8_findCertain_103 ?_
      refine b_icne (tgt := 124) dX8_findCertain_104 (by decide) (fun c9 => ?_) (fun c9 => ?_)
      · replace h := ifF c9 h
        refine b_aload_n dX8_findCertain_124 rfl (k := 0) rfl ?_
        refine b_iload_n dX8_findCertain_125 rfl (k := 2) rfl ?_
        refine b_iload_n dX8_findCertain_126 rfl (k := 1) rfl ?_
        obtain ⟨r11, w10, hw10, h⟩ := bdO h
        refine b_callVi mv8_isFree ml8_267 ob32 (s8_isFree x3 a1  _ _ _ hw10) rfl (by decide) (by decide) (Nat.le_of_ble_eq_true rfl) rfl dX8_findCertain_127 ?_
        refine b_ifeq (tgt := 66) dX8_findCertain_130 (by decide) (fun c12 => ?_) (fun c12 => ?_)
        · replace h := ifT c12 h
          refine b_sub [0, 1, 2] rfl ?_
          exact ih x3 _ _ _ h
        · replace h := ifF c12 h
          refine b_aload_n dX8_findCertain_133 rfl (k := 0) rfl ?_
          refine b_iload_n dX8_findCertain_134 rfl (k := 1) rfl ?_
          refine b_iload_n dX8_findCertain_135 rfl (k := 2) rfl ?_
          obtain ⟨r14, w13, hw13, h⟩ := bdO h
          refine b_callVi mv8_next ml8_261 ob32 (s8_next a1 x3  _ _ _ hw13) rfl (by decide) (by decide) (Nat.le_of_ble_eq_true rfl) rfl dX8_findCertain_136 ?_
          refine b_istore_n (lv' := [(3, vI r14), (0, vR 32 0), (1, vI a1)]) dX8_findCertain_139 rfl (by decide) rfl ?_
          refine b_goto (tgt := 66) dX8_findCertain_140 (by decide) ?_
          refine b_sub [1, 2, 0] rfl ?_
          exact ih r14 _ _ _ h
      · replace h := ifT c9 h
        refine b_aload_n dX8_findCertain_107 rfl (k := 0) rfl ?_
        refine b_getF fl8_62 ob32 rfl rfl dX8_findCertain_108 ?_
        refine b_iload_n dX8_findCertain_111 rfl (k := 2) rfl ?_
        refine b_iconst (v := (-1)) dX8_findCertain_112 (by decide) ?_
        obtain ⟨g15, h⟩ := gdE h
        obtain ⟨w16, ew16, h⟩ := nmE h
        refine b_iast ar32_32 g15 rfl dX8_findCertain_113 ?_
        refine b_nmW ew16 ?_
        refine b_aload_n dX8_findCertain_114 rfl (k := 0) rfl ?_
        refine b_iload_n dX8_findCertain_115 rfl (k := 1) rfl ?_
        refine b_iload_n dX8_findCertain_116 rfl (k := 2) rfl ?_
        obtain ⟨r18, w17, hw17, h⟩ := bdO h
        refine b_callVi mv8_before ml8_264 ob32 (s8_before a1 x3  _ _ _ hw17) rfl (by decide) (by decide) (Nat.le_of_ble_eq_true rfl) rfl dX8_findCertain_117 ?_
        refine b_istore_n (lv' := [(3, vI r18), (0, vR 32 0), (1, vI a1)]) dX8_findCertain_120 rfl (by decide) rfl ?_
        refine b_goto (tgt := 66) dX8_findCertain_121 (by decide) ?_
        refine b_sub [1, 2, 0] rfl ?_
        exact ih r18 _ _ _ h
def f8_findCertain_50  (a1 : Int32)  (x2 : Int32) (w : Mem) : Option (Int32 × Mem) :=
  if x2 = 2520 then (bndO (f8_next a1 (-1) w) fun r3 w2 => f8_findCertain_66  a1  1000000000000 r3 w2) else (some (0, w))
set_option maxRecDepth 100000 in
set_option maxHeartbeats 4000000 in
theorem t8_findCertain_50   (a1 : Int32)    (x2 : Int32) (w w' : Mem) (r : Int32) (h : f8_findCertain_50  a1  x2 w = some (r, w')) : Bk yX8_findCertain cX8_findCertain 4 (some .boolean) 3 50 [(0, vR 32 0), (1, vI a1), (2, vI x2)] [] w (some (vI r)) w' := by
  unfold f8_findCertain_50 at h
  refine b_iload_n dX8_findCertain_50 rfl (k := 2) rfl ?_
  refine b_sipush (v := 2520) dX8_findCertain_51 (by decide) ?_
  refine b_iceq (tgt := 59) dX8_findCertain_54 (by decide) (fun c1 => ?_) (fun c1 => ?_)
  · replace h := ifT c1 h
    refine b_aload_n dX8_findCertain_59 rfl (k := 0) rfl ?_
    refine b_iload_n dX8_findCertain_60 rfl (k := 1) rfl ?_
    refine b_iconst (v := (-1)) dX8_findCertain_61 (by decide) ?_
    obtain ⟨r3, w2, hw2, h⟩ := bdO h
    refine b_callVi mv8_next ml8_261 ob32 (s8_next a1 (-1)  _ _ _ hw2) rfl (by decide) (by decide) (Nat.le_of_ble_eq_true rfl) rfl dX8_findCertain_62 ?_
    refine b_istore_n (lv' := [(3, vI r3), (0, vR 32 0), (1, vI a1), (2, vI x2)]) dX8_findCertain_65 rfl (by decide) rfl ?_
    refine b_sub [1, 2, 0] rfl ?_
    exact t8_findCertain_66  a1    1000000000000 r3 _ _ _ h
  · replace h := ifF c1 h
    refine b_iconst (v := 0) dX8_findCertain_57 (by decide) ?_
    obtain ⟨rfl, rfl⟩ := rtE h
    exact b_zret rfl (by decide) dX8_findCertain_58
def f8_findCertain_4  (a1 : Int32)  : Nat → Int32 → Int32 → Mem → Option (Int32 × Mem)
  | 0, _, _, _ => none
  | n + 1, x2, x3, w =>
  if (w.1 32 3 0) ≤ x3 then (f8_findCertain_50  a1  x2 w) else (bndO (f8_has a1 x3 w) fun r3 w2 => if r3 = 0 then (bnd (x2 + 0) fun y5 => if x3 < 0 ∨ 8 ≤ Int32.toNatClampNeg x3 then none else bnd (sI w2 32 32 (Int32.toNatClampNeg x3) (-1)) fun w7 => bnd (x3 + 1) fun y8 => f8_findCertain_4  a1  n y5 y8 w7) else (if x3 < 0 ∨ 8 ≤ Int32.toNatClampNeg x3 then none else if w2.1 32 5 (Int32.toNatClampNeg x3) = 0 then none else bnd (x2 + (2520 / (w2.1 32 5 (Int32.toNatClampNeg x3)))) fun y11 => if x3 < 0 ∨ 8 ≤ Int32.toNatClampNeg x3 then none else bnd (sI w2 32 32 (Int32.toNatClampNeg x3) (-1)) fun w13 => bnd (x3 + 1) fun y14 => f8_findCertain_4  a1  n y11 y14 w13))
set_option maxRecDepth 100000 in
set_option maxHeartbeats 4000000 in
theorem t8_findCertain_4   (a1 : Int32)    : ∀ (n : Nat) (x2 : Int32) (x3 : Int32) (w w' : Mem) (r : Int32), f8_findCertain_4  a1  n x2 x3 w = some (r, w') → Bk yX8_findCertain cX8_findCertain 4 (some .boolean) 3 4 [(0, vR 32 0), (1, vI a1), (2, vI x2), (3, vI x3)] [] w (some (vI r)) w' := by
  intro n
  induction n with
  | zero =>
    intro x2 x3 w w' r h
    cases (show (none : Option (Int32 × Mem)) = some _ from h)
  | succ n ih =>
    intro x2 x3 w w' r h
    rw [f8_findCertain_4] at h
    refine b_iload_n dX8_findCertain_4 rfl (k := 3) rfl ?_
    refine b_aload_n dX8_findCertain_5 rfl (k := 0) rfl ?_
    refine b_getI fl8_94 ob32 rfl dX8_findCertain_6 ?_
    refine b_icge (tgt := 50) dX8_findCertain_9 (by decide) (fun c1 => ?_) (fun c1 => ?_)
    · replace h := ifT c1 h
      refine b_sub [0, 1, 2] rfl ?_
      exact t8_findCertain_50  a1    x2 _ _ _ h
    · replace h := ifF c1 h
      refine b_iload_n dX8_findCertain_12 rfl (k := 2) rfl ?_
      refine b_iload_n dX8_findCertain_13 rfl (k := 1) rfl ?_
      refine b_iload_n dX8_findCertain_14 rfl (k := 3) rfl ?_
      obtain ⟨r3, w2, hw2, h⟩ := bdO h
      refine b_callSi ms8_has ml8_196 (s8_has a1 x3  _ _ _ hw2) rfl (by decide) (by decide) (Nat.le_of_ble_eq_true rfl) rfl dX8_findCertain_15 ?_
      refine b_ifeq (tgt := 34) dX8_findCertain_18 (by decide) (fun c4 => ?_) (fun c4 => ?_)
      · replace h := ifT c4 h
        refine b_iconst (v := 0) dX8_findCertain_34 (by decide) ?_
        refine b_iadd dX8_findCertain_35 ?_
        obtain ⟨y5, ey5, h⟩ := nmE h
        refine b_nmI ey5 ?_
        refine b_istore_n (lv' := [(2, vI y5), (0, vR 32 0), (1, vI a1), (3, vI x3)]) dX8_findCertain_36 rfl (by decide) rfl ?_
        refine b_aload_n dX8_findCertain_37 rfl (k := 1) rfl ?_
        refine b_getF fl8_62 ob32 rfl rfl dX8_findCertain_38 ?_
        refine b_iload_n dX8_findCertain_41 rfl (k := 3) rfl ?_
        refine b_iconst (v := (-1)) dX8_findCertain_42 (by decide) ?_
        obtain ⟨g6, h⟩ := gdE h
        obtain ⟨w7, ew7, h⟩ := nmE h
        refine b_iast ar32_32 g6 rfl dX8_findCertain_43 ?_
        refine b_nmW ew7 ?_
        obtain ⟨y8, ey8, h⟩ := nmE h
        refine b_iinc (v := y8) (lv' := [(3, vI y8), (2, vI y5), (0, vR 32 0), (1, vI a1)]) dX8_findCertain_44 (k := 3) rfl ey8.symm (by decide) rfl ?_
        refine b_goto (tgt := 4) dX8_findCertain_47 (by decide) ?_
        refine b_sub [2, 3, 1, 0] rfl ?_
        exact ih y5 y8 _ _ _ h
      · replace h := ifF c4 h
        refine b_sipush (v := 2520) dX8_findCertain_21 (by decide) ?_
        refine b_aload_n dX8_findCertain_24 rfl (k := 0) rfl ?_
        refine b_getF fl8_13 ob32 rfl rfl dX8_findCertain_25 ?_
        refine b_iload_n dX8_findCertain_28 rfl (k := 3) rfl ?_
        obtain ⟨g9, h⟩ := gdE h
        refine b_iald ar32_5 g9 rfl dX8_findCertain_29 ?_
        obtain ⟨g10, h⟩ := gdE h
        refine b_idiv dX8_findCertain_30 g10 ?_
        refine b_goto (tgt := 35) dX8_findCertain_31 (by decide) ?_
        refine b_iadd dX8_findCertain_35 ?_
        obtain ⟨y11, ey11, h⟩ := nmE h
        refine b_nmI ey11 ?_
        refine b_istore_n (lv' := [(2, vI y11), (0, vR 32 0), (1, vI a1), (3, vI x3)]) dX8_findCertain_36 rfl (by decide) rfl ?_
        refine b_aload_n dX8_findCertain_37 rfl (k := 1) rfl ?_
        refine b_getF fl8_62 ob32 rfl rfl dX8_findCertain_38 ?_
        refine b_iload_n dX8_findCertain_41 rfl (k := 3) rfl ?_
        refine b_iconst (v := (-1)) dX8_findCertain_42 (by decide) ?_
        obtain ⟨g12, h⟩ := gdE h
        obtain ⟨w13, ew13, h⟩ := nmE h
        refine b_iast ar32_32 g12 rfl dX8_findCertain_43 ?_
        refine b_nmW ew13 ?_
        obtain ⟨y14, ey14, h⟩ := nmE h
        refine b_iinc (v := y14) (lv' := [(3, vI y14), (2, vI y11), (0, vR 32 0), (1, vI a1)]) dX8_findCertain_44 (k := 3) rfl ey14.symm (by decide) rfl ?_
        refine b_goto (tgt := 4) dX8_findCertain_47 (by decide) ?_
        refine b_sub [2, 3, 1, 0] rfl ?_
        exact ih y11 y14 _ _ _ h
def f8_findCertain  (a1 : Int32)   (w : Mem) : Option (Int32 × Mem) :=
  f8_findCertain_4  a1  100000 0 0 w
set_option maxRecDepth 100000 in
set_option maxHeartbeats 4000000 in
theorem t8_findCertain   (a1 : Int32)     (w w' : Mem) (r : Int32) (h : f8_findCertain  a1   w = some (r, w')) : Bk yX8_findCertain cX8_findCertain 4 (some .boolean) 3 0 [(0, vR 32 0), (1, vI a1)] [] w (some (vI r)) w' := by
  unfold f8_findCertain at h
  refine b_iconst (v := 0) dX8_findCertain_0 (by decide) ?_
  refine b_istore_n (lv' := [(2, vI 0), (0, vR 32 0), (1, vI a1)]) dX8_findCertain_1 rfl (by decide) rfl ?_
  refine b_iconst (v := 0) dX8_findCertain_2 (by decide) ?_
  refine b_istore_n (lv' := [(3, vI 0), (2, vI 0), (0, vR 32 0), (1, vI a1)]) dX8_findCertain_3 rfl (by decide) rfl ?_
  refine b_sub [2, 3, 1, 0] rfl ?_
  exact t8_findCertain_4  a1    100000 0 0 _ _ _ h
theorem s8_findCertain (a1 : Int32)  (w w' : Mem) (r : Int32) (h : f8_findCertain  a1  w = some (r, w')) : Sp yX8_findCertain cX8_findCertain 4 (some .boolean) 3 [vR 32 0, vI a1] w (some (vI r)) w' := sp_of (by decide) (fun _ => rfl) (fun _ => Nat.le_of_ble_eq_true rfl) (t8_findCertain  a1   _ _ _ h)
-- X8_certain OneADayModel
def f8_certain  (a1 : Int32) (a2 : Int32)   (w : Mem) : Option (Int32 × Mem) :=
  bndO (f8_in (Int32.toInt64 a1) 0 (Int32.toInt64 ((jshl 1 (w.1 32 3 0)) - 1)) w) fun r2 w1 => if r2 = 0 then (some ((-1000000001), w1)) else (bndO (f8_isVillage a2 w1) fun r5 w4 => if r5 = 0 then (some ((-1000000001), w4)) else (bndO (f8_has a1 a2 w4) fun r8 w7 => if r8 = 0 then (some ((-1), w7)) else (bndO (f8_findCertain a1 w7) fun r11 w10 => if r11 = 0 then (some ((-1), w10)) else (if a2 < 0 ∨ 8 ≤ Int32.toNatClampNeg a2 then none else some (w10.1 32 32 (Int32.toNatClampNeg a2), w10)))))
set_option maxRecDepth 100000 in
set_option maxHeartbeats 4000000 in
theorem t8_certain   (a1 : Int32) (a2 : Int32)     (w w' : Mem) (r : Int32) (h : f8_certain  a1 a2   w = some (r, w')) : Bk yX8_certain cX8_certain 3 (some .int) 4 0 [(0, vR 32 0), (1, vI a1), (2, vI a2)] [] w (some (vI r)) w' := by
  unfold f8_certain at h
  refine b_iload_n dX8_certain_0 rfl (k := 1) rfl ?_
  refine b_i2l dX8_certain_1 ?_
  refine b_lconst (v := 0) dX8_certain_2 (by decide) ?_
  refine b_iconst (v := 1) dX8_certain_3 (by decide) ?_
  refine b_aload_n dX8_certain_4 rfl (k := 0) rfl ?_
  refine b_getI fl8_94 ob32 rfl dX8_certain_5 ?_
  refine b_ishl dX8_certain_8 ?_
  refine b_iconst (v := 1) dX8_certain_9 (by decide) ?_
  refine b_isub dX8_certain_10 ?_
  refine b_i2l dX8_certain_11 ?_
  obtain ⟨r2, w1, hw1, h⟩ := bdO h
  refine b_callSi ms8_in ml8_97 (s8_in (Int32.toInt64 a1) 0 (Int32.toInt64 ((jshl 1 (w.1 32 3 0)) - 1))  _ _ _ hw1) rfl (by decide) (by decide) (Nat.le_of_ble_eq_true rfl) rfl dX8_certain_12 ?_
  refine b_ifeq (tgt := 26) dX8_certain_15 (by decide) (fun c3 => ?_) (fun c3 => ?_)
  · replace h := ifT c3 h
    refine b_ldc dX8_certain_26 kk8_189 ?_
    obtain ⟨rfl, rfl⟩ := rtE h
    exact b_iret rfl dX8_certain_28
  · replace h := ifF c3 h
    refine b_aload_n dX8_certain_18 rfl (k := 0) rfl ?_
    refine b_iload_n dX8_certain_19 rfl (k := 2) rfl ?_
    obtain ⟨r5, w4, hw4, h⟩ := bdO h
    refine b_callVi mv8_isVillage ml8_185 ob32 (s8_isVillage a2  _ _ _ hw4) rfl (by decide) (by decide) (Nat.le_of_ble_eq_true rfl) rfl dX8_certain_20 ?_
    refine b_ifne (tgt := 29) dX8_certain_23 (by decide) (fun c6 => ?_) (fun c6 => ?_)
    · replace h := ifF c6 h
      refine b_iload_n dX8_certain_29 rfl (k := 1) rfl ?_
      refine b_iload_n dX8_certain_30 rfl (k := 2) rfl ?_
      obtain ⟨r8, w7, hw7, h⟩ := bdO h
      refine b_callSi ms8_has ml8_196 (s8_has a1 a2  _ _ _ hw7) rfl (by decide) (by decide) (Nat.le_of_ble_eq_true rfl) rfl dX8_certain_31 ?_
      refine b_ifeq (tgt := 54) dX8_certain_34 (by decide) (fun c9 => ?_) (fun c9 => ?_)
      · replace h := ifT c9 h
        refine b_iconst (v := (-1)) dX8_certain_54 (by decide) ?_
        obtain ⟨rfl, rfl⟩ := rtE h
        exact b_iret rfl dX8_certain_55
      · replace h := ifF c9 h
        refine b_aload_n dX8_certain_37 rfl (k := 0) rfl ?_
        refine b_iload_n dX8_certain_38 rfl (k := 1) rfl ?_
        obtain ⟨r11, w10, hw10, h⟩ := bdO h
        refine b_callVi mv8_findCertain ml8_270 ob32 (s8_findCertain a1  _ _ _ hw10) rfl (by decide) (by decide) (Nat.le_of_ble_eq_true rfl) rfl dX8_certain_39 ?_
        refine b_ifeq (tgt := 54) dX8_certain_42 (by decide) (fun c12 => ?_) (fun c12 => ?_)
        · replace h := ifT c12 h
          refine b_iconst (v := (-1)) dX8_certain_54 (by decide) ?_
          obtain ⟨rfl, rfl⟩ := rtE h
          exact b_iret rfl dX8_certain_55
        · replace h := ifF c12 h
          refine b_aload_n dX8_certain_45 rfl (k := 0) rfl ?_
          refine b_getF fl8_62 ob32 rfl rfl dX8_certain_46 ?_
          refine b_iload_n dX8_certain_49 rfl (k := 2) rfl ?_
          obtain ⟨g13, h⟩ := gdE h
          refine b_iald ar32_32 g13 rfl dX8_certain_50 ?_
          refine b_goto (tgt := 55) dX8_certain_51 (by decide) ?_
          obtain ⟨rfl, rfl⟩ := rtE h
          exact b_iret rfl dX8_certain_55
    · replace h := ifT c6 h
      refine b_ldc dX8_certain_26 kk8_189 ?_
      obtain ⟨rfl, rfl⟩ := rtE h
      exact b_iret rfl dX8_certain_28
theorem s8_certain (a1 : Int32) (a2 : Int32)  (w w' : Mem) (r : Int32) (h : f8_certain  a1 a2  w = some (r, w')) : Sp yX8_certain cX8_certain 3 (some .int) 4 [vR 32 0, vI a1, vI a2] w (some (vI r)) w' := sp_of (by decide) (fun _ => rfl) (fun _ => Nat.le_of_ble_eq_true rfl) (t8_certain  a1 a2   _ _ _ h)
-- X8_away OneADayModel
def f8_away_155  (a1 : Int32) (rec33 : Int32 → Int32 → Mem → Option (Int32 × Mem)) (x3 : Int32) (s0 : Int32) (w : Mem) : Option (Int32 × Mem) :=
  bndV (f8_putBack  w) fun w1 => bnd (x3 + 1) fun y2 => rec33 s0 y2 w1
set_option maxRecDepth 100000 in
set_option maxHeartbeats 4000000 in
theorem t8_away_155   (a1 : Int32)  (rec33 : Int32 → Int32 → Mem → Option (Int32 × Mem)) (hrec33 : ∀ (x2 : Int32) (x3 : Int32) (w w' : Mem) (r : Int32), rec33 x2 x3 w = some (r, w') → Bk yX8_away cX8_away 5 (some .int) 6 33 [(0, vR 32 0), (1, vI a1), (2, vI x2), (3, vI x3)] [] w (some (vI r)) w') (x3 : Int32) (s0 : Int32) (w w' : Mem) (r : Int32) (h : f8_away_155  a1 rec33 x3 s0 w = some (r, w')) : Bk yX8_away cX8_away 5 (some .int) 6 155 [(0, vR 32 0), (1, vI a1), (3, vI x3)] [vI s0] w (some (vI r)) w' := by
  unfold f8_away_155 at h
  refine b_istore_n (lv' := [(2, vI s0), (0, vR 32 0), (1, vI a1), (3, vI x3)]) dX8_away_155 rfl (by decide) rfl ?_
  refine b_aload_n dX8_away_156 rfl (k := 1) rfl ?_
  obtain ⟨w1, hw1, h⟩ := bdV h
  refine b_callVv mv8_putBack ml8_253 ob32 (s8_putBack   _ _  hw1) rfl (by decide) (by decide) (Nat.le_of_ble_eq_true rfl) rfl dX8_away_157 ?_
  obtain ⟨y2, ey2, h⟩ := nmE h
  refine b_iinc (v := y2) (lv' := [(3, vI y2), (2, vI s0), (0, vR 32 0), (1, vI a1)]) dX8_away_160 (k := 3) rfl ey2.symm (by decide) rfl ?_
  refine b_goto (tgt := 33) dX8_away_163 (by decide) ?_
  refine b_sub [2, 3, 1, 0] rfl ?_
  exact hrec33 s0 y2 _ _ _ h
def f8_away_118  (a1 : Int32) (rec33 : Int32 → Int32 → Mem → Option (Int32 × Mem)) (x2 : Int32) (x3 : Int32) (w : Mem) : Option (Int32 × Mem) :=
  if (w.1 32 11 4) = (w.1 32 31 4) then (if (w.1 32 11 7) = (w.1 32 31 7) then (f8_away_155  a1 rec33 x3 x3 w) else (f8_away_155  a1 rec33 x3 x2 w)) else (f8_away_155  a1 rec33 x3 x2 w)
set_option maxRecDepth 100000 in
set_option maxHeartbeats 4000000 in
theorem t8_away_118   (a1 : Int32)  (rec33 : Int32 → Int32 → Mem → Option (Int32 × Mem)) (hrec33 : ∀ (x2 : Int32) (x3 : Int32) (w w' : Mem) (r : Int32), rec33 x2 x3 w = some (r, w') → Bk yX8_away cX8_away 5 (some .int) 6 33 [(0, vR 32 0), (1, vI a1), (2, vI x2), (3, vI x3)] [] w (some (vI r)) w') (x2 : Int32) (x3 : Int32) (w w' : Mem) (r : Int32) (h : f8_away_118  a1 rec33 x2 x3 w = some (r, w')) : Bk yX8_away cX8_away 5 (some .int) 6 118 [(0, vR 32 0), (1, vI a1), (2, vI x2), (3, vI x3)] [] w (some (vI r)) w' := by
  unfold f8_away_118 at h
  refine b_aload_n dX8_away_118 rfl (k := 0) rfl ?_
  refine b_getF fl8_25 ob32 rfl rfl dX8_away_119 ?_
  refine b_iconst (v := 4) dX8_away_122 (by decide) ?_
  refine b_iald ar32_11 (j0 := 4) (by decide) (by decide) dX8_away_123 ?_
  refine b_aload_n dX8_away_124 rfl (k := 0) rfl ?_
  refine b_getF fl8_59 ob32 rfl rfl dX8_away_125 ?_
  refine b_iconst (v := 4) dX8_away_128 (by decide) ?_
  refine b_iald ar32_31 (j0 := 4) (by decide) (by decide) dX8_away_129 ?_
  refine b_icne (tgt := 154) dX8_away_130 (by decide) (fun c1 => ?_) (fun c1 => ?_)
  · replace h := ifF c1 h
    refine b_iload_n dX8_away_154 rfl (k := 2) rfl ?_
    refine b_sub [0, 1, 3] rfl ?_
    exact t8_away_155  a1  rec33 hrec33 x3 x2 _ _ _ h
  · replace h := ifT c1 h
    refine b_aload_n dX8_away_133 rfl (k := 0) rfl ?_
    refine b_getF fl8_25 ob32 rfl rfl dX8_away_134 ?_
    refine b_bipush (v := 7) dX8_away_137 (by decide) ?_
    refine b_iald ar32_11 (j0 := 7) (by decide) (by decide) dX8_away_139 ?_
    refine b_aload_n dX8_away_140 rfl (k := 0) rfl ?_
    refine b_getF fl8_59 ob32 rfl rfl dX8_away_141 ?_
    refine b_bipush (v := 7) dX8_away_144 (by decide) ?_
    refine b_iald ar32_31 (j0 := 7) (by decide) (by decide) dX8_away_146 ?_
    refine b_icne (tgt := 154) dX8_away_147 (by decide) (fun c2 => ?_) (fun c2 => ?_)
    · replace h := ifF c2 h
      refine b_iload_n dX8_away_154 rfl (k := 2) rfl ?_
      refine b_sub [0, 1, 3] rfl ?_
      exact t8_away_155  a1  rec33 hrec33 x3 x2 _ _ _ h
    · replace h := ifT c2 h
      refine b_iload_n dX8_away_150 rfl (k := 3) rfl ?_
      refine b_goto (tgt := 155) dX8_away_151 (by decide) ?_
      refine b_sub [0, 1, 3] rfl ?_
      exact t8_away_155  a1  rec33 hrec33 x3 x3 _ _ _ h
def f8_away_89  (a1 : Int32) (rec33 : Int32 → Int32 → Mem → Option (Int32 × Mem)) : Nat → Int32 → Int32 → Int32 → Mem → Option (Int32 × Mem)
  | 0, _, _, _, _ => none
  | n + 1, x2, x3, x4, w =>
  if a1 ≤ x4 then (f8_away_118  a1 rec33 x2 x3 w) else (if (w.1 32 11 2) = 0 then (bndV (f8_pass (w.1 32 2 0) w) fun w3 => bnd (x4 + 1) fun y4 => f8_away_89  a1 rec33 n x2 x3 y4 w3) else (f8_away_118  a1 rec33 x2 x3 w))
set_option maxRecDepth 100000 in
set_option maxHeartbeats 4000000 in
theorem t8_away_89   (a1 : Int32)  (rec33 : Int32 → Int32 → Mem → Option (Int32 × Mem)) (hrec33 : ∀ (x2 : Int32) (x3 : Int32) (w w' : Mem) (r : Int32), rec33 x2 x3 w = some (r, w') → Bk yX8_away cX8_away 5 (some .int) 6 33 [(0, vR 32 0), (1, vI a1), (2, vI x2), (3, vI x3)] [] w (some (vI r)) w') : ∀ (n : Nat) (x2 : Int32) (x3 : Int32) (x4 : Int32) (w w' : Mem) (r : Int32), f8_away_89  a1 rec33 n x2 x3 x4 w = some (r, w') → Bk yX8_away cX8_away 5 (some .int) 6 89 [(0, vR 32 0), (1, vI a1), (2, vI x2), (3, vI x3), (4, vI x4)] [] w (some (vI r)) w' := by
  intro n
  induction n with
  | zero =>
    intro x2 x3 x4 w w' r h
    cases (show (none : Option (Int32 × Mem)) = some _ from h)
  | succ n ih =>
    intro x2 x3 x4 w w' r h
    rw [f8_away_89] at h
    refine b_iload dX8_away_89 (k := 4) rfl ?_
    refine b_iload_n dX8_away_91 rfl (k := 1) rfl ?_
    refine b_icge (tgt := 118) dX8_away_92 (by decide) (fun c1 => ?_) (fun c1 => ?_)
    · replace h := ifT c1 h
      refine b_sub [0, 1, 2, 3] rfl ?_
      exact t8_away_118  a1  rec33 hrec33 x2 x3 _ _ _ h
    · replace h := ifF c1 h
      refine b_aload_n dX8_away_95 rfl (k := 0) rfl ?_
      refine b_getF fl8_25 ob32 rfl rfl dX8_away_96 ?_
      refine b_iconst (v := 2) dX8_away_99 (by decide) ?_
      refine b_iald ar32_11 (j0 := 2) (by decide) (by decide) dX8_away_100 ?_
      refine b_ifne (tgt := 118) dX8_away_101 (by decide) (fun c2 => ?_) (fun c2 => ?_)
      · replace h := ifF c2 h
        refine b_sub [0, 1, 2, 3] rfl ?_
        exact t8_away_118  a1  rec33 hrec33 x2 x3 _ _ _ h
      · replace h := ifT c2 h
        refine b_aload_n dX8_away_104 rfl (k := 0) rfl ?_
        refine b_aload_n dX8_away_105 rfl (k := 0) rfl ?_
        refine b_getI fl8_161 ob32 rfl dX8_away_106 ?_
        obtain ⟨w3, hw3, h⟩ := bdV h
        refine b_callVv mv8_pass ml8_231 ob32 (s8_pass (w.1 32 2 0)  _ _  hw3) rfl (by decide) (by decide) (Nat.le_of_ble_eq_true rfl) rfl dX8_away_109 ?_
        obtain ⟨y4, ey4, h⟩ := nmE h
        refine b_iinc (v := y4) (lv' := [(4, vI y4), (0, vR 32 0), (1, vI a1), (2, vI x2), (3, vI x3)]) dX8_away_112 (k := 4) rfl ey4.symm (by decide) rfl ?_
        refine b_goto (tgt := 89) dX8_away_115 (by decide) ?_
        refine b_sub [1, 2, 3, 4, 0] rfl ?_
        exact ih x2 x3 y4 _ _ _ h
def f8_away_70  (a1 : Int32) (rec33 : Int32 → Int32 → Mem → Option (Int32 × Mem)) (x2 : Int32) (x3 : Int32) (w : Mem) : Option (Int32 × Mem) :=
  bnd (sI w 32 11 8 ((w.1 32 31 8) ||| x3)) fun w1 => f8_away_89  a1 rec33 100000 x2 x3 0 w1
set_option maxRecDepth 100000 in
set_option maxHeartbeats 4000000 in
theorem t8_away_70   (a1 : Int32)  (rec33 : Int32 → Int32 → Mem → Option (Int32 × Mem)) (hrec33 : ∀ (x2 : Int32) (x3 : Int32) (w w' : Mem) (r : Int32), rec33 x2 x3 w = some (r, w') → Bk yX8_away cX8_away 5 (some .int) 6 33 [(0, vR 32 0), (1, vI a1), (2, vI x2), (3, vI x3)] [] w (some (vI r)) w') (x2 : Int32) (x3 : Int32) (w w' : Mem) (r : Int32) (h : f8_away_70  a1 rec33 x2 x3 w = some (r, w')) : Bk yX8_away cX8_away 5 (some .int) 6 70 [(0, vR 32 0), (1, vI a1), (2, vI x2), (3, vI x3)] [] w (some (vI r)) w' := by
  unfold f8_away_70 at h
  refine b_aload_n dX8_away_70 rfl (k := 0) rfl ?_
  refine b_getF fl8_25 ob32 rfl rfl dX8_away_71 ?_
  refine b_bipush (v := 8) dX8_away_74 (by decide) ?_
  refine b_aload_n dX8_away_76 rfl (k := 0) rfl ?_
  refine b_getF fl8_59 ob32 rfl rfl dX8_away_77 ?_
  refine b_bipush (v := 8) dX8_away_80 (by decide) ?_
  refine b_iald ar32_31 (j0 := 8) (by decide) (by decide) dX8_away_82 ?_
  refine b_iload_n dX8_away_83 rfl (k := 3) rfl ?_
  refine b_ior dX8_away_84 ?_
  obtain ⟨w1, ew1, h⟩ := nmE h
  refine b_iast ar32_11 (j0 := 8) (by decide) (by decide) dX8_away_85 ?_
  refine b_nmW ew1 ?_
  refine b_iconst (v := 0) dX8_away_86 (by decide) ?_
  refine b_istore (lv' := [(4, vI 0), (0, vR 32 0), (1, vI a1), (2, vI x2), (3, vI x3)]) dX8_away_87 (by decide) rfl ?_
  refine b_sub [1, 2, 3, 4, 0] rfl ?_
  exact t8_away_89  a1  rec33 hrec33 100000 x2 x3 0 _ _ _ h
def f8_away_33  (a1 : Int32)  : Nat → Int32 → Int32 → Mem → Option (Int32 × Mem)
  | 0, _, _, _ => none
  | n + 1, x2, x3, w =>
  if (jshl 1 (w.1 32 3 0)) ≤ x3 then (some (x2, w)) else (if (x3 &&& (w.1 32 31 8)) = 0 then (if x2 < 0 then (f8_away_70  a1 (f8_away_33  a1  n) x2 x3 w) else (bndO (f8_bits x3 w) fun r6 w5 => bndO (f8_bits x2 w5) fun r8 w7 => if r8 ≤ r6 then (bnd (x3 + 1) fun y10 => f8_away_33  a1  n x2 y10 w7) else (f8_away_70  a1 (f8_away_33  a1  n) x2 x3 w7))) else (bnd (x3 + 1) fun y3 => f8_away_33  a1  n x2 y3 w))
set_option maxRecDepth 100000 in
set_option maxHeartbeats 4000000 in
theorem t8_away_33   (a1 : Int32)    : ∀ (n : Nat) (x2 : Int32) (x3 : Int32) (w w' : Mem) (r : Int32), f8_away_33  a1  n x2 x3 w = some (r, w') → Bk yX8_away cX8_away 5 (some .int) 6 33 [(0, vR 32 0), (1, vI a1), (2, vI x2), (3, vI x3)] [] w (some (vI r)) w' := by
  intro n
  induction n with
  | zero =>
    intro x2 x3 w w' r h
    cases (show (none : Option (Int32 × Mem)) = some _ from h)
  | succ n ih =>
    intro x2 x3 w w' r h
    rw [f8_away_33] at h
    refine b_iload_n dX8_away_33 rfl (k := 3) rfl ?_
    refine b_iconst (v := 1) dX8_away_34 (by decide) ?_
    refine b_aload_n dX8_away_35 rfl (k := 0) rfl ?_
    refine b_getI fl8_94 ob32 rfl dX8_away_36 ?_
    refine b_ishl dX8_away_39 ?_
    refine b_icge (tgt := 166) dX8_away_40 (by decide) (fun c1 => ?_) (fun c1 => ?_)
    · replace h := ifT c1 h
      refine b_iload_n dX8_away_166 rfl (k := 2) rfl ?_
      obtain ⟨rfl, rfl⟩ := rtE h
      exact b_iret rfl dX8_away_167
    · replace h := ifF c1 h
      refine b_iload_n dX8_away_43 rfl (k := 3) rfl ?_
      refine b_aload_n dX8_away_44 rfl (k := 0) rfl ?_
      refine b_getF fl8_59 ob32 rfl rfl dX8_away_45 ?_
      refine b_bipush (v := 8) dX8_away_48 (by decide) ?_
      refine b_iald ar32_31 (j0 := 8) (by decide) (by decide) dX8_away_50 ?_
      refine b_iand dX8_away_51 ?_
      refine b_ifne (tgt := 160) dX8_away_52 (by decide) (fun c2 => ?_) (fun c2 => ?_)
      · replace h := ifF c2 h
        obtain ⟨y3, ey3, h⟩ := nmE h
        refine b_iinc (v := y3) (lv' := [(3, vI y3), (0, vR 32 0), (1, vI a1), (2, vI x2)]) dX8_away_160 (k := 3) rfl ey3.symm (by decide) rfl ?_
        refine b_goto (tgt := 33) dX8_away_163 (by decide) ?_
        refine b_sub [1, 2, 3, 0] rfl ?_
        exact ih x2 y3 _ _ _ h
      · replace h := ifT c2 h
        refine b_iload_n dX8_away_55 rfl (k := 2) rfl ?_
        refine b_iflt (tgt := 70) dX8_away_56 (by decide) (fun c4 => ?_) (fun c4 => ?_)
        · replace h := ifT c4 h
          refine b_sub [0, 1, 2, 3] rfl ?_
          exact t8_away_70  a1  (f8_away_33  a1  n) ih x2 x3 _ _ _ h
        · replace h := ifF c4 h
          refine b_iload_n dX8_away_59 rfl (k := 3) rfl ?_
          obtain ⟨r6, w5, hw5, h⟩ := bdO h
          refine b_callSi ms8_bits ml8_216 (s8_bits x3  _ _ _ hw5) rfl (by decide) (by decide) (Nat.le_of_ble_eq_true rfl) rfl dX8_away_60 ?_
          refine b_iload_n dX8_away_63 rfl (k := 2) rfl ?_
          obtain ⟨r8, w7, hw7, h⟩ := bdO h
          refine b_callSi ms8_bits ml8_216 (s8_bits x2  _ _ _ hw7) rfl (by decide) (by decide) (Nat.le_of_ble_eq_true rfl) rfl dX8_away_64 ?_
          refine b_icge (tgt := 160) dX8_away_67 (by decide) (fun c9 => ?_) (fun c9 => ?_)
          · replace h := ifT c9 h
            obtain ⟨y10, ey10, h⟩ := nmE h
            refine b_iinc (v := y10) (lv' := [(3, vI y10), (0, vR 32 0), (1, vI a1), (2, vI x2)]) dX8_away_160 (k := 3) rfl ey10.symm (by decide) rfl ?_
            refine b_goto (tgt := 33) dX8_away_163 (by decide) ?_
            refine b_sub [1, 2, 3, 0] rfl ?_
            exact ih x2 y10 _ _ _ h
          · replace h := ifF c9 h
            refine b_sub [0, 1, 2, 3] rfl ?_
            exact t8_away_70  a1  (f8_away_33  a1  n) ih x2 x3 _ _ _ h
def f8_away  (a1 : Int32)   (w : Mem) : Option (Int32 × Mem) :=
  bndO (f8_in (Int32.toInt64 a1) 1 30 w) fun r2 w1 => if r2 = 0 then (some ((-1000000002), w1)) else (if (w1.1 32 0 0) = 0 then (some ((-1000000003), w1)) else (bndV (f8_save  w1) fun w5 => f8_away_33  a1  100000 (-1) 0 w5))
set_option maxRecDepth 100000 in
set_option maxHeartbeats 4000000 in
theorem t8_away   (a1 : Int32)     (w w' : Mem) (r : Int32) (h : f8_away  a1   w = some (r, w')) : Bk yX8_away cX8_away 5 (some .int) 6 0 [(0, vR 32 0), (1, vI a1)] [] w (some (vI r)) w' := by
  unfold f8_away at h
  refine b_iload_n dX8_away_0 rfl (k := 1) rfl ?_
  refine b_i2l dX8_away_1 ?_
  refine b_lconst (v := 1) dX8_away_2 (by decide) ?_
  refine b_ldc2 dX8_away_3 kl8_273 ?_
  obtain ⟨r2, w1, hw1, h⟩ := bdO h
  refine b_callSi ms8_in ml8_97 (s8_in (Int32.toInt64 a1) 1 30  _ _ _ hw1) rfl (by decide) (by decide) (Nat.le_of_ble_eq_true rfl) rfl dX8_away_6 ?_
  refine b_ifne (tgt := 15) dX8_away_9 (by decide) (fun c3 => ?_) (fun c3 => ?_)
  · replace h := ifF c3 h
    refine b_aload_n dX8_away_15 rfl (k := 0) rfl ?_
    refine b_getI fl8_155 ob32 rfl dX8_away_16 ?_
    refine b_ifne (tgt := 25) dX8_away_19 (by decide) (fun c4 => ?_) (fun c4 => ?_)
    · replace h := ifF c4 h
      refine b_aload_n dX8_away_25 rfl (k := 0) rfl ?_
      obtain ⟨w5, hw5, h⟩ := bdV h
      refine b_callVv mv8_save ml8_250 ob32 (s8_save   _ _  hw5) rfl (by decide) (by decide) (Nat.le_of_ble_eq_true rfl) rfl dX8_away_26 ?_
      refine b_iconst (v := (-1)) dX8_away_29 (by decide) ?_
      refine b_istore_n (lv' := [(2, vI (-1)), (0, vR 32 0), (1, vI a1)]) dX8_away_30 rfl (by decide) rfl ?_
      refine b_iconst (v := 0) dX8_away_31 (by decide) ?_
      refine b_istore_n (lv' := [(3, vI 0), (2, vI (-1)), (0, vR 32 0), (1, vI a1)]) dX8_away_32 rfl (by decide) rfl ?_
      refine b_sub [2, 3, 1, 0] rfl ?_
      exact t8_away_33  a1    100000 (-1) 0 _ _ _ h
    · replace h := ifT c4 h
      refine b_ldc dX8_away_22 kk8_224 ?_
      obtain ⟨rfl, rfl⟩ := rtE h
      exact b_iret rfl dX8_away_24
  · replace h := ifT c3 h
    refine b_ldc dX8_away_12 kk8_103 ?_
    obtain ⟨rfl, rfl⟩ := rtE h
    exact b_iret rfl dX8_away_14
theorem s8_away (a1 : Int32)  (w w' : Mem) (r : Int32) (h : f8_away  a1  w = some (r, w')) : Sp yX8_away cX8_away 5 (some .int) 6 [vR 32 0, vI a1] w (some (vI r)) w' := sp_of (by decide) (fun _ => rfl) (fun _ => Nat.le_of_ble_eq_true rfl) (t8_away  a1   _ _ _ h)
-- X8_smoke OneADayModel
def f8_smoke  (a1 : Int32) (a2 : Int32)   (w : Mem) : Option (Int32 × Mem) :=
  bndO (f8_isVillage a1 w) fun r2 w1 => if r2 = 0 then (some ((-1000000001), w1)) else (bndO (f8_in (Int32.toInt64 a2) 0 999 w1) fun r5 w4 => if r5 = 0 then (some ((-1000000002), w4)) else (bndO (f8_goers a2 w4) fun r8 w7 => if (r8 &&& ((jshl 1 a1) ^^^ (-1))) = 0 then (some (1, w7)) else (some (0, w7))))
set_option maxRecDepth 100000 in
set_option maxHeartbeats 4000000 in
theorem t8_smoke   (a1 : Int32) (a2 : Int32)     (w w' : Mem) (r : Int32) (h : f8_smoke  a1 a2   w = some (r, w')) : Bk yX8_smoke cX8_smoke 3 (some .int) 4 0 [(0, vR 32 0), (1, vI a1), (2, vI a2)] [] w (some (vI r)) w' := by
  unfold f8_smoke at h
  refine b_aload_n dX8_smoke_0 rfl (k := 0) rfl ?_
  refine b_iload_n dX8_smoke_1 rfl (k := 1) rfl ?_
  obtain ⟨r2, w1, hw1, h⟩ := bdO h
  refine b_callVi mv8_isVillage ml8_185 ob32 (s8_isVillage a1  _ _ _ hw1) rfl (by decide) (by decide) (Nat.le_of_ble_eq_true rfl) rfl dX8_smoke_2 ?_
  refine b_ifne (tgt := 11) dX8_smoke_5 (by decide) (fun c3 => ?_) (fun c3 => ?_)
  · replace h := ifF c3 h
    refine b_iload_n dX8_smoke_11 rfl (k := 2) rfl ?_
    refine b_i2l dX8_smoke_12 ?_
    refine b_lconst (v := 0) dX8_smoke_13 (by decide) ?_
    refine b_ldc2 dX8_smoke_14 kl8_275 ?_
    obtain ⟨r5, w4, hw4, h⟩ := bdO h
    refine b_callSi ms8_in ml8_97 (s8_in (Int32.toInt64 a2) 0 999  _ _ _ hw4) rfl (by decide) (by decide) (Nat.le_of_ble_eq_true rfl) rfl dX8_smoke_17 ?_
    refine b_ifne (tgt := 26) dX8_smoke_20 (by decide) (fun c6 => ?_) (fun c6 => ?_)
    · replace h := ifF c6 h
      refine b_aload_n dX8_smoke_26 rfl (k := 0) rfl ?_
      refine b_iload_n dX8_smoke_27 rfl (k := 2) rfl ?_
      obtain ⟨r8, w7, hw7, h⟩ := bdO h
      refine b_callVi mv8_goers ml8_204 ob32 (s8_goers a2  _ _ _ hw7) rfl (by decide) (by decide) (Nat.le_of_ble_eq_true rfl) rfl dX8_smoke_28 ?_
      refine b_iconst (v := 1) dX8_smoke_31 (by decide) ?_
      refine b_iload_n dX8_smoke_32 rfl (k := 1) rfl ?_
      refine b_ishl dX8_smoke_33 ?_
      refine b_iconst (v := (-1)) dX8_smoke_34 (by decide) ?_
      refine b_ixor dX8_smoke_35 ?_
      refine b_iand dX8_smoke_36 ?_
      refine b_ifne (tgt := 44) dX8_smoke_37 (by decide) (fun c9 => ?_) (fun c9 => ?_)
      · replace h := ifF c9 h
        refine b_iconst (v := 0) dX8_smoke_44 (by decide) ?_
        obtain ⟨rfl, rfl⟩ := rtE h
        exact b_iret rfl dX8_smoke_45
      · replace h := ifT c9 h
        refine b_iconst (v := 1) dX8_smoke_40 (by decide) ?_
        refine b_goto (tgt := 45) dX8_smoke_41 (by decide) ?_
        obtain ⟨rfl, rfl⟩ := rtE h
        exact b_iret rfl dX8_smoke_45
    · replace h := ifT c6 h
      refine b_ldc dX8_smoke_23 kk8_103 ?_
      obtain ⟨rfl, rfl⟩ := rtE h
      exact b_iret rfl dX8_smoke_25
  · replace h := ifT c3 h
    refine b_ldc dX8_smoke_8 kk8_189 ?_
    obtain ⟨rfl, rfl⟩ := rtE h
    exact b_iret rfl dX8_smoke_10
theorem s8_smoke (a1 : Int32) (a2 : Int32)  (w w' : Mem) (r : Int32) (h : f8_smoke  a1 a2  w = some (r, w')) : Sp yX8_smoke cX8_smoke 3 (some .int) 4 [vR 32 0, vI a1, vI a2] w (some (vI r)) w' := sp_of (by decide) (fun _ => rfl) (fun _ => Nat.le_of_ble_eq_true rfl) (t8_smoke  a1 a2   _ _ _ h)
-- X8_inn OneADayModel
def f8_inn_119  (a1 : Int32) (rec34 : Int32 → Int32 → Mem → Option (Int32 × Mem)) (x3 : Int32) (s0 : Int32) (w : Mem) : Option (Int32 × Mem) :=
  bndV (f8_putBack  w) fun w1 => bnd (x3 + (-1)) fun y2 => rec34 s0 y2 w1
set_option maxRecDepth 100000 in
set_option maxHeartbeats 4000000 in
theorem t8_inn_119   (a1 : Int32)  (rec34 : Int32 → Int32 → Mem → Option (Int32 × Mem)) (hrec34 : ∀ (x2 : Int32) (x3 : Int32) (w w' : Mem) (r : Int32), rec34 x2 x3 w = some (r, w') → Bk yX8_inn cX8_inn 5 (some .int) 6 34 [(0, vR 32 0), (1, vI a1), (2, vI x2), (3, vI x3)] [] w (some (vI r)) w') (x3 : Int32) (s0 : Int32) (w w' : Mem) (r : Int32) (h : f8_inn_119  a1 rec34 x3 s0 w = some (r, w')) : Bk yX8_inn cX8_inn 5 (some .int) 6 119 [(0, vR 32 0), (1, vI a1), (3, vI x3)] [vI s0] w (some (vI r)) w' := by
  unfold f8_inn_119 at h
  refine b_istore_n (lv' := [(2, vI s0), (0, vR 32 0), (1, vI a1), (3, vI x3)]) dX8_inn_119 rfl (by decide) rfl ?_
  refine b_aload_n dX8_inn_120 rfl (k := 1) rfl ?_
  obtain ⟨w1, hw1, h⟩ := bdV h
  refine b_callVv mv8_putBack ml8_253 ob32 (s8_putBack   _ _  hw1) rfl (by decide) (by decide) (Nat.le_of_ble_eq_true rfl) rfl dX8_inn_121 ?_
  obtain ⟨y2, ey2, h⟩ := nmE h
  refine b_iinc (v := y2) (lv' := [(3, vI y2), (2, vI s0), (0, vR 32 0), (1, vI a1)]) dX8_inn_124 (k := 3) rfl ey2.symm (by decide) rfl ?_
  refine b_goto (tgt := 34) dX8_inn_127 (by decide) ?_
  refine b_sub [2, 3, 1, 0] rfl ?_
  exact hrec34 s0 y2 _ _ _ h
def f8_inn_67  (a1 : Int32) (rec34 : Int32 → Int32 → Mem → Option (Int32 × Mem)) (x2 : Int32) (x3 : Int32) (w : Mem) : Option (Int32 × Mem) :=
  if (w.1 32 11 4) = (w.1 32 31 4) then (if (w.1 32 11 5) = (w.1 32 31 5) then (if (w.1 32 11 7) = (w.1 32 31 7) then (f8_inn_119  a1 rec34 x3 x3 w) else (f8_inn_119  a1 rec34 x3 x2 w)) else (f8_inn_119  a1 rec34 x3 x2 w)) else (f8_inn_119  a1 rec34 x3 x2 w)
set_option maxRecDepth 100000 in
set_option maxHeartbeats 4000000 in
theorem t8_inn_67   (a1 : Int32)  (rec34 : Int32 → Int32 → Mem → Option (Int32 × Mem)) (hrec34 : ∀ (x2 : Int32) (x3 : Int32) (w w' : Mem) (r : Int32), rec34 x2 x3 w = some (r, w') → Bk yX8_inn cX8_inn 5 (some .int) 6 34 [(0, vR 32 0), (1, vI a1), (2, vI x2), (3, vI x3)] [] w (some (vI r)) w') (x2 : Int32) (x3 : Int32) (w w' : Mem) (r : Int32) (h : f8_inn_67  a1 rec34 x2 x3 w = some (r, w')) : Bk yX8_inn cX8_inn 5 (some .int) 6 67 [(0, vR 32 0), (1, vI a1), (2, vI x2), (3, vI x3)] [] w (some (vI r)) w' := by
  unfold f8_inn_67 at h
  refine b_aload_n dX8_inn_67 rfl (k := 0) rfl ?_
  refine b_getF fl8_25 ob32 rfl rfl dX8_inn_68 ?_
  refine b_iconst (v := 4) dX8_inn_71 (by decide) ?_
  refine b_iald ar32_11 (j0 := 4) (by decide) (by decide) dX8_inn_72 ?_
  refine b_aload_n dX8_inn_73 rfl (k := 0) rfl ?_
  refine b_getF fl8_59 ob32 rfl rfl dX8_inn_74 ?_
  refine b_iconst (v := 4) dX8_inn_77 (by decide) ?_
  refine b_iald ar32_31 (j0 := 4) (by decide) (by decide) dX8_inn_78 ?_
  refine b_icne (tgt := 118) dX8_inn_79 (by decide) (fun c1 => ?_) (fun c1 => ?_)
  · replace h := ifF c1 h
    refine b_iload_n dX8_inn_118 rfl (k := 2) rfl ?_
    refine b_sub [0, 1, 3] rfl ?_
    exact t8_inn_119  a1  rec34 hrec34 x3 x2 _ _ _ h
  · replace h := ifT c1 h
    refine b_aload_n dX8_inn_82 rfl (k := 0) rfl ?_
    refine b_getF fl8_25 ob32 rfl rfl dX8_inn_83 ?_
    refine b_iconst (v := 5) dX8_inn_86 (by decide) ?_
    refine b_iald ar32_11 (j0 := 5) (by decide) (by decide) dX8_inn_87 ?_
    refine b_aload_n dX8_inn_88 rfl (k := 0) rfl ?_
    refine b_getF fl8_59 ob32 rfl rfl dX8_inn_89 ?_
    refine b_iconst (v := 5) dX8_inn_92 (by decide) ?_
    refine b_iald ar32_31 (j0 := 5) (by decide) (by decide) dX8_inn_93 ?_
    refine b_icne (tgt := 118) dX8_inn_94 (by decide) (fun c2 => ?_) (fun c2 => ?_)
    · replace h := ifF c2 h
      refine b_iload_n dX8_inn_118 rfl (k := 2) rfl ?_
      refine b_sub [0, 1, 3] rfl ?_
      exact t8_inn_119  a1  rec34 hrec34 x3 x2 _ _ _ h
    · replace h := ifT c2 h
      refine b_aload_n dX8_inn_97 rfl (k := 0) rfl ?_
      refine b_getF fl8_25 ob32 rfl rfl dX8_inn_98 ?_
      refine b_bipush (v := 7) dX8_inn_101 (by decide) ?_
      refine b_iald ar32_11 (j0 := 7) (by decide) (by decide) dX8_inn_103 ?_
      refine b_aload_n dX8_inn_104 rfl (k := 0) rfl ?_
      refine b_getF fl8_59 ob32 rfl rfl dX8_inn_105 ?_
      refine b_bipush (v := 7) dX8_inn_108 (by decide) ?_
      refine b_iald ar32_31 (j0 := 7) (by decide) (by decide) dX8_inn_110 ?_
      refine b_icne (tgt := 118) dX8_inn_111 (by decide) (fun c3 => ?_) (fun c3 => ?_)
      · replace h := ifF c3 h
        refine b_iload_n dX8_inn_118 rfl (k := 2) rfl ?_
        refine b_sub [0, 1, 3] rfl ?_
        exact t8_inn_119  a1  rec34 hrec34 x3 x2 _ _ _ h
      · replace h := ifT c3 h
        refine b_iload_n dX8_inn_114 rfl (k := 3) rfl ?_
        refine b_goto (tgt := 119) dX8_inn_115 (by decide) ?_
        refine b_sub [0, 1, 3] rfl ?_
        exact t8_inn_119  a1  rec34 hrec34 x3 x3 _ _ _ h
def f8_inn_41  (a1 : Int32) (rec34 : Int32 → Int32 → Mem → Option (Int32 × Mem)) : Nat → Int32 → Int32 → Int32 → Mem → Option (Int32 × Mem)
  | 0, _, _, _, _ => none
  | n + 1, x2, x3, x4, w =>
  if a1 ≤ x4 then (f8_inn_67  a1 rec34 x2 x3 w) else (if (w.1 32 11 2) = 0 then (bndV (f8_pass x3 w) fun w3 => bnd (x4 + 1) fun y4 => f8_inn_41  a1 rec34 n x2 x3 y4 w3) else (f8_inn_67  a1 rec34 x2 x3 w))
set_option maxRecDepth 100000 in
set_option maxHeartbeats 4000000 in
theorem t8_inn_41   (a1 : Int32)  (rec34 : Int32 → Int32 → Mem → Option (Int32 × Mem)) (hrec34 : ∀ (x2 : Int32) (x3 : Int32) (w w' : Mem) (r : Int32), rec34 x2 x3 w = some (r, w') → Bk yX8_inn cX8_inn 5 (some .int) 6 34 [(0, vR 32 0), (1, vI a1), (2, vI x2), (3, vI x3)] [] w (some (vI r)) w') : ∀ (n : Nat) (x2 : Int32) (x3 : Int32) (x4 : Int32) (w w' : Mem) (r : Int32), f8_inn_41  a1 rec34 n x2 x3 x4 w = some (r, w') → Bk yX8_inn cX8_inn 5 (some .int) 6 41 [(0, vR 32 0), (1, vI a1), (2, vI x2), (3, vI x3), (4, vI x4)] [] w (some (vI r)) w' := by
  intro n
  induction n with
  | zero =>
    intro x2 x3 x4 w w' r h
    cases (show (none : Option (Int32 × Mem)) = some _ from h)
  | succ n ih =>
    intro x2 x3 x4 w w' r h
    rw [f8_inn_41] at h
    refine b_iload dX8_inn_41 (k := 4) rfl ?_
    refine b_iload_n dX8_inn_43 rfl (k := 1) rfl ?_
    refine b_icge (tgt := 67) dX8_inn_44 (by decide) (fun c1 => ?_) (fun c1 => ?_)
    · replace h := ifT c1 h
      refine b_sub [0, 1, 2, 3] rfl ?_
      exact t8_inn_67  a1  rec34 hrec34 x2 x3 _ _ _ h
    · replace h := ifF c1 h
      refine b_aload_n dX8_inn_47 rfl (k := 0) rfl ?_
      refine b_getF fl8_25 ob32 rfl rfl dX8_inn_48 ?_
      refine b_iconst (v := 2) dX8_inn_51 (by decide) ?_
      refine b_iald ar32_11 (j0 := 2) (by decide) (by decide) dX8_inn_52 ?_
      refine b_ifne (tgt := 67) dX8_inn_53 (by decide) (fun c2 => ?_) (fun c2 => ?_)
      · replace h := ifF c2 h
        refine b_sub [0, 1, 2, 3] rfl ?_
        exact t8_inn_67  a1  rec34 hrec34 x2 x3 _ _ _ h
      · replace h := ifT c2 h
        refine b_aload_n dX8_inn_56 rfl (k := 0) rfl ?_
        refine b_iload_n dX8_inn_57 rfl (k := 3) rfl ?_
        obtain ⟨w3, hw3, h⟩ := bdV h
        refine b_callVv mv8_pass ml8_231 ob32 (s8_pass x3  _ _  hw3) rfl (by decide) (by decide) (Nat.le_of_ble_eq_true rfl) rfl dX8_inn_58 ?_
        obtain ⟨y4, ey4, h⟩ := nmE h
        refine b_iinc (v := y4) (lv' := [(4, vI y4), (0, vR 32 0), (1, vI a1), (2, vI x2), (3, vI x3)]) dX8_inn_61 (k := 4) rfl ey4.symm (by decide) rfl ?_
        refine b_goto (tgt := 41) dX8_inn_64 (by decide) ?_
        refine b_sub [1, 2, 3, 4, 0] rfl ?_
        exact ih x2 x3 y4 _ _ _ h
def f8_inn_34  (a1 : Int32)  : Nat → Int32 → Int32 → Mem → Option (Int32 × Mem)
  | 0, _, _, _ => none
  | n + 1, x2, x3, w =>
  if x3 < 0 then (some (x2, w)) else (f8_inn_41  a1 (f8_inn_34  a1  n) 100000 x2 x3 0 w)
set_option maxRecDepth 100000 in
set_option maxHeartbeats 4000000 in
theorem t8_inn_34   (a1 : Int32)    : ∀ (n : Nat) (x2 : Int32) (x3 : Int32) (w w' : Mem) (r : Int32), f8_inn_34  a1  n x2 x3 w = some (r, w') → Bk yX8_inn cX8_inn 5 (some .int) 6 34 [(0, vR 32 0), (1, vI a1), (2, vI x2), (3, vI x3)] [] w (some (vI r)) w' := by
  intro n
  induction n with
  | zero =>
    intro x2 x3 w w' r h
    cases (show (none : Option (Int32 × Mem)) = some _ from h)
  | succ n ih =>
    intro x2 x3 w w' r h
    rw [f8_inn_34] at h
    refine b_iload_n dX8_inn_34 rfl (k := 3) rfl ?_
    refine b_iflt (tgt := 130) dX8_inn_35 (by decide) (fun c1 => ?_) (fun c1 => ?_)
    · replace h := ifT c1 h
      refine b_iload_n dX8_inn_130 rfl (k := 2) rfl ?_
      obtain ⟨rfl, rfl⟩ := rtE h
      exact b_iret rfl dX8_inn_131
    · replace h := ifF c1 h
      refine b_iconst (v := 0) dX8_inn_38 (by decide) ?_
      refine b_istore (lv' := [(4, vI 0), (0, vR 32 0), (1, vI a1), (2, vI x2), (3, vI x3)]) dX8_inn_39 (by decide) rfl ?_
      refine b_sub [1, 2, 3, 4, 0] rfl ?_
      exact t8_inn_41  a1  (f8_inn_34  a1  n) ih 100000 x2 x3 0 _ _ _ h
def f8_inn  (a1 : Int32)   (w : Mem) : Option (Int32 × Mem) :=
  bndO (f8_in (Int32.toInt64 a1) 1 60 w) fun r2 w1 => if r2 = 0 then (some ((-1000000002), w1)) else (if (w1.1 32 0 0) = 0 then (some ((-1000000003), w1)) else (bndV (f8_save  w1) fun w5 => f8_inn_34  a1  100000 (-1) 9 w5))
set_option maxRecDepth 100000 in
set_option maxHeartbeats 4000000 in
theorem t8_inn   (a1 : Int32)     (w w' : Mem) (r : Int32) (h : f8_inn  a1   w = some (r, w')) : Bk yX8_inn cX8_inn 5 (some .int) 6 0 [(0, vR 32 0), (1, vI a1)] [] w (some (vI r)) w' := by
  unfold f8_inn at h
  refine b_iload_n dX8_inn_0 rfl (k := 1) rfl ?_
  refine b_i2l dX8_inn_1 ?_
  refine b_lconst (v := 1) dX8_inn_2 (by decide) ?_
  refine b_ldc2 dX8_inn_3 kl8_256 ?_
  obtain ⟨r2, w1, hw1, h⟩ := bdO h
  refine b_callSi ms8_in ml8_97 (s8_in (Int32.toInt64 a1) 1 60  _ _ _ hw1) rfl (by decide) (by decide) (Nat.le_of_ble_eq_true rfl) rfl dX8_inn_6 ?_
  refine b_ifne (tgt := 15) dX8_inn_9 (by decide) (fun c3 => ?_) (fun c3 => ?_)
  · replace h := ifF c3 h
    refine b_aload_n dX8_inn_15 rfl (k := 0) rfl ?_
    refine b_getI fl8_155 ob32 rfl dX8_inn_16 ?_
    refine b_ifne (tgt := 25) dX8_inn_19 (by decide) (fun c4 => ?_) (fun c4 => ?_)
    · replace h := ifF c4 h
      refine b_aload_n dX8_inn_25 rfl (k := 0) rfl ?_
      obtain ⟨w5, hw5, h⟩ := bdV h
      refine b_callVv mv8_save ml8_250 ob32 (s8_save   _ _  hw5) rfl (by decide) (by decide) (Nat.le_of_ble_eq_true rfl) rfl dX8_inn_26 ?_
      refine b_iconst (v := (-1)) dX8_inn_29 (by decide) ?_
      refine b_istore_n (lv' := [(2, vI (-1)), (0, vR 32 0), (1, vI a1)]) dX8_inn_30 rfl (by decide) rfl ?_
      refine b_bipush (v := 9) dX8_inn_31 (by decide) ?_
      refine b_istore_n (lv' := [(3, vI 9), (2, vI (-1)), (0, vR 32 0), (1, vI a1)]) dX8_inn_33 rfl (by decide) rfl ?_
      refine b_sub [2, 3, 1, 0] rfl ?_
      exact t8_inn_34  a1    100000 (-1) 9 _ _ _ h
    · replace h := ifT c4 h
      refine b_ldc dX8_inn_22 kk8_224 ?_
      obtain ⟨rfl, rfl⟩ := rtE h
      exact b_iret rfl dX8_inn_24
  · replace h := ifT c3 h
    refine b_ldc dX8_inn_12 kk8_103 ?_
    obtain ⟨rfl, rfl⟩ := rtE h
    exact b_iret rfl dX8_inn_14
theorem s8_inn (a1 : Int32)  (w w' : Mem) (r : Int32) (h : f8_inn  a1  w = some (r, w')) : Sp yX8_inn cX8_inn 5 (some .int) 6 [vR 32 0, vI a1] w (some (vI r)) w' := sp_of (by decide) (fun _ => rfl) (fun _ => Nat.le_of_ble_eq_true rfl) (t8_inn  a1   _ _ _ h)
-- X8_mayGo OneADayModel
def f8_mayGo  (a1 : Int32) (a2 : Int32)   (w : Mem) : Option (Int32 × Mem) :=
  if a1 < 0 ∨ 8 ≤ Int32.toNatClampNeg a1 then none else if (w.1 32 4 (Int32.toNatClampNeg a1)) = 0 then (some (1, w)) else (bndO (f8_isFog a2 w) fun r4 w3 => if r4 = 0 then (some (1, w3)) else (some (0, w3)))
set_option maxRecDepth 100000 in
set_option maxHeartbeats 4000000 in
theorem t8_mayGo   (a1 : Int32) (a2 : Int32)     (w w' : Mem) (r : Int32) (h : f8_mayGo  a1 a2   w = some (r, w')) : Bk yX8_mayGo cX8_mayGo 3 (some .boolean) 2 0 [(0, vR 32 0), (1, vI a1), (2, vI a2)] [] w (some (vI r)) w' := by
  unfold f8_mayGo at h
  refine b_aload_n dX8_mayGo_0 rfl (k := 0) rfl ?_
  refine b_getF fl8_7 ob32 rfl rfl dX8_mayGo_1 ?_
  refine b_iload_n dX8_mayGo_4 rfl (k := 1) rfl ?_
  obtain ⟨g1, h⟩ := gdE h
  refine b_iald ar32_4 g1 rfl dX8_mayGo_5 ?_
  refine b_ifeq (tgt := 17) dX8_mayGo_6 (by decide) (fun c2 => ?_) (fun c2 => ?_)
  · replace h := ifT c2 h
    refine b_iconst (v := 1) dX8_mayGo_17 (by decide) ?_
    refine b_goto (tgt := 22) dX8_mayGo_18 (by decide) ?_
    obtain ⟨rfl, rfl⟩ := rtE h
    exact b_zret rfl (by decide) dX8_mayGo_22
  · replace h := ifF c2 h
    refine b_aload_n dX8_mayGo_9 rfl (k := 0) rfl ?_
    refine b_iload_n dX8_mayGo_10 rfl (k := 2) rfl ?_
    obtain ⟨r4, w3, hw3, h⟩ := bdO h
    refine b_callVi mv8_isFog ml8_193 ob32 (s8_isFog a2  _ _ _ hw3) rfl (by decide) (by decide) (Nat.le_of_ble_eq_true rfl) rfl dX8_mayGo_11 ?_
    refine b_ifne (tgt := 21) dX8_mayGo_14 (by decide) (fun c5 => ?_) (fun c5 => ?_)
    · replace h := ifF c5 h
      refine b_iconst (v := 0) dX8_mayGo_21 (by decide) ?_
      obtain ⟨rfl, rfl⟩ := rtE h
      exact b_zret rfl (by decide) dX8_mayGo_22
    · replace h := ifT c5 h
      refine b_iconst (v := 1) dX8_mayGo_17 (by decide) ?_
      refine b_goto (tgt := 22) dX8_mayGo_18 (by decide) ?_
      obtain ⟨rfl, rfl⟩ := rtE h
      exact b_zret rfl (by decide) dX8_mayGo_22
theorem s8_mayGo (a1 : Int32) (a2 : Int32)  (w w' : Mem) (r : Int32) (h : f8_mayGo  a1 a2  w = some (r, w')) : Sp yX8_mayGo cX8_mayGo 3 (some .boolean) 2 [vR 32 0, vI a1, vI a2] w (some (vI r)) w' := sp_of (by decide) (fun _ => rfl) (fun _ => Nat.le_of_ble_eq_true rfl) (t8_mayGo  a1 a2   _ _ _ h)
