-- X7_isLargeEnough OneADay
def f7_isLargeEnough_13  (a1 : Int32) (a2 : Int32)  : Nat → Int32 → Mem → Option (Int32 × Mem)
  | 0, _, _ => none
  | n + 1, x3, w =>
  if a2 ≤ x3 then (some (1, w)) else (if (w.1 1 13 0) = 0 then ((rk (w.2.2 26 4)).bind fun g3 => bndV (f1_live 1 g3 a1 w) fun w4 => if (w4.1 0 9 0) < (w4.1 1 9 0) then (some (0, w4)) else (if (w4.1 0 12 0) < (w4.1 1 12 0) then (some (0, w4)) else (if (w4.1 1 10 0) ≤ (w4.1 0 10 0) then (bnd (x3 + 1) fun y8 => f7_isLargeEnough_13  a1 a2  n y8 w4) else (some (0, w4))))) else (some (1, w)))
set_option maxRecDepth 100000 in
set_option maxHeartbeats 4000000 in
theorem t7_isLargeEnough_13   (a1 : Int32) (a2 : Int32)    : ∀ (n : Nat) (x3 : Int32) (w w' : Mem) (r : Int32), f7_isLargeEnough_13  a1 a2  n x3 w = some (r, w') → Bk yX7_isLargeEnough cX7_isLargeEnough 4 (some .boolean) 7 13 [(0, vR 26 0), (1, vI a1), (2, vI a2), (3, vI x3)] [] w (some (vI r)) w' := by
  intro n
  induction n with
  | zero =>
    intro x3 w w' r h
    cases (show (none : Option (Int32 × Mem)) = some _ from h)
  | succ n ih =>
    intro x3 w w' r h
    rw [f7_isLargeEnough_13] at h
    refine b_iload_n dX7_isLargeEnough_13 rfl (k := 3) rfl ?_
    refine b_iload_n dX7_isLargeEnough_14 rfl (k := 2) rfl ?_
    refine b_icge (tgt := 99) dX7_isLargeEnough_15 (by decide) (fun c1 => ?_) (fun c1 => ?_)
    · replace h := ifT c1 h
      refine b_iconst (v := 1) dX7_isLargeEnough_99 (by decide) ?_
      obtain ⟨rfl, rfl⟩ := rtE h
      exact b_zret rfl (by decide) dX7_isLargeEnough_100
    · replace h := ifF c1 h
      refine b_aload_n dX7_isLargeEnough_18 rfl (k := 0) rfl ?_
      refine b_getF fl7_41 ob26 rfl rfl dX7_isLargeEnough_19 ?_
      refine b_getI fl7_127 ob1 rfl dX7_isLargeEnough_22 ?_
      refine b_ifne (tgt := 99) dX7_isLargeEnough_25 (by decide) (fun c2 => ?_) (fun c2 => ?_)
      · replace h := ifF c2 h
        refine b_iconst (v := 1) dX7_isLargeEnough_99 (by decide) ?_
        obtain ⟨rfl, rfl⟩ := rtE h
        exact b_zret rfl (by decide) dX7_isLargeEnough_100
      · replace h := ifT c2 h
        refine b_aload_n dX7_isLargeEnough_28 rfl (k := 0) rfl ?_
        refine b_getF fl7_41 ob26 rfl rfl dX7_isLargeEnough_29 ?_
        refine b_aload_n dX7_isLargeEnough_32 rfl (k := 0) rfl ?_
        obtain ⟨g3, qg3, og3, h⟩ := bdR h
        refine b_getM qg3 fl7_27 ob26 rfl dX7_isLargeEnough_33 ?_
        refine b_iload_n dX7_isLargeEnough_36 rfl (k := 1) rfl ?_
        obtain ⟨w4, hw4, h⟩ := bdV h
        refine b_callVv mv1_live ml7_196 ob1 (s1_live 1 g3 a1 ob1 og3 _ _  hw4) rfl (by decide) (by decide) (Nat.le_of_ble_eq_true rfl) rfl dX7_isLargeEnough_37 ?_
        refine b_aload_n dX7_isLargeEnough_40 rfl (k := 0) rfl ?_
        refine b_getF fl7_41 ob26 rfl rfl dX7_isLargeEnough_41 ?_
        refine b_getI fl7_134 ob1 rfl dX7_isLargeEnough_44 ?_
        refine b_aload_n dX7_isLargeEnough_47 rfl (k := 0) rfl ?_
        refine b_getF fl7_37 ob26 rfl rfl dX7_isLargeEnough_48 ?_
        refine b_getI fl7_134 ob0 rfl dX7_isLargeEnough_51 ?_
        refine b_icgt (tgt := 91) dX7_isLargeEnough_54 (by decide) (fun c5 => ?_) (fun c5 => ?_)
        · replace h := ifT c5 h
          refine b_iconst (v := 0) dX7_isLargeEnough_91 (by decide) ?_
          obtain ⟨rfl, rfl⟩ := rtE h
          exact b_zret rfl (by decide) dX7_isLargeEnough_92
        · replace h := ifF c5 h
          refine b_aload_n dX7_isLargeEnough_57 rfl (k := 0) rfl ?_
          refine b_getF fl7_41 ob26 rfl rfl dX7_isLargeEnough_58 ?_
          refine b_getI fl7_146 ob1 rfl dX7_isLargeEnough_61 ?_
          refine b_aload_n dX7_isLargeEnough_64 rfl (k := 0) rfl ?_
          refine b_getF fl7_37 ob26 rfl rfl dX7_isLargeEnough_65 ?_
          refine b_getI fl7_146 ob0 rfl dX7_isLargeEnough_68 ?_
          refine b_icgt (tgt := 91) dX7_isLargeEnough_71 (by decide) (fun c6 => ?_) (fun c6 => ?_)
          · replace h := ifT c6 h
            refine b_iconst (v := 0) dX7_isLargeEnough_91 (by decide) ?_
            obtain ⟨rfl, rfl⟩ := rtE h
            exact b_zret rfl (by decide) dX7_isLargeEnough_92
          · replace h := ifF c6 h
            refine b_aload_n dX7_isLargeEnough_74 rfl (k := 0) rfl ?_
            refine b_getF fl7_41 ob26 rfl rfl dX7_isLargeEnough_75 ?_
            refine b_getI fl7_137 ob1 rfl dX7_isLargeEnough_78 ?_
            refine b_aload_n dX7_isLargeEnough_81 rfl (k := 0) rfl ?_
            refine b_getF fl7_37 ob26 rfl rfl dX7_isLargeEnough_82 ?_
            refine b_getI fl7_137 ob0 rfl dX7_isLargeEnough_85 ?_
            refine b_icle (tgt := 93) dX7_isLargeEnough_88 (by decide) (fun c7 => ?_) (fun c7 => ?_)
            · replace h := ifT c7 h
              obtain ⟨y8, ey8, h⟩ := nmE h
              refine b_iinc (v := y8) (lv' := [(3, vI y8), (0, vR 26 0), (1, vI a1), (2, vI a2)]) dX7_isLargeEnough_93 (k := 3) rfl ey8.symm (by decide) rfl ?_
              refine b_goto (tgt := 13) dX7_isLargeEnough_96 (by decide) ?_
              refine b_sub [1, 2, 3, 0] rfl ?_
              exact ih y8 _ _ _ h
            · replace h := ifF c7 h
              refine b_iconst (v := 0) dX7_isLargeEnough_91 (by decide) ?_
              obtain ⟨rfl, rfl⟩ := rtE h
              exact b_zret rfl (by decide) dX7_isLargeEnough_92
def f7_isLargeEnough  (a1 : Int32) (a2 : Int32)   (w : Mem) : Option (Int32 × Mem) :=
  bndV (f1_goOnFrom 1 0 w) fun w1 => f7_isLargeEnough_13  a1 a2  100000 0 w1
set_option maxRecDepth 100000 in
set_option maxHeartbeats 4000000 in
theorem t7_isLargeEnough   (a1 : Int32) (a2 : Int32)     (w w' : Mem) (r : Int32) (h : f7_isLargeEnough  a1 a2   w = some (r, w')) : Bk yX7_isLargeEnough cX7_isLargeEnough 4 (some .boolean) 7 0 [(0, vR 26 0), (1, vI a1), (2, vI a2)] [] w (some (vI r)) w' := by
  unfold f7_isLargeEnough at h
  refine b_aload_n dX7_isLargeEnough_0 rfl (k := 0) rfl ?_
  refine b_getF fl7_41 ob26 rfl rfl dX7_isLargeEnough_1 ?_
  refine b_aload_n dX7_isLargeEnough_4 rfl (k := 0) rfl ?_
  refine b_getF fl7_37 ob26 rfl rfl dX7_isLargeEnough_5 ?_
  obtain ⟨w1, hw1, h⟩ := bdV h
  refine b_callVv mv1_goOnFrom ml7_213 ob1 (s1_goOnFrom 1 0 ob1 ob0 _ _  hw1) rfl (by decide) (by decide) (Nat.le_of_ble_eq_true rfl) rfl dX7_isLargeEnough_8 ?_
  refine b_iconst (v := 0) dX7_isLargeEnough_11 (by decide) ?_
  refine b_istore_n (lv' := [(3, vI 0), (0, vR 26 0), (1, vI a1), (2, vI a2)]) dX7_isLargeEnough_12 rfl (by decide) rfl ?_
  refine b_sub [1, 2, 3, 0] rfl ?_
  exact t7_isLargeEnough_13  a1 a2    100000 0 _ _ _ h
theorem s7_isLargeEnough (a1 : Int32) (a2 : Int32)  (w w' : Mem) (r : Int32) (h : f7_isLargeEnough  a1 a2  w = some (r, w')) : Sp yX7_isLargeEnough cX7_isLargeEnough 4 (some .boolean) 7 [vR 26 0, vI a1, vI a2] w (some (vI r)) w' := sp_of (by decide) (fun _ => rfl) (fun _ => Nat.le_of_ble_eq_true rfl) (t7_isLargeEnough  a1 a2   _ _ _ h)
-- X7_inn OneADay
def f7_inn_29  (a1 : Int32)  : Nat → Int32 → Mem → Option (Int32 × Mem)
  | 0, _, _ => none
  | n + 1, x2, w =>
  if 9 < x2 then (some ((-1), w)) else (bndO (f7_isLargeEnough x2 a1 w) fun r3 w2 => if r3 = 0 then (bnd (x2 + 1) fun y5 => f7_inn_29  a1  n y5 w2) else (some (x2, w2)))
set_option maxRecDepth 100000 in
set_option maxHeartbeats 4000000 in
theorem t7_inn_29   (a1 : Int32)    : ∀ (n : Nat) (x2 : Int32) (w w' : Mem) (r : Int32), f7_inn_29  a1  n x2 w = some (r, w') → Bk yX7_inn cX7_inn 3 (some .int) 8 29 [(0, vR 26 0), (1, vI a1), (2, vI x2)] [] w (some (vI r)) w' := by
  intro n
  induction n with
  | zero =>
    intro x2 w w' r h
    cases (show (none : Option (Int32 × Mem)) = some _ from h)
  | succ n ih =>
    intro x2 w w' r h
    rw [f7_inn_29] at h
    refine b_iload_n dX7_inn_29 rfl (k := 2) rfl ?_
    refine b_bipush (v := 9) dX7_inn_30 (by decide) ?_
    refine b_icgt (tgt := 52) dX7_inn_32 (by decide) (fun c1 => ?_) (fun c1 => ?_)
    · replace h := ifT c1 h
      refine b_iconst (v := (-1)) dX7_inn_52 (by decide) ?_
      obtain ⟨rfl, rfl⟩ := rtE h
      exact b_iret rfl dX7_inn_53
    · replace h := ifF c1 h
      refine b_aload_n dX7_inn_35 rfl (k := 0) rfl ?_
      refine b_iload_n dX7_inn_36 rfl (k := 2) rfl ?_
      refine b_iload_n dX7_inn_37 rfl (k := 1) rfl ?_
      obtain ⟨r3, w2, hw2, h⟩ := bdO h
      refine b_callVi mv7_isLargeEnough ml7_237 ob26 (s7_isLargeEnough x2 a1  _ _ _ hw2) rfl (by decide) (by decide) (Nat.le_of_ble_eq_true rfl) rfl dX7_inn_38 ?_
      refine b_ifeq (tgt := 46) dX7_inn_41 (by decide) (fun c4 => ?_) (fun c4 => ?_)
      · replace h := ifT c4 h
        obtain ⟨y5, ey5, h⟩ := nmE h
        refine b_iinc (v := y5) (lv' := [(2, vI y5), (0, vR 26 0), (1, vI a1)]) dX7_inn_46 (k := 2) rfl ey5.symm (by decide) rfl ?_
        refine b_goto (tgt := 29) dX7_inn_49 (by decide) ?_
        refine b_sub [1, 2, 0] rfl ?_
        exact ih y5 _ _ _ h
      · replace h := ifF c4 h
        refine b_iload_n dX7_inn_44 rfl (k := 2) rfl ?_
        obtain ⟨rfl, rfl⟩ := rtE h
        exact b_iret rfl dX7_inn_45
def f7_inn  (a1 : Int32)   (w : Mem) : Option (Int32 × Mem) :=
  if a1 < 1 then (some ((-1000000002), w)) else (if a1 ≤ 60 then ((rk (w.2.2 26 4)).bind fun g3 => if (w.1 g3 0 0) = 0 then (some ((-1000000003), w)) else (f7_inn_29  a1  100000 0 w)) else (some ((-1000000002), w)))
set_option maxRecDepth 100000 in
set_option maxHeartbeats 4000000 in
theorem t7_inn   (a1 : Int32)     (w w' : Mem) (r : Int32) (h : f7_inn  a1   w = some (r, w')) : Bk yX7_inn cX7_inn 3 (some .int) 8 0 [(0, vR 26 0), (1, vI a1)] [] w (some (vI r)) w' := by
  unfold f7_inn at h
  refine b_iload_n dX7_inn_0 rfl (k := 1) rfl ?_
  refine b_iconst (v := 1) dX7_inn_1 (by decide) ?_
  refine b_iclt (tgt := 11) dX7_inn_2 (by decide) (fun c1 => ?_) (fun c1 => ?_)
  · replace h := ifT c1 h
    refine b_ldc dX7_inn_11 kk7_80 ?_
    obtain ⟨rfl, rfl⟩ := rtE h
    exact b_iret rfl dX7_inn_13
  · replace h := ifF c1 h
    refine b_iload_n dX7_inn_5 rfl (k := 1) rfl ?_
    refine b_bipush (v := 60) dX7_inn_6 (by decide) ?_
    refine b_icle (tgt := 14) dX7_inn_8 (by decide) (fun c2 => ?_) (fun c2 => ?_)
    · replace h := ifT c2 h
      refine b_aload_n dX7_inn_14 rfl (k := 0) rfl ?_
      obtain ⟨g3, qg3, og3, h⟩ := bdR h
      refine b_getM qg3 fl7_27 ob26 rfl dX7_inn_15 ?_
      refine b_getI fl7_210 og3 rfl dX7_inn_18 ?_
      refine b_ifne (tgt := 27) dX7_inn_21 (by decide) (fun c4 => ?_) (fun c4 => ?_)
      · replace h := ifF c4 h
        refine b_iconst (v := 0) dX7_inn_27 (by decide) ?_
        refine b_istore_n (lv' := [(2, vI 0), (0, vR 26 0), (1, vI a1)]) dX7_inn_28 rfl (by decide) rfl ?_
        refine b_sub [1, 2, 0] rfl ?_
        exact t7_inn_29  a1    100000 0 _ _ _ h
      · replace h := ifT c4 h
        refine b_ldc dX7_inn_24 kk7_206 ?_
        obtain ⟨rfl, rfl⟩ := rtE h
        exact b_iret rfl dX7_inn_26
    · replace h := ifF c2 h
      refine b_ldc dX7_inn_11 kk7_80 ?_
      obtain ⟨rfl, rfl⟩ := rtE h
      exact b_iret rfl dX7_inn_13
theorem s7_inn (a1 : Int32)  (w w' : Mem) (r : Int32) (h : f7_inn  a1  w = some (r, w')) : Sp yX7_inn cX7_inn 3 (some .int) 8 [vR 26 0, vI a1] w (some (vI r)) w' := sp_of (by decide) (fun _ => rfl) (fun _ => Nat.le_of_ble_eq_true rfl) (t7_inn  a1   _ _ _ h)
-- X7_feet OneADay
def f7_feet  (a1 : Int32) (a2 : Int32)   (w : Mem) : Option (Int32 × Mem) :=
  if a1 < 1 then (some ((-1000000002), w)) else (if a1 ≤ 10 then ((rk (w.2.2 26 4)).bind fun g3 => if (w.1 g3 0 0) = 0 then (some ((-1000000003), w)) else ((rk (w.2.2 26 4)).bind fun g5 => bndO (f4_make g5 (w.1 0 6 0) a1 w) fun r7 w6 => if r7 = (-1) then (some (r7, w6)) else (if a2 = (-1) then (some (r7, w6)) else (if a2 < 0 then (some ((-1), w6)) else (if a1 ≤ a2 then (some ((-1), w6)) else (if a2 < 10 then (if a2 < 0 ∨ 10 ≤ Int32.toNatClampNeg a2 then none else some (w6.1 31 0 (Int32.toNatClampNeg a2), w6)) else (some ((-1), w6)))))))) else (some ((-1000000002), w)))
set_option maxRecDepth 100000 in
set_option maxHeartbeats 4000000 in
theorem t7_feet   (a1 : Int32) (a2 : Int32)     (w w' : Mem) (r : Int32) (h : f7_feet  a1 a2   w = some (r, w')) : Bk yX7_feet cX7_feet 4 (some .int) 63 0 [(0, vR 26 0), (1, vI a1), (2, vI a2)] [] w (some (vI r)) w' := by
  unfold f7_feet at h
  refine b_iload_n dX7_feet_0 rfl (k := 1) rfl ?_
  refine b_iconst (v := 1) dX7_feet_1 (by decide) ?_
  refine b_iclt (tgt := 11) dX7_feet_2 (by decide) (fun c1 => ?_) (fun c1 => ?_)
  · replace h := ifT c1 h
    refine b_ldc dX7_feet_11 kk7_80 ?_
    obtain ⟨rfl, rfl⟩ := rtE h
    exact b_iret rfl dX7_feet_13
  · replace h := ifF c1 h
    refine b_iload_n dX7_feet_5 rfl (k := 1) rfl ?_
    refine b_bipush (v := 10) dX7_feet_6 (by decide) ?_
    refine b_icle (tgt := 14) dX7_feet_8 (by decide) (fun c2 => ?_) (fun c2 => ?_)
    · replace h := ifT c2 h
      refine b_aload_n dX7_feet_14 rfl (k := 0) rfl ?_
      obtain ⟨g3, qg3, og3, h⟩ := bdR h
      refine b_getM qg3 fl7_27 ob26 rfl dX7_feet_15 ?_
      refine b_getI fl7_210 og3 rfl dX7_feet_18 ?_
      refine b_ifne (tgt := 27) dX7_feet_21 (by decide) (fun c4 => ?_) (fun c4 => ?_)
      · replace h := ifF c4 h
        refine b_aload_n dX7_feet_27 rfl (k := 0) rfl ?_
        refine b_getF fl7_76 ob26 rfl rfl dX7_feet_28 ?_
        refine b_aload_n dX7_feet_31 rfl (k := 0) rfl ?_
        obtain ⟨g5, qg5, og5, h⟩ := bdR h
        refine b_getM qg5 fl7_27 ob26 rfl dX7_feet_32 ?_
        refine b_aload_n dX7_feet_35 rfl (k := 0) rfl ?_
        refine b_getF fl7_37 ob26 rfl rfl dX7_feet_36 ?_
        refine b_getI fl7_121 ob0 rfl dX7_feet_39 ?_
        refine b_iload_n dX7_feet_42 rfl (k := 1) rfl ?_
        obtain ⟨r7, w6, hw6, h⟩ := bdO h
        refine b_callVi mv4_make ml7_240 ob31 (s4_make g5 (w.1 0 6 0) a1 og5 _ _ _ hw6) rfl (by decide) (by decide) (Nat.le_of_ble_eq_true rfl) rfl dX7_feet_43 ?_
        refine b_istore_n (lv' := [(3, vI r7), (0, vR 26 0), (1, vI a1), (2, vI a2)]) dX7_feet_46 rfl (by decide) rfl ?_
        refine b_iload_n dX7_feet_47 rfl (k := 0) rfl ?_
        refine b_iconst (v := (-1)) dX7_feet_48 (by decide) ?_
        refine b_iceq (tgt := 57) dX7_feet_49 (by decide) (fun c8 => ?_) (fun c8 => ?_)
        · replace h := ifT c8 h
          refine b_iload_n dX7_feet_57 rfl (k := 0) rfl ?_
          obtain ⟨rfl, rfl⟩ := rtE h
          exact b_iret rfl dX7_feet_58
        · replace h := ifF c8 h
          refine b_iload_n dX7_feet_52 rfl (k := 3) rfl ?_
          refine b_iconst (v := (-1)) dX7_feet_53 (by decide) ?_
          refine b_icne (tgt := 59) dX7_feet_54 (by decide) (fun c9 => ?_) (fun c9 => ?_)
          · replace h := ifF c9 h
            refine b_iload_n dX7_feet_59 rfl (k := 3) rfl ?_
            refine b_iflt (tgt := 80) dX7_feet_60 (by decide) (fun c10 => ?_) (fun c10 => ?_)
            · replace h := ifT c10 h
              refine b_iconst (v := (-1)) dX7_feet_80 (by decide) ?_
              refine b_goto (tgt := 93) dX7_feet_81 (by decide) ?_
              obtain ⟨rfl, rfl⟩ := rtE h
              exact b_iret rfl dX7_feet_93
            · replace h := ifF c10 h
              refine b_iload_n dX7_feet_63 rfl (k := 3) rfl ?_
              refine b_iload_n dX7_feet_64 rfl (k := 2) rfl ?_
              refine b_icge (tgt := 80) dX7_feet_65 (by decide) (fun c11 => ?_) (fun c11 => ?_)
              · replace h := ifT c11 h
                refine b_iconst (v := (-1)) dX7_feet_80 (by decide) ?_
                refine b_goto (tgt := 93) dX7_feet_81 (by decide) ?_
                obtain ⟨rfl, rfl⟩ := rtE h
                exact b_iret rfl dX7_feet_93
              · replace h := ifF c11 h
                refine b_iload_n dX7_feet_68 rfl (k := 3) rfl ?_
                refine b_aload_n dX7_feet_69 rfl (k := 1) rfl ?_
                refine b_getF fl7_76 ob26 rfl rfl dX7_feet_70 ?_
                refine b_getF fl7_244 ob31 rfl rfl dX7_feet_73 ?_
                refine b_alen (v := 10) ar31_0 (by decide) (by decide) dX7_feet_76 ?_
                refine b_iclt (tgt := 84) dX7_feet_77 (by decide) (fun c12 => ?_) (fun c12 => ?_)
                · replace h := ifT c12 h
                  refine b_aload_n dX7_feet_84 rfl (k := 1) rfl ?_
                  refine b_getF fl7_76 ob26 rfl rfl dX7_feet_85 ?_
                  refine b_getF fl7_244 ob31 rfl rfl dX7_feet_88 ?_
                  refine b_iload_n dX7_feet_91 rfl (k := 3) rfl ?_
                  obtain ⟨g13, h⟩ := gdE h
                  refine b_iald ar31_0 g13 rfl dX7_feet_92 ?_
                  obtain ⟨rfl, rfl⟩ := rtE h
                  exact b_iret rfl dX7_feet_93
                · replace h := ifF c12 h
                  refine b_iconst (v := (-1)) dX7_feet_80 (by decide) ?_
                  refine b_goto (tgt := 93) dX7_feet_81 (by decide) ?_
                  obtain ⟨rfl, rfl⟩ := rtE h
                  exact b_iret rfl dX7_feet_93
          · replace h := ifT c9 h
            refine b_iload_n dX7_feet_57 rfl (k := 0) rfl ?_
            obtain ⟨rfl, rfl⟩ := rtE h
            exact b_iret rfl dX7_feet_58
      · replace h := ifT c4 h
        refine b_ldc dX7_feet_24 kk7_206 ?_
        obtain ⟨rfl, rfl⟩ := rtE h
        exact b_iret rfl dX7_feet_26
    · replace h := ifF c2 h
      refine b_ldc dX7_feet_11 kk7_80 ?_
      obtain ⟨rfl, rfl⟩ := rtE h
      exact b_iret rfl dX7_feet_13
theorem s7_feet (a1 : Int32) (a2 : Int32)  (w w' : Mem) (r : Int32) (h : f7_feet  a1 a2  w = some (r, w')) : Sp yX7_feet cX7_feet 4 (some .int) 63 [vR 26 0, vI a1, vI a2] w (some (vI r)) w' := sp_of (by decide) (fun _ => rfl) (fun _ => Nat.le_of_ble_eq_true rfl) (t7_feet  a1 a2   _ _ _ h)
-- X7_odds OneADay
def f7_odds_36  (a1 : Int32)  : Nat → Int32 → Int32 → Int32 → Int32 → Mem → Option (Int32 × Mem)
  | 0, _, _, _, _, _ => none
  | n + 1, x2, x3, x4, x5, w =>
  if 8 ≤ x5 then (some (x4, w)) else (if ((jshr x2 x5) &&& 1) = 0 then (bnd (x5 + 1) fun y9 => f7_odds_36  a1  n x2 x3 x4 y9 w) else ((rk (w.2.2 26 4)).bind fun g3 => if x5 < 0 ∨ 8 ≤ Int32.toNatClampNeg x5 then none else bnd (w.1 g3 10 (Int32.toNatClampNeg x5)) fun y5 => bnd (((x4 * y5) / 100) + ((x3 * (100 - y5)) / 100)) fun y6 => bnd ((x3 * y5) / 100) fun y7 => bnd (x5 + 1) fun y8 => f7_odds_36  a1  n x2 y7 y6 y8 w))
set_option maxRecDepth 100000 in
set_option maxHeartbeats 4000000 in
theorem t7_odds_36   (a1 : Int32)    : ∀ (n : Nat) (x2 : Int32) (x3 : Int32) (x4 : Int32) (x5 : Int32) (w w' : Mem) (r : Int32), f7_odds_36  a1  n x2 x3 x4 x5 w = some (r, w') → Bk yX7_odds cX7_odds 7 (some .int) 5 36 [(0, vR 26 0), (2, vI x2), (3, vI x3), (4, vI x4), (5, vI x5)] [] w (some (vI r)) w' := by
  intro n
  induction n with
  | zero =>
    intro x2 x3 x4 x5 w w' r h
    cases (show (none : Option (Int32 × Mem)) = some _ from h)
  | succ n ih =>
    intro x2 x3 x4 x5 w w' r h
    rw [f7_odds_36] at h
    refine b_iload dX7_odds_36 (k := 4) rfl ?_
    refine b_bipush (v := 8) dX7_odds_38 (by decide) ?_
    refine b_icge (tgt := 102) dX7_odds_40 (by decide) (fun c1 => ?_) (fun c1 => ?_)
    · replace h := ifT c1 h
      refine b_iload dX7_odds_102 (k := 3) rfl ?_
      obtain ⟨rfl, rfl⟩ := rtE h
      exact b_iret rfl dX7_odds_104
    · replace h := ifF c1 h
      refine b_iload_n dX7_odds_43 rfl (k := 1) rfl ?_
      refine b_iload dX7_odds_44 (k := 4) rfl ?_
      refine b_ishr dX7_odds_46 ?_
      refine b_iconst (v := 1) dX7_odds_47 (by decide) ?_
      refine b_iand dX7_odds_48 ?_
      refine b_ifne (tgt := 55) dX7_odds_49 (by decide) (fun c2 => ?_) (fun c2 => ?_)
      · replace h := ifF c2 h
        refine b_aload_n dX7_odds_55 rfl (k := 0) rfl ?_
        obtain ⟨g3, qg3, og3, h⟩ := bdR h
        refine b_getM qg3 fl7_27 ob26 rfl dX7_odds_56 ?_
        refine b_getF fl7_172 og3 rfl (grC6 og3 10) dX7_odds_59 ?_
        refine b_iload dX7_odds_62 (k := 4) rfl ?_
        obtain ⟨g4, h⟩ := gdE h
        refine b_iald (arC6_10 og3) g4 rfl dX7_odds_64 ?_
        obtain ⟨y5, ey5, h⟩ := nmE h
        refine b_nmI ey5 ?_
        refine b_istore (lv' := [(6, vI y5), (0, vR 26 0), (2, vI x2), (3, vI x3), (4, vI x4), (5, vI x5)]) dX7_odds_65 (by decide) rfl ?_
        refine b_iload dX7_odds_67 (k := 4) rfl ?_
        refine b_iload dX7_odds_69 (k := 0) rfl ?_
        refine b_imul dX7_odds_71 ?_
        refine b_bipush (v := 100) dX7_odds_72 (by decide) ?_
        refine b_idiv dX7_odds_74 (by decide) ?_
        refine b_iload_n dX7_odds_75 rfl (k := 3) rfl ?_
        refine b_bipush (v := 100) dX7_odds_76 (by decide) ?_
        refine b_iload dX7_odds_78 (k := 0) rfl ?_
        refine b_isub dX7_odds_80 ?_
        refine b_imul dX7_odds_81 ?_
        refine b_bipush (v := 100) dX7_odds_82 (by decide) ?_
        refine b_idiv dX7_odds_84 (by decide) ?_
        refine b_iadd dX7_odds_85 ?_
        obtain ⟨y6, ey6, h⟩ := nmE h
        refine b_nmI ey6 ?_
        refine b_istore (lv' := [(4, vI y6), (6, vI y5), (0, vR 26 0), (2, vI x2), (3, vI x3), (5, vI x5)]) dX7_odds_86 (by decide) rfl ?_
        refine b_iload_n dX7_odds_88 rfl (k := 4) rfl ?_
        refine b_iload dX7_odds_89 (k := 1) rfl ?_
        refine b_imul dX7_odds_91 ?_
        refine b_bipush (v := 100) dX7_odds_92 (by decide) ?_
        refine b_idiv dX7_odds_94 (by decide) ?_
        obtain ⟨y7, ey7, h⟩ := nmE h
        refine b_nmI ey7 ?_
        refine b_istore_n (lv' := [(3, vI y7), (4, vI y6), (6, vI y5), (0, vR 26 0), (2, vI x2), (5, vI x5)]) dX7_odds_95 rfl (by decide) rfl ?_
        obtain ⟨y8, ey8, h⟩ := nmE h
        refine b_iinc (v := y8) (lv' := [(5, vI y8), (3, vI y7), (4, vI y6), (6, vI y5), (0, vR 26 0), (2, vI x2)]) dX7_odds_96 (k := 5) rfl ey8.symm (by decide) rfl ?_
        refine b_goto (tgt := 36) dX7_odds_99 (by decide) ?_
        refine b_sub [4, 5, 1, 2, 0] rfl ?_
        exact ih x2 y7 y6 y8 _ _ _ h
      · replace h := ifT c2 h
        refine b_goto (tgt := 96) dX7_odds_52 (by decide) ?_
        obtain ⟨y9, ey9, h⟩ := nmE h
        refine b_iinc (v := y9) (lv' := [(5, vI y9), (0, vR 26 0), (2, vI x2), (3, vI x3), (4, vI x4)]) dX7_odds_96 (k := 4) rfl ey9.symm (by decide) rfl ?_
        refine b_goto (tgt := 36) dX7_odds_99 (by decide) ?_
        refine b_sub [1, 2, 3, 4, 0] rfl ?_
        exact ih x2 x3 x4 y9 _ _ _ h
def f7_odds  (a1 : Int32)   (w : Mem) : Option (Int32 × Mem) :=
  if a1 < 0 then (some ((-1000000002), w)) else (if a1 ≤ 999 then ((rk (w.2.2 26 4)).bind fun g3 => bndO (f1_comersByCalendar 0 g3 a1 w) fun r5 w4 => f7_odds_36  a1  100000 r5 1000000 0 0 w4) else (some ((-1000000002), w)))
set_option maxRecDepth 100000 in
set_option maxHeartbeats 4000000 in
theorem t7_odds   (a1 : Int32)     (w w' : Mem) (r : Int32) (h : f7_odds  a1   w = some (r, w')) : Bk yX7_odds cX7_odds 7 (some .int) 5 0 [(0, vR 26 0), (1, vI a1)] [] w (some (vI r)) w' := by
  unfold f7_odds at h
  refine b_iload_n dX7_odds_0 rfl (k := 1) rfl ?_
  refine b_iflt (tgt := 11) dX7_odds_1 (by decide) (fun c1 => ?_) (fun c1 => ?_)
  · replace h := ifT c1 h
    refine b_ldc dX7_odds_11 kk7_80 ?_
    obtain ⟨rfl, rfl⟩ := rtE h
    exact b_iret rfl dX7_odds_13
  · replace h := ifF c1 h
    refine b_iload_n dX7_odds_4 rfl (k := 1) rfl ?_
    refine b_sipush (v := 999) dX7_odds_5 (by decide) ?_
    refine b_icle (tgt := 14) dX7_odds_8 (by decide) (fun c2 => ?_) (fun c2 => ?_)
    · replace h := ifT c2 h
      refine b_aload_n dX7_odds_14 rfl (k := 0) rfl ?_
      refine b_getF fl7_37 ob26 rfl rfl dX7_odds_15 ?_
      refine b_aload_n dX7_odds_18 rfl (k := 0) rfl ?_
      obtain ⟨g3, qg3, og3, h⟩ := bdR h
      refine b_getM qg3 fl7_27 ob26 rfl dX7_odds_19 ?_
      refine b_iload_n dX7_odds_22 rfl (k := 1) rfl ?_
      obtain ⟨r5, w4, hw4, h⟩ := bdO h
      refine b_callVi mv1_comersByCalendar ml7_234 ob0 (s1_comersByCalendar 0 g3 a1 ob0 og3 _ _ _ hw4) rfl (by decide) (by decide) (Nat.le_of_ble_eq_true rfl) rfl dX7_odds_23 ?_
      refine b_istore_n (lv' := [(2, vI r5), (0, vR 26 0), (1, vI a1)]) dX7_odds_26 rfl (by decide) rfl ?_
      refine b_ldc dX7_odds_27 kk7_247 ?_
      refine b_istore_n (lv' := [(3, vI 1000000), (2, vI r5), (0, vR 26 0), (1, vI a1)]) dX7_odds_29 rfl (by decide) rfl ?_
      refine b_iconst (v := 0) dX7_odds_30 (by decide) ?_
      refine b_istore (lv' := [(4, vI 0), (3, vI 1000000), (2, vI r5), (0, vR 26 0), (1, vI a1)]) dX7_odds_31 (by decide) rfl ?_
      refine b_iconst (v := 0) dX7_odds_33 (by decide) ?_
      refine b_istore (lv' := [(5, vI 0), (4, vI 0), (3, vI 1000000), (2, vI r5), (0, vR 26 0), (1, vI a1)]) dX7_odds_34 (by decide) rfl ?_
      refine b_sub [4, 3, 2, 1, 0] rfl ?_
      exact t7_odds_36  a1    100000 r5 1000000 0 0 _ _ _ h
    · replace h := ifF c2 h
      refine b_ldc dX7_odds_11 kk7_80 ?_
      obtain ⟨rfl, rfl⟩ := rtE h
      exact b_iret rfl dX7_odds_13
theorem s7_odds (a1 : Int32)  (w w' : Mem) (r : Int32) (h : f7_odds  a1  w = some (r, w')) : Sp yX7_odds cX7_odds 7 (some .int) 5 [vR 26 0, vI a1] w (some (vI r)) w' := sp_of (by decide) (fun _ => rfl) (fun _ => Nat.le_of_ble_eq_true rfl) (t7_odds  a1   _ _ _ h)
-- X7_see OneADay
def f7_see  (a1 : Int32) (a2 : Int32)   (w : Mem) : Option (Int32 × Mem) :=
  if a1 < 0 then (some ((-1000000002), w)) else (if 100 ≤ a1 then (some ((-1000000002), w)) else (if a2 < 0 then (some ((-1000000002), w)) else (if a2 ≤ 2 then (bndO (f2_addSeen a1 a2 w) fun r6 w5 => if r6 = 0 then (some ((-1000000004), w5)) else (some (w5.1 29 4 0, w5))) else (some ((-1000000002), w)))))
set_option maxRecDepth 100000 in
set_option maxHeartbeats 4000000 in
theorem t7_see   (a1 : Int32) (a2 : Int32)     (w w' : Mem) (r : Int32) (h : f7_see  a1 a2   w = some (r, w')) : Bk yX7_see cX7_see 3 (some .int) 2 0 [(0, vR 26 0), (1, vI a1), (2, vI a2)] [] w (some (vI r)) w' := by
  unfold f7_see at h
  refine b_iload_n dX7_see_0 rfl (k := 1) rfl ?_
  refine b_iflt (tgt := 19) dX7_see_1 (by decide) (fun c1 => ?_) (fun c1 => ?_)
  · replace h := ifT c1 h
    refine b_ldc dX7_see_19 kk7_80 ?_
    obtain ⟨rfl, rfl⟩ := rtE h
    exact b_iret rfl dX7_see_21
  · replace h := ifF c1 h
    refine b_iload_n dX7_see_4 rfl (k := 1) rfl ?_
    refine b_bipush (v := 100) dX7_see_5 (by decide) ?_
    refine b_icge (tgt := 19) dX7_see_7 (by decide) (fun c2 => ?_) (fun c2 => ?_)
    · replace h := ifT c2 h
      refine b_ldc dX7_see_19 kk7_80 ?_
      obtain ⟨rfl, rfl⟩ := rtE h
      exact b_iret rfl dX7_see_21
    · replace h := ifF c2 h
      refine b_iload_n dX7_see_10 rfl (k := 2) rfl ?_
      refine b_iflt (tgt := 19) dX7_see_11 (by decide) (fun c3 => ?_) (fun c3 => ?_)
      · replace h := ifT c3 h
        refine b_ldc dX7_see_19 kk7_80 ?_
        obtain ⟨rfl, rfl⟩ := rtE h
        exact b_iret rfl dX7_see_21
      · replace h := ifF c3 h
        refine b_iload_n dX7_see_14 rfl (k := 2) rfl ?_
        refine b_iconst (v := 2) dX7_see_15 (by decide) ?_
        refine b_icle (tgt := 22) dX7_see_16 (by decide) (fun c4 => ?_) (fun c4 => ?_)
        · replace h := ifT c4 h
          refine b_aload_n dX7_see_22 rfl (k := 0) rfl ?_
          refine b_getF fl7_62 ob26 rfl rfl dX7_see_23 ?_
          refine b_iload_n dX7_see_26 rfl (k := 1) rfl ?_
          refine b_iload_n dX7_see_27 rfl (k := 2) rfl ?_
          obtain ⟨r6, w5, hw5, h⟩ := bdO h
          refine b_callVi mv2_addSeen ml7_248 ob29 (s2_addSeen a1 a2  _ _ _ hw5) rfl (by decide) (by decide) (Nat.le_of_ble_eq_true rfl) rfl dX7_see_28 ?_
          refine b_ifeq (tgt := 44) dX7_see_31 (by decide) (fun c7 => ?_) (fun c7 => ?_)
          · replace h := ifT c7 h
            refine b_ldc dX7_see_44 kk7_84 ?_
            obtain ⟨rfl, rfl⟩ := rtE h
            exact b_iret rfl dX7_see_46
          · replace h := ifF c7 h
            refine b_aload_n dX7_see_34 rfl (k := 0) rfl ?_
            refine b_getF fl7_62 ob26 rfl rfl dX7_see_35 ?_
            refine b_getI fl7_149 ob29 rfl dX7_see_38 ?_
            refine b_goto (tgt := 46) dX7_see_41 (by decide) ?_
            obtain ⟨rfl, rfl⟩ := rtE h
            exact b_iret rfl dX7_see_46
        · replace h := ifF c4 h
          refine b_ldc dX7_see_19 kk7_80 ?_
          obtain ⟨rfl, rfl⟩ := rtE h
          exact b_iret rfl dX7_see_21
theorem s7_see (a1 : Int32) (a2 : Int32)  (w w' : Mem) (r : Int32) (h : f7_see  a1 a2  w = some (r, w')) : Sp yX7_see cX7_see 3 (some .int) 2 [vR 26 0, vI a1, vI a2] w (some (vI r)) w' := sp_of (by decide) (fun _ => rfl) (fun _ => Nat.le_of_ble_eq_true rfl) (t7_see  a1 a2   _ _ _ h)
-- X7_dayToLookAt OneADay
def f7_dayToLookAt_64  (a1 : Int32) (a2 : Int32) (rec2 : Int32 → Mem → Option (Int32 × Mem)) (x3 : Int32) (x4 : Int32) (w : Mem) : Option (Int32 × Mem) :=
  bndO (f6_bitCount_0f7a4 x4 w) fun r2 w1 => if r2 ≤ 1 then (bnd (x3 + 1) fun y4 => rec2 y4 w1) else (some (x3, w1))
set_option maxRecDepth 100000 in
set_option maxHeartbeats 4000000 in
theorem t7_dayToLookAt_64   (a1 : Int32) (a2 : Int32)  (rec2 : Int32 → Mem → Option (Int32 × Mem)) (hrec2 : ∀ (x3 : Int32) (w w' : Mem) (r : Int32), rec2 x3 w = some (r, w') → Bk yX7_dayToLookAt cX7_dayToLookAt 6 (some .int) 6 2 [(0, vR 26 0), (1, vI a1), (2, vI a2), (3, vI x3)] [] w (some (vI r)) w') (x3 : Int32) (x4 : Int32) (w w' : Mem) (r : Int32) (h : f7_dayToLookAt_64  a1 a2 rec2 x3 x4 w = some (r, w')) : Bk yX7_dayToLookAt cX7_dayToLookAt 6 (some .int) 6 64 [(0, vR 26 0), (1, vI a1), (2, vI a2), (3, vI x3), (4, vI x4)] [] w (some (vI r)) w' := by
  unfold f7_dayToLookAt_64 at h
  refine b_iload dX7_dayToLookAt_64 (k := 4) rfl ?_
  obtain ⟨r2, w1, hw1, h⟩ := bdO h
  refine b_callSi ms6_bitCount_0f7a4 ml7_225 (s6_bitCount_0f7a4 x4  _ _ _ hw1) rfl (by decide) (by decide) (Nat.le_of_ble_eq_true rfl) rfl dX7_dayToLookAt_66 ?_
  refine b_iconst (v := 1) dX7_dayToLookAt_69 (by decide) ?_
  refine b_icle (tgt := 75) dX7_dayToLookAt_70 (by decide) (fun c3 => ?_) (fun c3 => ?_)
  · replace h := ifT c3 h
    obtain ⟨y4, ey4, h⟩ := nmE h
    refine b_iinc (v := y4) (lv' := [(3, vI y4), (0, vR 26 0), (1, vI a1), (2, vI a2), (4, vI x4)]) dX7_dayToLookAt_75 (k := 3) rfl ey4.symm (by decide) rfl ?_
    refine b_goto (tgt := 2) dX7_dayToLookAt_78 (by decide) ?_
    refine b_sub [1, 2, 3, 0] rfl ?_
    exact hrec2 y4 _ _ _ h
  · replace h := ifF c3 h
    refine b_iload_n dX7_dayToLookAt_73 rfl (k := 3) rfl ?_
    obtain ⟨rfl, rfl⟩ := rtE h
    exact b_iret rfl dX7_dayToLookAt_74
def f7_dayToLookAt_14  (a1 : Int32) (a2 : Int32) (rec2 : Int32 → Mem → Option (Int32 × Mem)) : Nat → Int32 → Int32 → Int32 → Mem → Option (Int32 × Mem)
  | 0, _, _, _, _ => none
  | n + 1, x3, x4, x5, w =>
  (rk (w.2.2 26 4)).bind fun g1 => bndO (f6_periodOf g1 a1 w) fun r3 w2 => if r3 ≤ x5 then (f7_dayToLookAt_64  a1 a2 rec2 x3 x4 w2) else (if ((jshr a2 x5) &&& 1) = 0 then (bnd (x5 + 1) fun y6 => f7_dayToLookAt_14  a1 a2 rec2 n x3 x4 y6 w2) else ((rk (w2.2.2 26 4)).bind fun g7 => bndO (f1_outcomeWith 0 g7 a1 x5 x3 w2) fun r9 w8 => bnd (x4 ||| (jshl 1 r9)) fun y10 => bnd (x5 + 1) fun y11 => f7_dayToLookAt_14  a1 a2 rec2 n x3 y10 y11 w8))
set_option maxRecDepth 100000 in
set_option maxHeartbeats 4000000 in
theorem t7_dayToLookAt_14   (a1 : Int32) (a2 : Int32)  (rec2 : Int32 → Mem → Option (Int32 × Mem)) (hrec2 : ∀ (x3 : Int32) (w w' : Mem) (r : Int32), rec2 x3 w = some (r, w') → Bk yX7_dayToLookAt cX7_dayToLookAt 6 (some .int) 6 2 [(0, vR 26 0), (1, vI a1), (2, vI a2), (3, vI x3)] [] w (some (vI r)) w') : ∀ (n : Nat) (x3 : Int32) (x4 : Int32) (x5 : Int32) (w w' : Mem) (r : Int32), f7_dayToLookAt_14  a1 a2 rec2 n x3 x4 x5 w = some (r, w') → Bk yX7_dayToLookAt cX7_dayToLookAt 6 (some .int) 6 14 [(0, vR 26 0), (1, vI a1), (2, vI a2), (3, vI x3), (4, vI x4), (5, vI x5)] [] w (some (vI r)) w' := by
  intro n
  induction n with
  | zero =>
    intro x3 x4 x5 w w' r h
    cases (show (none : Option (Int32 × Mem)) = some _ from h)
  | succ n ih =>
    intro x3 x4 x5 w w' r h
    rw [f7_dayToLookAt_14] at h
    refine b_iload dX7_dayToLookAt_14 (k := 5) rfl ?_
    refine b_aload_n dX7_dayToLookAt_16 rfl (k := 0) rfl ?_
    obtain ⟨g1, qg1, og1, h⟩ := bdR h
    refine b_getM qg1 fl7_27 ob26 rfl dX7_dayToLookAt_17 ?_
    refine b_iload_n dX7_dayToLookAt_20 rfl (k := 1) rfl ?_
    obtain ⟨r3, w2, hw2, h⟩ := bdO h
    refine b_callVi mv6_periodOf ml7_282 og1 (s6_periodOf g1 a1 og1 _ _ _ hw2) rfl (by decide) (by decide) (Nat.le_of_ble_eq_true rfl) rfl dX7_dayToLookAt_21 ?_
    refine b_icge (tgt := 64) dX7_dayToLookAt_24 (by decide) (fun c4 => ?_) (fun c4 => ?_)
    · replace h := ifT c4 h
      refine b_sub [0, 1, 2, 3, 4] rfl ?_
      exact t7_dayToLookAt_64  a1 a2  rec2 hrec2 x3 x4 _ _ _ h
    · replace h := ifF c4 h
      refine b_iload_n dX7_dayToLookAt_27 rfl (k := 2) rfl ?_
      refine b_iload dX7_dayToLookAt_28 (k := 5) rfl ?_
      refine b_ishr dX7_dayToLookAt_30 ?_
      refine b_iconst (v := 1) dX7_dayToLookAt_31 (by decide) ?_
      refine b_iand dX7_dayToLookAt_32 ?_
      refine b_ifeq (tgt := 58) dX7_dayToLookAt_33 (by decide) (fun c5 => ?_) (fun c5 => ?_)
      · replace h := ifT c5 h
        obtain ⟨y6, ey6, h⟩ := nmE h
        refine b_iinc (v := y6) (lv' := [(5, vI y6), (0, vR 26 0), (1, vI a1), (2, vI a2), (3, vI x3), (4, vI x4)]) dX7_dayToLookAt_58 (k := 5) rfl ey6.symm (by decide) rfl ?_
        refine b_goto (tgt := 14) dX7_dayToLookAt_61 (by decide) ?_
        refine b_sub [1, 2, 3, 4, 5, 0] rfl ?_
        exact ih x3 x4 y6 _ _ _ h
      · replace h := ifF c5 h
        refine b_iload dX7_dayToLookAt_36 (k := 4) rfl ?_
        refine b_iconst (v := 1) dX7_dayToLookAt_38 (by decide) ?_
        refine b_aload_n dX7_dayToLookAt_39 rfl (k := 0) rfl ?_
        refine b_getF fl7_37 ob26 rfl rfl dX7_dayToLookAt_40 ?_
        refine b_aload_n dX7_dayToLookAt_43 rfl (k := 0) rfl ?_
        obtain ⟨g7, qg7, og7, h⟩ := bdR h
        refine b_getM qg7 fl7_27 ob26 rfl dX7_dayToLookAt_44 ?_
        refine b_iload_n dX7_dayToLookAt_47 rfl (k := 1) rfl ?_
        refine b_iload dX7_dayToLookAt_48 (k := 5) rfl ?_
        refine b_iload_n dX7_dayToLookAt_50 rfl (k := 3) rfl ?_
        obtain ⟨r9, w8, hw8, h⟩ := bdO h
        refine b_callVi mv1_outcomeWith ml7_285 ob0 (s1_outcomeWith 0 g7 a1 x5 x3 ob0 og7 _ _ _ hw8) rfl (by decide) (by decide) (Nat.le_of_ble_eq_true rfl) rfl dX7_dayToLookAt_51 ?_
        refine b_ishl dX7_dayToLookAt_54 ?_
        refine b_ior dX7_dayToLookAt_55 ?_
        obtain ⟨y10, ey10, h⟩ := nmE h
        refine b_nmI ey10 ?_
        refine b_istore (lv' := [(4, vI y10), (0, vR 26 0), (1, vI a1), (2, vI a2), (3, vI x3), (5, vI x5)]) dX7_dayToLookAt_56 (by decide) rfl ?_
        obtain ⟨y11, ey11, h⟩ := nmE h
        refine b_iinc (v := y11) (lv' := [(5, vI y11), (4, vI y10), (0, vR 26 0), (1, vI a1), (2, vI a2), (3, vI x3)]) dX7_dayToLookAt_58 (k := 5) rfl ey11.symm (by decide) rfl ?_
        refine b_goto (tgt := 14) dX7_dayToLookAt_61 (by decide) ?_
        refine b_sub [2, 3, 4, 5, 1, 0] rfl ?_
        exact ih x3 y10 y11 _ _ _ h
def f7_dayToLookAt_2  (a1 : Int32) (a2 : Int32)  : Nat → Int32 → Mem → Option (Int32 × Mem)
  | 0, _, _ => none
  | n + 1, x3, w =>
  if 100 ≤ x3 then (some ((-1), w)) else (f7_dayToLookAt_14  a1 a2 (f7_dayToLookAt_2  a1 a2  n) 100000 x3 0 0 w)
set_option maxRecDepth 100000 in
set_option maxHeartbeats 4000000 in
theorem t7_dayToLookAt_2   (a1 : Int32) (a2 : Int32)    : ∀ (n : Nat) (x3 : Int32) (w w' : Mem) (r : Int32), f7_dayToLookAt_2  a1 a2  n x3 w = some (r, w') → Bk yX7_dayToLookAt cX7_dayToLookAt 6 (some .int) 6 2 [(0, vR 26 0), (1, vI a1), (2, vI a2), (3, vI x3)] [] w (some (vI r)) w' := by
  intro n
  induction n with
  | zero =>
    intro x3 w w' r h
    cases (show (none : Option (Int32 × Mem)) = some _ from h)
  | succ n ih =>
    intro x3 w w' r h
    rw [f7_dayToLookAt_2] at h
    refine b_iload_n dX7_dayToLookAt_2 rfl (k := 3) rfl ?_
    refine b_bipush (v := 100) dX7_dayToLookAt_3 (by decide) ?_
    refine b_icge (tgt := 81) dX7_dayToLookAt_5 (by decide) (fun c1 => ?_) (fun c1 => ?_)
    · replace h := ifT c1 h
      refine b_iconst (v := (-1)) dX7_dayToLookAt_81 (by decide) ?_
      obtain ⟨rfl, rfl⟩ := rtE h
      exact b_iret rfl dX7_dayToLookAt_82
    · replace h := ifF c1 h
      refine b_iconst (v := 0) dX7_dayToLookAt_8 (by decide) ?_
      refine b_istore (lv' := [(4, vI 0), (0, vR 26 0), (1, vI a1), (2, vI a2), (3, vI x3)]) dX7_dayToLookAt_9 (by decide) rfl ?_
      refine b_iconst (v := 0) dX7_dayToLookAt_11 (by decide) ?_
      refine b_istore (lv' := [(5, vI 0), (4, vI 0), (0, vR 26 0), (1, vI a1), (2, vI a2), (3, vI x3)]) dX7_dayToLookAt_12 (by decide) rfl ?_
      refine b_sub [2, 3, 4, 5, 1, 0] rfl ?_
      exact t7_dayToLookAt_14  a1 a2  (f7_dayToLookAt_2  a1 a2  n) ih 100000 x3 0 0 _ _ _ h
def f7_dayToLookAt  (a1 : Int32) (a2 : Int32)   (w : Mem) : Option (Int32 × Mem) :=
  f7_dayToLookAt_2  a1 a2  100000 0 w
set_option maxRecDepth 100000 in
set_option maxHeartbeats 4000000 in
theorem t7_dayToLookAt   (a1 : Int32) (a2 : Int32)     (w w' : Mem) (r : Int32) (h : f7_dayToLookAt  a1 a2   w = some (r, w')) : Bk yX7_dayToLookAt cX7_dayToLookAt 6 (some .int) 6 0 [(0, vR 26 0), (1, vI a1), (2, vI a2)] [] w (some (vI r)) w' := by
  unfold f7_dayToLookAt at h
  refine b_iconst (v := 0) dX7_dayToLookAt_0 (by decide) ?_
  refine b_istore_n (lv' := [(3, vI 0), (0, vR 26 0), (1, vI a1), (2, vI a2)]) dX7_dayToLookAt_1 rfl (by decide) rfl ?_
  refine b_sub [1, 2, 3, 0] rfl ?_
  exact t7_dayToLookAt_2  a1 a2    100000 0 _ _ _ h
theorem s7_dayToLookAt (a1 : Int32) (a2 : Int32)  (w w' : Mem) (r : Int32) (h : f7_dayToLookAt  a1 a2  w = some (r, w')) : Sp yX7_dayToLookAt cX7_dayToLookAt 6 (some .int) 6 [vR 26 0, vI a1, vI a2] w (some (vI r)) w' := sp_of (by decide) (fun _ => rfl) (fun _ => Nat.le_of_ble_eq_true rfl) (t7_dayToLookAt  a1 a2   _ _ _ h)
-- X7_went OneADay
def f7_went  (a1 : Int32) (a2 : Int32)   (w : Mem) : Option (Int32 × Mem) :=
  (rk (w.2.2 26 4)).bind fun g1 => bndO (f6_has g1 a1 w) fun r3 w2 => if r3 = 0 then (some ((-1000000001), w2)) else (if a2 < 0 then (some ((-1000000002), w2)) else (if a2 ≤ 1 then ((rk (w2.2.2 26 4)).bind fun g7 => bndO (f2_fitting g7 0 a1 w2) fun r9 w8 => if a2 = 0 then (some (r9, w8)) else (bndO (f7_dayToLookAt a1 r9 w8) fun r12 w11 => some (r12, w11))) else (some ((-1000000002), w2))))
set_option maxRecDepth 100000 in
set_option maxHeartbeats 4000000 in
theorem t7_went   (a1 : Int32) (a2 : Int32)     (w w' : Mem) (r : Int32) (h : f7_went  a1 a2   w = some (r, w')) : Bk yX7_went cX7_went 4 (some .int) 8 0 [(0, vR 26 0), (1, vI a1), (2, vI a2)] [] w (some (vI r)) w' := by
  unfold f7_went at h
  refine b_aload_n dX7_went_0 rfl (k := 0) rfl ?_
  obtain ⟨g1, qg1, og1, h⟩ := bdR h
  refine b_getM qg1 fl7_27 ob26 rfl dX7_went_1 ?_
  refine b_iload_n dX7_went_4 rfl (k := 1) rfl ?_
  obtain ⟨r3, w2, hw2, h⟩ := bdO h
  refine b_callVi mv6_has ml7_158 og1 (s6_has g1 a1 og1 _ _ _ hw2) rfl (by decide) (by decide) (Nat.le_of_ble_eq_true rfl) rfl dX7_went_5 ?_
  refine b_ifne (tgt := 14) dX7_went_8 (by decide) (fun c4 => ?_) (fun c4 => ?_)
  · replace h := ifF c4 h
    refine b_iload_n dX7_went_14 rfl (k := 2) rfl ?_
    refine b_iflt (tgt := 23) dX7_went_15 (by decide) (fun c5 => ?_) (fun c5 => ?_)
    · replace h := ifT c5 h
      refine b_ldc dX7_went_23 kk7_80 ?_
      obtain ⟨rfl, rfl⟩ := rtE h
      exact b_iret rfl dX7_went_25
    · replace h := ifF c5 h
      refine b_iload_n dX7_went_18 rfl (k := 2) rfl ?_
      refine b_iconst (v := 1) dX7_went_19 (by decide) ?_
      refine b_icle (tgt := 26) dX7_went_20 (by decide) (fun c6 => ?_) (fun c6 => ?_)
      · replace h := ifT c6 h
        refine b_aload_n dX7_went_26 rfl (k := 0) rfl ?_
        refine b_getF fl7_62 ob26 rfl rfl dX7_went_27 ?_
        refine b_aload_n dX7_went_30 rfl (k := 0) rfl ?_
        obtain ⟨g7, qg7, og7, h⟩ := bdR h
        refine b_getM qg7 fl7_27 ob26 rfl dX7_went_31 ?_
        refine b_aload_n dX7_went_34 rfl (k := 0) rfl ?_
        refine b_getF fl7_37 ob26 rfl rfl dX7_went_35 ?_
        refine b_iload_n dX7_went_38 rfl (k := 1) rfl ?_
        obtain ⟨r9, w8, hw8, h⟩ := bdO h
        refine b_callVi mv2_fitting ml7_251 ob29 (s2_fitting g7 0 a1 og7 ob0 _ _ _ hw8) rfl (by decide) (by decide) (Nat.le_of_ble_eq_true rfl) rfl dX7_went_39 ?_
        refine b_istore_n (lv' := [(3, vI r9), (0, vR 26 0), (1, vI a1), (2, vI a2)]) dX7_went_42 rfl (by decide) rfl ?_
        refine b_iload_n dX7_went_43 rfl (k := 3) rfl ?_
        refine b_ifne (tgt := 51) dX7_went_44 (by decide) (fun c10 => ?_) (fun c10 => ?_)
        · replace h := ifF c10 h
          refine b_aload_n dX7_went_51 rfl (k := 1) rfl ?_
          refine b_iload_n dX7_went_52 rfl (k := 2) rfl ?_
          refine b_iload_n dX7_went_53 rfl (k := 0) rfl ?_
          obtain ⟨r12, w11, hw11, h⟩ := bdO h
          refine b_callVi mv7_dayToLookAt ml7_255 ob26 (s7_dayToLookAt a1 r9  _ _ _ hw11) rfl (by decide) (by decide) (Nat.le_of_ble_eq_true rfl) rfl dX7_went_54 ?_
          obtain ⟨rfl, rfl⟩ := rtE h
          exact b_iret rfl dX7_went_57
        · replace h := ifT c10 h
          refine b_iload_n dX7_went_47 rfl (k := 0) rfl ?_
          refine b_goto (tgt := 57) dX7_went_48 (by decide) ?_
          obtain ⟨rfl, rfl⟩ := rtE h
          exact b_iret rfl dX7_went_57
      · replace h := ifF c6 h
        refine b_ldc dX7_went_23 kk7_80 ?_
        obtain ⟨rfl, rfl⟩ := rtE h
        exact b_iret rfl dX7_went_25
  · replace h := ifT c4 h
    refine b_ldc dX7_went_11 kk7_162 ?_
    obtain ⟨rfl, rfl⟩ := rtE h
    exact b_iret rfl dX7_went_13
theorem s7_went (a1 : Int32) (a2 : Int32)  (w w' : Mem) (r : Int32) (h : f7_went  a1 a2  w = some (r, w')) : Sp yX7_went cX7_went 4 (some .int) 8 [vR 26 0, vI a1, vI a2] w (some (vI r)) w' := sp_of (by decide) (fun _ => rfl) (fun _ => Nat.le_of_ble_eq_true rfl) (t7_went  a1 a2   _ _ _ h)
-- X7_write OneADay
def f7_write_19  (a1 : Int32) (a2 : Int32)   (w : Mem) : Option (Int32 × Mem) :=
  if a1 < 0 then (some ((-1000000002), w)) else (if a1 ≤ 9999 then (bndO (f2_addEntry a1 a2 w) fun r4 w3 => if r4 = 0 then (some ((-1000000004), w3)) else (some (w3.1 29 5 0, w3))) else (some ((-1000000002), w)))
set_option maxRecDepth 100000 in
set_option maxHeartbeats 4000000 in
theorem t7_write_19   (a1 : Int32) (a2 : Int32)     (w w' : Mem) (r : Int32) (h : f7_write_19  a1 a2   w = some (r, w')) : Bk yX7_write cX7_write 3 (some .int) 2 19 [(0, vR 26 0), (1, vI a1), (2, vI a2)] [] w (some (vI r)) w' := by
  unfold f7_write_19 at h
  refine b_iload_n dX7_write_19 rfl (k := 1) rfl ?_
  refine b_iflt (tgt := 30) dX7_write_20 (by decide) (fun c1 => ?_) (fun c1 => ?_)
  · replace h := ifT c1 h
    refine b_ldc dX7_write_30 kk7_80 ?_
    obtain ⟨rfl, rfl⟩ := rtE h
    exact b_iret rfl dX7_write_32
  · replace h := ifF c1 h
    refine b_iload_n dX7_write_23 rfl (k := 1) rfl ?_
    refine b_sipush (v := 9999) dX7_write_24 (by decide) ?_
    refine b_icle (tgt := 33) dX7_write_27 (by decide) (fun c2 => ?_) (fun c2 => ?_)
    · replace h := ifT c2 h
      refine b_aload_n dX7_write_33 rfl (k := 0) rfl ?_
      refine b_getF fl7_62 ob26 rfl rfl dX7_write_34 ?_
      refine b_iload_n dX7_write_37 rfl (k := 1) rfl ?_
      refine b_iload_n dX7_write_38 rfl (k := 2) rfl ?_
      obtain ⟨r4, w3, hw3, h⟩ := bdO h
      refine b_callVi mv2_addEntry ml7_259 ob29 (s2_addEntry a1 a2  _ _ _ hw3) rfl (by decide) (by decide) (Nat.le_of_ble_eq_true rfl) rfl dX7_write_39 ?_
      refine b_ifeq (tgt := 55) dX7_write_42 (by decide) (fun c5 => ?_) (fun c5 => ?_)
      · replace h := ifT c5 h
        refine b_ldc dX7_write_55 kk7_84 ?_
        obtain ⟨rfl, rfl⟩ := rtE h
        exact b_iret rfl dX7_write_57
      · replace h := ifF c5 h
        refine b_aload_n dX7_write_45 rfl (k := 0) rfl ?_
        refine b_getF fl7_62 ob26 rfl rfl dX7_write_46 ?_
        refine b_getI fl7_152 ob29 rfl dX7_write_49 ?_
        refine b_goto (tgt := 57) dX7_write_52 (by decide) ?_
        obtain ⟨rfl, rfl⟩ := rtE h
        exact b_iret rfl dX7_write_57
    · replace h := ifF c2 h
      refine b_ldc dX7_write_30 kk7_80 ?_
      obtain ⟨rfl, rfl⟩ := rtE h
      exact b_iret rfl dX7_write_32
def f7_write  (a1 : Int32) (a2 : Int32)   (w : Mem) : Option (Int32 × Mem) :=
  if a2 = (-1) then (f7_write_19  a1 a2   w) else ((rk (w.2.2 26 4)).bind fun g2 => bndO (f6_has g2 a2 w) fun r4 w3 => if r4 = 0 then (some ((-1000000001), w3)) else (f7_write_19  a1 a2   w3))
set_option maxRecDepth 100000 in
set_option maxHeartbeats 4000000 in
theorem t7_write   (a1 : Int32) (a2 : Int32)     (w w' : Mem) (r : Int32) (h : f7_write  a1 a2   w = some (r, w')) : Bk yX7_write cX7_write 3 (some .int) 2 0 [(0, vR 26 0), (1, vI a1), (2, vI a2)] [] w (some (vI r)) w' := by
  unfold f7_write at h
  refine b_iload_n dX7_write_0 rfl (k := 2) rfl ?_
  refine b_iconst (v := (-1)) dX7_write_1 (by decide) ?_
  refine b_iceq (tgt := 19) dX7_write_2 (by decide) (fun c1 => ?_) (fun c1 => ?_)
  · replace h := ifT c1 h
    refine b_sub [0, 1, 2] rfl ?_
    exact t7_write_19  a1 a2     _ _ _ h
  · replace h := ifF c1 h
    refine b_aload_n dX7_write_5 rfl (k := 0) rfl ?_
    obtain ⟨g2, qg2, og2, h⟩ := bdR h
    refine b_getM qg2 fl7_27 ob26 rfl dX7_write_6 ?_
    refine b_iload_n dX7_write_9 rfl (k := 2) rfl ?_
    obtain ⟨r4, w3, hw3, h⟩ := bdO h
    refine b_callVi mv6_has ml7_158 og2 (s6_has g2 a2 og2 _ _ _ hw3) rfl (by decide) (by decide) (Nat.le_of_ble_eq_true rfl) rfl dX7_write_10 ?_
    refine b_ifne (tgt := 19) dX7_write_13 (by decide) (fun c5 => ?_) (fun c5 => ?_)
    · replace h := ifF c5 h
      refine b_sub [0, 1, 2] rfl ?_
      exact t7_write_19  a1 a2     _ _ _ h
    · replace h := ifT c5 h
      refine b_ldc dX7_write_16 kk7_162 ?_
      obtain ⟨rfl, rfl⟩ := rtE h
      exact b_iret rfl dX7_write_18
theorem s7_write (a1 : Int32) (a2 : Int32)  (w w' : Mem) (r : Int32) (h : f7_write  a1 a2  w = some (r, w')) : Sp yX7_write cX7_write 3 (some .int) 2 [vR 26 0, vI a1, vI a2] w (some (vI r)) w' := sp_of (by decide) (fun _ => rfl) (fun _ => Nat.le_of_ble_eq_true rfl) (t7_write  a1 a2   _ _ _ h)
-- X7_tear OneADay
def f7_tear     (w : Mem) : Option (Int32 × Mem) :=
  bnd ((w.1 29 4 0) + (w.1 29 5 0)) fun y1 => bndV (f2_clear  w) fun w2 => some (y1, w2)
set_option maxRecDepth 100000 in
set_option maxHeartbeats 4000000 in
theorem t7_tear        (w w' : Mem) (r : Int32) (h : f7_tear     w = some (r, w')) : Bk yX7_tear cX7_tear 2 (some .int) 2 0 [(0, vR 26 0)] [] w (some (vI r)) w' := by
  unfold f7_tear at h
  refine b_aload_n dX7_tear_0 rfl (k := 0) rfl ?_
  refine b_getF fl7_62 ob26 rfl rfl dX7_tear_1 ?_
  refine b_getI fl7_149 ob29 rfl dX7_tear_4 ?_
  refine b_aload_n dX7_tear_7 rfl (k := 0) rfl ?_
  refine b_getF fl7_62 ob26 rfl rfl dX7_tear_8 ?_
  refine b_getI fl7_152 ob29 rfl dX7_tear_11 ?_
  refine b_iadd dX7_tear_14 ?_
  obtain ⟨y1, ey1, h⟩ := nmE h
  refine b_nmI ey1 ?_
  refine b_istore_n (lv' := [(1, vI y1), (0, vR 26 0)]) dX7_tear_15 rfl (by decide) rfl ?_
  refine b_aload_n dX7_tear_16 rfl (k := 1) rfl ?_
  refine b_getF fl7_62 ob26 rfl rfl dX7_tear_17 ?_
  obtain ⟨w2, hw2, h⟩ := bdV h
  refine b_callVv mv2_clear ml7_96 ob29 (s2_clear   _ _  hw2) rfl (by decide) (by decide) (Nat.le_of_ble_eq_true rfl) rfl dX7_tear_20 ?_
  refine b_iload_n dX7_tear_23 rfl (k := 0) rfl ?_
  obtain ⟨rfl, rfl⟩ := rtE h
  exact b_iret rfl dX7_tear_24
theorem s7_tear   (w w' : Mem) (r : Int32) (h : f7_tear    w = some (r, w')) : Sp yX7_tear cX7_tear 2 (some .int) 2 [vR 26 0] w (some (vI r)) w' := sp_of (by decide) (fun _ => rfl) (fun _ => Nat.le_of_ble_eq_true rfl) (t7_tear     _ _ _ h)
-- X7_judge OneADay
def f7_judge     (w : Mem) : Option (Int32 × Mem) :=
  bndO (f2_firstWrong 0 w) fun r2 w1 => some (r2, w1)
set_option maxRecDepth 100000 in
set_option maxHeartbeats 4000000 in
theorem t7_judge        (w w' : Mem) (r : Int32) (h : f7_judge     w = some (r, w')) : Bk yX7_judge cX7_judge 1 (some .int) 4 0 [(0, vR 26 0)] [] w (some (vI r)) w' := by
  unfold f7_judge at h
  refine b_aload_n dX7_judge_0 rfl (k := 0) rfl ?_
  refine b_getF fl7_62 ob26 rfl rfl dX7_judge_1 ?_
  refine b_aload_n dX7_judge_4 rfl (k := 0) rfl ?_
  refine b_getF fl7_37 ob26 rfl rfl dX7_judge_5 ?_
  obtain ⟨r2, w1, hw1, h⟩ := bdO h
  refine b_callVi mv2_firstWrong ml7_262 ob29 (s2_firstWrong 0 ob0 _ _ _ hw1) rfl (by decide) (by decide) (Nat.le_of_ble_eq_true rfl) rfl dX7_judge_8 ?_
  obtain ⟨rfl, rfl⟩ := rtE h
  exact b_iret rfl dX7_judge_11
theorem s7_judge   (w w' : Mem) (r : Int32) (h : f7_judge    w = some (r, w')) : Sp yX7_judge cX7_judge 1 (some .int) 4 [vR 26 0] w (some (vI r)) w' := sp_of (by decide) (fun _ => rfl) (fun _ => Nat.le_of_ble_eq_true rfl) (t7_judge     _ _ _ h)
-- X7_seed OneADay
def f7_seed  (a1 : Int32)   (w : Mem) : Option (Int32 × Mem) :=
  if 0 ≤ a1 then (bnd (w.1 26 12 0) fun y2 => bnd (sI w 26 12 0 a1) fun w3 => some (y2, w3)) else (some ((-1000000002), w))
set_option maxRecDepth 100000 in
set_option maxHeartbeats 4000000 in
theorem t7_seed   (a1 : Int32)     (w w' : Mem) (r : Int32) (h : f7_seed  a1   w = some (r, w')) : Bk yX7_seed cX7_seed 3 (some .int) 1 0 [(0, vR 26 0), (1, vI a1)] [] w (some (vI r)) w' := by
  unfold f7_seed at h
  refine b_iload_n dX7_seed_0 rfl (k := 1) rfl ?_
  refine b_ifge (tgt := 7) dX7_seed_1 (by decide) (fun c1 => ?_) (fun c1 => ?_)
  · replace h := ifT c1 h
    refine b_aload_n dX7_seed_7 rfl (k := 0) rfl ?_
    refine b_getI fl7_266 ob26 rfl dX7_seed_8 ?_
    obtain ⟨y2, ey2, h⟩ := nmE h
    refine b_nmI ey2 ?_
    refine b_istore_n (lv' := [(2, vI y2), (0, vR 26 0), (1, vI a1)]) dX7_seed_11 rfl (by decide) rfl ?_
    refine b_aload_n dX7_seed_12 rfl (k := 1) rfl ?_
    refine b_iload_n dX7_seed_13 rfl (k := 2) rfl ?_
    obtain ⟨w3, ew3, h⟩ := nmE h
    refine b_putI fw7_266 ob26 rfl dX7_seed_14 ?_
    refine b_nmW ew3 ?_
    refine b_iload_n dX7_seed_17 rfl (k := 0) rfl ?_
    obtain ⟨rfl, rfl⟩ := rtE h
    exact b_iret rfl dX7_seed_18
  · replace h := ifF c1 h
    refine b_ldc dX7_seed_4 kk7_80 ?_
    obtain ⟨rfl, rfl⟩ := rtE h
    exact b_iret rfl dX7_seed_6
theorem s7_seed (a1 : Int32)  (w w' : Mem) (r : Int32) (h : f7_seed  a1  w = some (r, w')) : Sp yX7_seed cX7_seed 3 (some .int) 1 [vR 26 0, vI a1] w (some (vI r)) w' := sp_of (by decide) (fun _ => rfl) (fun _ => Nat.le_of_ble_eq_true rfl) (t7_seed  a1   _ _ _ h)
-- X7_keep OneADay
def f7_keep  (a1 : Int32)   (w : Mem) : Option (Int32 × Mem) :=
  if a1 < 0 then (some ((-1000000001), w)) else (if 2 ≤ a1 then (some ((-1000000001), w)) else (if a1 < 2 then (if a1 < 0 ∨ 2 ≤ Int32.toNatClampNeg a1 then none else bndV (f1_copy (rb 26 + (Int32.toNatClampNeg a1)) 0 w) fun w6 => if a1 < 0 ∨ 2 ≤ Int32.toNatClampNeg a1 then none else bnd (sI w6 26 10 (Int32.toNatClampNeg a1) (w6.1 26 12 0)) fun w8 => bnd (sI w8 26 11 0 ((w8.1 26 11 0) ||| (jshl 1 a1))) fun w9 => bndV (f3_clear  w9) fun w10 => some (1, w10)) else (some ((-1000000001), w))))
set_option maxRecDepth 100000 in
set_option maxHeartbeats 4000000 in
theorem t7_keep   (a1 : Int32)     (w w' : Mem) (r : Int32) (h : f7_keep  a1   w = some (r, w')) : Bk yX7_keep cX7_keep 3 (some .int) 3 0 [(0, vR 26 0), (1, vI a1)] [] w (some (vI r)) w' := by
  unfold f7_keep at h
  refine b_iload_n dX7_keep_0 rfl (k := 1) rfl ?_
  refine b_iflt (tgt := 22) dX7_keep_1 (by decide) (fun c1 => ?_) (fun c1 => ?_)
  · replace h := ifT c1 h
    refine b_ldc dX7_keep_22 kk7_162 ?_
    obtain ⟨rfl, rfl⟩ := rtE h
    exact b_iret rfl dX7_keep_24
  · replace h := ifF c1 h
    refine b_iload_n dX7_keep_4 rfl (k := 1) rfl ?_
    refine b_aload_n dX7_keep_5 rfl (k := 0) rfl ?_
    refine b_getF fl7_51 ob26 rfl rfl dX7_keep_6 ?_
    refine b_alen (v := 2) ar26_9 (by decide) (by decide) dX7_keep_9 ?_
    refine b_icge (tgt := 22) dX7_keep_10 (by decide) (fun c2 => ?_) (fun c2 => ?_)
    · replace h := ifT c2 h
      refine b_ldc dX7_keep_22 kk7_162 ?_
      obtain ⟨rfl, rfl⟩ := rtE h
      exact b_iret rfl dX7_keep_24
    · replace h := ifF c2 h
      refine b_iload_n dX7_keep_13 rfl (k := 1) rfl ?_
      refine b_aload_n dX7_keep_14 rfl (k := 0) rfl ?_
      refine b_getF fl7_55 ob26 rfl rfl dX7_keep_15 ?_
      refine b_alen (v := 2) ar26_10 (by decide) (by decide) dX7_keep_18 ?_
      refine b_iclt (tgt := 25) dX7_keep_19 (by decide) (fun c3 => ?_) (fun c3 => ?_)
      · replace h := ifT c3 h
        refine b_aload_n dX7_keep_25 rfl (k := 0) rfl ?_
        refine b_getF fl7_51 ob26 rfl rfl dX7_keep_26 ?_
        refine b_iload_n dX7_keep_29 rfl (k := 1) rfl ?_
        obtain ⟨g4, h⟩ := gdE h
        refine b_aald ar26_9 g4 dX7_keep_30 ?_
        refine b_astore_n (lv' := [(2, vR (rb 26 + (Int32.toNatClampNeg a1)) 0), (0, vR 26 0), (1, vI a1)]) dX7_keep_31 rfl (by decide) rfl ?_
        refine b_aload_n dX7_keep_32 rfl (k := 0) rfl ?_
        refine b_ifnonnull (tgt := 39) dX7_keep_33 (by decide) ?_
        refine b_aload_n dX7_keep_39 rfl (k := 0) rfl ?_
        refine b_aload_n dX7_keep_40 rfl (k := 1) rfl ?_
        refine b_getF fl7_37 ob26 rfl rfl dX7_keep_41 ?_
        obtain ⟨w6, hw6, h⟩ := bdV h
        refine b_callVv mv1_copy ml7_269 (obM g4) (s1_copy (rb 26 + (Int32.toNatClampNeg a1)) 0 (obM g4) ob0 _ _  hw6) rfl (by decide) (by decide) (Nat.le_of_ble_eq_true rfl) rfl dX7_keep_44 ?_
        refine b_aload_n dX7_keep_47 rfl (k := 1) rfl ?_
        refine b_getF fl7_55 ob26 rfl rfl dX7_keep_48 ?_
        refine b_iload_n dX7_keep_51 rfl (k := 2) rfl ?_
        refine b_aload_n dX7_keep_52 rfl (k := 1) rfl ?_
        refine b_getI fl7_266 ob26 rfl dX7_keep_53 ?_
        obtain ⟨g7, h⟩ := gdE h
        obtain ⟨w8, ew8, h⟩ := nmE h
        refine b_iast ar26_10 g7 rfl dX7_keep_56 ?_
        refine b_nmW ew8 ?_
        refine b_aload_n dX7_keep_57 rfl (k := 1) rfl ?_
        refine b_dup dX7_keep_58 rfl ?_
        refine b_getI fl7_100 ob26 rfl dX7_keep_59 ?_
        refine b_iconst (v := 1) dX7_keep_62 (by decide) ?_
        refine b_iload_n dX7_keep_63 rfl (k := 2) rfl ?_
        refine b_ishl dX7_keep_64 ?_
        refine b_ior dX7_keep_65 ?_
        obtain ⟨w9, ew9, h⟩ := nmE h
        refine b_putI fw7_100 ob26 rfl dX7_keep_66 ?_
        refine b_nmW ew9 ?_
        refine b_aload_n dX7_keep_69 rfl (k := 1) rfl ?_
        refine b_getF fl7_47 ob26 rfl rfl dX7_keep_70 ?_
        obtain ⟨w10, hw10, h⟩ := bdV h
        refine b_callVv mv3_clear ml7_99 ob28 (s3_clear   _ _  hw10) rfl (by decide) (by decide) (Nat.le_of_ble_eq_true rfl) rfl dX7_keep_73 ?_
        refine b_iconst (v := 1) dX7_keep_76 (by decide) ?_
        obtain ⟨rfl, rfl⟩ := rtE h
        exact b_iret rfl dX7_keep_77
      · replace h := ifF c3 h
        refine b_ldc dX7_keep_22 kk7_162 ?_
        obtain ⟨rfl, rfl⟩ := rtE h
        exact b_iret rfl dX7_keep_24
theorem s7_keep (a1 : Int32)  (w w' : Mem) (r : Int32) (h : f7_keep  a1  w = some (r, w')) : Sp yX7_keep cX7_keep 3 (some .int) 3 [vR 26 0, vI a1] w (some (vI r)) w' := sp_of (by decide) (fun _ => rfl) (fun _ => Nat.le_of_ble_eq_true rfl) (t7_keep  a1   _ _ _ h)
