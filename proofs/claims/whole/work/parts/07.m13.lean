-- X8_calendar OneADayModel
def f8_calendar_103  (a1 : Int32) (a2 : Int32)  (x3 : Int32) (s1 : Int32) (s2 : Int32) (w : Mem) : Option (Int32 × Mem) :=
  if s1 < 0 ∨ 103 ≤ Int32.toNatClampNeg s1 then none else bnd (sI w 32 11 (Int32.toNatClampNeg s1) s2) fun w2 => if 0 ≤ a2 then (if (10 + a1) < 0 ∨ 103 ≤ Int32.toNatClampNeg (10 + a1) then none else bnd (sI w2 32 11 (Int32.toNatClampNeg (10 + a1)) a2) fun w5 => some (x3, w5)) else (if (10 + a1) < 0 ∨ 103 ≤ Int32.toNatClampNeg (10 + a1) then none else if (10 + a1) < 0 ∨ 103 ≤ Int32.toNatClampNeg (10 + a1) then none else bnd (sI w2 32 11 (Int32.toNatClampNeg (10 + a1)) (w2.1 32 11 (Int32.toNatClampNeg (10 + a1)))) fun w8 => some (x3, w8))
set_option maxRecDepth 100000 in
set_option maxHeartbeats 4000000 in
theorem t8_calendar_103   (a1 : Int32) (a2 : Int32)    (x3 : Int32) (s1 : Int32) (s2 : Int32) (w w' : Mem) (r : Int32) (h : f8_calendar_103  a1 a2  x3 s1 s2 w = some (r, w')) : Bk yX8_calendar cX8_calendar 4 (some .int) 3 103 [(0, vR 32 0), (1, vI a1), (2, vI a2), (3, vI x3)] [vI s2, vI s1, vR 32 12] w (some (vI r)) w' := by
  unfold f8_calendar_103 at h
  obtain ⟨g1, h⟩ := gdE h
  obtain ⟨w2, ew2, h⟩ := nmE h
  refine b_iast ar32_11 g1 rfl dX8_calendar_103 ?_
  refine b_nmW ew2 ?_
  refine b_aload_n dX8_calendar_104 rfl (k := 0) rfl ?_
  refine b_getF fl8_25 ob32 rfl rfl dX8_calendar_105 ?_
  refine b_bipush (v := 10) dX8_calendar_108 (by decide) ?_
  refine b_iload_n dX8_calendar_110 rfl (k := 1) rfl ?_
  refine b_iadd dX8_calendar_111 ?_
  refine b_iload_n dX8_calendar_112 rfl (k := 2) rfl ?_
  refine b_ifge (tgt := 128) dX8_calendar_113 (by decide) (fun c3 => ?_) (fun c3 => ?_)
  · replace h := ifT c3 h
    refine b_iload_n dX8_calendar_128 rfl (k := 2) rfl ?_
    obtain ⟨g4, h⟩ := gdE h
    obtain ⟨w5, ew5, h⟩ := nmE h
    refine b_iast ar32_11 g4 rfl dX8_calendar_129 ?_
    refine b_nmW ew5 ?_
    refine b_iload_n dX8_calendar_130 rfl (k := 3) rfl ?_
    obtain ⟨rfl, rfl⟩ := rtE h
    exact b_iret rfl dX8_calendar_131
  · replace h := ifF c3 h
    refine b_aload_n dX8_calendar_116 rfl (k := 0) rfl ?_
    refine b_getF fl8_25 ob32 rfl rfl dX8_calendar_117 ?_
    refine b_bipush (v := 10) dX8_calendar_120 (by decide) ?_
    refine b_iload_n dX8_calendar_122 rfl (k := 1) rfl ?_
    refine b_iadd dX8_calendar_123 ?_
    obtain ⟨g6, h⟩ := gdE h
    refine b_iald ar32_11 g6 rfl dX8_calendar_124 ?_
    refine b_goto (tgt := 129) dX8_calendar_125 (by decide) ?_
    obtain ⟨g7, h⟩ := gdE h
    obtain ⟨w8, ew8, h⟩ := nmE h
    refine b_iast ar32_11 g7 rfl dX8_calendar_129 ?_
    refine b_nmW ew8 ?_
    refine b_iload_n dX8_calendar_130 rfl (k := 3) rfl ?_
    obtain ⟨rfl, rfl⟩ := rtE h
    exact b_iret rfl dX8_calendar_131
def f8_calendar_65  (a1 : Int32) (a2 : Int32)  (s0 : Int32) (w : Mem) : Option (Int32 × Mem) :=
  if 0 ≤ a2 then (f8_calendar_103  a1 a2  s0 8 ((w.1 32 11 8) &&& ((jshl 1 a1) ^^^ (-1))) w) else (f8_calendar_103  a1 a2  s0 8 ((w.1 32 11 8) ||| (jshl 1 a1)) w)
set_option maxRecDepth 100000 in
set_option maxHeartbeats 4000000 in
theorem t8_calendar_65   (a1 : Int32) (a2 : Int32)    (s0 : Int32) (w w' : Mem) (r : Int32) (h : f8_calendar_65  a1 a2  s0 w = some (r, w')) : Bk yX8_calendar cX8_calendar 4 (some .int) 3 65 [(0, vR 32 0), (1, vI a1), (2, vI a2)] [vI s0] w (some (vI r)) w' := by
  unfold f8_calendar_65 at h
  refine b_istore_n (lv' := [(3, vI s0), (0, vR 32 0), (1, vI a1), (2, vI a2)]) dX8_calendar_65 rfl (by decide) rfl ?_
  refine b_aload_n dX8_calendar_66 rfl (k := 1) rfl ?_
  refine b_getF fl8_25 ob32 rfl rfl dX8_calendar_67 ?_
  refine b_bipush (v := 8) dX8_calendar_70 (by decide) ?_
  refine b_iload_n dX8_calendar_72 rfl (k := 3) rfl ?_
  refine b_ifge (tgt := 90) dX8_calendar_73 (by decide) (fun c1 => ?_) (fun c1 => ?_)
  · replace h := ifT c1 h
    refine b_aload_n dX8_calendar_90 rfl (k := 1) rfl ?_
    refine b_getF fl8_25 ob32 rfl rfl dX8_calendar_91 ?_
    refine b_bipush (v := 8) dX8_calendar_94 (by decide) ?_
    refine b_iald ar32_11 (j0 := 8) (by decide) (by decide) dX8_calendar_96 ?_
    refine b_iconst (v := 1) dX8_calendar_97 (by decide) ?_
    refine b_iload_n dX8_calendar_98 rfl (k := 2) rfl ?_
    refine b_ishl dX8_calendar_99 ?_
    refine b_iconst (v := (-1)) dX8_calendar_100 (by decide) ?_
    refine b_ixor dX8_calendar_101 ?_
    refine b_iand dX8_calendar_102 ?_
    refine b_sub [1, 2, 3, 0] rfl ?_
    exact t8_calendar_103  a1 a2    s0 8 ((w.1 32 11 8) &&& ((jshl 1 a1) ^^^ (-1))) _ _ _ h
  · replace h := ifF c1 h
    refine b_aload_n dX8_calendar_76 rfl (k := 1) rfl ?_
    refine b_getF fl8_25 ob32 rfl rfl dX8_calendar_77 ?_
    refine b_bipush (v := 8) dX8_calendar_80 (by decide) ?_
    refine b_iald ar32_11 (j0 := 8) (by decide) (by decide) dX8_calendar_82 ?_
    refine b_iconst (v := 1) dX8_calendar_83 (by decide) ?_
    refine b_iload_n dX8_calendar_84 rfl (k := 2) rfl ?_
    refine b_ishl dX8_calendar_85 ?_
    refine b_ior dX8_calendar_86 ?_
    refine b_goto (tgt := 103) dX8_calendar_87 (by decide) ?_
    refine b_sub [1, 2, 3, 0] rfl ?_
    exact t8_calendar_103  a1 a2    s0 8 ((w.1 32 11 8) ||| (jshl 1 a1)) _ _ _ h
def f8_calendar  (a1 : Int32) (a2 : Int32)   (w : Mem) : Option (Int32 × Mem) :=
  bndO (f8_isVillage a1 w) fun r2 w1 => if r2 = 0 then (some ((-1000000001), w1)) else (if a1 < 0 ∨ 8 ≤ Int32.toNatClampNeg a1 then none else bndO (f8_in (Int32.toInt64 a2) (-1) (Int32.toInt64 ((w1.1 32 5 (Int32.toNatClampNeg a1)) - 1)) w1) fun r6 w5 => if r6 = 0 then (some ((-1000000002), w5)) else (bndV (f8_remember  w5) fun w8 => bndO (f8_has (w8.1 32 11 8) a1 w8) fun r10 w9 => if r10 = 0 then (if (10 + a1) < 0 ∨ 103 ≤ Int32.toNatClampNeg (10 + a1) then none else f8_calendar_65  a1 a2  (w9.1 32 11 (Int32.toNatClampNeg (10 + a1))) w9) else (f8_calendar_65  a1 a2  (-1) w9)))
set_option maxRecDepth 100000 in
set_option maxHeartbeats 4000000 in
theorem t8_calendar   (a1 : Int32) (a2 : Int32)     (w w' : Mem) (r : Int32) (h : f8_calendar  a1 a2   w = some (r, w')) : Bk yX8_calendar cX8_calendar 4 (some .int) 3 0 [(0, vR 32 0), (1, vI a1), (2, vI a2)] [] w (some (vI r)) w' := by
  unfold f8_calendar at h
  refine b_aload_n dX8_calendar_0 rfl (k := 0) rfl ?_
  refine b_iload_n dX8_calendar_1 rfl (k := 1) rfl ?_
  obtain ⟨r2, w1, hw1, h⟩ := bdO h
  refine b_callVi mv8_isVillage ml8_185 ob32 (s8_isVillage a1  _ _ _ hw1) rfl (by decide) (by decide) (Nat.le_of_ble_eq_true rfl) rfl dX8_calendar_2 ?_
  refine b_ifne (tgt := 11) dX8_calendar_5 (by decide) (fun c3 => ?_) (fun c3 => ?_)
  · replace h := ifF c3 h
    refine b_iload_n dX8_calendar_11 rfl (k := 2) rfl ?_
    refine b_i2l dX8_calendar_12 ?_
    refine b_ldc2 dX8_calendar_13 kl8_235 ?_
    refine b_aload_n dX8_calendar_16 rfl (k := 0) rfl ?_
    refine b_getF fl8_13 ob32 rfl rfl dX8_calendar_17 ?_
    refine b_iload_n dX8_calendar_20 rfl (k := 1) rfl ?_
    obtain ⟨g4, h⟩ := gdE h
    refine b_iald ar32_5 g4 rfl dX8_calendar_21 ?_
    refine b_iconst (v := 1) dX8_calendar_22 (by decide) ?_
    refine b_isub dX8_calendar_23 ?_
    refine b_i2l dX8_calendar_24 ?_
    obtain ⟨r6, w5, hw5, h⟩ := bdO h
    refine b_callSi ms8_in ml8_97 (s8_in (Int32.toInt64 a2) (-1) (Int32.toInt64 ((w1.1 32 5 (Int32.toNatClampNeg a1)) - 1))  _ _ _ hw5) rfl (by decide) (by decide) (Nat.le_of_ble_eq_true rfl) rfl dX8_calendar_25 ?_
    refine b_ifne (tgt := 34) dX8_calendar_28 (by decide) (fun c7 => ?_) (fun c7 => ?_)
    · replace h := ifF c7 h
      refine b_aload_n dX8_calendar_34 rfl (k := 0) rfl ?_
      obtain ⟨w8, hw8, h⟩ := bdV h
      refine b_callVv mv8_remember ml8_228 ob32 (s8_remember   _ _  hw8) rfl (by decide) (by decide) (Nat.le_of_ble_eq_true rfl) rfl dX8_calendar_35 ?_
      refine b_aload_n dX8_calendar_38 rfl (k := 0) rfl ?_
      refine b_getF fl8_25 ob32 rfl rfl dX8_calendar_39 ?_
      refine b_bipush (v := 8) dX8_calendar_42 (by decide) ?_
      refine b_iald ar32_11 (j0 := 8) (by decide) (by decide) dX8_calendar_44 ?_
      refine b_iload_n dX8_calendar_45 rfl (k := 1) rfl ?_
      obtain ⟨r10, w9, hw9, h⟩ := bdO h
      refine b_callSi ms8_has ml8_196 (s8_has (w8.1 32 11 8) a1  _ _ _ hw9) rfl (by decide) (by decide) (Nat.le_of_ble_eq_true rfl) rfl dX8_calendar_46 ?_
      refine b_ifeq (tgt := 56) dX8_calendar_49 (by decide) (fun c11 => ?_) (fun c11 => ?_)
      · replace h := ifT c11 h
        refine b_aload_n dX8_calendar_56 rfl (k := 0) rfl ?_
        refine b_getF fl8_25 ob32 rfl rfl dX8_calendar_57 ?_
        refine b_bipush (v := 10) dX8_calendar_60 (by decide) ?_
        refine b_iload_n dX8_calendar_62 rfl (k := 1) rfl ?_
        refine b_iadd dX8_calendar_63 ?_
        obtain ⟨g12, h⟩ := gdE h
        refine b_iald ar32_11 g12 rfl dX8_calendar_64 ?_
        refine b_sub [0, 1, 2] rfl ?_
        exact t8_calendar_65  a1 a2    (w9.1 32 11 (Int32.toNatClampNeg (10 + a1))) _ _ _ h
      · replace h := ifF c11 h
        refine b_iconst (v := (-1)) dX8_calendar_52 (by decide) ?_
        refine b_goto (tgt := 65) dX8_calendar_53 (by decide) ?_
        refine b_sub [0, 1, 2] rfl ?_
        exact t8_calendar_65  a1 a2    (-1) _ _ _ h
    · replace h := ifT c7 h
      refine b_ldc dX8_calendar_31 kk8_103 ?_
      obtain ⟨rfl, rfl⟩ := rtE h
      exact b_iret rfl dX8_calendar_33
  · replace h := ifT c3 h
    refine b_ldc dX8_calendar_8 kk8_189 ?_
    obtain ⟨rfl, rfl⟩ := rtE h
    exact b_iret rfl dX8_calendar_10
theorem s8_calendar (a1 : Int32) (a2 : Int32)  (w w' : Mem) (r : Int32) (h : f8_calendar  a1 a2  w = some (r, w')) : Sp yX8_calendar cX8_calendar 4 (some .int) 3 [vR 32 0, vI a1, vI a2] w (some (vI r)) w' := sp_of (by decide) (fun _ => rfl) (fun _ => Nat.le_of_ble_eq_true rfl) (t8_calendar  a1 a2   _ _ _ h)
-- X8_draw OneADayModel
def f8_draw  (a1 : Int32)   (w : Mem) : Option (Int32 × Mem) :=
  bnd (sI w 32 12 0 (Int64.toInt32 (jremL (((Int32.toInt64 (w.1 32 12 0)) * 1103515245) + 12345) 2147483648))) fun w1 => if a1 = 0 then none else some (jrem ((w1.1 32 12 0) / 65536) a1, w1)
set_option maxRecDepth 100000 in
set_option maxHeartbeats 4000000 in
theorem t8_draw   (a1 : Int32)     (w w' : Mem) (r : Int32) (h : f8_draw  a1   w = some (r, w')) : Bk yX8_draw cX8_draw 2 (some .int) 1 0 [(0, vR 32 0), (1, vI a1)] [] w (some (vI r)) w' := by
  unfold f8_draw at h
  refine b_aload_n dX8_draw_0 rfl (k := 0) rfl ?_
  refine b_aload_n dX8_draw_1 rfl (k := 0) rfl ?_
  refine b_getI fl8_237 ob32 rfl dX8_draw_2 ?_
  refine b_i2l dX8_draw_5 ?_
  refine b_ldc2 dX8_draw_6 kl8_240 ?_
  refine b_lmul dX8_draw_9 ?_
  refine b_ldc2 dX8_draw_10 kl8_242 ?_
  refine b_ladd dX8_draw_13 ?_
  refine b_ldc2 dX8_draw_14 kl8_244 ?_
  refine b_lrem dX8_draw_17 (by decide) ?_
  refine b_l2i dX8_draw_18 ?_
  obtain ⟨w1, ew1, h⟩ := nmE h
  refine b_putI fw8_237 ob32 rfl dX8_draw_19 ?_
  refine b_nmW ew1 ?_
  refine b_aload_n dX8_draw_22 rfl (k := 0) rfl ?_
  refine b_getI fl8_237 ob32 rfl dX8_draw_23 ?_
  refine b_ldc dX8_draw_26 kk8_246 ?_
  refine b_idiv dX8_draw_28 (by decide) ?_
  refine b_iload_n dX8_draw_29 rfl (k := 1) rfl ?_
  obtain ⟨g2, h⟩ := gdE h
  refine b_irem dX8_draw_30 g2 ?_
  obtain ⟨rfl, rfl⟩ := rtE h
  exact b_iret rfl dX8_draw_31
theorem s8_draw (a1 : Int32)  (w w' : Mem) (r : Int32) (h : f8_draw  a1  w = some (r, w')) : Sp yX8_draw cX8_draw 2 (some .int) 1 [vR 32 0, vI a1] w (some (vI r)) w' := sp_of (by decide) (fun _ => rfl) (fun _ => Nat.le_of_ble_eq_true rfl) (t8_draw  a1   _ _ _ h)
-- X8_drift OneADayModel
def f8_drift_78  (a1 : Int32) (rec18 : Int32 → Mem → Option (Int32 × Mem)) (x3 : Int32) (w : Mem) : Option (Int32 × Mem) :=
  bndV (f8_pass (w.1 32 2 0) w) fun w1 => bnd (x3 + 1) fun y2 => rec18 y2 w1
set_option maxRecDepth 100000 in
set_option maxHeartbeats 4000000 in
theorem t8_drift_78   (a1 : Int32)  (rec18 : Int32 → Mem → Option (Int32 × Mem)) (hrec18 : ∀ (x3 : Int32) (w w' : Mem) (r : Int32), rec18 x3 w = some (r, w') → Bk yX8_drift cX8_drift 5 (some .int) 6 18 [(0, vR 32 0), (1, vI a1), (3, vI x3)] [] w (some (vI r)) w') (x3 : Int32) (w w' : Mem) (r : Int32) (h : f8_drift_78  a1 rec18 x3 w = some (r, w')) : Bk yX8_drift cX8_drift 5 (some .int) 6 78 [(0, vR 32 0), (1, vI a1), (3, vI x3)] [] w (some (vI r)) w' := by
  unfold f8_drift_78 at h
  refine b_aload_n dX8_drift_78 rfl (k := 0) rfl ?_
  refine b_aload_n dX8_drift_79 rfl (k := 0) rfl ?_
  refine b_getI fl8_161 ob32 rfl dX8_drift_80 ?_
  obtain ⟨w1, hw1, h⟩ := bdV h
  refine b_callVv mv8_pass ml8_231 ob32 (s8_pass (w.1 32 2 0)  _ _  hw1) rfl (by decide) (by decide) (Nat.le_of_ble_eq_true rfl) rfl dX8_drift_83 ?_
  obtain ⟨y2, ey2, h⟩ := nmE h
  refine b_iinc (v := y2) (lv' := [(3, vI y2), (0, vR 32 0), (1, vI a1)]) dX8_drift_86 (k := 2) rfl ey2.symm (by decide) rfl ?_
  refine b_goto (tgt := 18) dX8_drift_89 (by decide) ?_
  refine b_sub [1, 2, 0] rfl ?_
  exact hrec18 y2 _ _ _ h
def f8_drift_18  (a1 : Int32)  : Nat → Int32 → Mem → Option (Int32 × Mem)
  | 0, _, _ => none
  | n + 1, x3, w =>
  if a1 ≤ x3 then (some (w.1 32 11 0, w)) else (if (w.1 32 11 2) = 0 then (bndO (f8_draw 4 w) fun r4 w3 => if r4 = 0 then (if (w3.1 32 3 0) ≤ 0 then (f8_drift_78  a1 (f8_drift_18  a1  n) x3 w3) else (bndO (f8_draw (w3.1 32 3 0) w3) fun r8 w7 => if r8 < 0 ∨ 8 ≤ Int32.toNatClampNeg r8 then none else bndO (f8_draw (w7.1 32 5 (Int32.toNatClampNeg r8)) w7) fun r11 w10 => if (10 + r8) < 0 ∨ 103 ≤ Int32.toNatClampNeg (10 + r8) then none else bnd (sI w10 32 11 (Int32.toNatClampNeg (10 + r8)) r11) fun w13 => f8_drift_78  a1 (f8_drift_18  a1  n) x3 w13)) else (f8_drift_78  a1 (f8_drift_18  a1  n) x3 w3)) else (some (w.1 32 11 0, w)))
set_option maxRecDepth 100000 in
set_option maxHeartbeats 4000000 in
theorem t8_drift_18   (a1 : Int32)    : ∀ (n : Nat) (x3 : Int32) (w w' : Mem) (r : Int32), f8_drift_18  a1  n x3 w = some (r, w') → Bk yX8_drift cX8_drift 5 (some .int) 6 18 [(0, vR 32 0), (1, vI a1), (3, vI x3)] [] w (some (vI r)) w' := by
  intro n
  induction n with
  | zero =>
    intro x3 w w' r h
    cases (show (none : Option (Int32 × Mem)) = some _ from h)
  | succ n ih =>
    intro x3 w w' r h
    rw [f8_drift_18] at h
    refine b_iload_n dX8_drift_18 rfl (k := 2) rfl ?_
    refine b_iload_n dX8_drift_19 rfl (k := 1) rfl ?_
    refine b_icge (tgt := 92) dX8_drift_20 (by decide) (fun c1 => ?_) (fun c1 => ?_)
    · replace h := ifT c1 h
      refine b_aload_n dX8_drift_92 rfl (k := 0) rfl ?_
      refine b_getF fl8_25 ob32 rfl rfl dX8_drift_93 ?_
      refine b_iconst (v := 0) dX8_drift_96 (by decide) ?_
      refine b_iald ar32_11 (j0 := 0) (by decide) (by decide) dX8_drift_97 ?_
      obtain ⟨rfl, rfl⟩ := rtE h
      exact b_iret rfl dX8_drift_98
    · replace h := ifF c1 h
      refine b_aload_n dX8_drift_23 rfl (k := 0) rfl ?_
      refine b_getF fl8_25 ob32 rfl rfl dX8_drift_24 ?_
      refine b_iconst (v := 2) dX8_drift_27 (by decide) ?_
      refine b_iald ar32_11 (j0 := 2) (by decide) (by decide) dX8_drift_28 ?_
      refine b_ifne (tgt := 92) dX8_drift_29 (by decide) (fun c2 => ?_) (fun c2 => ?_)
      · replace h := ifF c2 h
        refine b_aload_n dX8_drift_92 rfl (k := 0) rfl ?_
        refine b_getF fl8_25 ob32 rfl rfl dX8_drift_93 ?_
        refine b_iconst (v := 0) dX8_drift_96 (by decide) ?_
        refine b_iald ar32_11 (j0 := 0) (by decide) (by decide) dX8_drift_97 ?_
        obtain ⟨rfl, rfl⟩ := rtE h
        exact b_iret rfl dX8_drift_98
      · replace h := ifT c2 h
        refine b_aload_n dX8_drift_32 rfl (k := 0) rfl ?_
        refine b_iconst (v := 4) dX8_drift_33 (by decide) ?_
        obtain ⟨r4, w3, hw3, h⟩ := bdO h
        refine b_callVi mv8_draw ml8_247 ob32 (s8_draw 4  _ _ _ hw3) rfl (by decide) (by decide) (Nat.le_of_ble_eq_true rfl) rfl dX8_drift_34 ?_
        refine b_ifne (tgt := 78) dX8_drift_37 (by decide) (fun c5 => ?_) (fun c5 => ?_)
        · replace h := ifF c5 h
          refine b_sub [0, 1, 2] rfl ?_
          exact t8_drift_78  a1  (f8_drift_18  a1  n) ih x3 _ _ _ h
        · replace h := ifT c5 h
          refine b_aload_n dX8_drift_40 rfl (k := 0) rfl ?_
          refine b_getI fl8_94 ob32 rfl dX8_drift_41 ?_
          refine b_ifle (tgt := 78) dX8_drift_44 (by decide) (fun c6 => ?_) (fun c6 => ?_)
          · replace h := ifT c6 h
            refine b_sub [0, 1, 2] rfl ?_
            exact t8_drift_78  a1  (f8_drift_18  a1  n) ih x3 _ _ _ h
          · replace h := ifF c6 h
            refine b_aload_n dX8_drift_47 rfl (k := 0) rfl ?_
            refine b_aload_n dX8_drift_48 rfl (k := 0) rfl ?_
            refine b_getI fl8_94 ob32 rfl dX8_drift_49 ?_
            obtain ⟨r8, w7, hw7, h⟩ := bdO h
            refine b_callVi mv8_draw ml8_247 ob32 (s8_draw (w3.1 32 3 0)  _ _ _ hw7) rfl (by decide) (by decide) (Nat.le_of_ble_eq_true rfl) rfl dX8_drift_52 ?_
            refine b_istore (lv' := [(4, vI r8), (0, vR 32 0), (1, vI a1), (3, vI x3)]) dX8_drift_55 (by decide) rfl ?_
            refine b_aload_n dX8_drift_57 rfl (k := 1) rfl ?_
            refine b_getF fl8_25 ob32 rfl rfl dX8_drift_58 ?_
            refine b_bipush (v := 10) dX8_drift_61 (by decide) ?_
            refine b_iload dX8_drift_63 (k := 0) rfl ?_
            refine b_iadd dX8_drift_65 ?_
            refine b_aload_n dX8_drift_66 rfl (k := 1) rfl ?_
            refine b_aload_n dX8_drift_67 rfl (k := 1) rfl ?_
            refine b_getF fl8_13 ob32 rfl rfl dX8_drift_68 ?_
            refine b_iload dX8_drift_71 (k := 0) rfl ?_
            obtain ⟨g9, h⟩ := gdE h
            refine b_iald ar32_5 g9 rfl dX8_drift_73 ?_
            obtain ⟨r11, w10, hw10, h⟩ := bdO h
            refine b_callVi mv8_draw ml8_247 ob32 (s8_draw (w7.1 32 5 (Int32.toNatClampNeg r8))  _ _ _ hw10) rfl (by decide) (by decide) (Nat.le_of_ble_eq_true rfl) rfl dX8_drift_74 ?_
            obtain ⟨g12, h⟩ := gdE h
            obtain ⟨w13, ew13, h⟩ := nmE h
            refine b_iast ar32_11 g12 rfl dX8_drift_77 ?_
            refine b_nmW ew13 ?_
            refine b_sub [1, 2, 3] rfl ?_
            exact t8_drift_78  a1  (f8_drift_18  a1  n) ih x3 _ _ _ h
def f8_drift  (a1 : Int32)   (w : Mem) : Option (Int32 × Mem) :=
  bndO (f8_daysRefused a1 w) fun r2 w1 => if r2 = 0 then (bndV (f8_remember  w1) fun w4 => f8_drift_18  a1  100000 0 w4) else (some (r2, w1))
set_option maxRecDepth 100000 in
set_option maxHeartbeats 4000000 in
theorem t8_drift   (a1 : Int32)     (w w' : Mem) (r : Int32) (h : f8_drift  a1   w = some (r, w')) : Bk yX8_drift cX8_drift 5 (some .int) 6 0 [(0, vR 32 0), (1, vI a1)] [] w (some (vI r)) w' := by
  unfold f8_drift at h
  refine b_aload_n dX8_drift_0 rfl (k := 0) rfl ?_
  refine b_iload_n dX8_drift_1 rfl (k := 1) rfl ?_
  obtain ⟨r2, w1, hw1, h⟩ := bdO h
  refine b_callVi mv8_daysRefused ml8_225 ob32 (s8_daysRefused a1  _ _ _ hw1) rfl (by decide) (by decide) (Nat.le_of_ble_eq_true rfl) rfl dX8_drift_2 ?_
  refine b_istore_n (lv' := [(2, vI r2), (0, vR 32 0), (1, vI a1)]) dX8_drift_5 rfl (by decide) rfl ?_
  refine b_iload_n dX8_drift_6 rfl (k := 0) rfl ?_
  refine b_ifeq (tgt := 12) dX8_drift_7 (by decide) (fun c3 => ?_) (fun c3 => ?_)
  · replace h := ifT c3 h
    refine b_aload_n dX8_drift_12 rfl (k := 1) rfl ?_
    obtain ⟨w4, hw4, h⟩ := bdV h
    refine b_callVv mv8_remember ml8_228 ob32 (s8_remember   _ _  hw4) rfl (by decide) (by decide) (Nat.le_of_ble_eq_true rfl) rfl dX8_drift_13 ?_
    refine b_iconst (v := 0) dX8_drift_16 (by decide) ?_
    refine b_istore_n (lv' := [(3, vI 0), (2, vI r2), (0, vR 32 0), (1, vI a1)]) dX8_drift_17 rfl (by decide) rfl ?_
    refine b_sub [2, 3, 0] rfl ?_
    exact t8_drift_18  a1    100000 0 _ _ _ h
  · replace h := ifF c3 h
    refine b_iload_n dX8_drift_10 rfl (k := 0) rfl ?_
    obtain ⟨rfl, rfl⟩ := rtE h
    exact b_iret rfl dX8_drift_11
theorem s8_drift (a1 : Int32)  (w w' : Mem) (r : Int32) (h : f8_drift  a1  w = some (r, w')) : Sp yX8_drift cX8_drift 5 (some .int) 6 [vR 32 0, vI a1] w (some (vI r)) w' := sp_of (by decide) (fun _ => rfl) (fun _ => Nat.le_of_ble_eq_true rfl) (t8_drift  a1   _ _ _ h)
-- X8_undo OneADayModel
def f8_undo_22    : Nat → Int32 → Mem → Option (Int32 × Mem)
  | 0, _, _ => none
  | n + 1, x1, w =>
  if 103 ≤ x1 then (some (w.1 32 29 0, w)) else (if ((103 * (w.1 32 29 0)) + x1) < 0 ∨ 2060 ≤ Int32.toNatClampNeg ((103 * (w.1 32 29 0)) + x1) then none else if x1 < 0 ∨ 103 ≤ Int32.toNatClampNeg x1 then none else bnd (sI w 32 11 (Int32.toNatClampNeg x1) (w.1 32 30 (Int32.toNatClampNeg ((103 * (w.1 32 29 0)) + x1)))) fun w4 => bnd (x1 + 1) fun y5 => f8_undo_22    n y5 w4)
set_option maxRecDepth 100000 in
set_option maxHeartbeats 4000000 in
theorem t8_undo_22       : ∀ (n : Nat) (x1 : Int32) (w w' : Mem) (r : Int32), f8_undo_22    n x1 w = some (r, w') → Bk yX8_undo cX8_undo 2 (some .int) 1 22 [(0, vR 32 0), (1, vI x1)] [] w (some (vI r)) w' := by
  intro n
  induction n with
  | zero =>
    intro x1 w w' r h
    cases (show (none : Option (Int32 × Mem)) = some _ from h)
  | succ n ih =>
    intro x1 w w' r h
    rw [f8_undo_22] at h
    refine b_iload_n dX8_undo_22 rfl (k := 1) rfl ?_
    refine b_bipush (v := 103) dX8_undo_23 (by decide) ?_
    refine b_icge (tgt := 54) dX8_undo_25 (by decide) (fun c1 => ?_) (fun c1 => ?_)
    · replace h := ifT c1 h
      refine b_aload_n dX8_undo_54 rfl (k := 0) rfl ?_
      refine b_getI fl8_182 ob32 rfl dX8_undo_55 ?_
      obtain ⟨rfl, rfl⟩ := rtE h
      exact b_iret rfl dX8_undo_58
    · replace h := ifF c1 h
      refine b_aload_n dX8_undo_28 rfl (k := 0) rfl ?_
      refine b_getF fl8_25 ob32 rfl rfl dX8_undo_29 ?_
      refine b_iload_n dX8_undo_32 rfl (k := 1) rfl ?_
      refine b_aload_n dX8_undo_33 rfl (k := 0) rfl ?_
      refine b_getF fl8_56 ob32 rfl rfl dX8_undo_34 ?_
      refine b_bipush (v := 103) dX8_undo_37 (by decide) ?_
      refine b_aload_n dX8_undo_39 rfl (k := 0) rfl ?_
      refine b_getI fl8_182 ob32 rfl dX8_undo_40 ?_
      refine b_imul dX8_undo_43 ?_
      refine b_iload_n dX8_undo_44 rfl (k := 1) rfl ?_
      refine b_iadd dX8_undo_45 ?_
      obtain ⟨g2, h⟩ := gdE h
      refine b_iald ar32_30 g2 rfl dX8_undo_46 ?_
      obtain ⟨g3, h⟩ := gdE h
      obtain ⟨w4, ew4, h⟩ := nmE h
      refine b_iast ar32_11 g3 rfl dX8_undo_47 ?_
      refine b_nmW ew4 ?_
      obtain ⟨y5, ey5, h⟩ := nmE h
      refine b_iinc (v := y5) (lv' := [(1, vI y5), (0, vR 32 0)]) dX8_undo_48 (k := 1) rfl ey5.symm (by decide) rfl ?_
      refine b_goto (tgt := 22) dX8_undo_51 (by decide) ?_
      refine b_sub [1, 0] rfl ?_
      exact ih y5 _ _ _ h
def f8_undo     (w : Mem) : Option (Int32 × Mem) :=
  if (w.1 32 29 0) = 0 then (some ((-1000000003), w)) else (bnd (sI w 32 29 0 ((w.1 32 29 0) - 1)) fun w2 => f8_undo_22    100000 0 w2)
set_option maxRecDepth 100000 in
set_option maxHeartbeats 4000000 in
theorem t8_undo        (w w' : Mem) (r : Int32) (h : f8_undo     w = some (r, w')) : Bk yX8_undo cX8_undo 2 (some .int) 1 0 [(0, vR 32 0)] [] w (some (vI r)) w' := by
  unfold f8_undo at h
  refine b_aload_n dX8_undo_0 rfl (k := 0) rfl ?_
  refine b_getI fl8_182 ob32 rfl dX8_undo_1 ?_
  refine b_ifne (tgt := 10) dX8_undo_4 (by decide) (fun c1 => ?_) (fun c1 => ?_)
  · replace h := ifF c1 h
    refine b_aload_n dX8_undo_10 rfl (k := 0) rfl ?_
    refine b_dup dX8_undo_11 rfl ?_
    refine b_getI fl8_182 ob32 rfl dX8_undo_12 ?_
    refine b_iconst (v := 1) dX8_undo_15 (by decide) ?_
    refine b_isub dX8_undo_16 ?_
    obtain ⟨w2, ew2, h⟩ := nmE h
    refine b_putI fw8_182 ob32 rfl dX8_undo_17 ?_
    refine b_nmW ew2 ?_
    refine b_iconst (v := 0) dX8_undo_20 (by decide) ?_
    refine b_istore_n (lv' := [(1, vI 0), (0, vR 32 0)]) dX8_undo_21 rfl (by decide) rfl ?_
    refine b_sub [1, 0] rfl ?_
    exact t8_undo_22      100000 0 _ _ _ h
  · replace h := ifT c1 h
    refine b_ldc dX8_undo_7 kk8_224 ?_
    obtain ⟨rfl, rfl⟩ := rtE h
    exact b_iret rfl dX8_undo_9
theorem s8_undo   (w w' : Mem) (r : Int32) (h : f8_undo    w = some (r, w')) : Sp yX8_undo cX8_undo 2 (some .int) 1 [vR 32 0] w (some (vI r)) w' := sp_of (by decide) (fun _ => rfl) (fun _ => Nat.le_of_ble_eq_true rfl) (t8_undo     _ _ _ h)
-- X8_save OneADayModel
def f8_save_2    : Nat → Int32 → Mem → Option Mem
  | 0, _, _ => none
  | n + 1, x1, w =>
  if 103 ≤ x1 then (some w) else (if x1 < 0 ∨ 103 ≤ Int32.toNatClampNeg x1 then none else if x1 < 0 ∨ 103 ≤ Int32.toNatClampNeg x1 then none else bnd (sI w 32 31 (Int32.toNatClampNeg x1) (w.1 32 11 (Int32.toNatClampNeg x1))) fun w4 => bnd (x1 + 1) fun y5 => f8_save_2    n y5 w4)
set_option maxRecDepth 100000 in
set_option maxHeartbeats 4000000 in
theorem t8_save_2       : ∀ (n : Nat) (x1 : Int32) (w w' : Mem), f8_save_2    n x1 w = some w' → Bk yX8_save cX8_save 2 none 1 2 [(0, vR 32 0), (1, vI x1)] [] w none w' := by
  intro n
  induction n with
  | zero =>
    intro x1 w w' h
    cases (show (none : Option Mem) = some _ from h)
  | succ n ih =>
    intro x1 w w' h
    rw [f8_save_2] at h
    refine b_iload_n dX8_save_2 rfl (k := 1) rfl ?_
    refine b_bipush (v := 103) dX8_save_3 (by decide) ?_
    refine b_icge (tgt := 26) dX8_save_5 (by decide) (fun c1 => ?_) (fun c1 => ?_)
    · replace h := ifT c1 h
      cases h
      exact b_vret rfl dX8_save_26
    · replace h := ifF c1 h
      refine b_aload_n dX8_save_8 rfl (k := 0) rfl ?_
      refine b_getF fl8_59 ob32 rfl rfl dX8_save_9 ?_
      refine b_iload_n dX8_save_12 rfl (k := 1) rfl ?_
      refine b_aload_n dX8_save_13 rfl (k := 0) rfl ?_
      refine b_getF fl8_25 ob32 rfl rfl dX8_save_14 ?_
      refine b_iload_n dX8_save_17 rfl (k := 1) rfl ?_
      obtain ⟨g2, h⟩ := gdE h
      refine b_iald ar32_11 g2 rfl dX8_save_18 ?_
      obtain ⟨g3, h⟩ := gdE h
      obtain ⟨w4, ew4, h⟩ := nmE h
      refine b_iast ar32_31 g3 rfl dX8_save_19 ?_
      refine b_nmW ew4 ?_
      obtain ⟨y5, ey5, h⟩ := nmE h
      refine b_iinc (v := y5) (lv' := [(1, vI y5), (0, vR 32 0)]) dX8_save_20 (k := 1) rfl ey5.symm (by decide) rfl ?_
      refine b_goto (tgt := 2) dX8_save_23 (by decide) ?_
      refine b_sub [1, 0] rfl ?_
      exact ih y5 _ _  h
def f8_save     (w : Mem) : Option Mem :=
  f8_save_2    100000 0 w
set_option maxRecDepth 100000 in
set_option maxHeartbeats 4000000 in
theorem t8_save        (w w' : Mem) (h : f8_save     w = some w') : Bk yX8_save cX8_save 2 none 1 0 [(0, vR 32 0)] [] w none w' := by
  unfold f8_save at h
  refine b_iconst (v := 0) dX8_save_0 (by decide) ?_
  refine b_istore_n (lv' := [(1, vI 0), (0, vR 32 0)]) dX8_save_1 rfl (by decide) rfl ?_
  refine b_sub [1, 0] rfl ?_
  exact t8_save_2      100000 0 _ _  h
theorem s8_save   (w w' : Mem) (h : f8_save    w = some w') : Sp yX8_save cX8_save 2 none 1 [vR 32 0] w none w' := sp_of (by decide) (fun _ => rfl) (fun _ => Nat.le_of_ble_eq_true rfl) (t8_save     _ _  h)
-- X8_putBack OneADayModel
def f8_putBack_2    : Nat → Int32 → Mem → Option Mem
  | 0, _, _ => none
  | n + 1, x1, w =>
  if 103 ≤ x1 then (some w) else (if x1 < 0 ∨ 103 ≤ Int32.toNatClampNeg x1 then none else if x1 < 0 ∨ 103 ≤ Int32.toNatClampNeg x1 then none else bnd (sI w 32 11 (Int32.toNatClampNeg x1) (w.1 32 31 (Int32.toNatClampNeg x1))) fun w4 => bnd (x1 + 1) fun y5 => f8_putBack_2    n y5 w4)
set_option maxRecDepth 100000 in
set_option maxHeartbeats 4000000 in
theorem t8_putBack_2       : ∀ (n : Nat) (x1 : Int32) (w w' : Mem), f8_putBack_2    n x1 w = some w' → Bk yX8_putBack cX8_putBack 2 none 1 2 [(0, vR 32 0), (1, vI x1)] [] w none w' := by
  intro n
  induction n with
  | zero =>
    intro x1 w w' h
    cases (show (none : Option Mem) = some _ from h)
  | succ n ih =>
    intro x1 w w' h
    rw [f8_putBack_2] at h
    refine b_iload_n dX8_putBack_2 rfl (k := 1) rfl ?_
    refine b_bipush (v := 103) dX8_putBack_3 (by decide) ?_
    refine b_icge (tgt := 26) dX8_putBack_5 (by decide) (fun c1 => ?_) (fun c1 => ?_)
    · replace h := ifT c1 h
      cases h
      exact b_vret rfl dX8_putBack_26
    · replace h := ifF c1 h
      refine b_aload_n dX8_putBack_8 rfl (k := 0) rfl ?_
      refine b_getF fl8_25 ob32 rfl rfl dX8_putBack_9 ?_
      refine b_iload_n dX8_putBack_12 rfl (k := 1) rfl ?_
      refine b_aload_n dX8_putBack_13 rfl (k := 0) rfl ?_
      refine b_getF fl8_59 ob32 rfl rfl dX8_putBack_14 ?_
      refine b_iload_n dX8_putBack_17 rfl (k := 1) rfl ?_
      obtain ⟨g2, h⟩ := gdE h
      refine b_iald ar32_31 g2 rfl dX8_putBack_18 ?_
      obtain ⟨g3, h⟩ := gdE h
      obtain ⟨w4, ew4, h⟩ := nmE h
      refine b_iast ar32_11 g3 rfl dX8_putBack_19 ?_
      refine b_nmW ew4 ?_
      obtain ⟨y5, ey5, h⟩ := nmE h
      refine b_iinc (v := y5) (lv' := [(1, vI y5), (0, vR 32 0)]) dX8_putBack_20 (k := 1) rfl ey5.symm (by decide) rfl ?_
      refine b_goto (tgt := 2) dX8_putBack_23 (by decide) ?_
      refine b_sub [1, 0] rfl ?_
      exact ih y5 _ _  h
def f8_putBack     (w : Mem) : Option Mem :=
  f8_putBack_2    100000 0 w
set_option maxRecDepth 100000 in
set_option maxHeartbeats 4000000 in
theorem t8_putBack        (w w' : Mem) (h : f8_putBack     w = some w') : Bk yX8_putBack cX8_putBack 2 none 1 0 [(0, vR 32 0)] [] w none w' := by
  unfold f8_putBack at h
  refine b_iconst (v := 0) dX8_putBack_0 (by decide) ?_
  refine b_istore_n (lv' := [(1, vI 0), (0, vR 32 0)]) dX8_putBack_1 rfl (by decide) rfl ?_
  refine b_sub [1, 0] rfl ?_
  exact t8_putBack_2      100000 0 _ _  h
theorem s8_putBack   (w w' : Mem) (h : f8_putBack    w = some w') : Sp yX8_putBack cX8_putBack 2 none 1 [vR 32 0] w none w' := sp_of (by decide) (fun _ => rfl) (fun _ => Nat.le_of_ble_eq_true rfl) (t8_putBack     _ _  h)
-- X8_whenDown OneADayModel
def f8_whenDown_78    (s0 : Int32) (w : Mem) : Option (Int32 × Mem) :=
  bndV (f8_putBack  w) fun w1 => some (s0, w1)
set_option maxRecDepth 100000 in
set_option maxHeartbeats 4000000 in
theorem t8_whenDown_78       (s0 : Int32) (w w' : Mem) (r : Int32) (h : f8_whenDown_78    s0 w = some (r, w')) : Bk yX8_whenDown cX8_whenDown 2 (some .int) 6 78 [(0, vR 32 0)] [vI s0] w (some (vI r)) w' := by
  unfold f8_whenDown_78 at h
  refine b_istore_n (lv' := [(1, vI s0), (0, vR 32 0)]) dX8_whenDown_78 rfl (by decide) rfl ?_
  refine b_aload_n dX8_whenDown_79 rfl (k := 1) rfl ?_
  obtain ⟨w1, hw1, h⟩ := bdV h
  refine b_callVv mv8_putBack ml8_253 ob32 (s8_putBack   _ _  hw1) rfl (by decide) (by decide) (Nat.le_of_ble_eq_true rfl) rfl dX8_whenDown_80 ?_
  refine b_iload_n dX8_whenDown_83 rfl (k := 0) rfl ?_
  obtain ⟨rfl, rfl⟩ := rtE h
  exact b_iret rfl dX8_whenDown_84
def f8_whenDown_56     (w : Mem) : Option (Int32 × Mem) :=
  if (w.1 32 11 2) = 1 then (f8_whenDown_78    ((w.1 32 11 0) - 1) w) else (f8_whenDown_78    (-1) w)
set_option maxRecDepth 100000 in
set_option maxHeartbeats 4000000 in
theorem t8_whenDown_56        (w w' : Mem) (r : Int32) (h : f8_whenDown_56     w = some (r, w')) : Bk yX8_whenDown cX8_whenDown 2 (some .int) 6 56 [(0, vR 32 0)] [] w (some (vI r)) w' := by
  unfold f8_whenDown_56 at h
  refine b_aload_n dX8_whenDown_56 rfl (k := 0) rfl ?_
  refine b_getF fl8_25 ob32 rfl rfl dX8_whenDown_57 ?_
  refine b_iconst (v := 2) dX8_whenDown_60 (by decide) ?_
  refine b_iald ar32_11 (j0 := 2) (by decide) (by decide) dX8_whenDown_61 ?_
  refine b_iconst (v := 1) dX8_whenDown_62 (by decide) ?_
  refine b_icne (tgt := 77) dX8_whenDown_63 (by decide) (fun c1 => ?_) (fun c1 => ?_)
  · replace h := ifF c1 h
    refine b_iconst (v := (-1)) dX8_whenDown_77 (by decide) ?_
    refine b_sub [0] rfl ?_
    exact t8_whenDown_78      (-1) _ _ _ h
  · replace h := ifT c1 h
    refine b_aload_n dX8_whenDown_66 rfl (k := 0) rfl ?_
    refine b_getF fl8_25 ob32 rfl rfl dX8_whenDown_67 ?_
    refine b_iconst (v := 0) dX8_whenDown_70 (by decide) ?_
    refine b_iald ar32_11 (j0 := 0) (by decide) (by decide) dX8_whenDown_71 ?_
    refine b_iconst (v := 1) dX8_whenDown_72 (by decide) ?_
    refine b_isub dX8_whenDown_73 ?_
    refine b_goto (tgt := 78) dX8_whenDown_74 (by decide) ?_
    refine b_sub [0] rfl ?_
    exact t8_whenDown_78      ((w.1 32 11 0) - 1) _ _ _ h
def f8_whenDown_26    : Nat → Int32 → Mem → Option (Int32 × Mem)
  | 0, _, _ => none
  | n + 1, x1, w =>
  if 999 ≤ x1 then (f8_whenDown_56     w) else (if (w.1 32 11 2) = 0 then (bndV (f8_pass (w.1 32 2 0) w) fun w3 => bnd (x1 + 1) fun y4 => f8_whenDown_26    n y4 w3) else (f8_whenDown_56     w))
set_option maxRecDepth 100000 in
set_option maxHeartbeats 4000000 in
theorem t8_whenDown_26       : ∀ (n : Nat) (x1 : Int32) (w w' : Mem) (r : Int32), f8_whenDown_26    n x1 w = some (r, w') → Bk yX8_whenDown cX8_whenDown 2 (some .int) 6 26 [(0, vR 32 0), (1, vI x1)] [] w (some (vI r)) w' := by
  intro n
  induction n with
  | zero =>
    intro x1 w w' r h
    cases (show (none : Option (Int32 × Mem)) = some _ from h)
  | succ n ih =>
    intro x1 w w' r h
    rw [f8_whenDown_26] at h
    refine b_iload_n dX8_whenDown_26 rfl (k := 1) rfl ?_
    refine b_sipush (v := 999) dX8_whenDown_27 (by decide) ?_
    refine b_icge (tgt := 56) dX8_whenDown_30 (by decide) (fun c1 => ?_) (fun c1 => ?_)
    · replace h := ifT c1 h
      refine b_sub [0] rfl ?_
      exact t8_whenDown_56       _ _ _ h
    · replace h := ifF c1 h
      refine b_aload_n dX8_whenDown_33 rfl (k := 0) rfl ?_
      refine b_getF fl8_25 ob32 rfl rfl dX8_whenDown_34 ?_
      refine b_iconst (v := 2) dX8_whenDown_37 (by decide) ?_
      refine b_iald ar32_11 (j0 := 2) (by decide) (by decide) dX8_whenDown_38 ?_
      refine b_ifne (tgt := 56) dX8_whenDown_39 (by decide) (fun c2 => ?_) (fun c2 => ?_)
      · replace h := ifF c2 h
        refine b_sub [0] rfl ?_
        exact t8_whenDown_56       _ _ _ h
      · replace h := ifT c2 h
        refine b_aload_n dX8_whenDown_42 rfl (k := 0) rfl ?_
        refine b_aload_n dX8_whenDown_43 rfl (k := 0) rfl ?_
        refine b_getI fl8_161 ob32 rfl dX8_whenDown_44 ?_
        obtain ⟨w3, hw3, h⟩ := bdV h
        refine b_callVv mv8_pass ml8_231 ob32 (s8_pass (w.1 32 2 0)  _ _  hw3) rfl (by decide) (by decide) (Nat.le_of_ble_eq_true rfl) rfl dX8_whenDown_47 ?_
        obtain ⟨y4, ey4, h⟩ := nmE h
        refine b_iinc (v := y4) (lv' := [(1, vI y4), (0, vR 32 0)]) dX8_whenDown_50 (k := 1) rfl ey4.symm (by decide) rfl ?_
        refine b_goto (tgt := 26) dX8_whenDown_53 (by decide) ?_
        refine b_sub [1, 0] rfl ?_
        exact ih y4 _ _ _ h
def f8_whenDown     (w : Mem) : Option (Int32 × Mem) :=
  if (w.1 32 0 0) = 0 then (some ((-1000000003), w)) else (if (w.1 32 11 2) = 1 then (some ((-1000000003), w)) else (bndV (f8_save  w) fun w3 => f8_whenDown_26    100000 0 w3))
set_option maxRecDepth 100000 in
set_option maxHeartbeats 4000000 in
theorem t8_whenDown        (w w' : Mem) (r : Int32) (h : f8_whenDown     w = some (r, w')) : Bk yX8_whenDown cX8_whenDown 2 (some .int) 6 0 [(0, vR 32 0)] [] w (some (vI r)) w' := by
  unfold f8_whenDown at h
  refine b_aload_n dX8_whenDown_0 rfl (k := 0) rfl ?_
  refine b_getI fl8_155 ob32 rfl dX8_whenDown_1 ?_
  refine b_ifeq (tgt := 17) dX8_whenDown_4 (by decide) (fun c1 => ?_) (fun c1 => ?_)
  · replace h := ifT c1 h
    refine b_ldc dX8_whenDown_17 kk8_224 ?_
    obtain ⟨rfl, rfl⟩ := rtE h
    exact b_iret rfl dX8_whenDown_19
  · replace h := ifF c1 h
    refine b_aload_n dX8_whenDown_7 rfl (k := 0) rfl ?_
    refine b_getF fl8_25 ob32 rfl rfl dX8_whenDown_8 ?_
    refine b_iconst (v := 2) dX8_whenDown_11 (by decide) ?_
    refine b_iald ar32_11 (j0 := 2) (by decide) (by decide) dX8_whenDown_12 ?_
    refine b_iconst (v := 1) dX8_whenDown_13 (by decide) ?_
    refine b_icne (tgt := 20) dX8_whenDown_14 (by decide) (fun c2 => ?_) (fun c2 => ?_)
    · replace h := ifF c2 h
      refine b_aload_n dX8_whenDown_20 rfl (k := 0) rfl ?_
      obtain ⟨w3, hw3, h⟩ := bdV h
      refine b_callVv mv8_save ml8_250 ob32 (s8_save   _ _  hw3) rfl (by decide) (by decide) (Nat.le_of_ble_eq_true rfl) rfl dX8_whenDown_21 ?_
      refine b_iconst (v := 0) dX8_whenDown_24 (by decide) ?_
      refine b_istore_n (lv' := [(1, vI 0), (0, vR 32 0)]) dX8_whenDown_25 rfl (by decide) rfl ?_
      refine b_sub [1, 0] rfl ?_
      exact t8_whenDown_26      100000 0 _ _ _ h
    · replace h := ifT c2 h
      refine b_ldc dX8_whenDown_17 kk8_224 ?_
      obtain ⟨rfl, rfl⟩ := rtE h
      exact b_iret rfl dX8_whenDown_19
theorem s8_whenDown   (w w' : Mem) (r : Int32) (h : f8_whenDown    w = some (r, w')) : Sp yX8_whenDown cX8_whenDown 2 (some .int) 6 [vR 32 0] w (some (vI r)) w' := sp_of (by decide) (fun _ => rfl) (fun _ => Nat.le_of_ble_eq_true rfl) (t8_whenDown     _ _ _ h)
-- X8_ahead OneADayModel
def f8_ahead_102  (a1 : Int32) (a2 : Int32)  (s0 : Int32) (w : Mem) : Option (Int32 × Mem) :=
  bndV (f8_putBack  w) fun w1 => some (s0, w1)
set_option maxRecDepth 100000 in
set_option maxHeartbeats 4000000 in
theorem t8_ahead_102   (a1 : Int32) (a2 : Int32)    (s0 : Int32) (w w' : Mem) (r : Int32) (h : f8_ahead_102  a1 a2  s0 w = some (r, w')) : Bk yX8_ahead cX8_ahead 4 (some .int) 6 102 [(0, vR 32 0)] [vI s0] w (some (vI r)) w' := by
  unfold f8_ahead_102 at h
  refine b_istore_n (lv' := [(3, vI s0), (0, vR 32 0)]) dX8_ahead_102 rfl (by decide) rfl ?_
  refine b_aload_n dX8_ahead_103 rfl (k := 1) rfl ?_
  obtain ⟨w1, hw1, h⟩ := bdV h
  refine b_callVv mv8_putBack ml8_253 ob32 (s8_putBack   _ _  hw1) rfl (by decide) (by decide) (Nat.le_of_ble_eq_true rfl) rfl dX8_ahead_104 ?_
  refine b_iload_n dX8_ahead_107 rfl (k := 0) rfl ?_
  obtain ⟨rfl, rfl⟩ := rtE h
  exact b_iret rfl dX8_ahead_108
def f8_ahead_69  (a1 : Int32) (a2 : Int32)   (w : Mem) : Option (Int32 × Mem) :=
  if a2 = 0 then (f8_ahead_102  a1 a2  ((w.1 32 11 5) - (w.1 32 31 5)) w) else (f8_ahead_102  a1 a2  ((w.1 32 11 4) - (w.1 32 31 4)) w)
set_option maxRecDepth 100000 in
set_option maxHeartbeats 4000000 in
theorem t8_ahead_69   (a1 : Int32) (a2 : Int32)     (w w' : Mem) (r : Int32) (h : f8_ahead_69  a1 a2   w = some (r, w')) : Bk yX8_ahead cX8_ahead 4 (some .int) 6 69 [(0, vR 32 0), (2, vI a2)] [] w (some (vI r)) w' := by
  unfold f8_ahead_69 at h
  refine b_iload_n dX8_ahead_69 rfl (k := 1) rfl ?_
  refine b_ifne (tgt := 89) dX8_ahead_70 (by decide) (fun c1 => ?_) (fun c1 => ?_)
  · replace h := ifF c1 h
    refine b_aload_n dX8_ahead_89 rfl (k := 0) rfl ?_
    refine b_getF fl8_25 ob32 rfl rfl dX8_ahead_90 ?_
    refine b_iconst (v := 4) dX8_ahead_93 (by decide) ?_
    refine b_iald ar32_11 (j0 := 4) (by decide) (by decide) dX8_ahead_94 ?_
    refine b_aload_n dX8_ahead_95 rfl (k := 0) rfl ?_
    refine b_getF fl8_59 ob32 rfl rfl dX8_ahead_96 ?_
    refine b_iconst (v := 4) dX8_ahead_99 (by decide) ?_
    refine b_iald ar32_31 (j0 := 4) (by decide) (by decide) dX8_ahead_100 ?_
    refine b_isub dX8_ahead_101 ?_
    refine b_sub [0] rfl ?_
    exact t8_ahead_102  a1 a2    ((w.1 32 11 4) - (w.1 32 31 4)) _ _ _ h
  · replace h := ifT c1 h
    refine b_aload_n dX8_ahead_73 rfl (k := 0) rfl ?_
    refine b_getF fl8_25 ob32 rfl rfl dX8_ahead_74 ?_
    refine b_iconst (v := 5) dX8_ahead_77 (by decide) ?_
    refine b_iald ar32_11 (j0 := 5) (by decide) (by decide) dX8_ahead_78 ?_
    refine b_aload_n dX8_ahead_79 rfl (k := 0) rfl ?_
    refine b_getF fl8_59 ob32 rfl rfl dX8_ahead_80 ?_
    refine b_iconst (v := 5) dX8_ahead_83 (by decide) ?_
    refine b_iald ar32_31 (j0 := 5) (by decide) (by decide) dX8_ahead_84 ?_
    refine b_isub dX8_ahead_85 ?_
    refine b_goto (tgt := 102) dX8_ahead_86 (by decide) ?_
    refine b_sub [0] rfl ?_
    exact t8_ahead_102  a1 a2    ((w.1 32 11 5) - (w.1 32 31 5)) _ _ _ h
def f8_ahead_41  (a1 : Int32) (a2 : Int32)  : Nat → Int32 → Mem → Option (Int32 × Mem)
  | 0, _, _ => none
  | n + 1, x3, w =>
  if a1 ≤ x3 then (f8_ahead_69  a1 a2   w) else (if (w.1 32 11 2) = 0 then (bndV (f8_pass (w.1 32 2 0) w) fun w3 => bnd (x3 + 1) fun y4 => f8_ahead_41  a1 a2  n y4 w3) else (f8_ahead_69  a1 a2   w))
set_option maxRecDepth 100000 in
set_option maxHeartbeats 4000000 in
theorem t8_ahead_41   (a1 : Int32) (a2 : Int32)    : ∀ (n : Nat) (x3 : Int32) (w w' : Mem) (r : Int32), f8_ahead_41  a1 a2  n x3 w = some (r, w') → Bk yX8_ahead cX8_ahead 4 (some .int) 6 41 [(0, vR 32 0), (1, vI a1), (2, vI a2), (3, vI x3)] [] w (some (vI r)) w' := by
  intro n
  induction n with
  | zero =>
    intro x3 w w' r h
    cases (show (none : Option (Int32 × Mem)) = some _ from h)
  | succ n ih =>
    intro x3 w w' r h
    rw [f8_ahead_41] at h
    refine b_iload_n dX8_ahead_41 rfl (k := 3) rfl ?_
    refine b_iload_n dX8_ahead_42 rfl (k := 1) rfl ?_
    refine b_icge (tgt := 69) dX8_ahead_43 (by decide) (fun c1 => ?_) (fun c1 => ?_)
    · replace h := ifT c1 h
      refine b_sub [0, 2] rfl ?_
      exact t8_ahead_69  a1 a2     _ _ _ h
    · replace h := ifF c1 h
      refine b_aload_n dX8_ahead_46 rfl (k := 0) rfl ?_
      refine b_getF fl8_25 ob32 rfl rfl dX8_ahead_47 ?_
      refine b_iconst (v := 2) dX8_ahead_50 (by decide) ?_
      refine b_iald ar32_11 (j0 := 2) (by decide) (by decide) dX8_ahead_51 ?_
      refine b_ifne (tgt := 69) dX8_ahead_52 (by decide) (fun c2 => ?_) (fun c2 => ?_)
      · replace h := ifF c2 h
        refine b_sub [0, 2] rfl ?_
        exact t8_ahead_69  a1 a2     _ _ _ h
      · replace h := ifT c2 h
        refine b_aload_n dX8_ahead_55 rfl (k := 0) rfl ?_
        refine b_aload_n dX8_ahead_56 rfl (k := 0) rfl ?_
        refine b_getI fl8_161 ob32 rfl dX8_ahead_57 ?_
        obtain ⟨w3, hw3, h⟩ := bdV h
        refine b_callVv mv8_pass ml8_231 ob32 (s8_pass (w.1 32 2 0)  _ _  hw3) rfl (by decide) (by decide) (Nat.le_of_ble_eq_true rfl) rfl dX8_ahead_60 ?_
        obtain ⟨y4, ey4, h⟩ := nmE h
        refine b_iinc (v := y4) (lv' := [(3, vI y4), (0, vR 32 0), (1, vI a1), (2, vI a2)]) dX8_ahead_63 (k := 3) rfl ey4.symm (by decide) rfl ?_
        refine b_goto (tgt := 41) dX8_ahead_66 (by decide) ?_
        refine b_sub [1, 2, 3, 0] rfl ?_
        exact ih y4 _ _ _ h
def f8_ahead  (a1 : Int32) (a2 : Int32)   (w : Mem) : Option (Int32 × Mem) :=
  bndO (f8_in (Int32.toInt64 a1) 0 60 w) fun r2 w1 => if r2 = 0 then (some ((-1000000002), w1)) else (bndO (f8_in (Int32.toInt64 a2) 0 1 w1) fun r5 w4 => if r5 = 0 then (some ((-1000000002), w4)) else (if (w4.1 32 0 0) = 0 then (some ((-1000000003), w4)) else (bndV (f8_save  w4) fun w8 => f8_ahead_41  a1 a2  100000 0 w8)))
set_option maxRecDepth 100000 in
set_option maxHeartbeats 4000000 in
theorem t8_ahead   (a1 : Int32) (a2 : Int32)     (w w' : Mem) (r : Int32) (h : f8_ahead  a1 a2   w = some (r, w')) : Bk yX8_ahead cX8_ahead 4 (some .int) 6 0 [(0, vR 32 0), (1, vI a1), (2, vI a2)] [] w (some (vI r)) w' := by
  unfold f8_ahead at h
  refine b_iload_n dX8_ahead_0 rfl (k := 1) rfl ?_
  refine b_i2l dX8_ahead_1 ?_
  refine b_lconst (v := 0) dX8_ahead_2 (by decide) ?_
  refine b_ldc2 dX8_ahead_3 kl8_256 ?_
  obtain ⟨r2, w1, hw1, h⟩ := bdO h
  refine b_callSi ms8_in ml8_97 (s8_in (Int32.toInt64 a1) 0 60  _ _ _ hw1) rfl (by decide) (by decide) (Nat.le_of_ble_eq_true rfl) rfl dX8_ahead_6 ?_
  refine b_ifeq (tgt := 22) dX8_ahead_9 (by decide) (fun c3 => ?_) (fun c3 => ?_)
  · replace h := ifT c3 h
    refine b_ldc dX8_ahead_22 kk8_103 ?_
    obtain ⟨rfl, rfl⟩ := rtE h
    exact b_iret rfl dX8_ahead_24
  · replace h := ifF c3 h
    refine b_iload_n dX8_ahead_12 rfl (k := 2) rfl ?_
    refine b_i2l dX8_ahead_13 ?_
    refine b_lconst (v := 0) dX8_ahead_14 (by decide) ?_
    refine b_lconst (v := 1) dX8_ahead_15 (by decide) ?_
    obtain ⟨r5, w4, hw4, h⟩ := bdO h
    refine b_callSi ms8_in ml8_97 (s8_in (Int32.toInt64 a2) 0 1  _ _ _ hw4) rfl (by decide) (by decide) (Nat.le_of_ble_eq_true rfl) rfl dX8_ahead_16 ?_
    refine b_ifne (tgt := 25) dX8_ahead_19 (by decide) (fun c6 => ?_) (fun c6 => ?_)
    · replace h := ifF c6 h
      refine b_aload_n dX8_ahead_25 rfl (k := 0) rfl ?_
      refine b_getI fl8_155 ob32 rfl dX8_ahead_26 ?_
      refine b_ifne (tgt := 35) dX8_ahead_29 (by decide) (fun c7 => ?_) (fun c7 => ?_)
      · replace h := ifF c7 h
        refine b_aload_n dX8_ahead_35 rfl (k := 0) rfl ?_
        obtain ⟨w8, hw8, h⟩ := bdV h
        refine b_callVv mv8_save ml8_250 ob32 (s8_save   _ _  hw8) rfl (by decide) (by decide) (Nat.le_of_ble_eq_true rfl) rfl dX8_ahead_36 ?_
        refine b_iconst (v := 0) dX8_ahead_39 (by decide) ?_
        refine b_istore_n (lv' := [(3, vI 0), (0, vR 32 0), (1, vI a1), (2, vI a2)]) dX8_ahead_40 rfl (by decide) rfl ?_
        refine b_sub [1, 2, 3, 0] rfl ?_
        exact t8_ahead_41  a1 a2    100000 0 _ _ _ h
      · replace h := ifT c7 h
        refine b_ldc dX8_ahead_32 kk8_224 ?_
        obtain ⟨rfl, rfl⟩ := rtE h
        exact b_iret rfl dX8_ahead_34
    · replace h := ifT c6 h
      refine b_ldc dX8_ahead_22 kk8_103 ?_
      obtain ⟨rfl, rfl⟩ := rtE h
      exact b_iret rfl dX8_ahead_24
theorem s8_ahead (a1 : Int32) (a2 : Int32)  (w w' : Mem) (r : Int32) (h : f8_ahead  a1 a2  w = some (r, w')) : Sp yX8_ahead cX8_ahead 4 (some .int) 6 [vR 32 0, vI a1, vI a2] w (some (vI r)) w' := sp_of (by decide) (fun _ => rfl) (fun _ => Nat.le_of_ble_eq_true rfl) (t8_ahead  a1 a2   _ _ _ h)
-- X8_common OneADayModel
def f8_common_4  (a0 : Int32) (a1 : Int32)  : Nat → Int32 → Int32 → Mem → Option (Int32 × Mem)
  | 0, _, _, _ => none
  | n + 1, x2, x3, w =>
  if x3 ≤ 0 then (some (x2, w)) else (if x3 = 0 then none else bnd (jrem x2 x3) fun y3 => f8_common_4  a0 a1  n x3 y3 w)
set_option maxRecDepth 100000 in
set_option maxHeartbeats 4000000 in
theorem t8_common_4   (a0 : Int32) (a1 : Int32)    : ∀ (n : Nat) (x2 : Int32) (x3 : Int32) (w w' : Mem) (r : Int32), f8_common_4  a0 a1  n x2 x3 w = some (r, w') → Bk yX8_common cX8_common 5 (some .int) 1 4 [(2, vI x2), (3, vI x3)] [] w (some (vI r)) w' := by
  intro n
  induction n with
  | zero =>
    intro x2 x3 w w' r h
    cases (show (none : Option (Int32 × Mem)) = some _ from h)
  | succ n ih =>
    intro x2 x3 w w' r h
    rw [f8_common_4] at h
    refine b_iload_n dX8_common_4 rfl (k := 1) rfl ?_
    refine b_ifle (tgt := 21) dX8_common_5 (by decide) (fun c1 => ?_) (fun c1 => ?_)
    · replace h := ifT c1 h
      refine b_iload_n dX8_common_21 rfl (k := 0) rfl ?_
      obtain ⟨rfl, rfl⟩ := rtE h
      exact b_iret rfl dX8_common_22
    · replace h := ifF c1 h
      refine b_iload_n dX8_common_8 rfl (k := 0) rfl ?_
      refine b_iload_n dX8_common_9 rfl (k := 1) rfl ?_
      obtain ⟨g2, h⟩ := gdE h
      refine b_irem dX8_common_10 g2 ?_
      obtain ⟨y3, ey3, h⟩ := nmE h
      refine b_nmI ey3 ?_
      refine b_istore (lv' := [(4, vI y3), (2, vI x2), (3, vI x3)]) dX8_common_11 (by decide) rfl ?_
      refine b_iload_n dX8_common_13 rfl (k := 2) rfl ?_
      refine b_istore_n (lv' := [(2, vI x3), (4, vI y3), (3, vI x3)]) dX8_common_14 rfl (by decide) rfl ?_
      refine b_iload dX8_common_15 (k := 1) rfl ?_
      refine b_istore_n (lv' := [(3, vI y3), (2, vI x3), (4, vI y3)]) dX8_common_17 rfl (by decide) rfl ?_
      refine b_goto (tgt := 4) dX8_common_18 (by decide) ?_
      refine b_sub [1, 0] rfl ?_
      exact ih x3 y3 _ _ _ h
def f8_common  (a0 : Int32) (a1 : Int32)   (w : Mem) : Option (Int32 × Mem) :=
  f8_common_4  a0 a1  100000 a0 a1 w
set_option maxRecDepth 100000 in
set_option maxHeartbeats 4000000 in
theorem t8_common   (a0 : Int32) (a1 : Int32)     (w w' : Mem) (r : Int32) (h : f8_common  a0 a1   w = some (r, w')) : Bk yX8_common cX8_common 5 (some .int) 1 0 [(0, vI a0), (1, vI a1)] [] w (some (vI r)) w' := by
  unfold f8_common at h
  refine b_iload_n dX8_common_0 rfl (k := 0) rfl ?_
  refine b_istore_n (lv' := [(2, vI a0), (0, vI a0), (1, vI a1)]) dX8_common_1 rfl (by decide) rfl ?_
  refine b_iload_n dX8_common_2 rfl (k := 2) rfl ?_
  refine b_istore_n (lv' := [(3, vI a1), (2, vI a0), (0, vI a0), (1, vI a1)]) dX8_common_3 rfl (by decide) rfl ?_
  refine b_sub [1, 0] rfl ?_
  exact t8_common_4  a0 a1    100000 a0 a1 _ _ _ h
theorem s8_common (a0 : Int32) (a1 : Int32)  (w w' : Mem) (r : Int32) (h : f8_common  a0 a1  w = some (r, w')) : Sp yX8_common cX8_common 5 (some .int) 1 [vI a0, vI a1] w (some (vI r)) w' := sp_of (by decide) (fun _ => rfl) (fun _ => Nat.le_of_ble_eq_true rfl) (t8_common  a0 a1   _ _ _ h)
-- X8_isFree OneADayModel
def f8_isFree_5  (a1 : Int32) (a2 : Int32)  : Nat → Int32 → Int32 → Mem → Option (Int32 × Mem)
  | 0, _, _, _ => none
  | n + 1, x3, x4, w =>
  if a1 ≤ x4 then (if ¬ x3 &&& 1 = x3 then none else some (x3, w)) else (if a1 < 0 ∨ 8 ≤ Int32.toNatClampNeg a1 then none else if x4 < 0 ∨ 8 ≤ Int32.toNatClampNeg x4 then none else bndO (f8_common (w.1 32 5 (Int32.toNatClampNeg a1)) (w.1 32 5 (Int32.toNatClampNeg x4)) w) fun r6 w5 => if x3 = 0 then (bnd (x4 + 1) fun y8 => f8_isFree_5  a1 a2  n 0 y8 w5) else (bndO (f8_has a2 x4 w5) fun r10 w9 => if r10 = 0 then (bnd (x4 + 1) fun y12 => f8_isFree_5  a1 a2  n 1 y12 w9) else (if x4 < 0 ∨ 8 ≤ Int32.toNatClampNeg x4 then none else if r6 = 0 then none else if a1 < 0 ∨ 8 ≤ Int32.toNatClampNeg a1 then none else if r6 = 0 then none else if (jrem (w9.1 32 32 (Int32.toNatClampNeg x4)) r6) = (jrem (w9.1 32 32 (Int32.toNatClampNeg a1)) r6) then (bnd (x4 + 1) fun y18 => f8_isFree_5  a1 a2  n 0 y18 w9) else (bnd (x4 + 1) fun y19 => f8_isFree_5  a1 a2  n 1 y19 w9))))
set_option maxRecDepth 100000 in
set_option maxHeartbeats 4000000 in
theorem t8_isFree_5   (a1 : Int32) (a2 : Int32)    : ∀ (n : Nat) (x3 : Int32) (x4 : Int32) (w w' : Mem) (r : Int32), f8_isFree_5  a1 a2  n x3 x4 w = some (r, w') → Bk yX8_isFree cX8_isFree 6 (some .boolean) 2 5 [(0, vR 32 0), (1, vI a1), (2, vI a2), (3, vI x3), (4, vI x4)] [] w (some (vI r)) w' := by
  intro n
  induction n with
  | zero =>
    intro x3 x4 w w' r h
    cases (show (none : Option (Int32 × Mem)) = some _ from h)
  | succ n ih =>
    intro x3 x4 w w' r h
    rw [f8_isFree_5] at h
    refine b_iload dX8_isFree_5 (k := 4) rfl ?_
    refine b_iload_n dX8_isFree_7 rfl (k := 1) rfl ?_
    refine b_icge (tgt := 76) dX8_isFree_8 (by decide) (fun c1 => ?_) (fun c1 => ?_)
    · replace h := ifT c1 h
      refine b_iload_n dX8_isFree_76 rfl (k := 3) rfl ?_
      obtain ⟨g2, h⟩ := gdE h
      obtain ⟨rfl, rfl⟩ := rtE h
      exact b_zret rfl (Decidable.not_not.mp g2) dX8_isFree_77
    · replace h := ifF c1 h
      refine b_aload_n dX8_isFree_11 rfl (k := 0) rfl ?_
      refine b_getF fl8_13 ob32 rfl rfl dX8_isFree_12 ?_
      refine b_iload_n dX8_isFree_15 rfl (k := 1) rfl ?_
      obtain ⟨g3, h⟩ := gdE h
      refine b_iald ar32_5 g3 rfl dX8_isFree_16 ?_
      refine b_aload_n dX8_isFree_17 rfl (k := 0) rfl ?_
      refine b_getF fl8_13 ob32 rfl rfl dX8_isFree_18 ?_
      refine b_iload dX8_isFree_21 (k := 4) rfl ?_
      obtain ⟨g4, h⟩ := gdE h
      refine b_iald ar32_5 g4 rfl dX8_isFree_23 ?_
      obtain ⟨r6, w5, hw5, h⟩ := bdO h
      refine b_callSi ms8_common ml8_258 (s8_common (w.1 32 5 (Int32.toNatClampNeg a1)) (w.1 32 5 (Int32.toNatClampNeg x4))  _ _ _ hw5) rfl (by decide) (by decide) (Nat.le_of_ble_eq_true rfl) rfl dX8_isFree_24 ?_
      refine b_istore (lv' := [(5, vI r6), (0, vR 32 0), (1, vI a1), (2, vI a2), (3, vI x3), (4, vI x4)]) dX8_isFree_27 (by decide) rfl ?_
      refine b_iload_n dX8_isFree_29 rfl (k := 4) rfl ?_
      refine b_ifeq (tgt := 68) dX8_isFree_30 (by decide) (fun c7 => ?_) (fun c7 => ?_)
      · replace h := ifT c7 h
        refine b_iconst (v := 0) dX8_isFree_68 (by decide) ?_
        refine b_istore_n (lv' := [(3, vI 0), (5, vI r6), (0, vR 32 0), (1, vI a1), (2, vI a2), (4, vI x4)]) dX8_isFree_69 rfl (by decide) rfl ?_
        obtain ⟨y8, ey8, h⟩ := nmE h
        refine b_iinc (v := y8) (lv' := [(4, vI y8), (3, vI 0), (5, vI r6), (0, vR 32 0), (1, vI a1), (2, vI a2)]) dX8_isFree_70 (k := 5) rfl ey8.symm (by decide) rfl ?_
        refine b_goto (tgt := 5) dX8_isFree_73 (by decide) ?_
        refine b_sub [3, 4, 5, 1, 0] rfl ?_
        exact ih 0 y8 _ _ _ h
      · replace h := ifF c7 h
        refine b_iload_n dX8_isFree_33 rfl (k := 3) rfl ?_
        refine b_iload dX8_isFree_34 (k := 5) rfl ?_
        obtain ⟨r10, w9, hw9, h⟩ := bdO h
        refine b_callSi ms8_has ml8_196 (s8_has a2 x4  _ _ _ hw9) rfl (by decide) (by decide) (Nat.le_of_ble_eq_true rfl) rfl dX8_isFree_36 ?_
        refine b_ifeq (tgt := 64) dX8_isFree_39 (by decide) (fun c11 => ?_) (fun c11 => ?_)
        · replace h := ifT c11 h
          refine b_iconst (v := 1) dX8_isFree_64 (by decide) ?_
          refine b_goto (tgt := 69) dX8_isFree_65 (by decide) ?_
          refine b_istore_n (lv' := [(3, vI 1), (5, vI r6), (0, vR 32 0), (1, vI a1), (2, vI a2), (4, vI x4)]) dX8_isFree_69 rfl (by decide) rfl ?_
          obtain ⟨y12, ey12, h⟩ := nmE h
          refine b_iinc (v := y12) (lv' := [(4, vI y12), (3, vI 1), (5, vI r6), (0, vR 32 0), (1, vI a1), (2, vI a2)]) dX8_isFree_70 (k := 5) rfl ey12.symm (by decide) rfl ?_
          refine b_goto (tgt := 5) dX8_isFree_73 (by decide) ?_
          refine b_sub [3, 4, 5, 1, 0] rfl ?_
          exact ih 1 y12 _ _ _ h
        · replace h := ifF c11 h
          refine b_aload_n dX8_isFree_42 rfl (k := 1) rfl ?_
          refine b_getF fl8_62 ob32 rfl rfl dX8_isFree_43 ?_
          refine b_iload dX8_isFree_46 (k := 5) rfl ?_
          obtain ⟨g13, h⟩ := gdE h
          refine b_iald ar32_32 g13 rfl dX8_isFree_48 ?_
          refine b_iload dX8_isFree_49 (k := 0) rfl ?_
          obtain ⟨g14, h⟩ := gdE h
          refine b_irem dX8_isFree_51 g14 ?_
          refine b_aload_n dX8_isFree_52 rfl (k := 1) rfl ?_
          refine b_getF fl8_62 ob32 rfl rfl dX8_isFree_53 ?_
          refine b_iload_n dX8_isFree_56 rfl (k := 2) rfl ?_
          obtain ⟨g15, h⟩ := gdE h
          refine b_iald ar32_32 g15 rfl dX8_isFree_57 ?_
          refine b_iload dX8_isFree_58 (k := 0) rfl ?_
          obtain ⟨g16, h⟩ := gdE h
          refine b_irem dX8_isFree_60 g16 ?_
          refine b_iceq (tgt := 68) dX8_isFree_61 (by decide) (fun c17 => ?_) (fun c17 => ?_)
          · replace h := ifT c17 h
            refine b_iconst (v := 0) dX8_isFree_68 (by decide) ?_
            refine b_istore_n (lv' := [(3, vI 0), (5, vI r6), (0, vR 32 0), (1, vI a1), (2, vI a2), (4, vI x4)]) dX8_isFree_69 rfl (by decide) rfl ?_
            obtain ⟨y18, ey18, h⟩ := nmE h
            refine b_iinc (v := y18) (lv' := [(4, vI y18), (3, vI 0), (5, vI r6), (0, vR 32 0), (1, vI a1), (2, vI a2)]) dX8_isFree_70 (k := 5) rfl ey18.symm (by decide) rfl ?_
            refine b_goto (tgt := 5) dX8_isFree_73 (by decide) ?_
            refine b_sub [3, 4, 5, 1, 0] rfl ?_
            exact ih 0 y18 _ _ _ h
          · replace h := ifF c17 h
            refine b_iconst (v := 1) dX8_isFree_64 (by decide) ?_
            refine b_goto (tgt := 69) dX8_isFree_65 (by decide) ?_
            refine b_istore_n (lv' := [(3, vI 1), (5, vI r6), (0, vR 32 0), (1, vI a1), (2, vI a2), (4, vI x4)]) dX8_isFree_69 rfl (by decide) rfl ?_
            obtain ⟨y19, ey19, h⟩ := nmE h
            refine b_iinc (v := y19) (lv' := [(4, vI y19), (3, vI 1), (5, vI r6), (0, vR 32 0), (1, vI a1), (2, vI a2)]) dX8_isFree_70 (k := 5) rfl ey19.symm (by decide) rfl ?_
            refine b_goto (tgt := 5) dX8_isFree_73 (by decide) ?_
            refine b_sub [3, 4, 5, 1, 0] rfl ?_
            exact ih 1 y19 _ _ _ h
def f8_isFree  (a1 : Int32) (a2 : Int32)   (w : Mem) : Option (Int32 × Mem) :=
  f8_isFree_5  a1 a2  100000 1 0 w
set_option maxRecDepth 100000 in
set_option maxHeartbeats 4000000 in
theorem t8_isFree   (a1 : Int32) (a2 : Int32)     (w w' : Mem) (r : Int32) (h : f8_isFree  a1 a2   w = some (r, w')) : Bk yX8_isFree cX8_isFree 6 (some .boolean) 2 0 [(0, vR 32 0), (1, vI a1), (2, vI a2)] [] w (some (vI r)) w' := by
  unfold f8_isFree at h
  refine b_iconst (v := 1) dX8_isFree_0 (by decide) ?_
  refine b_istore_n (lv' := [(3, vI 1), (0, vR 32 0), (1, vI a1), (2, vI a2)]) dX8_isFree_1 rfl (by decide) rfl ?_
  refine b_iconst (v := 0) dX8_isFree_2 (by decide) ?_
  refine b_istore (lv' := [(4, vI 0), (3, vI 1), (0, vR 32 0), (1, vI a1), (2, vI a2)]) dX8_isFree_3 (by decide) rfl ?_
  refine b_sub [2, 3, 4, 1, 0] rfl ?_
  exact t8_isFree_5  a1 a2    100000 1 0 _ _ _ h
theorem s8_isFree (a1 : Int32) (a2 : Int32)  (w w' : Mem) (r : Int32) (h : f8_isFree  a1 a2  w = some (r, w')) : Sp yX8_isFree cX8_isFree 6 (some .boolean) 2 [vR 32 0, vI a1, vI a2] w (some (vI r)) w' := sp_of (by decide) (fun _ => rfl) (fun _ => Nat.le_of_ble_eq_true rfl) (t8_isFree  a1 a2   _ _ _ h)
