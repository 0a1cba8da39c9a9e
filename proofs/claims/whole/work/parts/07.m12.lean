-- X8_fromRow OneADayModel
def f8_fromRow_123  (a1 : Int32) (a2 : Int32)  (x3 : Int32) (w : Mem) : Option (Int32 × Mem) :=
  if (w.1 32 11 9) ≤ a2 then (some (x3, w)) else (bnd (sI w 32 11 7 ((w.1 32 11 7) + ((w.1 32 11 9) - a2))) fun w2 => bnd (sI w2 32 11 9 a2) fun w3 => some (x3, w3))
set_option maxRecDepth 100000 in
set_option maxHeartbeats 4000000 in
theorem t8_fromRow_123   (a1 : Int32) (a2 : Int32)    (x3 : Int32) (w w' : Mem) (r : Int32) (h : f8_fromRow_123  a1 a2  x3 w = some (r, w')) : Bk yX8_fromRow cX8_fromRow 5 (some .int) 2 123 [(0, vR 32 0), (2, vI a2), (3, vI x3)] [] w (some (vI r)) w' := by
  unfold f8_fromRow_123 at h
  refine b_aload_n dX8_fromRow_123 rfl (k := 0) rfl ?_
  refine b_getF fl8_25 ob32 rfl rfl dX8_fromRow_124 ?_
  refine b_bipush (v := 9) dX8_fromRow_127 (by decide) ?_
  refine b_iald ar32_11 (j0 := 9) (by decide) (by decide) dX8_fromRow_129 ?_
  refine b_iload_n dX8_fromRow_130 rfl (k := 1) rfl ?_
  refine b_icle (tgt := 161) dX8_fromRow_131 (by decide) (fun c1 => ?_) (fun c1 => ?_)
  · replace h := ifT c1 h
    refine b_iload_n dX8_fromRow_161 rfl (k := 2) rfl ?_
    obtain ⟨rfl, rfl⟩ := rtE h
    exact b_iret rfl dX8_fromRow_162
  · replace h := ifF c1 h
    refine b_aload_n dX8_fromRow_134 rfl (k := 0) rfl ?_
    refine b_getF fl8_25 ob32 rfl rfl dX8_fromRow_135 ?_
    refine b_bipush (v := 7) dX8_fromRow_138 (by decide) ?_
    refine b_dup2 dX8_fromRow_140 rfl rfl ?_
    refine b_iald ar32_11 (j0 := 7) (by decide) (by decide) dX8_fromRow_141 ?_
    refine b_aload_n dX8_fromRow_142 rfl (k := 0) rfl ?_
    refine b_getF fl8_25 ob32 rfl rfl dX8_fromRow_143 ?_
    refine b_bipush (v := 9) dX8_fromRow_146 (by decide) ?_
    refine b_iald ar32_11 (j0 := 9) (by decide) (by decide) dX8_fromRow_148 ?_
    refine b_iload_n dX8_fromRow_149 rfl (k := 1) rfl ?_
    refine b_isub dX8_fromRow_150 ?_
    refine b_iadd dX8_fromRow_151 ?_
    obtain ⟨w2, ew2, h⟩ := nmE h
    refine b_iast ar32_11 (j0 := 7) (by decide) (by decide) dX8_fromRow_152 ?_
    refine b_nmW ew2 ?_
    refine b_aload_n dX8_fromRow_153 rfl (k := 0) rfl ?_
    refine b_getF fl8_25 ob32 rfl rfl dX8_fromRow_154 ?_
    refine b_bipush (v := 9) dX8_fromRow_157 (by decide) ?_
    refine b_iload_n dX8_fromRow_159 rfl (k := 1) rfl ?_
    obtain ⟨w3, ew3, h⟩ := nmE h
    refine b_iast ar32_11 (j0 := 9) (by decide) (by decide) dX8_fromRow_160 ?_
    refine b_nmW ew3 ?_
    refine b_iload_n dX8_fromRow_161 rfl (k := 2) rfl ?_
    obtain ⟨rfl, rfl⟩ := rtE h
    exact b_iret rfl dX8_fromRow_162
def f8_fromRow_85  (a1 : Int32) (a2 : Int32)  : Nat → Int32 → Int32 → Mem → Option (Int32 × Mem)
  | 0, _, _, _ => none
  | n + 1, x3, x4, w =>
  if (w.1 32 11 9) ≤ x4 then (f8_fromRow_123  a1 a2  x3 w) else (if (27 + x4) < 0 ∨ 103 ≤ Int32.toNatClampNeg (27 + x4) then none else if (26 + x4) < 0 ∨ 103 ≤ Int32.toNatClampNeg (26 + x4) then none else bnd (sI w 32 11 (Int32.toNatClampNeg (26 + x4)) (w.1 32 11 (Int32.toNatClampNeg (27 + x4)))) fun w4 => bnd (x4 + 1) fun y5 => f8_fromRow_85  a1 a2  n x3 y5 w4)
set_option maxRecDepth 100000 in
set_option maxHeartbeats 4000000 in
theorem t8_fromRow_85   (a1 : Int32) (a2 : Int32)    : ∀ (n : Nat) (x3 : Int32) (x4 : Int32) (w w' : Mem) (r : Int32), f8_fromRow_85  a1 a2  n x3 x4 w = some (r, w') → Bk yX8_fromRow cX8_fromRow 5 (some .int) 2 85 [(0, vR 32 0), (2, vI a2), (3, vI x3), (4, vI x4)] [] w (some (vI r)) w' := by
  intro n
  induction n with
  | zero =>
    intro x3 x4 w w' r h
    cases (show (none : Option (Int32 × Mem)) = some _ from h)
  | succ n ih =>
    intro x3 x4 w w' r h
    rw [f8_fromRow_85] at h
    refine b_iload dX8_fromRow_85 (k := 3) rfl ?_
    refine b_aload_n dX8_fromRow_87 rfl (k := 0) rfl ?_
    refine b_getF fl8_25 ob32 rfl rfl dX8_fromRow_88 ?_
    refine b_bipush (v := 9) dX8_fromRow_91 (by decide) ?_
    refine b_iald ar32_11 (j0 := 9) (by decide) (by decide) dX8_fromRow_93 ?_
    refine b_icge (tgt := 123) dX8_fromRow_94 (by decide) (fun c1 => ?_) (fun c1 => ?_)
    · replace h := ifT c1 h
      refine b_sub [0, 1, 2] rfl ?_
      exact t8_fromRow_123  a1 a2    x3 _ _ _ h
    · replace h := ifF c1 h
      refine b_aload_n dX8_fromRow_97 rfl (k := 0) rfl ?_
      refine b_getF fl8_25 ob32 rfl rfl dX8_fromRow_98 ?_
      refine b_bipush (v := 26) dX8_fromRow_101 (by decide) ?_
      refine b_iload dX8_fromRow_103 (k := 3) rfl ?_
      refine b_iadd dX8_fromRow_105 ?_
      refine b_aload_n dX8_fromRow_106 rfl (k := 0) rfl ?_
      refine b_getF fl8_25 ob32 rfl rfl dX8_fromRow_107 ?_
      refine b_bipush (v := 27) dX8_fromRow_110 (by decide) ?_
      refine b_iload dX8_fromRow_112 (k := 3) rfl ?_
      refine b_iadd dX8_fromRow_114 ?_
      obtain ⟨g2, h⟩ := gdE h
      refine b_iald ar32_11 g2 rfl dX8_fromRow_115 ?_
      obtain ⟨g3, h⟩ := gdE h
      obtain ⟨w4, ew4, h⟩ := nmE h
      refine b_iast ar32_11 g3 rfl dX8_fromRow_116 ?_
      refine b_nmW ew4 ?_
      obtain ⟨y5, ey5, h⟩ := nmE h
      refine b_iinc (v := y5) (lv' := [(4, vI y5), (0, vR 32 0), (2, vI a2), (3, vI x3)]) dX8_fromRow_117 (k := 3) rfl ey5.symm (by decide) rfl ?_
      refine b_goto (tgt := 85) dX8_fromRow_120 (by decide) ?_
      refine b_sub [1, 2, 3, 0] rfl ?_
      exact ih x3 y5 _ _ _ h
def f8_fromRow_51  (a1 : Int32) (a2 : Int32)   (w : Mem) : Option (Int32 × Mem) :=
  if (w.1 32 11 9) = 0 then (some ((-1), w)) else (bnd (w.1 32 11 26) fun y2 => bnd (sI w 32 11 9 ((w.1 32 11 9) - 1)) fun w3 => f8_fromRow_85  a1 a2  100000 y2 0 w3)
set_option maxRecDepth 100000 in
set_option maxHeartbeats 4000000 in
theorem t8_fromRow_51   (a1 : Int32) (a2 : Int32)     (w w' : Mem) (r : Int32) (h : f8_fromRow_51  a1 a2   w = some (r, w')) : Bk yX8_fromRow cX8_fromRow 5 (some .int) 2 51 [(0, vR 32 0), (2, vI a2)] [] w (some (vI r)) w' := by
  unfold f8_fromRow_51 at h
  refine b_aload_n dX8_fromRow_51 rfl (k := 0) rfl ?_
  refine b_getF fl8_25 ob32 rfl rfl dX8_fromRow_52 ?_
  refine b_bipush (v := 9) dX8_fromRow_55 (by decide) ?_
  refine b_iald ar32_11 (j0 := 9) (by decide) (by decide) dX8_fromRow_57 ?_
  refine b_ifne (tgt := 63) dX8_fromRow_58 (by decide) (fun c1 => ?_) (fun c1 => ?_)
  · replace h := ifF c1 h
    refine b_aload_n dX8_fromRow_63 rfl (k := 0) rfl ?_
    refine b_getF fl8_25 ob32 rfl rfl dX8_fromRow_64 ?_
    refine b_bipush (v := 26) dX8_fromRow_67 (by decide) ?_
    refine b_iald ar32_11 (j0 := 26) (by decide) (by decide) dX8_fromRow_69 ?_
    obtain ⟨y2, ey2, h⟩ := nmE h
    refine b_nmI ey2 ?_
    refine b_istore_n (lv' := [(3, vI y2), (0, vR 32 0), (2, vI a2)]) dX8_fromRow_70 rfl (by decide) rfl ?_
    refine b_aload_n dX8_fromRow_71 rfl (k := 1) rfl ?_
    refine b_getF fl8_25 ob32 rfl rfl dX8_fromRow_72 ?_
    refine b_bipush (v := 9) dX8_fromRow_75 (by decide) ?_
    refine b_dup2 dX8_fromRow_77 rfl rfl ?_
    refine b_iald ar32_11 (j0 := 9) (by decide) (by decide) dX8_fromRow_78 ?_
    refine b_iconst (v := 1) dX8_fromRow_79 (by decide) ?_
    refine b_isub dX8_fromRow_80 ?_
    obtain ⟨w3, ew3, h⟩ := nmE h
    refine b_iast ar32_11 (j0 := 9) (by decide) (by decide) dX8_fromRow_81 ?_
    refine b_nmW ew3 ?_
    refine b_iconst (v := 0) dX8_fromRow_82 (by decide) ?_
    refine b_istore (lv' := [(4, vI 0), (3, vI y2), (0, vR 32 0), (2, vI a2)]) dX8_fromRow_83 (by decide) rfl ?_
    refine b_sub [2, 3, 1, 0] rfl ?_
    exact t8_fromRow_85  a1 a2    100000 y2 0 _ _ _ h
  · replace h := ifT c1 h
    refine b_iconst (v := (-1)) dX8_fromRow_61 (by decide) ?_
    obtain ⟨rfl, rfl⟩ := rtE h
    exact b_iret rfl dX8_fromRow_62
def f8_fromRow_2  (a1 : Int32) (a2 : Int32)  : Nat → Int32 → Mem → Option (Int32 × Mem)
  | 0, _, _ => none
  | n + 1, x3, w =>
  if (w.1 32 3 0) ≤ x3 then (f8_fromRow_51  a1 a2   w) else (bndO (f8_has a1 x3 w) fun r3 w2 => if r3 = 0 then (bnd (x3 + 1) fun y5 => f8_fromRow_2  a1 a2  n y5 w2) else (if (26 + (w2.1 32 11 9)) < 0 ∨ 103 ≤ Int32.toNatClampNeg (26 + (w2.1 32 11 9)) then none else bnd (sI w2 32 11 (Int32.toNatClampNeg (26 + (w2.1 32 11 9))) x3) fun w7 => bnd (sI w7 32 11 9 ((w7.1 32 11 9) + 1)) fun w8 => bnd (x3 + 1) fun y9 => f8_fromRow_2  a1 a2  n y9 w8))
set_option maxRecDepth 100000 in
set_option maxHeartbeats 4000000 in
theorem t8_fromRow_2   (a1 : Int32) (a2 : Int32)    : ∀ (n : Nat) (x3 : Int32) (w w' : Mem) (r : Int32), f8_fromRow_2  a1 a2  n x3 w = some (r, w') → Bk yX8_fromRow cX8_fromRow 5 (some .int) 2 2 [(0, vR 32 0), (1, vI a1), (2, vI a2), (3, vI x3)] [] w (some (vI r)) w' := by
  intro n
  induction n with
  | zero =>
    intro x3 w w' r h
    cases (show (none : Option (Int32 × Mem)) = some _ from h)
  | succ n ih =>
    intro x3 w w' r h
    rw [f8_fromRow_2] at h
    refine b_iload_n dX8_fromRow_2 rfl (k := 3) rfl ?_
    refine b_aload_n dX8_fromRow_3 rfl (k := 0) rfl ?_
    refine b_getI fl8_94 ob32 rfl dX8_fromRow_4 ?_
    refine b_icge (tgt := 51) dX8_fromRow_7 (by decide) (fun c1 => ?_) (fun c1 => ?_)
    · replace h := ifT c1 h
      refine b_sub [0, 2] rfl ?_
      exact t8_fromRow_51  a1 a2     _ _ _ h
    · replace h := ifF c1 h
      refine b_iload_n dX8_fromRow_10 rfl (k := 1) rfl ?_
      refine b_iload_n dX8_fromRow_11 rfl (k := 3) rfl ?_
      obtain ⟨r3, w2, hw2, h⟩ := bdO h
      refine b_callSi ms8_has ml8_196 (s8_has a1 x3  _ _ _ hw2) rfl (by decide) (by decide) (Nat.le_of_ble_eq_true rfl) rfl dX8_fromRow_12 ?_
      refine b_ifeq (tgt := 45) dX8_fromRow_15 (by decide) (fun c4 => ?_) (fun c4 => ?_)
      · replace h := ifT c4 h
        obtain ⟨y5, ey5, h⟩ := nmE h
        refine b_iinc (v := y5) (lv' := [(3, vI y5), (0, vR 32 0), (1, vI a1), (2, vI a2)]) dX8_fromRow_45 (k := 3) rfl ey5.symm (by decide) rfl ?_
        refine b_goto (tgt := 2) dX8_fromRow_48 (by decide) ?_
        refine b_sub [1, 2, 3, 0] rfl ?_
        exact ih y5 _ _ _ h
      · replace h := ifF c4 h
        refine b_aload_n dX8_fromRow_18 rfl (k := 0) rfl ?_
        refine b_getF fl8_25 ob32 rfl rfl dX8_fromRow_19 ?_
        refine b_bipush (v := 26) dX8_fromRow_22 (by decide) ?_
        refine b_aload_n dX8_fromRow_24 rfl (k := 0) rfl ?_
        refine b_getF fl8_25 ob32 rfl rfl dX8_fromRow_25 ?_
        refine b_bipush (v := 9) dX8_fromRow_28 (by decide) ?_
        refine b_iald ar32_11 (j0 := 9) (by decide) (by decide) dX8_fromRow_30 ?_
        refine b_iadd dX8_fromRow_31 ?_
        refine b_iload_n dX8_fromRow_32 rfl (k := 3) rfl ?_
        obtain ⟨g6, h⟩ := gdE h
        obtain ⟨w7, ew7, h⟩ := nmE h
        refine b_iast ar32_11 g6 rfl dX8_fromRow_33 ?_
        refine b_nmW ew7 ?_
        refine b_aload_n dX8_fromRow_34 rfl (k := 0) rfl ?_
        refine b_getF fl8_25 ob32 rfl rfl dX8_fromRow_35 ?_
        refine b_bipush (v := 9) dX8_fromRow_38 (by decide) ?_
        refine b_dup2 dX8_fromRow_40 rfl rfl ?_
        refine b_iald ar32_11 (j0 := 9) (by decide) (by decide) dX8_fromRow_41 ?_
        refine b_iconst (v := 1) dX8_fromRow_42 (by decide) ?_
        refine b_iadd dX8_fromRow_43 ?_
        obtain ⟨w8, ew8, h⟩ := nmE h
        refine b_iast ar32_11 (j0 := 9) (by decide) (by decide) dX8_fromRow_44 ?_
        refine b_nmW ew8 ?_
        obtain ⟨y9, ey9, h⟩ := nmE h
        refine b_iinc (v := y9) (lv' := [(3, vI y9), (0, vR 32 0), (1, vI a1), (2, vI a2)]) dX8_fromRow_45 (k := 3) rfl ey9.symm (by decide) rfl ?_
        refine b_goto (tgt := 2) dX8_fromRow_48 (by decide) ?_
        refine b_sub [1, 2, 3, 0] rfl ?_
        exact ih y9 _ _ _ h
def f8_fromRow  (a1 : Int32) (a2 : Int32)   (w : Mem) : Option (Int32 × Mem) :=
  f8_fromRow_2  a1 a2  100000 0 w
set_option maxRecDepth 100000 in
set_option maxHeartbeats 4000000 in
theorem t8_fromRow   (a1 : Int32) (a2 : Int32)     (w w' : Mem) (r : Int32) (h : f8_fromRow  a1 a2   w = some (r, w')) : Bk yX8_fromRow cX8_fromRow 5 (some .int) 2 0 [(0, vR 32 0), (1, vI a1), (2, vI a2)] [] w (some (vI r)) w' := by
  unfold f8_fromRow at h
  refine b_iconst (v := 0) dX8_fromRow_0 (by decide) ?_
  refine b_istore_n (lv' := [(3, vI 0), (0, vR 32 0), (1, vI a1), (2, vI a2)]) dX8_fromRow_1 rfl (by decide) rfl ?_
  refine b_sub [1, 2, 3, 0] rfl ?_
  exact t8_fromRow_2  a1 a2    100000 0 _ _ _ h
theorem s8_fromRow (a1 : Int32) (a2 : Int32)  (w w' : Mem) (r : Int32) (h : f8_fromRow  a1 a2  w = some (r, w')) : Sp yX8_fromRow cX8_fromRow 5 (some .int) 2 [vR 32 0, vI a1, vI a2] w (some (vI r)) w' := sp_of (by decide) (fun _ => rfl) (fun _ => Nat.le_of_ble_eq_true rfl) (t8_fromRow  a1 a2   _ _ _ h)
-- X8_pass OneADayModel
def f8_pass_255  (a1 : Int32)  (s1 : Int32) (s2 : Int32) (w : Mem) : Option Mem :=
  if s1 < 0 ∨ 103 ≤ Int32.toNatClampNeg s1 then none else bnd (sI w 32 11 (Int32.toNatClampNeg s1) s2) fun w2 => bnd (sI w2 32 11 0 ((w2.1 32 11 0) + 1)) fun w3 => some w3
set_option maxRecDepth 100000 in
set_option maxHeartbeats 4000000 in
theorem t8_pass_255   (a1 : Int32)    (s1 : Int32) (s2 : Int32) (w w' : Mem) (h : f8_pass_255  a1  s1 s2 w = some w') : Bk yX8_pass cX8_pass 7 none 5 255 [(0, vR 32 0)] [vI s2, vI s1, vR 32 12] w none w' := by
  unfold f8_pass_255 at h
  obtain ⟨g1, h⟩ := gdE h
  obtain ⟨w2, ew2, h⟩ := nmE h
  refine b_iast ar32_11 g1 rfl dX8_pass_255 ?_
  refine b_nmW ew2 ?_
  refine b_aload_n dX8_pass_256 rfl (k := 0) rfl ?_
  refine b_getF fl8_25 ob32 rfl rfl dX8_pass_257 ?_
  refine b_iconst (v := 0) dX8_pass_260 (by decide) ?_
  refine b_dup2 dX8_pass_261 rfl rfl ?_
  refine b_iald ar32_11 (j0 := 0) (by decide) (by decide) dX8_pass_262 ?_
  refine b_iconst (v := 1) dX8_pass_263 (by decide) ?_
  refine b_iadd dX8_pass_264 ?_
  obtain ⟨w3, ew3, h⟩ := nmE h
  refine b_iast ar32_11 (j0 := 0) (by decide) (by decide) dX8_pass_265 ?_
  refine b_nmW ew3 ?_
  cases h
  exact b_vret rfl dX8_pass_266
def f8_pass_231  (a1 : Int32)  (s1 : Int32) (s2 : Int32) (w : Mem) : Option Mem :=
  if s1 < 0 ∨ 103 ≤ Int32.toNatClampNeg s1 then none else bnd (sI w 32 11 (Int32.toNatClampNeg s1) s2) fun w2 => if (w2.1 32 11 1) < (w2.1 32 0 0) then (f8_pass_255  a1  2 0 w2) else (f8_pass_255  a1  2 1 w2)
set_option maxRecDepth 100000 in
set_option maxHeartbeats 4000000 in
theorem t8_pass_231   (a1 : Int32)    (s1 : Int32) (s2 : Int32) (w w' : Mem) (h : f8_pass_231  a1  s1 s2 w = some w') : Bk yX8_pass cX8_pass 7 none 5 231 [(0, vR 32 0)] [vI s2, vI s1, vR 32 12] w none w' := by
  unfold f8_pass_231 at h
  obtain ⟨g1, h⟩ := gdE h
  obtain ⟨w2, ew2, h⟩ := nmE h
  refine b_iast ar32_11 g1 rfl dX8_pass_231 ?_
  refine b_nmW ew2 ?_
  refine b_aload_n dX8_pass_232 rfl (k := 0) rfl ?_
  refine b_getF fl8_25 ob32 rfl rfl dX8_pass_233 ?_
  refine b_iconst (v := 2) dX8_pass_236 (by decide) ?_
  refine b_aload_n dX8_pass_237 rfl (k := 0) rfl ?_
  refine b_getF fl8_25 ob32 rfl rfl dX8_pass_238 ?_
  refine b_iconst (v := 1) dX8_pass_241 (by decide) ?_
  refine b_iald ar32_11 (j0 := 1) (by decide) (by decide) dX8_pass_242 ?_
  refine b_aload_n dX8_pass_243 rfl (k := 0) rfl ?_
  refine b_getI fl8_155 ob32 rfl dX8_pass_244 ?_
  refine b_iclt (tgt := 254) dX8_pass_247 (by decide) (fun c3 => ?_) (fun c3 => ?_)
  · replace h := ifT c3 h
    refine b_iconst (v := 0) dX8_pass_254 (by decide) ?_
    refine b_sub [0] rfl ?_
    exact t8_pass_255  a1    2 0 _ _  h
  · replace h := ifF c3 h
    refine b_iconst (v := 1) dX8_pass_250 (by decide) ?_
    refine b_goto (tgt := 255) dX8_pass_251 (by decide) ?_
    refine b_sub [0] rfl ?_
    exact t8_pass_255  a1    2 1 _ _  h
def f8_pass_207  (a1 : Int32)  (x6 : Int32) (s1 : Int32) (s2 : Int32) (s3 : Int32) (w : Mem) : Option Mem :=
  if s1 < 0 ∨ 103 ≤ Int32.toNatClampNeg s1 then none else bnd (sI w 32 11 (Int32.toNatClampNeg s1) (s2 + s3)) fun w2 => if x6 = 0 then (f8_pass_231  a1  1 0 w2) else (f8_pass_231  a1  1 ((w2.1 32 11 1) + 1) w2)
set_option maxRecDepth 100000 in
set_option maxHeartbeats 4000000 in
theorem t8_pass_207   (a1 : Int32)    (x6 : Int32) (s1 : Int32) (s2 : Int32) (s3 : Int32) (w w' : Mem) (h : f8_pass_207  a1  x6 s1 s2 s3 w = some w') : Bk yX8_pass cX8_pass 7 none 5 207 [(0, vR 32 0), (6, vI x6)] [vI s3, vI s2, vI s1, vR 32 12] w none w' := by
  unfold f8_pass_207 at h
  refine b_iadd dX8_pass_207 ?_
  obtain ⟨g1, h⟩ := gdE h
  obtain ⟨w2, ew2, h⟩ := nmE h
  refine b_iast ar32_11 g1 rfl dX8_pass_208 ?_
  refine b_nmW ew2 ?_
  refine b_aload_n dX8_pass_209 rfl (k := 0) rfl ?_
  refine b_getF fl8_25 ob32 rfl rfl dX8_pass_210 ?_
  refine b_iconst (v := 1) dX8_pass_213 (by decide) ?_
  refine b_iload dX8_pass_214 (k := 1) rfl ?_
  refine b_ifeq (tgt := 230) dX8_pass_216 (by decide) (fun c3 => ?_) (fun c3 => ?_)
  · replace h := ifT c3 h
    refine b_iconst (v := 0) dX8_pass_230 (by decide) ?_
    refine b_sub [0] rfl ?_
    exact t8_pass_231  a1    1 0 _ _  h
  · replace h := ifF c3 h
    refine b_aload_n dX8_pass_219 rfl (k := 0) rfl ?_
    refine b_getF fl8_25 ob32 rfl rfl dX8_pass_220 ?_
    refine b_iconst (v := 1) dX8_pass_223 (by decide) ?_
    refine b_iald ar32_11 (j0 := 1) (by decide) (by decide) dX8_pass_224 ?_
    refine b_iconst (v := 1) dX8_pass_225 (by decide) ?_
    refine b_iadd dX8_pass_226 ?_
    refine b_goto (tgt := 231) dX8_pass_227 (by decide) ?_
    refine b_sub [0] rfl ?_
    exact t8_pass_231  a1    1 ((w2.1 32 11 1) + 1) _ _  h
def f8_pass_188  (a1 : Int32)  (s0 : Int32) (w : Mem) : Option Mem :=
  if s0 = 0 then (f8_pass_207  a1  s0 5 (w.1 32 11 5) 0 w) else (f8_pass_207  a1  s0 5 (w.1 32 11 5) 1 w)
set_option maxRecDepth 100000 in
set_option maxHeartbeats 4000000 in
theorem t8_pass_188   (a1 : Int32)    (s0 : Int32) (w w' : Mem) (h : f8_pass_188  a1  s0 w = some w') : Bk yX8_pass cX8_pass 7 none 5 188 [(0, vR 32 0)] [vI s0] w none w' := by
  unfold f8_pass_188 at h
  refine b_istore (lv' := [(6, vI s0), (0, vR 32 0)]) dX8_pass_188 (by decide) rfl ?_
  refine b_aload_n dX8_pass_190 rfl (k := 1) rfl ?_
  refine b_getF fl8_25 ob32 rfl rfl dX8_pass_191 ?_
  refine b_iconst (v := 5) dX8_pass_194 (by decide) ?_
  refine b_dup2 dX8_pass_195 rfl rfl ?_
  refine b_iald ar32_11 (j0 := 5) (by decide) (by decide) dX8_pass_196 ?_
  refine b_iload dX8_pass_197 (k := 0) rfl ?_
  refine b_ifeq (tgt := 206) dX8_pass_199 (by decide) (fun c1 => ?_) (fun c1 => ?_)
  · replace h := ifT c1 h
    refine b_iconst (v := 0) dX8_pass_206 (by decide) ?_
    refine b_sub [1, 0] rfl ?_
    exact t8_pass_207  a1    s0 5 (w.1 32 11 5) 0 _ _  h
  · replace h := ifF c1 h
    refine b_iconst (v := 1) dX8_pass_202 (by decide) ?_
    refine b_goto (tgt := 207) dX8_pass_203 (by decide) ?_
    refine b_sub [1, 0] rfl ?_
    exact t8_pass_207  a1    s0 5 (w.1 32 11 5) 1 _ _  h
def f8_pass_171  (a1 : Int32)  (x4 : Int32) (x5 : Int32) (s1 : Int32) (s2 : Int32) (s3 : Int32) (w : Mem) : Option Mem :=
  if s1 < 0 ∨ 103 ≤ Int32.toNatClampNeg s1 then none else bnd (sI w 32 11 (Int32.toNatClampNeg s1) (s2 + s3)) fun w2 => if 0 ≤ x4 then (f8_pass_188  a1  0 w2) else (if x5 = 0 then (f8_pass_188  a1  1 w2) else (f8_pass_188  a1  0 w2))
set_option maxRecDepth 100000 in
set_option maxHeartbeats 4000000 in
theorem t8_pass_171   (a1 : Int32)    (x4 : Int32) (x5 : Int32) (s1 : Int32) (s2 : Int32) (s3 : Int32) (w w' : Mem) (h : f8_pass_171  a1  x4 x5 s1 s2 s3 w = some w') : Bk yX8_pass cX8_pass 7 none 5 171 [(0, vR 32 0), (4, vI x4), (5, vI x5)] [vI s3, vI s2, vI s1, vR 32 12] w none w' := by
  unfold f8_pass_171 at h
  refine b_iadd dX8_pass_171 ?_
  obtain ⟨g1, h⟩ := gdE h
  obtain ⟨w2, ew2, h⟩ := nmE h
  refine b_iast ar32_11 g1 rfl dX8_pass_172 ?_
  refine b_nmW ew2 ?_
  refine b_iload dX8_pass_173 (k := 1) rfl ?_
  refine b_ifge (tgt := 187) dX8_pass_175 (by decide) (fun c3 => ?_) (fun c3 => ?_)
  · replace h := ifT c3 h
    refine b_iconst (v := 0) dX8_pass_187 (by decide) ?_
    refine b_sub [0] rfl ?_
    exact t8_pass_188  a1    0 _ _  h
  · replace h := ifF c3 h
    refine b_iload dX8_pass_178 (k := 2) rfl ?_
    refine b_ifne (tgt := 187) dX8_pass_180 (by decide) (fun c4 => ?_) (fun c4 => ?_)
    · replace h := ifF c4 h
      refine b_iconst (v := 0) dX8_pass_187 (by decide) ?_
      refine b_sub [0] rfl ?_
      exact t8_pass_188  a1    0 _ _  h
    · replace h := ifT c4 h
      refine b_iconst (v := 1) dX8_pass_183 (by decide) ?_
      refine b_goto (tgt := 188) dX8_pass_184 (by decide) ?_
      refine b_sub [0] rfl ?_
      exact t8_pass_188  a1    1 _ _  h
def f8_pass_154  (a1 : Int32)  (x4 : Int32) (x5 : Int32) (w : Mem) : Option Mem :=
  if x5 = 0 then (f8_pass_171  a1  x4 x5 4 (w.1 32 11 4) 0 w) else (f8_pass_171  a1  x4 x5 4 (w.1 32 11 4) 1 w)
set_option maxRecDepth 100000 in
set_option maxHeartbeats 4000000 in
theorem t8_pass_154   (a1 : Int32)    (x4 : Int32) (x5 : Int32) (w w' : Mem) (h : f8_pass_154  a1  x4 x5 w = some w') : Bk yX8_pass cX8_pass 7 none 5 154 [(0, vR 32 0), (4, vI x4), (5, vI x5)] [] w none w' := by
  unfold f8_pass_154 at h
  refine b_aload_n dX8_pass_154 rfl (k := 0) rfl ?_
  refine b_getF fl8_25 ob32 rfl rfl dX8_pass_155 ?_
  refine b_iconst (v := 4) dX8_pass_158 (by decide) ?_
  refine b_dup2 dX8_pass_159 rfl rfl ?_
  refine b_iald ar32_11 (j0 := 4) (by decide) (by decide) dX8_pass_160 ?_
  refine b_iload dX8_pass_161 (k := 2) rfl ?_
  refine b_ifeq (tgt := 170) dX8_pass_163 (by decide) (fun c1 => ?_) (fun c1 => ?_)
  · replace h := ifT c1 h
    refine b_iconst (v := 0) dX8_pass_170 (by decide) ?_
    refine b_sub [0, 1, 2] rfl ?_
    exact t8_pass_171  a1    x4 x5 4 (w.1 32 11 4) 0 _ _  h
  · replace h := ifF c1 h
    refine b_iconst (v := 1) dX8_pass_166 (by decide) ?_
    refine b_goto (tgt := 171) dX8_pass_167 (by decide) ?_
    refine b_sub [0, 1, 2] rfl ?_
    exact t8_pass_171  a1    x4 x5 4 (w.1 32 11 4) 1 _ _  h
def f8_pass_112  (a1 : Int32)  (x2 : Int32) (x4 : Int32) (s0 : Int32) (w : Mem) : Option Mem :=
  if (43 + (jrem x2 60)) < 0 ∨ 103 ≤ Int32.toNatClampNeg (43 + (jrem x2 60)) then none else bnd (sI w 32 11 (Int32.toNatClampNeg (43 + (jrem x2 60))) x4) fun w2 => if x4 < 0 then (f8_pass_154  a1  x4 s0 w2) else (if (18 + x4) < 0 ∨ 103 ≤ Int32.toNatClampNeg (18 + x4) then none else bnd (sI w2 32 11 (Int32.toNatClampNeg (18 + x4)) x2) fun w5 => bnd (sI w5 32 11 3 ((w5.1 32 11 3) + 1)) fun w6 => f8_pass_154  a1  x4 s0 w6)
set_option maxRecDepth 100000 in
set_option maxHeartbeats 4000000 in
theorem t8_pass_112   (a1 : Int32)    (x2 : Int32) (x4 : Int32) (s0 : Int32) (w w' : Mem) (h : f8_pass_112  a1  x2 x4 s0 w = some w') : Bk yX8_pass cX8_pass 7 none 5 112 [(0, vR 32 0), (2, vI x2), (4, vI x4)] [vI s0] w none w' := by
  unfold f8_pass_112 at h
  refine b_istore (lv' := [(5, vI s0), (0, vR 32 0), (2, vI x2), (4, vI x4)]) dX8_pass_112 (by decide) rfl ?_
  refine b_aload_n dX8_pass_114 rfl (k := 1) rfl ?_
  refine b_getF fl8_25 ob32 rfl rfl dX8_pass_115 ?_
  refine b_bipush (v := 43) dX8_pass_118 (by decide) ?_
  refine b_iload_n dX8_pass_120 rfl (k := 2) rfl ?_
  refine b_bipush (v := 60) dX8_pass_121 (by decide) ?_
  refine b_irem dX8_pass_123 (by decide) ?_
  refine b_iadd dX8_pass_124 ?_
  refine b_iload dX8_pass_125 (k := 3) rfl ?_
  obtain ⟨g1, h⟩ := gdE h
  obtain ⟨w2, ew2, h⟩ := nmE h
  refine b_iast ar32_11 g1 rfl dX8_pass_127 ?_
  refine b_nmW ew2 ?_
  refine b_iload dX8_pass_128 (k := 3) rfl ?_
  refine b_iflt (tgt := 154) dX8_pass_130 (by decide) (fun c3 => ?_) (fun c3 => ?_)
  · replace h := ifT c3 h
    refine b_sub [1, 3, 0] rfl ?_
    exact t8_pass_154  a1    x4 s0 _ _  h
  · replace h := ifF c3 h
    refine b_aload_n dX8_pass_133 rfl (k := 1) rfl ?_
    refine b_getF fl8_25 ob32 rfl rfl dX8_pass_134 ?_
    refine b_bipush (v := 18) dX8_pass_137 (by decide) ?_
    refine b_iload dX8_pass_139 (k := 3) rfl ?_
    refine b_iadd dX8_pass_141 ?_
    refine b_iload_n dX8_pass_142 rfl (k := 2) rfl ?_
    obtain ⟨g4, h⟩ := gdE h
    obtain ⟨w5, ew5, h⟩ := nmE h
    refine b_iast ar32_11 g4 rfl dX8_pass_143 ?_
    refine b_nmW ew5 ?_
    refine b_aload_n dX8_pass_144 rfl (k := 1) rfl ?_
    refine b_getF fl8_25 ob32 rfl rfl dX8_pass_145 ?_
    refine b_iconst (v := 3) dX8_pass_148 (by decide) ?_
    refine b_dup2 dX8_pass_149 rfl rfl ?_
    refine b_iald ar32_11 (j0 := 3) (by decide) (by decide) dX8_pass_150 ?_
    refine b_iconst (v := 1) dX8_pass_151 (by decide) ?_
    refine b_iadd dX8_pass_152 ?_
    obtain ⟨w6, ew6, h⟩ := nmE h
    refine b_iast ar32_11 (j0 := 3) (by decide) (by decide) dX8_pass_153 ?_
    refine b_nmW ew6 ?_
    refine b_sub [1, 3, 0] rfl ?_
    exact t8_pass_154  a1    x4 s0 _ _  h
def f8_pass_93  (a1 : Int32)  (x2 : Int32) (x3 : Int32) (s0 : Int32) (w : Mem) : Option Mem :=
  if a1 = 0 then (bndO (f8_bits x3 w) fun r3 w2 => if r3 ≤ 1 then (f8_pass_112  a1  x2 s0 0 w2) else (f8_pass_112  a1  x2 s0 1 w2)) else (f8_pass_112  a1  x2 s0 0 w)
set_option maxRecDepth 100000 in
set_option maxHeartbeats 4000000 in
theorem t8_pass_93   (a1 : Int32)    (x2 : Int32) (x3 : Int32) (s0 : Int32) (w w' : Mem) (h : f8_pass_93  a1  x2 x3 s0 w = some w') : Bk yX8_pass cX8_pass 7 none 5 93 [(0, vR 32 0), (1, vI a1), (2, vI x2), (3, vI x3)] [vI s0] w none w' := by
  unfold f8_pass_93 at h
  refine b_istore (lv' := [(4, vI s0), (0, vR 32 0), (1, vI a1), (2, vI x2), (3, vI x3)]) dX8_pass_93 (by decide) rfl ?_
  refine b_iload_n dX8_pass_95 rfl (k := 2) rfl ?_
  refine b_ifne (tgt := 111) dX8_pass_96 (by decide) (fun c1 => ?_) (fun c1 => ?_)
  · replace h := ifF c1 h
    refine b_iconst (v := 0) dX8_pass_111 (by decide) ?_
    refine b_sub [1, 3, 0] rfl ?_
    exact t8_pass_112  a1    x2 s0 0 _ _  h
  · replace h := ifT c1 h
    refine b_iload_n dX8_pass_99 rfl (k := 4) rfl ?_
    obtain ⟨r3, w2, hw2, h⟩ := bdO h
    refine b_callSi ms8_bits ml8_216 (s8_bits x3  _ _ _ hw2) rfl (by decide) (by decide) (Nat.le_of_ble_eq_true rfl) rfl dX8_pass_100 ?_
    refine b_iconst (v := 1) dX8_pass_103 (by decide) ?_
    refine b_icle (tgt := 111) dX8_pass_104 (by decide) (fun c4 => ?_) (fun c4 => ?_)
    · replace h := ifT c4 h
      refine b_iconst (v := 0) dX8_pass_111 (by decide) ?_
      refine b_sub [1, 3, 0] rfl ?_
      exact t8_pass_112  a1    x2 s0 0 _ _  h
    · replace h := ifF c4 h
      refine b_iconst (v := 1) dX8_pass_107 (by decide) ?_
      refine b_goto (tgt := 112) dX8_pass_108 (by decide) ?_
      refine b_sub [1, 3, 0] rfl ?_
      exact t8_pass_112  a1    x2 s0 1 _ _  h
def f8_pass_63  (a1 : Int32)  (x2 : Int32) (x3 : Int32) (w : Mem) : Option Mem :=
  if a1 ≤ 0 then (bndO (f8_bits x3 w) fun r3 w2 => if r3 = 1 then (bndO (f8_least x3 w2) fun r6 w5 => f8_pass_93  a1  x2 x3 r6 w5) else (f8_pass_93  a1  x2 x3 (-1) w2)) else (bndO (f8_fromRow x3 a1 w) fun r8 w7 => f8_pass_93  a1  x2 x3 r8 w7)
set_option maxRecDepth 100000 in
set_option maxHeartbeats 4000000 in
theorem t8_pass_63   (a1 : Int32)    (x2 : Int32) (x3 : Int32) (w w' : Mem) (h : f8_pass_63  a1  x2 x3 w = some w') : Bk yX8_pass cX8_pass 7 none 5 63 [(0, vR 32 0), (1, vI a1), (2, vI x2), (3, vI x3)] [] w none w' := by
  unfold f8_pass_63 at h
  refine b_iload_n dX8_pass_63 rfl (k := 1) rfl ?_
  refine b_ifle (tgt := 76) dX8_pass_64 (by decide) (fun c1 => ?_) (fun c1 => ?_)
  · replace h := ifT c1 h
    refine b_iload_n dX8_pass_76 rfl (k := 3) rfl ?_
    obtain ⟨r3, w2, hw2, h⟩ := bdO h
    refine b_callSi ms8_bits ml8_216 (s8_bits x3  _ _ _ hw2) rfl (by decide) (by decide) (Nat.le_of_ble_eq_true rfl) rfl dX8_pass_77 ?_
    refine b_iconst (v := 1) dX8_pass_80 (by decide) ?_
    refine b_icne (tgt := 92) dX8_pass_81 (by decide) (fun c4 => ?_) (fun c4 => ?_)
    · replace h := ifF c4 h
      refine b_iconst (v := (-1)) dX8_pass_92 (by decide) ?_
      refine b_sub [0, 1, 2, 3] rfl ?_
      exact t8_pass_93  a1    x2 x3 (-1) _ _  h
    · replace h := ifT c4 h
      refine b_aload_n dX8_pass_84 rfl (k := 0) rfl ?_
      refine b_iload_n dX8_pass_85 rfl (k := 3) rfl ?_
      obtain ⟨r6, w5, hw5, h⟩ := bdO h
      refine b_callVi mv8_least ml8_219 ob32 (s8_least x3  _ _ _ hw5) rfl (by decide) (by decide) (Nat.le_of_ble_eq_true rfl) rfl dX8_pass_86 ?_
      refine b_goto (tgt := 93) dX8_pass_89 (by decide) ?_
      refine b_sub [0, 1, 2, 3] rfl ?_
      exact t8_pass_93  a1    x2 x3 r6 _ _  h
  · replace h := ifF c1 h
    refine b_aload_n dX8_pass_67 rfl (k := 0) rfl ?_
    refine b_iload_n dX8_pass_68 rfl (k := 3) rfl ?_
    refine b_iload_n dX8_pass_69 rfl (k := 1) rfl ?_
    obtain ⟨r8, w7, hw7, h⟩ := bdO h
    refine b_callVi mv8_fromRow ml8_213 ob32 (s8_fromRow x3 a1  _ _ _ hw7) rfl (by decide) (by decide) (Nat.le_of_ble_eq_true rfl) rfl dX8_pass_70 ?_
    refine b_goto (tgt := 93) dX8_pass_73 (by decide) ?_
    refine b_sub [0, 1, 2, 3] rfl ?_
    exact t8_pass_93  a1    x2 x3 r8 _ _  h
def f8_pass_16  (a1 : Int32)  : Nat → Int32 → Int32 → Int32 → Mem → Option Mem
  | 0, _, _, _, _ => none
  | n + 1, x2, x3, x4, w =>
  if (w.1 32 3 0) ≤ x4 then (f8_pass_63  a1  x2 x3 w) else (bndO (f8_has x3 x4 w) fun r3 w2 => if r3 = 0 then (bnd (sI w2 32 11 6 ((w.1 32 11 6) + 0)) fun w5 => bnd (x4 + 1) fun y6 => f8_pass_16  a1  n x2 x3 y6 w5) else (if x4 < 0 ∨ 8 ≤ Int32.toNatClampNeg x4 then none else bnd (sI w2 32 11 6 ((w.1 32 11 6) + (2 * (w2.1 32 4 (Int32.toNatClampNeg x4))))) fun w8 => bnd (x4 + 1) fun y9 => f8_pass_16  a1  n x2 x3 y9 w8))
set_option maxRecDepth 100000 in
set_option maxHeartbeats 4000000 in
theorem t8_pass_16   (a1 : Int32)    : ∀ (n : Nat) (x2 : Int32) (x3 : Int32) (x4 : Int32) (w w' : Mem), f8_pass_16  a1  n x2 x3 x4 w = some w' → Bk yX8_pass cX8_pass 7 none 5 16 [(0, vR 32 0), (1, vI a1), (2, vI x2), (3, vI x3), (4, vI x4)] [] w none w' := by
  intro n
  induction n with
  | zero =>
    intro x2 x3 x4 w w' h
    cases (show (none : Option Mem) = some _ from h)
  | succ n ih =>
    intro x2 x3 x4 w w' h
    rw [f8_pass_16] at h
    refine b_iload dX8_pass_16 (k := 4) rfl ?_
    refine b_aload_n dX8_pass_18 rfl (k := 0) rfl ?_
    refine b_getI fl8_94 ob32 rfl dX8_pass_19 ?_
    refine b_icge (tgt := 63) dX8_pass_22 (by decide) (fun c1 => ?_) (fun c1 => ?_)
    · replace h := ifT c1 h
      refine b_sub [0, 1, 2, 3] rfl ?_
      exact t8_pass_63  a1    x2 x3 _ _  h
    · replace h := ifF c1 h
      refine b_aload_n dX8_pass_25 rfl (k := 0) rfl ?_
      refine b_getF fl8_25 ob32 rfl rfl dX8_pass_26 ?_
      refine b_bipush (v := 6) dX8_pass_29 (by decide) ?_
      refine b_dup2 dX8_pass_31 rfl rfl ?_
      refine b_iald ar32_11 (j0 := 6) (by decide) (by decide) dX8_pass_32 ?_
      refine b_iload_n dX8_pass_33 rfl (k := 3) rfl ?_
      refine b_iload dX8_pass_34 (k := 4) rfl ?_
      obtain ⟨r3, w2, hw2, h⟩ := bdO h
      refine b_callSi ms8_has ml8_196 (s8_has x3 x4  _ _ _ hw2) rfl (by decide) (by decide) (Nat.le_of_ble_eq_true rfl) rfl dX8_pass_36 ?_
      refine b_ifeq (tgt := 54) dX8_pass_39 (by decide) (fun c4 => ?_) (fun c4 => ?_)
      · replace h := ifT c4 h
        refine b_iconst (v := 0) dX8_pass_54 (by decide) ?_
        refine b_iadd dX8_pass_55 ?_
        obtain ⟨w5, ew5, h⟩ := nmE h
        refine b_iast ar32_11 (j0 := 6) (by decide) (by decide) dX8_pass_56 ?_
        refine b_nmW ew5 ?_
        obtain ⟨y6, ey6, h⟩ := nmE h
        refine b_iinc (v := y6) (lv' := [(4, vI y6), (0, vR 32 0), (1, vI a1), (2, vI x2), (3, vI x3)]) dX8_pass_57 (k := 4) rfl ey6.symm (by decide) rfl ?_
        refine b_goto (tgt := 16) dX8_pass_60 (by decide) ?_
        refine b_sub [1, 2, 3, 4, 0] rfl ?_
        exact ih x2 x3 y6 _ _  h
      · replace h := ifF c4 h
        refine b_iconst (v := 2) dX8_pass_42 (by decide) ?_
        refine b_aload_n dX8_pass_43 rfl (k := 0) rfl ?_
        refine b_getF fl8_7 ob32 rfl rfl dX8_pass_44 ?_
        refine b_iload dX8_pass_47 (k := 4) rfl ?_
        obtain ⟨g7, h⟩ := gdE h
        refine b_iald ar32_4 g7 rfl dX8_pass_49 ?_
        refine b_imul dX8_pass_50 ?_
        refine b_goto (tgt := 55) dX8_pass_51 (by decide) ?_
        refine b_iadd dX8_pass_55 ?_
        obtain ⟨w8, ew8, h⟩ := nmE h
        refine b_iast ar32_11 (j0 := 6) (by decide) (by decide) dX8_pass_56 ?_
        refine b_nmW ew8 ?_
        obtain ⟨y9, ey9, h⟩ := nmE h
        refine b_iinc (v := y9) (lv' := [(4, vI y9), (0, vR 32 0), (1, vI a1), (2, vI x2), (3, vI x3)]) dX8_pass_57 (k := 4) rfl ey9.symm (by decide) rfl ?_
        refine b_goto (tgt := 16) dX8_pass_60 (by decide) ?_
        refine b_sub [1, 2, 3, 4, 0] rfl ?_
        exact ih x2 x3 y9 _ _  h
def f8_pass  (a1 : Int32)   (w : Mem) : Option Mem :=
  bnd (w.1 32 11 0) fun y1 => bndO (f8_comers y1 w) fun r3 w2 => f8_pass_16  a1  100000 y1 r3 0 w2
set_option maxRecDepth 100000 in
set_option maxHeartbeats 4000000 in
theorem t8_pass   (a1 : Int32)     (w w' : Mem) (h : f8_pass  a1   w = some w') : Bk yX8_pass cX8_pass 7 none 5 0 [(0, vR 32 0), (1, vI a1)] [] w none w' := by
  unfold f8_pass at h
  refine b_aload_n dX8_pass_0 rfl (k := 0) rfl ?_
  refine b_getF fl8_25 ob32 rfl rfl dX8_pass_1 ?_
  refine b_iconst (v := 0) dX8_pass_4 (by decide) ?_
  refine b_iald ar32_11 (j0 := 0) (by decide) (by decide) dX8_pass_5 ?_
  obtain ⟨y1, ey1, h⟩ := nmE h
  refine b_nmI ey1 ?_
  refine b_istore_n (lv' := [(2, vI y1), (0, vR 32 0), (1, vI a1)]) dX8_pass_6 rfl (by decide) rfl ?_
  refine b_aload_n dX8_pass_7 rfl (k := 1) rfl ?_
  refine b_iload_n dX8_pass_8 rfl (k := 0) rfl ?_
  obtain ⟨r3, w2, hw2, h⟩ := bdO h
  refine b_callVi mv8_comers ml8_210 ob32 (s8_comers y1  _ _ _ hw2) rfl (by decide) (by decide) (Nat.le_of_ble_eq_true rfl) rfl dX8_pass_9 ?_
  refine b_istore_n (lv' := [(3, vI r3), (2, vI y1), (0, vR 32 0), (1, vI a1)]) dX8_pass_12 rfl (by decide) rfl ?_
  refine b_iconst (v := 0) dX8_pass_13 (by decide) ?_
  refine b_istore (lv' := [(4, vI 0), (3, vI r3), (2, vI y1), (0, vR 32 0), (1, vI a1)]) dX8_pass_14 (by decide) rfl ?_
  refine b_sub [3, 4, 2, 1, 0] rfl ?_
  exact t8_pass_16  a1    100000 y1 r3 0 _ _  h
theorem s8_pass (a1 : Int32)  (w w' : Mem) (h : f8_pass  a1  w = some w') : Sp yX8_pass cX8_pass 7 none 5 [vR 32 0, vI a1] w none w' := sp_of (by decide) (fun _ => rfl) (fun _ => Nat.le_of_ble_eq_true rfl) (t8_pass  a1   _ _  h)
-- X8_remember OneADayModel
def f8_remember_52    : Nat → Int32 → Mem → Option Mem
  | 0, _, _ => none
  | n + 1, x1, w =>
  if 103 ≤ x1 then (bnd (sI w 32 29 0 ((w.1 32 29 0) + 1)) fun w2 => some w2) else (if x1 < 0 ∨ 103 ≤ Int32.toNatClampNeg x1 then none else if ((103 * (w.1 32 29 0)) + x1) < 0 ∨ 2060 ≤ Int32.toNatClampNeg ((103 * (w.1 32 29 0)) + x1) then none else bnd (sI w 32 30 (Int32.toNatClampNeg ((103 * (w.1 32 29 0)) + x1)) (w.1 32 11 (Int32.toNatClampNeg x1))) fun w5 => bnd (x1 + 1) fun y6 => f8_remember_52    n y6 w5)
set_option maxRecDepth 100000 in
set_option maxHeartbeats 4000000 in
theorem t8_remember_52       : ∀ (n : Nat) (x1 : Int32) (w w' : Mem), f8_remember_52    n x1 w = some w' → Bk yX8_remember cX8_remember 2 none 1 52 [(0, vR 32 0), (1, vI x1)] [] w none w' := by
  intro n
  induction n with
  | zero =>
    intro x1 w w' h
    cases (show (none : Option Mem) = some _ from h)
  | succ n ih =>
    intro x1 w w' h
    rw [f8_remember_52] at h
    refine b_iload_n dX8_remember_52 rfl (k := 1) rfl ?_
    refine b_bipush (v := 103) dX8_remember_53 (by decide) ?_
    refine b_icge (tgt := 84) dX8_remember_55 (by decide) (fun c1 => ?_) (fun c1 => ?_)
    · replace h := ifT c1 h
      refine b_aload_n dX8_remember_84 rfl (k := 0) rfl ?_
      refine b_dup dX8_remember_85 rfl ?_
      refine b_getI fl8_182 ob32 rfl dX8_remember_86 ?_
      refine b_iconst (v := 1) dX8_remember_89 (by decide) ?_
      refine b_iadd dX8_remember_90 ?_
      obtain ⟨w2, ew2, h⟩ := nmE h
      refine b_putI fw8_182 ob32 rfl dX8_remember_91 ?_
      refine b_nmW ew2 ?_
      cases h
      exact b_vret rfl dX8_remember_94
    · replace h := ifF c1 h
      refine b_aload_n dX8_remember_58 rfl (k := 0) rfl ?_
      refine b_getF fl8_56 ob32 rfl rfl dX8_remember_59 ?_
      refine b_bipush (v := 103) dX8_remember_62 (by decide) ?_
      refine b_aload_n dX8_remember_64 rfl (k := 0) rfl ?_
      refine b_getI fl8_182 ob32 rfl dX8_remember_65 ?_
      refine b_imul dX8_remember_68 ?_
      refine b_iload_n dX8_remember_69 rfl (k := 1) rfl ?_
      refine b_iadd dX8_remember_70 ?_
      refine b_aload_n dX8_remember_71 rfl (k := 0) rfl ?_
      refine b_getF fl8_25 ob32 rfl rfl dX8_remember_72 ?_
      refine b_iload_n dX8_remember_75 rfl (k := 1) rfl ?_
      obtain ⟨g3, h⟩ := gdE h
      refine b_iald ar32_11 g3 rfl dX8_remember_76 ?_
      obtain ⟨g4, h⟩ := gdE h
      obtain ⟨w5, ew5, h⟩ := nmE h
      refine b_iast ar32_30 g4 rfl dX8_remember_77 ?_
      refine b_nmW ew5 ?_
      obtain ⟨y6, ey6, h⟩ := nmE h
      refine b_iinc (v := y6) (lv' := [(1, vI y6), (0, vR 32 0)]) dX8_remember_78 (k := 1) rfl ey6.symm (by decide) rfl ?_
      refine b_goto (tgt := 52) dX8_remember_81 (by decide) ?_
      refine b_sub [1, 0] rfl ?_
      exact ih y6 _ _  h
def f8_remember_12    : Nat → Int32 → Mem → Option Mem
  | 0, _, _ => none
  | n + 1, x1, w =>
  if 2060 ≤ x1 then (bnd (sI w 32 29 0 ((w.1 32 29 0) - 1)) fun w2 => f8_remember_52    100000 0 w2) else (if x1 < 0 ∨ 2060 ≤ Int32.toNatClampNeg x1 then none else if (x1 - 103) < 0 ∨ 2060 ≤ Int32.toNatClampNeg (x1 - 103) then none else bnd (sI w 32 30 (Int32.toNatClampNeg (x1 - 103)) (w.1 32 30 (Int32.toNatClampNeg x1))) fun w5 => bnd (x1 + 1) fun y6 => f8_remember_12    n y6 w5)
set_option maxRecDepth 100000 in
set_option maxHeartbeats 4000000 in
theorem t8_remember_12       : ∀ (n : Nat) (x1 : Int32) (w w' : Mem), f8_remember_12    n x1 w = some w' → Bk yX8_remember cX8_remember 2 none 1 12 [(0, vR 32 0), (1, vI x1)] [] w none w' := by
  intro n
  induction n with
  | zero =>
    intro x1 w w' h
    cases (show (none : Option Mem) = some _ from h)
  | succ n ih =>
    intro x1 w w' h
    rw [f8_remember_12] at h
    refine b_iload_n dX8_remember_12 rfl (k := 1) rfl ?_
    refine b_sipush (v := 2060) dX8_remember_13 (by decide) ?_
    refine b_icge (tgt := 40) dX8_remember_16 (by decide) (fun c1 => ?_) (fun c1 => ?_)
    · replace h := ifT c1 h
      refine b_aload_n dX8_remember_40 rfl (k := 0) rfl ?_
      refine b_dup dX8_remember_41 rfl ?_
      refine b_getI fl8_182 ob32 rfl dX8_remember_42 ?_
      refine b_iconst (v := 1) dX8_remember_45 (by decide) ?_
      refine b_isub dX8_remember_46 ?_
      obtain ⟨w2, ew2, h⟩ := nmE h
      refine b_putI fw8_182 ob32 rfl dX8_remember_47 ?_
      refine b_nmW ew2 ?_
      refine b_iconst (v := 0) dX8_remember_50 (by decide) ?_
      refine b_istore_n (lv' := [(1, vI 0), (0, vR 32 0)]) dX8_remember_51 rfl (by decide) rfl ?_
      refine b_sub [1, 0] rfl ?_
      exact t8_remember_52      100000 0 _ _  h
    · replace h := ifF c1 h
      refine b_aload_n dX8_remember_19 rfl (k := 0) rfl ?_
      refine b_getF fl8_56 ob32 rfl rfl dX8_remember_20 ?_
      refine b_iload_n dX8_remember_23 rfl (k := 1) rfl ?_
      refine b_bipush (v := 103) dX8_remember_24 (by decide) ?_
      refine b_isub dX8_remember_26 ?_
      refine b_aload_n dX8_remember_27 rfl (k := 0) rfl ?_
      refine b_getF fl8_56 ob32 rfl rfl dX8_remember_28 ?_
      refine b_iload_n dX8_remember_31 rfl (k := 1) rfl ?_
      obtain ⟨g3, h⟩ := gdE h
      refine b_iald ar32_30 g3 rfl dX8_remember_32 ?_
      obtain ⟨g4, h⟩ := gdE h
      obtain ⟨w5, ew5, h⟩ := nmE h
      refine b_iast ar32_30 g4 rfl dX8_remember_33 ?_
      refine b_nmW ew5 ?_
      obtain ⟨y6, ey6, h⟩ := nmE h
      refine b_iinc (v := y6) (lv' := [(1, vI y6), (0, vR 32 0)]) dX8_remember_34 (k := 1) rfl ey6.symm (by decide) rfl ?_
      refine b_goto (tgt := 12) dX8_remember_37 (by decide) ?_
      refine b_sub [1, 0] rfl ?_
      exact ih y6 _ _  h
def f8_remember     (w : Mem) : Option Mem :=
  if (w.1 32 29 0) = 20 then (f8_remember_12    100000 103 w) else (f8_remember_52    100000 0 w)
set_option maxRecDepth 100000 in
set_option maxHeartbeats 4000000 in
theorem t8_remember        (w w' : Mem) (h : f8_remember     w = some w') : Bk yX8_remember cX8_remember 2 none 1 0 [(0, vR 32 0)] [] w none w' := by
  unfold f8_remember at h
  refine b_aload_n dX8_remember_0 rfl (k := 0) rfl ?_
  refine b_getI fl8_182 ob32 rfl dX8_remember_1 ?_
  refine b_bipush (v := 20) dX8_remember_4 (by decide) ?_
  refine b_icne (tgt := 50) dX8_remember_6 (by decide) (fun c1 => ?_) (fun c1 => ?_)
  · replace h := ifF c1 h
    refine b_iconst (v := 0) dX8_remember_50 (by decide) ?_
    refine b_istore_n (lv' := [(1, vI 0), (0, vR 32 0)]) dX8_remember_51 rfl (by decide) rfl ?_
    refine b_sub [1, 0] rfl ?_
    exact t8_remember_52      100000 0 _ _  h
  · replace h := ifT c1 h
    refine b_bipush (v := 103) dX8_remember_9 (by decide) ?_
    refine b_istore_n (lv' := [(1, vI 103), (0, vR 32 0)]) dX8_remember_11 rfl (by decide) rfl ?_
    refine b_sub [1, 0] rfl ?_
    exact t8_remember_12      100000 103 _ _  h
theorem s8_remember   (w w' : Mem) (h : f8_remember    w = some w') : Sp yX8_remember cX8_remember 2 none 1 [vR 32 0] w none w' := sp_of (by decide) (fun _ => rfl) (fun _ => Nat.le_of_ble_eq_true rfl) (t8_remember     _ _  h)
-- X8_daysRefused OneADayModel
def f8_daysRefused  (a1 : Int32)   (w : Mem) : Option (Int32 × Mem) :=
  bndO (f8_in (Int32.toInt64 a1) 1 99 w) fun r2 w1 => if r2 = 0 then (some ((-1000000002), w1)) else (if (w1.1 32 0 0) = 0 then (some ((-1000000003), w1)) else (if (w1.1 32 11 2) = 1 then (some ((-1000000003), w1)) else (if (w1.1 32 11 0) ≤ 9000 then (some (0, w1)) else (some ((-1000000004), w1)))))
set_option maxRecDepth 100000 in
set_option maxHeartbeats 4000000 in
theorem t8_daysRefused   (a1 : Int32)     (w w' : Mem) (r : Int32) (h : f8_daysRefused  a1   w = some (r, w')) : Bk yX8_daysRefused cX8_daysRefused 2 (some .int) 2 0 [(0, vR 32 0), (1, vI a1)] [] w (some (vI r)) w' := by
  unfold f8_daysRefused at h
  refine b_iload_n dX8_daysRefused_0 rfl (k := 1) rfl ?_
  refine b_i2l dX8_daysRefused_1 ?_
  refine b_lconst (v := 1) dX8_daysRefused_2 (by decide) ?_
  refine b_ldc2 dX8_daysRefused_3 kl8_222 ?_
  obtain ⟨r2, w1, hw1, h⟩ := bdO h
  refine b_callSi ms8_in ml8_97 (s8_in (Int32.toInt64 a1) 1 99  _ _ _ hw1) rfl (by decide) (by decide) (Nat.le_of_ble_eq_true rfl) rfl dX8_daysRefused_6 ?_
  refine b_ifne (tgt := 15) dX8_daysRefused_9 (by decide) (fun c3 => ?_) (fun c3 => ?_)
  · replace h := ifF c3 h
    refine b_aload_n dX8_daysRefused_15 rfl (k := 0) rfl ?_
    refine b_getI fl8_155 ob32 rfl dX8_daysRefused_16 ?_
    refine b_ifeq (tgt := 32) dX8_daysRefused_19 (by decide) (fun c4 => ?_) (fun c4 => ?_)
    · replace h := ifT c4 h
      refine b_ldc dX8_daysRefused_32 kk8_224 ?_
      refine b_goto (tgt := 55) dX8_daysRefused_34 (by decide) ?_
      obtain ⟨rfl, rfl⟩ := rtE h
      exact b_iret rfl dX8_daysRefused_55
    · replace h := ifF c4 h
      refine b_aload_n dX8_daysRefused_22 rfl (k := 0) rfl ?_
      refine b_getF fl8_25 ob32 rfl rfl dX8_daysRefused_23 ?_
      refine b_iconst (v := 2) dX8_daysRefused_26 (by decide) ?_
      refine b_iald ar32_11 (j0 := 2) (by decide) (by decide) dX8_daysRefused_27 ?_
      refine b_iconst (v := 1) dX8_daysRefused_28 (by decide) ?_
      refine b_icne (tgt := 37) dX8_daysRefused_29 (by decide) (fun c5 => ?_) (fun c5 => ?_)
      · replace h := ifF c5 h
        refine b_aload_n dX8_daysRefused_37 rfl (k := 0) rfl ?_
        refine b_getF fl8_25 ob32 rfl rfl dX8_daysRefused_38 ?_
        refine b_iconst (v := 0) dX8_daysRefused_41 (by decide) ?_
        refine b_iald ar32_11 (j0 := 0) (by decide) (by decide) dX8_daysRefused_42 ?_
        refine b_sipush (v := 9000) dX8_daysRefused_43 (by decide) ?_
        refine b_icle (tgt := 54) dX8_daysRefused_46 (by decide) (fun c6 => ?_) (fun c6 => ?_)
        · replace h := ifT c6 h
          refine b_iconst (v := 0) dX8_daysRefused_54 (by decide) ?_
          obtain ⟨rfl, rfl⟩ := rtE h
          exact b_iret rfl dX8_daysRefused_55
        · replace h := ifF c6 h
          refine b_ldc dX8_daysRefused_49 kk8_107 ?_
          refine b_goto (tgt := 55) dX8_daysRefused_51 (by decide) ?_
          obtain ⟨rfl, rfl⟩ := rtE h
          exact b_iret rfl dX8_daysRefused_55
      · replace h := ifT c5 h
        refine b_ldc dX8_daysRefused_32 kk8_224 ?_
        refine b_goto (tgt := 55) dX8_daysRefused_34 (by decide) ?_
        obtain ⟨rfl, rfl⟩ := rtE h
        exact b_iret rfl dX8_daysRefused_55
  · replace h := ifT c3 h
    refine b_ldc dX8_daysRefused_12 kk8_103 ?_
    obtain ⟨rfl, rfl⟩ := rtE h
    exact b_iret rfl dX8_daysRefused_14
theorem s8_daysRefused (a1 : Int32)  (w w' : Mem) (r : Int32) (h : f8_daysRefused  a1  w = some (r, w')) : Sp yX8_daysRefused cX8_daysRefused 2 (some .int) 2 [vR 32 0, vI a1] w (some (vI r)) w' := sp_of (by decide) (fun _ => rfl) (fun _ => Nat.le_of_ble_eq_true rfl) (t8_daysRefused  a1   _ _ _ h)
-- X8_day OneADayModel
def f8_day_18  (a1 : Int32)  : Nat → Int32 → Mem → Option (Int32 × Mem)
  | 0, _, _ => none
  | n + 1, x3, w =>
  if a1 ≤ x3 then (some (w.1 32 11 0, w)) else (if (w.1 32 11 2) = 0 then (bndV (f8_pass (w.1 32 2 0) w) fun w3 => bnd (x3 + 1) fun y4 => f8_day_18  a1  n y4 w3) else (some (w.1 32 11 0, w)))
set_option maxRecDepth 100000 in
set_option maxHeartbeats 4000000 in
theorem t8_day_18   (a1 : Int32)    : ∀ (n : Nat) (x3 : Int32) (w w' : Mem) (r : Int32), f8_day_18  a1  n x3 w = some (r, w') → Bk yX8_day cX8_day 4 (some .int) 6 18 [(0, vR 32 0), (1, vI a1), (3, vI x3)] [] w (some (vI r)) w' := by
  intro n
  induction n with
  | zero =>
    intro x3 w w' r h
    cases (show (none : Option (Int32 × Mem)) = some _ from h)
  | succ n ih =>
    intro x3 w w' r h
    rw [f8_day_18] at h
    refine b_iload_n dX8_day_18 rfl (k := 2) rfl ?_
    refine b_iload_n dX8_day_19 rfl (k := 1) rfl ?_
    refine b_icge (tgt := 46) dX8_day_20 (by decide) (fun c1 => ?_) (fun c1 => ?_)
    · replace h := ifT c1 h
      refine b_aload_n dX8_day_46 rfl (k := 0) rfl ?_
      refine b_getF fl8_25 ob32 rfl rfl dX8_day_47 ?_
      refine b_iconst (v := 0) dX8_day_50 (by decide) ?_
      refine b_iald ar32_11 (j0 := 0) (by decide) (by decide) dX8_day_51 ?_
      obtain ⟨rfl, rfl⟩ := rtE h
      exact b_iret rfl dX8_day_52
    · replace h := ifF c1 h
      refine b_aload_n dX8_day_23 rfl (k := 0) rfl ?_
      refine b_getF fl8_25 ob32 rfl rfl dX8_day_24 ?_
      refine b_iconst (v := 2) dX8_day_27 (by decide) ?_
      refine b_iald ar32_11 (j0 := 2) (by decide) (by decide) dX8_day_28 ?_
      refine b_ifne (tgt := 46) dX8_day_29 (by decide) (fun c2 => ?_) (fun c2 => ?_)
      · replace h := ifF c2 h
        refine b_aload_n dX8_day_46 rfl (k := 0) rfl ?_
        refine b_getF fl8_25 ob32 rfl rfl dX8_day_47 ?_
        refine b_iconst (v := 0) dX8_day_50 (by decide) ?_
        refine b_iald ar32_11 (j0 := 0) (by decide) (by decide) dX8_day_51 ?_
        obtain ⟨rfl, rfl⟩ := rtE h
        exact b_iret rfl dX8_day_52
      · replace h := ifT c2 h
        refine b_aload_n dX8_day_32 rfl (k := 0) rfl ?_
        refine b_aload_n dX8_day_33 rfl (k := 0) rfl ?_
        refine b_getI fl8_161 ob32 rfl dX8_day_34 ?_
        obtain ⟨w3, hw3, h⟩ := bdV h
        refine b_callVv mv8_pass ml8_231 ob32 (s8_pass (w.1 32 2 0)  _ _  hw3) rfl (by decide) (by decide) (Nat.le_of_ble_eq_true rfl) rfl dX8_day_37 ?_
        obtain ⟨y4, ey4, h⟩ := nmE h
        refine b_iinc (v := y4) (lv' := [(3, vI y4), (0, vR 32 0), (1, vI a1)]) dX8_day_40 (k := 2) rfl ey4.symm (by decide) rfl ?_
        refine b_goto (tgt := 18) dX8_day_43 (by decide) ?_
        refine b_sub [1, 2, 0] rfl ?_
        exact ih y4 _ _ _ h
def f8_day  (a1 : Int32)   (w : Mem) : Option (Int32 × Mem) :=
  bndO (f8_daysRefused a1 w) fun r2 w1 => if r2 = 0 then (bndV (f8_remember  w1) fun w4 => f8_day_18  a1  100000 0 w4) else (some (r2, w1))
set_option maxRecDepth 100000 in
set_option maxHeartbeats 4000000 in
theorem t8_day   (a1 : Int32)     (w w' : Mem) (r : Int32) (h : f8_day  a1   w = some (r, w')) : Bk yX8_day cX8_day 4 (some .int) 6 0 [(0, vR 32 0), (1, vI a1)] [] w (some (vI r)) w' := by
  unfold f8_day at h
  refine b_aload_n dX8_day_0 rfl (k := 0) rfl ?_
  refine b_iload_n dX8_day_1 rfl (k := 1) rfl ?_
  obtain ⟨r2, w1, hw1, h⟩ := bdO h
  refine b_callVi mv8_daysRefused ml8_225 ob32 (s8_daysRefused a1  _ _ _ hw1) rfl (by decide) (by decide) (Nat.le_of_ble_eq_true rfl) rfl dX8_day_2 ?_
  refine b_istore_n (lv' := [(2, vI r2), (0, vR 32 0), (1, vI a1)]) dX8_day_5 rfl (by decide) rfl ?_
  refine b_iload_n dX8_day_6 rfl (k := 0) rfl ?_
  refine b_ifeq (tgt := 12) dX8_day_7 (by decide) (fun c3 => ?_) (fun c3 => ?_)
  · replace h := ifT c3 h
    refine b_aload_n dX8_day_12 rfl (k := 1) rfl ?_
    obtain ⟨w4, hw4, h⟩ := bdV h
    refine b_callVv mv8_remember ml8_228 ob32 (s8_remember   _ _  hw4) rfl (by decide) (by decide) (Nat.le_of_ble_eq_true rfl) rfl dX8_day_13 ?_
    refine b_iconst (v := 0) dX8_day_16 (by decide) ?_
    refine b_istore_n (lv' := [(3, vI 0), (2, vI r2), (0, vR 32 0), (1, vI a1)]) dX8_day_17 rfl (by decide) rfl ?_
    refine b_sub [2, 3, 0] rfl ?_
    exact t8_day_18  a1    100000 0 _ _ _ h
  · replace h := ifF c3 h
    refine b_iload_n dX8_day_10 rfl (k := 0) rfl ?_
    obtain ⟨rfl, rfl⟩ := rtE h
    exact b_iret rfl dX8_day_11
theorem s8_day (a1 : Int32)  (w w' : Mem) (r : Int32) (h : f8_day  a1  w = some (r, w')) : Sp yX8_day cX8_day 4 (some .int) 6 [vR 32 0, vI a1] w (some (vI r)) w' := sp_of (by decide) (fun _ => rfl) (fun _ => Nat.le_of_ble_eq_true rfl) (t8_day  a1   _ _ _ h)
