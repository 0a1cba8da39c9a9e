-- X8_findLow OneADayModel
def f8_findLow_141  (a1 : Int32) (rec32 : Int32 → Mem → Option Mem) (rec38 : Int32 → Int32 → Mem → Option Mem) (rec53 : Int32 → Int32 → Int32 → Int32 → Mem → Option Mem) (x2 : Int32) (x3 : Int32) (x4 : Int32) (x5 : Int32) (s0 : Int32) (w : Mem) : Option Mem :=
  if x5 < 0 ∨ 8 ≤ Int32.toNatClampNeg x5 then none else if (((6561 * (x2 + 1)) + ((jrem x3 729) * 9)) + x5) < 0 ∨ 72171 ≤ Int32.toNatClampNeg (((6561 * (x2 + 1)) + ((jrem x3 729) * 9)) + x5) then none else bnd ((2 * (w.1 32 4 (Int32.toNatClampNeg x5))) + (w.1 32 33 (Int32.toNatClampNeg (((6561 * (x2 + 1)) + ((jrem x3 729) * 9)) + x5)))) fun y3 => if s0 = 0 then (bndO (f8_mayGo x5 ((w.1 32 11 0) + x2) w) fun r7 w6 => if r7 = 0 then (bnd (x5 + 1) fun y9 => rec53 x2 x3 x4 y9 w6) else (if x4 ≤ y3 then (bnd (x5 + 1) fun y11 => rec53 x2 x3 x4 y11 w6) else (bnd (x5 + 1) fun y12 => rec53 x2 x3 y3 y12 w6))) else (bnd (x5 + 1) fun y5 => rec53 x2 x3 x4 y5 w)
set_option maxRecDepth 100000 in
set_option maxHeartbeats 4000000 in
theorem t8_findLow_141   (a1 : Int32)  (rec32 : Int32 → Mem → Option Mem) (rec38 : Int32 → Int32 → Mem → Option Mem) (rec53 : Int32 → Int32 → Int32 → Int32 → Mem → Option Mem) (hrec32 : ∀ (x2 : Int32) (w w' : Mem), rec32 x2 w = some w' → Bk yX8_findLow cX8_findLow 8 none 3 32 [(0, vR 32 0), (2, vI x2)] [] w none w') (hrec38 : ∀ (x2 : Int32) (x3 : Int32) (w w' : Mem), rec38 x2 x3 w = some w' → Bk yX8_findLow cX8_findLow 8 none 3 38 [(0, vR 32 0), (2, vI x2), (3, vI x3)] [] w none w') (hrec53 : ∀ (x2 : Int32) (x3 : Int32) (x4 : Int32) (x5 : Int32) (w w' : Mem), rec53 x2 x3 x4 x5 w = some w' → Bk yX8_findLow cX8_findLow 8 none 3 53 [(0, vR 32 0), (2, vI x2), (3, vI x3), (4, vI x4), (5, vI x5)] [] w none w') (x2 : Int32) (x3 : Int32) (x4 : Int32) (x5 : Int32) (s0 : Int32) (w w' : Mem) (h : f8_findLow_141  a1 rec32 rec38 rec53 x2 x3 x4 x5 s0 w = some w') : Bk yX8_findLow cX8_findLow 8 none 3 141 [(0, vR 32 0), (2, vI x2), (3, vI x3), (4, vI x4), (5, vI x5)] [vI s0] w none w' := by
  unfold f8_findLow_141 at h
  refine b_istore (lv' := [(6, vI s0), (0, vR 32 0), (2, vI x2), (3, vI x3), (4, vI x4), (5, vI x5)]) dX8_findLow_141 (by decide) rfl ?_
  refine b_iconst (v := 2) dX8_findLow_143 (by decide) ?_
  refine b_aload_n dX8_findLow_144 rfl (k := 1) rfl ?_
  refine b_getF fl8_7 ob32 rfl rfl dX8_findLow_145 ?_
  refine b_iload dX8_findLow_148 (k := 5) rfl ?_
  obtain ⟨g1, h⟩ := gdE h
  refine b_iald ar32_4 g1 rfl dX8_findLow_150 ?_
  refine b_imul dX8_findLow_151 ?_
  refine b_aload_n dX8_findLow_152 rfl (k := 1) rfl ?_
  refine b_getF fl8_66 ob32 rfl rfl dX8_findLow_153 ?_
  refine b_sipush (v := 6561) dX8_findLow_156 (by decide) ?_
  refine b_iload_n dX8_findLow_159 rfl (k := 2) rfl ?_
  refine b_iconst (v := 1) dX8_findLow_160 (by decide) ?_
  refine b_iadd dX8_findLow_161 ?_
  refine b_imul dX8_findLow_162 ?_
  refine b_iload_n dX8_findLow_163 rfl (k := 3) rfl ?_
  refine b_sipush (v := 729) dX8_findLow_164 (by decide) ?_
  refine b_irem dX8_findLow_167 (by decide) ?_
  refine b_bipush (v := 9) dX8_findLow_168 (by decide) ?_
  refine b_imul dX8_findLow_170 ?_
  refine b_iadd dX8_findLow_171 ?_
  refine b_iload dX8_findLow_172 (k := 5) rfl ?_
  refine b_iadd dX8_findLow_174 ?_
  obtain ⟨g2, h⟩ := gdE h
  refine b_iald ar32_33 g2 rfl dX8_findLow_175 ?_
  refine b_iadd dX8_findLow_176 ?_
  obtain ⟨y3, ey3, h⟩ := nmE h
  refine b_nmI ey3 ?_
  refine b_istore (lv' := [(7, vI y3), (6, vI s0), (0, vR 32 0), (2, vI x2), (3, vI x3), (4, vI x4), (5, vI x5)]) dX8_findLow_177 (by decide) rfl ?_
  refine b_iload dX8_findLow_179 (k := 1) rfl ?_
  refine b_ifne (tgt := 213) dX8_findLow_181 (by decide) (fun c4 => ?_) (fun c4 => ?_)
  · replace h := ifF c4 h
    refine b_iload dX8_findLow_213 (k := 5) rfl ?_
    refine b_istore (lv' := [(4, vI x4), (7, vI y3), (6, vI s0), (0, vR 32 0), (2, vI x2), (3, vI x3), (5, vI x5)]) dX8_findLow_215 (by decide) rfl ?_
    obtain ⟨y5, ey5, h⟩ := nmE h
    refine b_iinc (v := y5) (lv' := [(5, vI y5), (4, vI x4), (7, vI y3), (6, vI s0), (0, vR 32 0), (2, vI x2), (3, vI x3)]) dX8_findLow_217 (k := 6) rfl ey5.symm (by decide) rfl ?_
    refine b_goto (tgt := 53) dX8_findLow_220 (by decide) ?_
    refine b_sub [4, 5, 6, 1, 0] rfl ?_
    exact hrec53 x2 x3 x4 y5 _ _  h
  · replace h := ifT c4 h
    refine b_aload_n dX8_findLow_184 rfl (k := 2) rfl ?_
    refine b_iload dX8_findLow_185 (k := 6) rfl ?_
    refine b_aload_n dX8_findLow_187 rfl (k := 2) rfl ?_
    refine b_getF fl8_25 ob32 rfl rfl dX8_findLow_188 ?_
    refine b_iconst (v := 0) dX8_findLow_191 (by decide) ?_
    refine b_iald ar32_11 (j0 := 0) (by decide) (by decide) dX8_findLow_192 ?_
    refine b_iload_n dX8_findLow_193 rfl (k := 3) rfl ?_
    refine b_iadd dX8_findLow_194 ?_
    obtain ⟨r7, w6, hw6, h⟩ := bdO h
    refine b_callVi mv8_mayGo ml8_278 ob32 (s8_mayGo x5 ((w.1 32 11 0) + x2)  _ _ _ hw6) rfl (by decide) (by decide) (Nat.le_of_ble_eq_true rfl) rfl dX8_findLow_195 ?_
    refine b_ifeq (tgt := 213) dX8_findLow_198 (by decide) (fun c8 => ?_) (fun c8 => ?_)
    · replace h := ifT c8 h
      refine b_iload dX8_findLow_213 (k := 5) rfl ?_
      refine b_istore (lv' := [(4, vI x4), (7, vI y3), (6, vI s0), (0, vR 32 0), (2, vI x2), (3, vI x3), (5, vI x5)]) dX8_findLow_215 (by decide) rfl ?_
      obtain ⟨y9, ey9, h⟩ := nmE h
      refine b_iinc (v := y9) (lv' := [(5, vI y9), (4, vI x4), (7, vI y3), (6, vI s0), (0, vR 32 0), (2, vI x2), (3, vI x3)]) dX8_findLow_217 (k := 6) rfl ey9.symm (by decide) rfl ?_
      refine b_goto (tgt := 53) dX8_findLow_220 (by decide) ?_
      refine b_sub [4, 5, 6, 1, 0] rfl ?_
      exact hrec53 x2 x3 x4 y9 _ _  h
    · replace h := ifF c8 h
      refine b_iload dX8_findLow_201 (k := 0) rfl ?_
      refine b_iload dX8_findLow_203 (k := 5) rfl ?_
      refine b_icge (tgt := 213) dX8_findLow_205 (by decide) (fun c10 => ?_) (fun c10 => ?_)
      · replace h := ifT c10 h
        refine b_iload dX8_findLow_213 (k := 5) rfl ?_
        refine b_istore (lv' := [(4, vI x4), (7, vI y3), (6, vI s0), (0, vR 32 0), (2, vI x2), (3, vI x3), (5, vI x5)]) dX8_findLow_215 (by decide) rfl ?_
        obtain ⟨y11, ey11, h⟩ := nmE h
        refine b_iinc (v := y11) (lv' := [(5, vI y11), (4, vI x4), (7, vI y3), (6, vI s0), (0, vR 32 0), (2, vI x2), (3, vI x3)]) dX8_findLow_217 (k := 6) rfl ey11.symm (by decide) rfl ?_
        refine b_goto (tgt := 53) dX8_findLow_220 (by decide) ?_
        refine b_sub [4, 5, 6, 1, 0] rfl ?_
        exact hrec53 x2 x3 x4 y11 _ _  h
      · replace h := ifF c10 h
        refine b_iload dX8_findLow_208 (k := 0) rfl ?_
        refine b_goto (tgt := 215) dX8_findLow_210 (by decide) ?_
        refine b_istore (lv' := [(4, vI y3), (7, vI y3), (6, vI s0), (0, vR 32 0), (2, vI x2), (3, vI x3), (5, vI x5)]) dX8_findLow_215 (by decide) rfl ?_
        obtain ⟨y12, ey12, h⟩ := nmE h
        refine b_iinc (v := y12) (lv' := [(5, vI y12), (4, vI y3), (7, vI y3), (6, vI s0), (0, vR 32 0), (2, vI x2), (3, vI x3)]) dX8_findLow_217 (k := 6) rfl ey12.symm (by decide) rfl ?_
        refine b_goto (tgt := 53) dX8_findLow_220 (by decide) ?_
        refine b_sub [4, 5, 6, 1, 0] rfl ?_
        exact hrec53 x2 x3 y3 y12 _ _  h
def f8_findLow_118  (a1 : Int32) (rec32 : Int32 → Mem → Option Mem) (rec38 : Int32 → Int32 → Mem → Option Mem) (rec53 : Int32 → Int32 → Int32 → Int32 → Mem → Option Mem) (x2 : Int32) (x3 : Int32) (x4 : Int32) (x5 : Int32) (w : Mem) : Option Mem :=
  if (w.1 32 1 0) ≤ 3 then (f8_findLow_141  a1 rec32 rec38 rec53 x2 x3 x4 x5 0 w) else (if (x3 / 729) = x5 then (f8_findLow_141  a1 rec32 rec38 rec53 x2 x3 x4 x5 1 w) else (f8_findLow_141  a1 rec32 rec38 rec53 x2 x3 x4 x5 0 w))
set_option maxRecDepth 100000 in
set_option maxHeartbeats 4000000 in
theorem t8_findLow_118   (a1 : Int32)  (rec32 : Int32 → Mem → Option Mem) (rec38 : Int32 → Int32 → Mem → Option Mem) (rec53 : Int32 → Int32 → Int32 → Int32 → Mem → Option Mem) (hrec32 : ∀ (x2 : Int32) (w w' : Mem), rec32 x2 w = some w' → Bk yX8_findLow cX8_findLow 8 none 3 32 [(0, vR 32 0), (2, vI x2)] [] w none w') (hrec38 : ∀ (x2 : Int32) (x3 : Int32) (w w' : Mem), rec38 x2 x3 w = some w' → Bk yX8_findLow cX8_findLow 8 none 3 38 [(0, vR 32 0), (2, vI x2), (3, vI x3)] [] w none w') (hrec53 : ∀ (x2 : Int32) (x3 : Int32) (x4 : Int32) (x5 : Int32) (w w' : Mem), rec53 x2 x3 x4 x5 w = some w' → Bk yX8_findLow cX8_findLow 8 none 3 53 [(0, vR 32 0), (2, vI x2), (3, vI x3), (4, vI x4), (5, vI x5)] [] w none w') (x2 : Int32) (x3 : Int32) (x4 : Int32) (x5 : Int32) (w w' : Mem) (h : f8_findLow_118  a1 rec32 rec38 rec53 x2 x3 x4 x5 w = some w') : Bk yX8_findLow cX8_findLow 8 none 3 118 [(0, vR 32 0), (2, vI x2), (3, vI x3), (4, vI x4), (5, vI x5)] [] w none w' := by
  unfold f8_findLow_118 at h
  refine b_aload_n dX8_findLow_118 rfl (k := 0) rfl ?_
  refine b_getI fl8_158 ob32 rfl dX8_findLow_119 ?_
  refine b_iconst (v := 3) dX8_findLow_122 (by decide) ?_
  refine b_icle (tgt := 140) dX8_findLow_123 (by decide) (fun c1 => ?_) (fun c1 => ?_)
  · replace h := ifT c1 h
    refine b_iconst (v := 0) dX8_findLow_140 (by decide) ?_
    refine b_sub [0, 1, 2, 3, 4] rfl ?_
    exact t8_findLow_141  a1  rec32 rec38 rec53 hrec32 hrec38 hrec53 x2 x3 x4 x5 0 _ _  h
  · replace h := ifF c1 h
    refine b_iload_n dX8_findLow_126 rfl (k := 2) rfl ?_
    refine b_sipush (v := 729) dX8_findLow_127 (by decide) ?_
    refine b_idiv dX8_findLow_130 (by decide) ?_
    refine b_iload dX8_findLow_131 (k := 4) rfl ?_
    refine b_icne (tgt := 140) dX8_findLow_133 (by decide) (fun c2 => ?_) (fun c2 => ?_)
    · replace h := ifF c2 h
      refine b_iconst (v := 0) dX8_findLow_140 (by decide) ?_
      refine b_sub [0, 1, 2, 3, 4] rfl ?_
      exact t8_findLow_141  a1  rec32 rec38 rec53 hrec32 hrec38 hrec53 x2 x3 x4 x5 0 _ _  h
    · replace h := ifT c2 h
      refine b_iconst (v := 1) dX8_findLow_136 (by decide) ?_
      refine b_goto (tgt := 141) dX8_findLow_137 (by decide) ?_
      refine b_sub [0, 1, 2, 3, 4] rfl ?_
      exact t8_findLow_141  a1  rec32 rec38 rec53 hrec32 hrec38 hrec53 x2 x3 x4 x5 1 _ _  h
def f8_findLow_98  (a1 : Int32) (rec32 : Int32 → Mem → Option Mem) (rec38 : Int32 → Int32 → Mem → Option Mem) (rec53 : Int32 → Int32 → Int32 → Int32 → Mem → Option Mem) (x2 : Int32) (x3 : Int32) (x4 : Int32) (x5 : Int32) (w : Mem) : Option Mem :=
  if (w.1 32 1 0) ≤ 2 then (f8_findLow_118  a1 rec32 rec38 rec53 x2 x3 x4 x5 w) else (if (jrem (x3 / 81) 9) = x5 then (f8_findLow_141  a1 rec32 rec38 rec53 x2 x3 x4 x5 1 w) else (f8_findLow_118  a1 rec32 rec38 rec53 x2 x3 x4 x5 w))
set_option maxRecDepth 100000 in
set_option maxHeartbeats 4000000 in
theorem t8_findLow_98   (a1 : Int32)  (rec32 : Int32 → Mem → Option Mem) (rec38 : Int32 → Int32 → Mem → Option Mem) (rec53 : Int32 → Int32 → Int32 → Int32 → Mem → Option Mem) (hrec32 : ∀ (x2 : Int32) (w w' : Mem), rec32 x2 w = some w' → Bk yX8_findLow cX8_findLow 8 none 3 32 [(0, vR 32 0), (2, vI x2)] [] w none w') (hrec38 : ∀ (x2 : Int32) (x3 : Int32) (w w' : Mem), rec38 x2 x3 w = some w' → Bk yX8_findLow cX8_findLow 8 none 3 38 [(0, vR 32 0), (2, vI x2), (3, vI x3)] [] w none w') (hrec53 : ∀ (x2 : Int32) (x3 : Int32) (x4 : Int32) (x5 : Int32) (w w' : Mem), rec53 x2 x3 x4 x5 w = some w' → Bk yX8_findLow cX8_findLow 8 none 3 53 [(0, vR 32 0), (2, vI x2), (3, vI x3), (4, vI x4), (5, vI x5)] [] w none w') (x2 : Int32) (x3 : Int32) (x4 : Int32) (x5 : Int32) (w w' : Mem) (h : f8_findLow_98  a1 rec32 rec38 rec53 x2 x3 x4 x5 w = some w') : Bk yX8_findLow cX8_findLow 8 none 3 98 [(0, vR 32 0), (2, vI x2), (3, vI x3), (4, vI x4), (5, vI x5)] [] w none w' := by
  unfold f8_findLow_98 at h
  refine b_aload_n dX8_findLow_98 rfl (k := 0) rfl ?_
  refine b_getI fl8_158 ob32 rfl dX8_findLow_99 ?_
  refine b_iconst (v := 2) dX8_findLow_102 (by decide) ?_
  refine b_icle (tgt := 118) dX8_findLow_103 (by decide) (fun c1 => ?_) (fun c1 => ?_)
  · replace h := ifT c1 h
    refine b_sub [0, 1, 2, 3, 4] rfl ?_
    exact t8_findLow_118  a1  rec32 rec38 rec53 hrec32 hrec38 hrec53 x2 x3 x4 x5 _ _  h
  · replace h := ifF c1 h
    refine b_iload_n dX8_findLow_106 rfl (k := 2) rfl ?_
    refine b_bipush (v := 81) dX8_findLow_107 (by decide) ?_
    refine b_idiv dX8_findLow_109 (by decide) ?_
    refine b_bipush (v := 9) dX8_findLow_110 (by decide) ?_
    refine b_irem dX8_findLow_112 (by decide) ?_
    refine b_iload dX8_findLow_113 (k := 4) rfl ?_
    refine b_iceq (tgt := 136) dX8_findLow_115 (by decide) (fun c2 => ?_) (fun c2 => ?_)
    · replace h := ifT c2 h
      refine b_iconst (v := 1) dX8_findLow_136 (by decide) ?_
      refine b_goto (tgt := 141) dX8_findLow_137 (by decide) ?_
      refine b_sub [0, 1, 2, 3, 4] rfl ?_
      exact t8_findLow_141  a1  rec32 rec38 rec53 hrec32 hrec38 hrec53 x2 x3 x4 x5 1 _ _  h
    · replace h := ifF c2 h
      refine b_sub [0, 1, 2, 3, 4] rfl ?_
      exact t8_findLow_118  a1  rec32 rec38 rec53 hrec32 hrec38 hrec53 x2 x3 x4 x5 _ _  h
def f8_findLow_78  (a1 : Int32) (rec32 : Int32 → Mem → Option Mem) (rec38 : Int32 → Int32 → Mem → Option Mem) (rec53 : Int32 → Int32 → Int32 → Int32 → Mem → Option Mem) (x2 : Int32) (x3 : Int32) (x4 : Int32) (x5 : Int32) (w : Mem) : Option Mem :=
  if (w.1 32 1 0) ≤ 1 then (f8_findLow_98  a1 rec32 rec38 rec53 x2 x3 x4 x5 w) else (if (jrem (x3 / 9) 9) = x5 then (f8_findLow_141  a1 rec32 rec38 rec53 x2 x3 x4 x5 1 w) else (f8_findLow_98  a1 rec32 rec38 rec53 x2 x3 x4 x5 w))
set_option maxRecDepth 100000 in
set_option maxHeartbeats 4000000 in
theorem t8_findLow_78   (a1 : Int32)  (rec32 : Int32 → Mem → Option Mem) (rec38 : Int32 → Int32 → Mem → Option Mem) (rec53 : Int32 → Int32 → Int32 → Int32 → Mem → Option Mem) (hrec32 : ∀ (x2 : Int32) (w w' : Mem), rec32 x2 w = some w' → Bk yX8_findLow cX8_findLow 8 none 3 32 [(0, vR 32 0), (2, vI x2)] [] w none w') (hrec38 : ∀ (x2 : Int32) (x3 : Int32) (w w' : Mem), rec38 x2 x3 w = some w' → Bk yX8_findLow cX8_findLow 8 none 3 38 [(0, vR 32 0), (2, vI x2), (3, vI x3)] [] w none w') (hrec53 : ∀ (x2 : Int32) (x3 : Int32) (x4 : Int32) (x5 : Int32) (w w' : Mem), rec53 x2 x3 x4 x5 w = some w' → Bk yX8_findLow cX8_findLow 8 none 3 53 [(0, vR 32 0), (2, vI x2), (3, vI x3), (4, vI x4), (5, vI x5)] [] w none w') (x2 : Int32) (x3 : Int32) (x4 : Int32) (x5 : Int32) (w w' : Mem) (h : f8_findLow_78  a1 rec32 rec38 rec53 x2 x3 x4 x5 w = some w') : Bk yX8_findLow cX8_findLow 8 none 3 78 [(0, vR 32 0), (2, vI x2), (3, vI x3), (4, vI x4), (5, vI x5)] [] w none w' := by
  unfold f8_findLow_78 at h
  refine b_aload_n dX8_findLow_78 rfl (k := 0) rfl ?_
  refine b_getI fl8_158 ob32 rfl dX8_findLow_79 ?_
  refine b_iconst (v := 1) dX8_findLow_82 (by decide) ?_
  refine b_icle (tgt := 98) dX8_findLow_83 (by decide) (fun c1 => ?_) (fun c1 => ?_)
  · replace h := ifT c1 h
    refine b_sub [0, 1, 2, 3, 4] rfl ?_
    exact t8_findLow_98  a1  rec32 rec38 rec53 hrec32 hrec38 hrec53 x2 x3 x4 x5 _ _  h
  · replace h := ifF c1 h
    refine b_iload_n dX8_findLow_86 rfl (k := 2) rfl ?_
    refine b_bipush (v := 9) dX8_findLow_87 (by decide) ?_
    refine b_idiv dX8_findLow_89 (by decide) ?_
    refine b_bipush (v := 9) dX8_findLow_90 (by decide) ?_
    refine b_irem dX8_findLow_92 (by decide) ?_
    refine b_iload dX8_findLow_93 (k := 4) rfl ?_
    refine b_iceq (tgt := 136) dX8_findLow_95 (by decide) (fun c2 => ?_) (fun c2 => ?_)
    · replace h := ifT c2 h
      refine b_iconst (v := 1) dX8_findLow_136 (by decide) ?_
      refine b_goto (tgt := 141) dX8_findLow_137 (by decide) ?_
      refine b_sub [0, 1, 2, 3, 4] rfl ?_
      exact t8_findLow_141  a1  rec32 rec38 rec53 hrec32 hrec38 hrec53 x2 x3 x4 x5 1 _ _  h
    · replace h := ifF c2 h
      refine b_sub [0, 1, 2, 3, 4] rfl ?_
      exact t8_findLow_98  a1  rec32 rec38 rec53 hrec32 hrec38 hrec53 x2 x3 x4 x5 _ _  h
def f8_findLow_223  (a1 : Int32) (rec32 : Int32 → Mem → Option Mem) (rec38 : Int32 → Int32 → Mem → Option Mem) (x2 : Int32) (x3 : Int32) (x4 : Int32) (w : Mem) : Option Mem :=
  if 1000000 ≤ x4 then (if ((6561 * x2) + x3) < 0 ∨ 72171 ≤ Int32.toNatClampNeg ((6561 * x2) + x3) then none else bnd (sI w 32 33 (Int32.toNatClampNeg ((6561 * x2) + x3)) 1000000) fun w3 => bnd (x3 + 1) fun y4 => rec38 x2 y4 w3) else (if ((6561 * x2) + x3) < 0 ∨ 72171 ≤ Int32.toNatClampNeg ((6561 * x2) + x3) then none else bnd (sI w 32 33 (Int32.toNatClampNeg ((6561 * x2) + x3)) x4) fun w6 => bnd (x3 + 1) fun y7 => rec38 x2 y7 w6)
set_option maxRecDepth 100000 in
set_option maxHeartbeats 4000000 in
theorem t8_findLow_223   (a1 : Int32)  (rec32 : Int32 → Mem → Option Mem) (rec38 : Int32 → Int32 → Mem → Option Mem) (hrec32 : ∀ (x2 : Int32) (w w' : Mem), rec32 x2 w = some w' → Bk yX8_findLow cX8_findLow 8 none 3 32 [(0, vR 32 0), (2, vI x2)] [] w none w') (hrec38 : ∀ (x2 : Int32) (x3 : Int32) (w w' : Mem), rec38 x2 x3 w = some w' → Bk yX8_findLow cX8_findLow 8 none 3 38 [(0, vR 32 0), (2, vI x2), (3, vI x3)] [] w none w') (x2 : Int32) (x3 : Int32) (x4 : Int32) (w w' : Mem) (h : f8_findLow_223  a1 rec32 rec38 x2 x3 x4 w = some w') : Bk yX8_findLow cX8_findLow 8 none 3 223 [(0, vR 32 0), (2, vI x2), (3, vI x3), (4, vI x4)] [] w none w' := by
  unfold f8_findLow_223 at h
  refine b_aload_n dX8_findLow_223 rfl (k := 0) rfl ?_
  refine b_getF fl8_66 ob32 rfl rfl dX8_findLow_224 ?_
  refine b_sipush (v := 6561) dX8_findLow_227 (by decide) ?_
  refine b_iload_n dX8_findLow_230 rfl (k := 1) rfl ?_
  refine b_imul dX8_findLow_231 ?_
  refine b_iload_n dX8_findLow_232 rfl (k := 2) rfl ?_
  refine b_iadd dX8_findLow_233 ?_
  refine b_iload dX8_findLow_234 (k := 3) rfl ?_
  refine b_ldcw dX8_findLow_236 kk8_277 ?_
  refine b_icge (tgt := 247) dX8_findLow_239 (by decide) (fun c1 => ?_) (fun c1 => ?_)
  · replace h := ifT c1 h
    refine b_ldcw dX8_findLow_247 kk8_277 ?_
    obtain ⟨g2, h⟩ := gdE h
    obtain ⟨w3, ew3, h⟩ := nmE h
    refine b_iast ar32_33 g2 rfl dX8_findLow_250 ?_
    refine b_nmW ew3 ?_
    obtain ⟨y4, ey4, h⟩ := nmE h
    refine b_iinc (v := y4) (lv' := [(3, vI y4), (0, vR 32 0), (2, vI x2), (4, vI x4)]) dX8_findLow_251 (k := 2) rfl ey4.symm (by decide) rfl ?_
    refine b_goto (tgt := 38) dX8_findLow_254 (by decide) ?_
    refine b_sub [1, 2, 0] rfl ?_
    exact hrec38 x2 y4 _ _  h
  · replace h := ifF c1 h
    refine b_iload dX8_findLow_242 (k := 3) rfl ?_
    refine b_goto (tgt := 250) dX8_findLow_244 (by decide) ?_
    obtain ⟨g5, h⟩ := gdE h
    obtain ⟨w6, ew6, h⟩ := nmE h
    refine b_iast ar32_33 g5 rfl dX8_findLow_250 ?_
    refine b_nmW ew6 ?_
    obtain ⟨y7, ey7, h⟩ := nmE h
    refine b_iinc (v := y7) (lv' := [(3, vI y7), (0, vR 32 0), (2, vI x2), (4, vI x4)]) dX8_findLow_251 (k := 2) rfl ey7.symm (by decide) rfl ?_
    refine b_goto (tgt := 38) dX8_findLow_254 (by decide) ?_
    refine b_sub [1, 2, 0] rfl ?_
    exact hrec38 x2 y7 _ _  h
def f8_findLow_53  (a1 : Int32) (rec32 : Int32 → Mem → Option Mem) (rec38 : Int32 → Int32 → Mem → Option Mem) : Nat → Int32 → Int32 → Int32 → Int32 → Mem → Option Mem
  | 0, _, _, _, _, _ => none
  | n + 1, x2, x3, x4, x5, w =>
  if (w.1 32 3 0) ≤ x5 then (f8_findLow_223  a1 rec32 rec38 x2 x3 x4 w) else (if (w.1 32 1 0) ≤ 0 then (f8_findLow_78  a1 rec32 rec38 (f8_findLow_53  a1 rec32 rec38 n) x2 x3 x4 x5 w) else (if (jrem x3 9) = x5 then (f8_findLow_141  a1 rec32 rec38 (f8_findLow_53  a1 rec32 rec38 n) x2 x3 x4 x5 1 w) else (f8_findLow_78  a1 rec32 rec38 (f8_findLow_53  a1 rec32 rec38 n) x2 x3 x4 x5 w)))
set_option maxRecDepth 100000 in
set_option maxHeartbeats 4000000 in
theorem t8_findLow_53   (a1 : Int32)  (rec32 : Int32 → Mem → Option Mem) (rec38 : Int32 → Int32 → Mem → Option Mem) (hrec32 : ∀ (x2 : Int32) (w w' : Mem), rec32 x2 w = some w' → Bk yX8_findLow cX8_findLow 8 none 3 32 [(0, vR 32 0), (2, vI x2)] [] w none w') (hrec38 : ∀ (x2 : Int32) (x3 : Int32) (w w' : Mem), rec38 x2 x3 w = some w' → Bk yX8_findLow cX8_findLow 8 none 3 38 [(0, vR 32 0), (2, vI x2), (3, vI x3)] [] w none w') : ∀ (n : Nat) (x2 : Int32) (x3 : Int32) (x4 : Int32) (x5 : Int32) (w w' : Mem), f8_findLow_53  a1 rec32 rec38 n x2 x3 x4 x5 w = some w' → Bk yX8_findLow cX8_findLow 8 none 3 53 [(0, vR 32 0), (2, vI x2), (3, vI x3), (4, vI x4), (5, vI x5)] [] w none w' := by
  intro n
  induction n with
  | zero =>
    intro x2 x3 x4 x5 w w' h
    cases (show (none : Option Mem) = some _ from h)
  | succ n ih =>
    intro x2 x3 x4 x5 w w' h
    rw [f8_findLow_53] at h
    refine b_iload dX8_findLow_53 (k := 4) rfl ?_
    refine b_aload_n dX8_findLow_55 rfl (k := 0) rfl ?_
    refine b_getI fl8_94 ob32 rfl dX8_findLow_56 ?_
    refine b_icge (tgt := 223) dX8_findLow_59 (by decide) (fun c1 => ?_) (fun c1 => ?_)
    · replace h := ifT c1 h
      refine b_sub [0, 1, 2, 3] rfl ?_
      exact t8_findLow_223  a1  rec32 rec38 hrec32 hrec38 x2 x3 x4 _ _  h
    · replace h := ifF c1 h
      refine b_aload_n dX8_findLow_62 rfl (k := 0) rfl ?_
      refine b_getI fl8_158 ob32 rfl dX8_findLow_63 ?_
      refine b_ifle (tgt := 78) dX8_findLow_66 (by decide) (fun c2 => ?_) (fun c2 => ?_)
      · replace h := ifT c2 h
        refine b_sub [0, 1, 2, 3, 4] rfl ?_
        exact t8_findLow_78  a1  rec32 rec38 (f8_findLow_53  a1 rec32 rec38 n) hrec32 hrec38 ih x2 x3 x4 x5 _ _  h
      · replace h := ifF c2 h
        refine b_iload_n dX8_findLow_69 rfl (k := 2) rfl ?_
        refine b_bipush (v := 9) dX8_findLow_70 (by decide) ?_
        refine b_irem dX8_findLow_72 (by decide) ?_
        refine b_iload dX8_findLow_73 (k := 4) rfl ?_
        refine b_iceq (tgt := 136) dX8_findLow_75 (by decide) (fun c3 => ?_) (fun c3 => ?_)
        · replace h := ifT c3 h
          refine b_iconst (v := 1) dX8_findLow_136 (by decide) ?_
          refine b_goto (tgt := 141) dX8_findLow_137 (by decide) ?_
          refine b_sub [0, 1, 2, 3, 4] rfl ?_
          exact t8_findLow_141  a1  rec32 rec38 (f8_findLow_53  a1 rec32 rec38 n) hrec32 hrec38 ih x2 x3 x4 x5 1 _ _  h
        · replace h := ifF c3 h
          refine b_sub [0, 1, 2, 3, 4] rfl ?_
          exact t8_findLow_78  a1  rec32 rec38 (f8_findLow_53  a1 rec32 rec38 n) hrec32 hrec38 ih x2 x3 x4 x5 _ _  h
def f8_findLow_38  (a1 : Int32) (rec32 : Int32 → Mem → Option Mem) : Nat → Int32 → Int32 → Mem → Option Mem
  | 0, _, _, _ => none
  | n + 1, x2, x3, w =>
  if 6561 ≤ x3 then (bnd (x2 + (-1)) fun y2 => rec32 y2 w) else (f8_findLow_53  a1 rec32 (f8_findLow_38  a1 rec32 n) 100000 x2 x3 1000000 0 w)
set_option maxRecDepth 100000 in
set_option maxHeartbeats 4000000 in
theorem t8_findLow_38   (a1 : Int32)  (rec32 : Int32 → Mem → Option Mem) (hrec32 : ∀ (x2 : Int32) (w w' : Mem), rec32 x2 w = some w' → Bk yX8_findLow cX8_findLow 8 none 3 32 [(0, vR 32 0), (2, vI x2)] [] w none w') : ∀ (n : Nat) (x2 : Int32) (x3 : Int32) (w w' : Mem), f8_findLow_38  a1 rec32 n x2 x3 w = some w' → Bk yX8_findLow cX8_findLow 8 none 3 38 [(0, vR 32 0), (2, vI x2), (3, vI x3)] [] w none w' := by
  intro n
  induction n with
  | zero =>
    intro x2 x3 w w' h
    cases (show (none : Option Mem) = some _ from h)
  | succ n ih =>
    intro x2 x3 w w' h
    rw [f8_findLow_38] at h
    refine b_iload_n dX8_findLow_38 rfl (k := 2) rfl ?_
    refine b_sipush (v := 6561) dX8_findLow_39 (by decide) ?_
    refine b_icge (tgt := 257) dX8_findLow_42 (by decide) (fun c1 => ?_) (fun c1 => ?_)
    · replace h := ifT c1 h
      obtain ⟨y2, ey2, h⟩ := nmE h
      refine b_iinc (v := y2) (lv' := [(2, vI y2), (0, vR 32 0), (3, vI x3)]) dX8_findLow_257 (k := 1) rfl ey2.symm (by decide) rfl ?_
      refine b_goto (tgt := 32) dX8_findLow_260 (by decide) ?_
      refine b_sub [1, 0] rfl ?_
      exact hrec32 y2 _ _  h
    · replace h := ifF c1 h
      refine b_ldcw dX8_findLow_45 kk8_277 ?_
      refine b_istore (lv' := [(4, vI 1000000), (0, vR 32 0), (2, vI x2), (3, vI x3)]) dX8_findLow_48 (by decide) rfl ?_
      refine b_iconst (v := 0) dX8_findLow_50 (by decide) ?_
      refine b_istore (lv' := [(5, vI 0), (4, vI 1000000), (0, vR 32 0), (2, vI x2), (3, vI x3)]) dX8_findLow_51 (by decide) rfl ?_
      refine b_sub [2, 3, 4, 1, 0] rfl ?_
      exact t8_findLow_53  a1  rec32 (f8_findLow_38  a1 rec32 n) hrec32 ih 100000 x2 x3 1000000 0 _ _  h
def f8_findLow_32  (a1 : Int32)  : Nat → Int32 → Mem → Option Mem
  | 0, _, _ => none
  | n + 1, x2, w =>
  if x2 < 0 then (some w) else (f8_findLow_38  a1 (f8_findLow_32  a1  n) 100000 x2 0 w)
set_option maxRecDepth 100000 in
set_option maxHeartbeats 4000000 in
theorem t8_findLow_32   (a1 : Int32)    : ∀ (n : Nat) (x2 : Int32) (w w' : Mem), f8_findLow_32  a1  n x2 w = some w' → Bk yX8_findLow cX8_findLow 8 none 3 32 [(0, vR 32 0), (2, vI x2)] [] w none w' := by
  intro n
  induction n with
  | zero =>
    intro x2 w w' h
    cases (show (none : Option Mem) = some _ from h)
  | succ n ih =>
    intro x2 w w' h
    rw [f8_findLow_32] at h
    refine b_iload_n dX8_findLow_32 rfl (k := 1) rfl ?_
    refine b_iflt (tgt := 263) dX8_findLow_33 (by decide) (fun c1 => ?_) (fun c1 => ?_)
    · replace h := ifT c1 h
      cases h
      exact b_vret rfl dX8_findLow_263
    · replace h := ifF c1 h
      refine b_iconst (v := 0) dX8_findLow_36 (by decide) ?_
      refine b_istore_n (lv' := [(3, vI 0), (0, vR 32 0), (2, vI x2)]) dX8_findLow_37 rfl (by decide) rfl ?_
      refine b_sub [1, 2, 0] rfl ?_
      exact t8_findLow_38  a1  (f8_findLow_32  a1  n) ih 100000 x2 0 _ _  h
def f8_findLow_2  (a1 : Int32)  : Nat → Int32 → Mem → Option Mem
  | 0, _, _ => none
  | n + 1, x2, w =>
  if 6561 ≤ x2 then (bnd (a1 - 1) fun y2 => f8_findLow_32  a1  100000 y2 w) else (if ((6561 * a1) + x2) < 0 ∨ 72171 ≤ Int32.toNatClampNeg ((6561 * a1) + x2) then none else bnd (sI w 32 33 (Int32.toNatClampNeg ((6561 * a1) + x2)) 0) fun w4 => bnd (x2 + 1) fun y5 => f8_findLow_2  a1  n y5 w4)
set_option maxRecDepth 100000 in
set_option maxHeartbeats 4000000 in
theorem t8_findLow_2   (a1 : Int32)    : ∀ (n : Nat) (x2 : Int32) (w w' : Mem), f8_findLow_2  a1  n x2 w = some w' → Bk yX8_findLow cX8_findLow 8 none 3 2 [(0, vR 32 0), (1, vI a1), (2, vI x2)] [] w none w' := by
  intro n
  induction n with
  | zero =>
    intro x2 w w' h
    cases (show (none : Option Mem) = some _ from h)
  | succ n ih =>
    intro x2 w w' h
    rw [f8_findLow_2] at h
    refine b_iload_n dX8_findLow_2 rfl (k := 2) rfl ?_
    refine b_sipush (v := 6561) dX8_findLow_3 (by decide) ?_
    refine b_icge (tgt := 28) dX8_findLow_6 (by decide) (fun c1 => ?_) (fun c1 => ?_)
    · replace h := ifT c1 h
      refine b_iload_n dX8_findLow_28 rfl (k := 1) rfl ?_
      refine b_iconst (v := 1) dX8_findLow_29 (by decide) ?_
      refine b_isub dX8_findLow_30 ?_
      obtain ⟨y2, ey2, h⟩ := nmE h
      refine b_nmI ey2 ?_
      refine b_istore_n (lv' := [(2, vI y2), (0, vR 32 0), (1, vI a1)]) dX8_findLow_31 rfl (by decide) rfl ?_
      refine b_sub [1, 0] rfl ?_
      exact t8_findLow_32  a1    100000 y2 _ _  h
    · replace h := ifF c1 h
      refine b_aload_n dX8_findLow_9 rfl (k := 0) rfl ?_
      refine b_getF fl8_66 ob32 rfl rfl dX8_findLow_10 ?_
      refine b_sipush (v := 6561) dX8_findLow_13 (by decide) ?_
      refine b_iload_n dX8_findLow_16 rfl (k := 1) rfl ?_
      refine b_imul dX8_findLow_17 ?_
      refine b_iload_n dX8_findLow_18 rfl (k := 2) rfl ?_
      refine b_iadd dX8_findLow_19 ?_
      refine b_iconst (v := 0) dX8_findLow_20 (by decide) ?_
      obtain ⟨g3, h⟩ := gdE h
      obtain ⟨w4, ew4, h⟩ := nmE h
      refine b_iast ar32_33 g3 rfl dX8_findLow_21 ?_
      refine b_nmW ew4 ?_
      obtain ⟨y5, ey5, h⟩ := nmE h
      refine b_iinc (v := y5) (lv' := [(2, vI y5), (0, vR 32 0), (1, vI a1)]) dX8_findLow_22 (k := 2) rfl ey5.symm (by decide) rfl ?_
      refine b_goto (tgt := 2) dX8_findLow_25 (by decide) ?_
      refine b_sub [1, 2, 0] rfl ?_
      exact ih y5 _ _  h
def f8_findLow  (a1 : Int32)   (w : Mem) : Option Mem :=
  f8_findLow_2  a1  100000 0 w
set_option maxRecDepth 100000 in
set_option maxHeartbeats 4000000 in
theorem t8_findLow   (a1 : Int32)     (w w' : Mem) (h : f8_findLow  a1   w = some w') : Bk yX8_findLow cX8_findLow 8 none 3 0 [(0, vR 32 0), (1, vI a1)] [] w none w' := by
  unfold f8_findLow at h
  refine b_iconst (v := 0) dX8_findLow_0 (by decide) ?_
  refine b_istore_n (lv' := [(2, vI 0), (0, vR 32 0), (1, vI a1)]) dX8_findLow_1 rfl (by decide) rfl ?_
  refine b_sub [1, 2, 0] rfl ?_
  exact t8_findLow_2  a1    100000 0 _ _  h
theorem s8_findLow (a1 : Int32)  (w w' : Mem) (h : f8_findLow  a1  w = some w') : Sp yX8_findLow cX8_findLow 8 none 3 [vR 32 0, vI a1] w none w' := sp_of (by decide) (fun _ => rfl) (fun _ => Nat.le_of_ble_eq_true rfl) (t8_findLow  a1   _ _  h)
-- X8_wasChosen OneADayModel
def f8_wasChosen_22  (a1 : Int32) (a2 : Int32)  : Nat → Int32 → Int32 → Mem → Option (Int32 × Mem)
  | 0, _, _, _ => none
  | n + 1, x3, x4, w =>
  if a2 ≤ x4 then (if ¬ x3 &&& 1 = x3 then none else some (x3, w)) else (if x3 = 0 then (if x4 < 0 ∨ 10 ≤ Int32.toNatClampNeg x4 then none else if (w.1 32 34 (Int32.toNatClampNeg x4)) = a1 then (bnd (x4 + 1) fun y8 => f8_wasChosen_22  a1 a2  n 1 y8 w) else (bnd (x4 + 1) fun y7 => f8_wasChosen_22  a1 a2  n 0 y7 w)) else (bnd (x4 + 1) fun y4 => f8_wasChosen_22  a1 a2  n 1 y4 w))
set_option maxRecDepth 100000 in
set_option maxHeartbeats 4000000 in
theorem t8_wasChosen_22   (a1 : Int32) (a2 : Int32)    : ∀ (n : Nat) (x3 : Int32) (x4 : Int32) (w w' : Mem) (r : Int32), f8_wasChosen_22  a1 a2  n x3 x4 w = some (r, w') → Bk yX8_wasChosen cX8_wasChosen 5 (some .boolean) 1 22 [(0, vR 32 0), (1, vI a1), (2, vI a2), (3, vI x3), (4, vI x4)] [] w (some (vI r)) w' := by
  intro n
  induction n with
  | zero =>
    intro x3 x4 w w' r h
    cases (show (none : Option (Int32 × Mem)) = some _ from h)
  | succ n ih =>
    intro x3 x4 w w' r h
    rw [f8_wasChosen_22] at h
    refine b_iload dX8_wasChosen_22 (k := 4) rfl ?_
    refine b_iload_n dX8_wasChosen_24 rfl (k := 2) rfl ?_
    refine b_icge (tgt := 55) dX8_wasChosen_25 (by decide) (fun c1 => ?_) (fun c1 => ?_)
    · replace h := ifT c1 h
      refine b_iload_n dX8_wasChosen_55 rfl (k := 3) rfl ?_
      obtain ⟨g2, h⟩ := gdE h
      obtain ⟨rfl, rfl⟩ := rtE h
      exact b_zret rfl (Decidable.not_not.mp g2) dX8_wasChosen_56
    · replace h := ifF c1 h
      refine b_iload_n dX8_wasChosen_28 rfl (k := 3) rfl ?_
      refine b_ifne (tgt := 43) dX8_wasChosen_29 (by decide) (fun c3 => ?_) (fun c3 => ?_)
      · replace h := ifF c3 h
        refine b_iconst (v := 1) dX8_wasChosen_43 (by decide) ?_
        refine b_goto (tgt := 48) dX8_wasChosen_44 (by decide) ?_
        refine b_istore_n (lv' := [(3, vI 1), (0, vR 32 0), (1, vI a1), (2, vI a2), (4, vI x4)]) dX8_wasChosen_48 rfl (by decide) rfl ?_
        obtain ⟨y4, ey4, h⟩ := nmE h
        refine b_iinc (v := y4) (lv' := [(4, vI y4), (3, vI 1), (0, vR 32 0), (1, vI a1), (2, vI a2)]) dX8_wasChosen_49 (k := 4) rfl ey4.symm (by decide) rfl ?_
        refine b_goto (tgt := 22) dX8_wasChosen_52 (by decide) ?_
        refine b_sub [2, 3, 4, 1, 0] rfl ?_
        exact ih 1 y4 _ _ _ h
      · replace h := ifT c3 h
        refine b_aload_n dX8_wasChosen_32 rfl (k := 0) rfl ?_
        refine b_getF fl8_69 ob32 rfl rfl dX8_wasChosen_33 ?_
        refine b_iload dX8_wasChosen_36 (k := 4) rfl ?_
        obtain ⟨g5, h⟩ := gdE h
        refine b_iald ar32_34 g5 rfl dX8_wasChosen_38 ?_
        refine b_iload_n dX8_wasChosen_39 rfl (k := 1) rfl ?_
        refine b_icne (tgt := 47) dX8_wasChosen_40 (by decide) (fun c6 => ?_) (fun c6 => ?_)
        · replace h := ifF c6 h
          refine b_iconst (v := 0) dX8_wasChosen_47 (by decide) ?_
          refine b_istore_n (lv' := [(3, vI 0), (0, vR 32 0), (1, vI a1), (2, vI a2), (4, vI x4)]) dX8_wasChosen_48 rfl (by decide) rfl ?_
          obtain ⟨y7, ey7, h⟩ := nmE h
          refine b_iinc (v := y7) (lv' := [(4, vI y7), (3, vI 0), (0, vR 32 0), (1, vI a1), (2, vI a2)]) dX8_wasChosen_49 (k := 4) rfl ey7.symm (by decide) rfl ?_
          refine b_goto (tgt := 22) dX8_wasChosen_52 (by decide) ?_
          refine b_sub [2, 3, 4, 1, 0] rfl ?_
          exact ih 0 y7 _ _ _ h
        · replace h := ifT c6 h
          refine b_iconst (v := 1) dX8_wasChosen_43 (by decide) ?_
          refine b_goto (tgt := 48) dX8_wasChosen_44 (by decide) ?_
          refine b_istore_n (lv' := [(3, vI 1), (0, vR 32 0), (1, vI a1), (2, vI a2), (4, vI x4)]) dX8_wasChosen_48 rfl (by decide) rfl ?_
          obtain ⟨y8, ey8, h⟩ := nmE h
          refine b_iinc (v := y8) (lv' := [(4, vI y8), (3, vI 1), (0, vR 32 0), (1, vI a1), (2, vI a2)]) dX8_wasChosen_49 (k := 4) rfl ey8.symm (by decide) rfl ?_
          refine b_goto (tgt := 22) dX8_wasChosen_52 (by decide) ?_
          refine b_sub [2, 3, 4, 1, 0] rfl ?_
          exact ih 1 y8 _ _ _ h
def f8_wasChosen  (a1 : Int32) (a2 : Int32)   (w : Mem) : Option (Int32 × Mem) :=
  if a2 ≤ (w.1 32 1 0) then (f8_wasChosen_22  a1 a2  100000 0 0 w) else (bnd (a2 - (w.1 32 1 0)) fun y2 => f8_wasChosen_22  a1 a2  100000 0 y2 w)
set_option maxRecDepth 100000 in
set_option maxHeartbeats 4000000 in
theorem t8_wasChosen   (a1 : Int32) (a2 : Int32)     (w w' : Mem) (r : Int32) (h : f8_wasChosen  a1 a2   w = some (r, w')) : Bk yX8_wasChosen cX8_wasChosen 5 (some .boolean) 1 0 [(0, vR 32 0), (1, vI a1), (2, vI a2)] [] w (some (vI r)) w' := by
  unfold f8_wasChosen at h
  refine b_iconst (v := 0) dX8_wasChosen_0 (by decide) ?_
  refine b_istore_n (lv' := [(3, vI 0), (0, vR 32 0), (1, vI a1), (2, vI a2)]) dX8_wasChosen_1 rfl (by decide) rfl ?_
  refine b_iload_n dX8_wasChosen_2 rfl (k := 3) rfl ?_
  refine b_aload_n dX8_wasChosen_3 rfl (k := 1) rfl ?_
  refine b_getI fl8_158 ob32 rfl dX8_wasChosen_4 ?_
  refine b_icle (tgt := 19) dX8_wasChosen_7 (by decide) (fun c1 => ?_) (fun c1 => ?_)
  · replace h := ifT c1 h
    refine b_iconst (v := 0) dX8_wasChosen_19 (by decide) ?_
    refine b_istore (lv' := [(4, vI 0), (3, vI 0), (0, vR 32 0), (1, vI a1), (2, vI a2)]) dX8_wasChosen_20 (by decide) rfl ?_
    refine b_sub [2, 3, 4, 1, 0] rfl ?_
    exact t8_wasChosen_22  a1 a2    100000 0 0 _ _ _ h
  · replace h := ifF c1 h
    refine b_iload_n dX8_wasChosen_10 rfl (k := 3) rfl ?_
    refine b_aload_n dX8_wasChosen_11 rfl (k := 1) rfl ?_
    refine b_getI fl8_158 ob32 rfl dX8_wasChosen_12 ?_
    refine b_isub dX8_wasChosen_15 ?_
    refine b_goto (tgt := 20) dX8_wasChosen_16 (by decide) ?_
    obtain ⟨y2, ey2, h⟩ := nmE h
    refine b_nmI ey2 ?_
    refine b_istore (lv' := [(4, vI y2), (3, vI 0), (0, vR 32 0), (1, vI a1), (2, vI a2)]) dX8_wasChosen_20 (by decide) rfl ?_
    refine b_sub [2, 3, 4, 1, 0] rfl ?_
    exact t8_wasChosen_22  a1 a2    100000 0 y2 _ _ _ h
theorem s8_wasChosen (a1 : Int32) (a2 : Int32)  (w w' : Mem) (r : Int32) (h : f8_wasChosen  a1 a2  w = some (r, w')) : Sp yX8_wasChosen cX8_wasChosen 5 (some .boolean) 1 [vR 32 0, vI a1, vI a2] w (some (vI r)) w' := sp_of (by decide) (fun _ => rfl) (fun _ => Nat.le_of_ble_eq_true rfl) (t8_wasChosen  a1 a2   _ _ _ h)
-- X8_latest OneADayModel
def f8_latest_75  (a1 : Int32)  (x2 : Int32) (x3 : Int32) (x4 : Int32) (s0 : Int32) (w : Mem) : Option (Int32 × Mem) :=
  some ((((729 * s0) + (81 * x4)) + (9 * x3)) + x2, w)
set_option maxRecDepth 100000 in
set_option maxHeartbeats 4000000 in
theorem t8_latest_75   (a1 : Int32)    (x2 : Int32) (x3 : Int32) (x4 : Int32) (s0 : Int32) (w w' : Mem) (r : Int32) (h : f8_latest_75  a1  x2 x3 x4 s0 w = some (r, w')) : Bk yX8_latest cX8_latest 6 (some .int) 1 75 [(2, vI x2), (3, vI x3), (4, vI x4)] [vI s0] w (some (vI r)) w' := by
  unfold f8_latest_75 at h
  refine b_istore (lv' := [(5, vI s0), (2, vI x2), (3, vI x3), (4, vI x4)]) dX8_latest_75 (by decide) rfl ?_
  refine b_sipush (v := 729) dX8_latest_77 (by decide) ?_
  refine b_iload dX8_latest_80 (k := 0) rfl ?_
  refine b_imul dX8_latest_82 ?_
  refine b_bipush (v := 81) dX8_latest_83 (by decide) ?_
  refine b_iload dX8_latest_85 (k := 3) rfl ?_
  refine b_imul dX8_latest_87 ?_
  refine b_iadd dX8_latest_88 ?_
  refine b_bipush (v := 9) dX8_latest_89 (by decide) ?_
  refine b_iload_n dX8_latest_91 rfl (k := 2) rfl ?_
  refine b_imul dX8_latest_92 ?_
  refine b_iadd dX8_latest_93 ?_
  refine b_iload_n dX8_latest_94 rfl (k := 1) rfl ?_
  refine b_iadd dX8_latest_95 ?_
  obtain ⟨rfl, rfl⟩ := rtE h
  exact b_iret rfl dX8_latest_96
def f8_latest_55  (a1 : Int32)  (x2 : Int32) (x3 : Int32) (s0 : Int32) (w : Mem) : Option (Int32 × Mem) :=
  if a1 ≤ 3 then (f8_latest_75  a1  x2 x3 s0 8 w) else (if (a1 - 4) < 0 ∨ 10 ≤ Int32.toNatClampNeg (a1 - 4) then none else f8_latest_75  a1  x2 x3 s0 (w.1 32 34 (Int32.toNatClampNeg (a1 - 4))) w)
set_option maxRecDepth 100000 in
set_option maxHeartbeats 4000000 in
theorem t8_latest_55   (a1 : Int32)    (x2 : Int32) (x3 : Int32) (s0 : Int32) (w w' : Mem) (r : Int32) (h : f8_latest_55  a1  x2 x3 s0 w = some (r, w')) : Bk yX8_latest cX8_latest 6 (some .int) 1 55 [(0, vR 32 0), (1, vI a1), (2, vI x2), (3, vI x3)] [vI s0] w (some (vI r)) w' := by
  unfold f8_latest_55 at h
  refine b_istore (lv' := [(4, vI s0), (0, vR 32 0), (1, vI a1), (2, vI x2), (3, vI x3)]) dX8_latest_55 (by decide) rfl ?_
  refine b_iload_n dX8_latest_57 rfl (k := 2) rfl ?_
  refine b_iconst (v := 3) dX8_latest_58 (by decide) ?_
  refine b_icle (tgt := 73) dX8_latest_59 (by decide) (fun c1 => ?_) (fun c1 => ?_)
  · replace h := ifT c1 h
    refine b_bipush (v := 8) dX8_latest_73 (by decide) ?_
    refine b_sub [3, 4, 0] rfl ?_
    exact t8_latest_75  a1    x2 x3 s0 8 _ _ _ h
  · replace h := ifF c1 h
    refine b_aload_n dX8_latest_62 rfl (k := 1) rfl ?_
    refine b_getF fl8_69 ob32 rfl rfl dX8_latest_63 ?_
    refine b_iload_n dX8_latest_66 rfl (k := 2) rfl ?_
    refine b_iconst (v := 4) dX8_latest_67 (by decide) ?_
    refine b_isub dX8_latest_68 ?_
    obtain ⟨g2, h⟩ := gdE h
    refine b_iald ar32_34 g2 rfl dX8_latest_69 ?_
    refine b_goto (tgt := 75) dX8_latest_70 (by decide) ?_
    refine b_sub [3, 4, 0] rfl ?_
    exact t8_latest_75  a1    x2 x3 s0 (w.1 32 34 (Int32.toNatClampNeg (a1 - 4))) _ _ _ h
def f8_latest_36  (a1 : Int32)  (x2 : Int32) (s0 : Int32) (w : Mem) : Option (Int32 × Mem) :=
  if a1 ≤ 2 then (f8_latest_55  a1  x2 s0 8 w) else (if (a1 - 3) < 0 ∨ 10 ≤ Int32.toNatClampNeg (a1 - 3) then none else f8_latest_55  a1  x2 s0 (w.1 32 34 (Int32.toNatClampNeg (a1 - 3))) w)
set_option maxRecDepth 100000 in
set_option maxHeartbeats 4000000 in
theorem t8_latest_36   (a1 : Int32)    (x2 : Int32) (s0 : Int32) (w w' : Mem) (r : Int32) (h : f8_latest_36  a1  x2 s0 w = some (r, w')) : Bk yX8_latest cX8_latest 6 (some .int) 1 36 [(0, vR 32 0), (1, vI a1), (2, vI x2)] [vI s0] w (some (vI r)) w' := by
  unfold f8_latest_36 at h
  refine b_istore_n (lv' := [(3, vI s0), (0, vR 32 0), (1, vI a1), (2, vI x2)]) dX8_latest_36 rfl (by decide) rfl ?_
  refine b_iload_n dX8_latest_37 rfl (k := 2) rfl ?_
  refine b_iconst (v := 2) dX8_latest_38 (by decide) ?_
  refine b_icle (tgt := 53) dX8_latest_39 (by decide) (fun c1 => ?_) (fun c1 => ?_)
  · replace h := ifT c1 h
    refine b_bipush (v := 8) dX8_latest_53 (by decide) ?_
    refine b_sub [1, 2, 3, 0] rfl ?_
    exact t8_latest_55  a1    x2 s0 8 _ _ _ h
  · replace h := ifF c1 h
    refine b_aload_n dX8_latest_42 rfl (k := 1) rfl ?_
    refine b_getF fl8_69 ob32 rfl rfl dX8_latest_43 ?_
    refine b_iload_n dX8_latest_46 rfl (k := 2) rfl ?_
    refine b_iconst (v := 3) dX8_latest_47 (by decide) ?_
    refine b_isub dX8_latest_48 ?_
    obtain ⟨g2, h⟩ := gdE h
    refine b_iald ar32_34 g2 rfl dX8_latest_49 ?_
    refine b_goto (tgt := 55) dX8_latest_50 (by decide) ?_
    refine b_sub [1, 2, 3, 0] rfl ?_
    exact t8_latest_55  a1    x2 s0 (w.1 32 34 (Int32.toNatClampNeg (a1 - 3))) _ _ _ h
def f8_latest_17  (a1 : Int32)  (s0 : Int32) (w : Mem) : Option (Int32 × Mem) :=
  if a1 ≤ 1 then (f8_latest_36  a1  s0 8 w) else (if (a1 - 2) < 0 ∨ 10 ≤ Int32.toNatClampNeg (a1 - 2) then none else f8_latest_36  a1  s0 (w.1 32 34 (Int32.toNatClampNeg (a1 - 2))) w)
set_option maxRecDepth 100000 in
set_option maxHeartbeats 4000000 in
theorem t8_latest_17   (a1 : Int32)    (s0 : Int32) (w w' : Mem) (r : Int32) (h : f8_latest_17  a1  s0 w = some (r, w')) : Bk yX8_latest cX8_latest 6 (some .int) 1 17 [(0, vR 32 0), (1, vI a1)] [vI s0] w (some (vI r)) w' := by
  unfold f8_latest_17 at h
  refine b_istore_n (lv' := [(2, vI s0), (0, vR 32 0), (1, vI a1)]) dX8_latest_17 rfl (by decide) rfl ?_
  refine b_iload_n dX8_latest_18 rfl (k := 2) rfl ?_
  refine b_iconst (v := 1) dX8_latest_19 (by decide) ?_
  refine b_icle (tgt := 34) dX8_latest_20 (by decide) (fun c1 => ?_) (fun c1 => ?_)
  · replace h := ifT c1 h
    refine b_bipush (v := 8) dX8_latest_34 (by decide) ?_
    refine b_sub [1, 2, 0] rfl ?_
    exact t8_latest_36  a1    s0 8 _ _ _ h
  · replace h := ifF c1 h
    refine b_aload_n dX8_latest_23 rfl (k := 1) rfl ?_
    refine b_getF fl8_69 ob32 rfl rfl dX8_latest_24 ?_
    refine b_iload_n dX8_latest_27 rfl (k := 2) rfl ?_
    refine b_iconst (v := 2) dX8_latest_28 (by decide) ?_
    refine b_isub dX8_latest_29 ?_
    obtain ⟨g2, h⟩ := gdE h
    refine b_iald ar32_34 g2 rfl dX8_latest_30 ?_
    refine b_goto (tgt := 36) dX8_latest_31 (by decide) ?_
    refine b_sub [1, 2, 0] rfl ?_
    exact t8_latest_36  a1    s0 (w.1 32 34 (Int32.toNatClampNeg (a1 - 2))) _ _ _ h
def f8_latest  (a1 : Int32)   (w : Mem) : Option (Int32 × Mem) :=
  if a1 ≤ 0 then (f8_latest_17  a1  8 w) else (if (a1 - 1) < 0 ∨ 10 ≤ Int32.toNatClampNeg (a1 - 1) then none else f8_latest_17  a1  (w.1 32 34 (Int32.toNatClampNeg (a1 - 1))) w)
set_option maxRecDepth 100000 in
set_option maxHeartbeats 4000000 in
theorem t8_latest   (a1 : Int32)     (w w' : Mem) (r : Int32) (h : f8_latest  a1   w = some (r, w')) : Bk yX8_latest cX8_latest 6 (some .int) 1 0 [(0, vR 32 0), (1, vI a1)] [] w (some (vI r)) w' := by
  unfold f8_latest at h
  refine b_iload_n dX8_latest_0 rfl (k := 1) rfl ?_
  refine b_ifle (tgt := 15) dX8_latest_1 (by decide) (fun c1 => ?_) (fun c1 => ?_)
  · replace h := ifT c1 h
    refine b_bipush (v := 8) dX8_latest_15 (by decide) ?_
    refine b_sub [0, 1] rfl ?_
    exact t8_latest_17  a1    8 _ _ _ h
  · replace h := ifF c1 h
    refine b_aload_n dX8_latest_4 rfl (k := 0) rfl ?_
    refine b_getF fl8_69 ob32 rfl rfl dX8_latest_5 ?_
    refine b_iload_n dX8_latest_8 rfl (k := 1) rfl ?_
    refine b_iconst (v := 1) dX8_latest_9 (by decide) ?_
    refine b_isub dX8_latest_10 ?_
    obtain ⟨g2, h⟩ := gdE h
    refine b_iald ar32_34 g2 rfl dX8_latest_11 ?_
    refine b_goto (tgt := 17) dX8_latest_12 (by decide) ?_
    refine b_sub [0, 1] rfl ?_
    exact t8_latest_17  a1    (w.1 32 34 (Int32.toNatClampNeg (a1 - 1))) _ _ _ h
theorem s8_latest (a1 : Int32)  (w w' : Mem) (r : Int32) (h : f8_latest  a1  w = some (r, w')) : Sp yX8_latest cX8_latest 6 (some .int) 1 [vR 32 0, vI a1] w (some (vI r)) w' := sp_of (by decide) (fun _ => rfl) (fun _ => Nat.le_of_ble_eq_true rfl) (t8_latest  a1   _ _ _ h)
-- X8_spent OneADayModel
def f8_spent_4  (a1 : Int32)  : Nat → Int32 → Int32 → Mem → Option (Int32 × Mem)
  | 0, _, _, _ => none
  | n + 1, x2, x3, w =>
  if a1 ≤ x3 then (some (x2, w)) else (if x3 < 0 ∨ 10 ≤ Int32.toNatClampNeg x3 then none else if (w.1 32 34 (Int32.toNatClampNeg x3)) < 0 ∨ 8 ≤ Int32.toNatClampNeg (w.1 32 34 (Int32.toNatClampNeg x3)) then none else bnd (x2 + (2 * (w.1 32 4 (Int32.toNatClampNeg (w.1 32 34 (Int32.toNatClampNeg x3)))))) fun y4 => bnd (x3 + 1) fun y5 => f8_spent_4  a1  n y4 y5 w)
set_option maxRecDepth 100000 in
set_option maxHeartbeats 4000000 in
theorem t8_spent_4   (a1 : Int32)    : ∀ (n : Nat) (x2 : Int32) (x3 : Int32) (w w' : Mem) (r : Int32), f8_spent_4  a1  n x2 x3 w = some (r, w') → Bk yX8_spent cX8_spent 4 (some .int) 1 4 [(0, vR 32 0), (1, vI a1), (2, vI x2), (3, vI x3)] [] w (some (vI r)) w' := by
  intro n
  induction n with
  | zero =>
    intro x2 x3 w w' r h
    cases (show (none : Option (Int32 × Mem)) = some _ from h)
  | succ n ih =>
    intro x2 x3 w w' r h
    rw [f8_spent_4] at h
    refine b_iload_n dX8_spent_4 rfl (k := 3) rfl ?_
    refine b_iload_n dX8_spent_5 rfl (k := 1) rfl ?_
    refine b_icge (tgt := 31) dX8_spent_6 (by decide) (fun c1 => ?_) (fun c1 => ?_)
    · replace h := ifT c1 h
      refine b_iload_n dX8_spent_31 rfl (k := 2) rfl ?_
      obtain ⟨rfl, rfl⟩ := rtE h
      exact b_iret rfl dX8_spent_32
    · replace h := ifF c1 h
      refine b_iload_n dX8_spent_9 rfl (k := 2) rfl ?_
      refine b_iconst (v := 2) dX8_spent_10 (by decide) ?_
      refine b_aload_n dX8_spent_11 rfl (k := 0) rfl ?_
      refine b_getF fl8_7 ob32 rfl rfl dX8_spent_12 ?_
      refine b_aload_n dX8_spent_15 rfl (k := 0) rfl ?_
      refine b_getF fl8_69 ob32 rfl rfl dX8_spent_16 ?_
      refine b_iload_n dX8_spent_19 rfl (k := 3) rfl ?_
      obtain ⟨g2, h⟩ := gdE h
      refine b_iald ar32_34 g2 rfl dX8_spent_20 ?_
      obtain ⟨g3, h⟩ := gdE h
      refine b_iald ar32_4 g3 rfl dX8_spent_21 ?_
      refine b_imul dX8_spent_22 ?_
      refine b_iadd dX8_spent_23 ?_
      obtain ⟨y4, ey4, h⟩ := nmE h
      refine b_nmI ey4 ?_
      refine b_istore_n (lv' := [(2, vI y4), (0, vR 32 0), (1, vI a1), (3, vI x3)]) dX8_spent_24 rfl (by decide) rfl ?_
      obtain ⟨y5, ey5, h⟩ := nmE h
      refine b_iinc (v := y5) (lv' := [(3, vI y5), (2, vI y4), (0, vR 32 0), (1, vI a1)]) dX8_spent_25 (k := 3) rfl ey5.symm (by decide) rfl ?_
      refine b_goto (tgt := 4) dX8_spent_28 (by decide) ?_
      refine b_sub [2, 3, 1, 0] rfl ?_
      exact ih y4 y5 _ _ _ h
def f8_spent  (a1 : Int32)   (w : Mem) : Option (Int32 × Mem) :=
  f8_spent_4  a1  100000 0 0 w
set_option maxRecDepth 100000 in
set_option maxHeartbeats 4000000 in
theorem t8_spent   (a1 : Int32)     (w w' : Mem) (r : Int32) (h : f8_spent  a1   w = some (r, w')) : Bk yX8_spent cX8_spent 4 (some .int) 1 0 [(0, vR 32 0), (1, vI a1)] [] w (some (vI r)) w' := by
  unfold f8_spent at h
  refine b_iconst (v := 0) dX8_spent_0 (by decide) ?_
  refine b_istore_n (lv' := [(2, vI 0), (0, vR 32 0), (1, vI a1)]) dX8_spent_1 rfl (by decide) rfl ?_
  refine b_iconst (v := 0) dX8_spent_2 (by decide) ?_
  refine b_istore_n (lv' := [(3, vI 0), (2, vI 0), (0, vR 32 0), (1, vI a1)]) dX8_spent_3 rfl (by decide) rfl ?_
  refine b_sub [2, 3, 1, 0] rfl ?_
  exact t8_spent_4  a1    100000 0 0 _ _ _ h
theorem s8_spent (a1 : Int32)  (w w' : Mem) (r : Int32) (h : f8_spent  a1  w = some (r, w')) : Sp yX8_spent cX8_spent 4 (some .int) 1 [vR 32 0, vI a1] w (some (vI r)) w' := sp_of (by decide) (fun _ => rfl) (fun _ => Nat.le_of_ble_eq_true rfl) (t8_spent  a1   _ _ _ h)
-- X8_findFeet OneADayModel
def f8_findFeet_135  (a1 : Int32) (rec21 : Int32 → Mem → Option Mem) : Nat → Int32 → Int32 → Mem → Option Mem
  | 0, _, _, _ => none
  | n + 1, x2, x4, w =>
  if a1 ≤ x4 then (rec21 x2 w) else (if x4 < 0 ∨ 10 ≤ Int32.toNatClampNeg x4 then none else if x4 < 0 ∨ 10 ≤ Int32.toNatClampNeg x4 then none else bnd (sI w 32 35 (Int32.toNatClampNeg x4) (w.1 32 34 (Int32.toNatClampNeg x4))) fun w4 => bnd (x4 + 1) fun y5 => f8_findFeet_135  a1 rec21 n x2 y5 w4)
set_option maxRecDepth 100000 in
set_option maxHeartbeats 4000000 in
theorem t8_findFeet_135   (a1 : Int32)  (rec21 : Int32 → Mem → Option Mem) (hrec21 : ∀ (x2 : Int32) (w w' : Mem), rec21 x2 w = some w' → Bk yX8_findFeet cX8_findFeet 5 none 4 21 [(0, vR 32 0), (1, vI a1), (2, vI x2)] [] w none w') : ∀ (n : Nat) (x2 : Int32) (x4 : Int32) (w w' : Mem), f8_findFeet_135  a1 rec21 n x2 x4 w = some w' → Bk yX8_findFeet cX8_findFeet 5 none 4 135 [(0, vR 32 0), (1, vI a1), (2, vI x2), (4, vI x4)] [] w none w' := by
  intro n
  induction n with
  | zero =>
    intro x2 x4 w w' h
    cases (show (none : Option Mem) = some _ from h)
  | succ n ih =>
    intro x2 x4 w w' h
    rw [f8_findFeet_135] at h
    refine b_iload dX8_findFeet_135 (k := 3) rfl ?_
    refine b_iload_n dX8_findFeet_137 rfl (k := 1) rfl ?_
    refine b_icge (tgt := 161) dX8_findFeet_138 (by decide) (fun c1 => ?_) (fun c1 => ?_)
    · replace h := ifT c1 h
      refine b_goto (tgt := 174) dX8_findFeet_161 (by decide) ?_
      refine b_goto (tgt := 21) dX8_findFeet_174 (by decide) ?_
      refine b_sub [0, 1, 2] rfl ?_
      exact hrec21 x2 _ _  h
    · replace h := ifF c1 h
      refine b_aload_n dX8_findFeet_141 rfl (k := 0) rfl ?_
      refine b_getF fl8_72 ob32 rfl rfl dX8_findFeet_142 ?_
      refine b_iload dX8_findFeet_145 (k := 3) rfl ?_
      refine b_aload_n dX8_findFeet_147 rfl (k := 0) rfl ?_
      refine b_getF fl8_69 ob32 rfl rfl dX8_findFeet_148 ?_
      refine b_iload dX8_findFeet_151 (k := 3) rfl ?_
      obtain ⟨g2, h⟩ := gdE h
      refine b_iald ar32_34 g2 rfl dX8_findFeet_153 ?_
      obtain ⟨g3, h⟩ := gdE h
      obtain ⟨w4, ew4, h⟩ := nmE h
      refine b_iast ar32_35 g3 rfl dX8_findFeet_154 ?_
      refine b_nmW ew4 ?_
      obtain ⟨y5, ey5, h⟩ := nmE h
      refine b_iinc (v := y5) (lv' := [(4, vI y5), (0, vR 32 0), (1, vI a1), (2, vI x2)]) dX8_findFeet_155 (k := 3) rfl ey5.symm (by decide) rfl ?_
      refine b_goto (tgt := 135) dX8_findFeet_158 (by decide) ?_
      refine b_sub [1, 2, 3, 0] rfl ?_
      exact ih x2 y5 _ _  h
def f8_findFeet_21  (a1 : Int32)  : Nat → Int32 → Mem → Option Mem
  | 0, _, _ => none
  | n + 1, x2, w =>
  if x2 < 0 then (some w) else (if x2 < 0 ∨ 10 ≤ Int32.toNatClampNeg x2 then none else if x2 < 0 ∨ 10 ≤ Int32.toNatClampNeg x2 then none else bnd (sI w 32 34 (Int32.toNatClampNeg x2) ((w.1 32 34 (Int32.toNatClampNeg x2)) + 1)) fun w4 => if x2 < 0 ∨ 10 ≤ Int32.toNatClampNeg x2 then none else bnd (w4.1 32 34 (Int32.toNatClampNeg x2)) fun y6 => if y6 < (w4.1 32 3 0) then (bndO (f8_wasChosen y6 x2 w4) fun r9 w8 => if r9 = 0 then (bndO (f8_mayGo y6 ((w8.1 32 11 0) + x2) w8) fun r12 w11 => if r12 = 0 then (f8_findFeet_21  a1  n x2 w11) else (bndO (f8_spent (x2 + 1) w11) fun r15 w14 => bndO (f8_latest (x2 + 1) w14) fun r17 w16 => if ((6561 * (x2 + 1)) + r17) < 0 ∨ 72171 ≤ Int32.toNatClampNeg ((6561 * (x2 + 1)) + r17) then none else if (w16.1 32 36 0) ≤ (r15 + (w16.1 32 33 (Int32.toNatClampNeg ((6561 * (x2 + 1)) + r17)))) then (f8_findFeet_21  a1  n x2 w16) else (if x2 = (a1 - 1) then (bndO (f8_spent a1 w16) fun r25 w24 => bnd (sI w24 32 36 0 r25) fun w26 => f8_findFeet_135  a1 (f8_findFeet_21  a1  n) 100000 x2 0 w26) else (bnd (x2 + 1) fun y21 => if y21 < 0 ∨ 10 ≤ Int32.toNatClampNeg y21 then none else bnd (sI w16 32 34 (Int32.toNatClampNeg y21) (-1)) fun w23 => f8_findFeet_21  a1  n y21 w23)))) else (f8_findFeet_21  a1  n x2 w8)) else (bnd (x2 + (-1)) fun y27 => f8_findFeet_21  a1  n y27 w4))
set_option maxRecDepth 100000 in
set_option maxHeartbeats 4000000 in
theorem t8_findFeet_21   (a1 : Int32)    : ∀ (n : Nat) (x2 : Int32) (w w' : Mem), f8_findFeet_21  a1  n x2 w = some w' → Bk yX8_findFeet cX8_findFeet 5 none 4 21 [(0, vR 32 0), (1, vI a1), (2, vI x2)] [] w none w' := by
  intro n
  induction n with
  | zero =>
    intro x2 w w' h
    cases (show (none : Option Mem) = some _ from h)
  | succ n ih =>
    intro x2 w w' h
    rw [f8_findFeet_21] at h
    refine b_iload_n dX8_findFeet_21 rfl (k := 2) rfl ?_
    refine b_iflt (tgt := 177) dX8_findFeet_22 (by decide) (fun c1 => ?_) (fun c1 => ?_)
    · replace h := ifT c1 h
      cases h
      exact b_vret rfl dX8_findFeet_177
    · replace h := ifF c1 h
      refine b_aload_n dX8_findFeet_25 rfl (k := 0) rfl ?_
      refine b_getF fl8_69 ob32 rfl rfl dX8_findFeet_26 ?_
      refine b_iload_n dX8_findFeet_29 rfl (k := 2) rfl ?_
      refine b_dup2 dX8_findFeet_30 rfl rfl ?_
      obtain ⟨g2, h⟩ := gdE h
      refine b_iald ar32_34 g2 rfl dX8_findFeet_31 ?_
      refine b_iconst (v := 1) dX8_findFeet_32 (by decide) ?_
      refine b_iadd dX8_findFeet_33 ?_
      obtain ⟨g3, h⟩ := gdE h
      obtain ⟨w4, ew4, h⟩ := nmE h
      refine b_iast ar32_34 g3 rfl dX8_findFeet_34 ?_
      refine b_nmW ew4 ?_
      refine b_aload_n dX8_findFeet_35 rfl (k := 0) rfl ?_
      refine b_getF fl8_69 ob32 rfl rfl dX8_findFeet_36 ?_
      refine b_iload_n dX8_findFeet_39 rfl (k := 2) rfl ?_
      obtain ⟨g5, h⟩ := gdE h
      refine b_iald ar32_34 g5 rfl dX8_findFeet_40 ?_
      obtain ⟨y6, ey6, h⟩ := nmE h
      refine b_nmI ey6 ?_
      refine b_istore_n (lv' := [(3, vI y6), (0, vR 32 0), (1, vI a1), (2, vI x2)]) dX8_findFeet_41 rfl (by decide) rfl ?_
      refine b_iload_n dX8_findFeet_42 rfl (k := 0) rfl ?_
      refine b_aload_n dX8_findFeet_43 rfl (k := 1) rfl ?_
      refine b_getI fl8_94 ob32 rfl dX8_findFeet_44 ?_
      refine b_iclt (tgt := 56) dX8_findFeet_47 (by decide) (fun c7 => ?_) (fun c7 => ?_)
      · replace h := ifT c7 h
        refine b_aload_n dX8_findFeet_56 rfl (k := 1) rfl ?_
        refine b_iload_n dX8_findFeet_57 rfl (k := 0) rfl ?_
        refine b_iload_n dX8_findFeet_58 rfl (k := 3) rfl ?_
        obtain ⟨r9, w8, hw8, h⟩ := bdO h
        refine b_callVi mv8_wasChosen ml8_287 ob32 (s8_wasChosen y6 x2  _ _ _ hw8) rfl (by decide) (by decide) (Nat.le_of_ble_eq_true rfl) rfl dX8_findFeet_59 ?_
        refine b_ifne (tgt := 174) dX8_findFeet_62 (by decide) (fun c10 => ?_) (fun c10 => ?_)
        · replace h := ifF c10 h
          refine b_goto (tgt := 21) dX8_findFeet_174 (by decide) ?_
          refine b_sub [1, 2, 3] rfl ?_
          exact ih x2 _ _  h
        · replace h := ifT c10 h
          refine b_aload_n dX8_findFeet_65 rfl (k := 1) rfl ?_
          refine b_iload_n dX8_findFeet_66 rfl (k := 0) rfl ?_
          refine b_aload_n dX8_findFeet_67 rfl (k := 1) rfl ?_
          refine b_getF fl8_25 ob32 rfl rfl dX8_findFeet_68 ?_
          refine b_iconst (v := 0) dX8_findFeet_71 (by decide) ?_
          refine b_iald ar32_11 (j0 := 0) (by decide) (by decide) dX8_findFeet_72 ?_
          refine b_iload_n dX8_findFeet_73 rfl (k := 3) rfl ?_
          refine b_iadd dX8_findFeet_74 ?_
          obtain ⟨r12, w11, hw11, h⟩ := bdO h
          refine b_callVi mv8_mayGo ml8_278 ob32 (s8_mayGo y6 ((w8.1 32 11 0) + x2)  _ _ _ hw11) rfl (by decide) (by decide) (Nat.le_of_ble_eq_true rfl) rfl dX8_findFeet_75 ?_
          refine b_ifeq (tgt := 174) dX8_findFeet_78 (by decide) (fun c13 => ?_) (fun c13 => ?_)
          · replace h := ifT c13 h
            refine b_goto (tgt := 21) dX8_findFeet_174 (by decide) ?_
            refine b_sub [1, 2, 3] rfl ?_
            exact ih x2 _ _  h
          · replace h := ifF c13 h
            refine b_aload_n dX8_findFeet_81 rfl (k := 1) rfl ?_
            refine b_iload_n dX8_findFeet_82 rfl (k := 3) rfl ?_
            refine b_iconst (v := 1) dX8_findFeet_83 (by decide) ?_
            refine b_iadd dX8_findFeet_84 ?_
            obtain ⟨r15, w14, hw14, h⟩ := bdO h
            refine b_callVi mv8_spent ml8_290 ob32 (s8_spent (x2 + 1)  _ _ _ hw14) rfl (by decide) (by decide) (Nat.le_of_ble_eq_true rfl) rfl dX8_findFeet_85 ?_
            refine b_aload_n dX8_findFeet_88 rfl (k := 1) rfl ?_
            refine b_getF fl8_66 ob32 rfl rfl dX8_findFeet_89 ?_
            refine b_sipush (v := 6561) dX8_findFeet_92 (by decide) ?_
            refine b_iload_n dX8_findFeet_95 rfl (k := 3) rfl ?_
            refine b_iconst (v := 1) dX8_findFeet_96 (by decide) ?_
            refine b_iadd dX8_findFeet_97 ?_
            refine b_imul dX8_findFeet_98 ?_
            refine b_aload_n dX8_findFeet_99 rfl (k := 1) rfl ?_
            refine b_iload_n dX8_findFeet_100 rfl (k := 3) rfl ?_
            refine b_iconst (v := 1) dX8_findFeet_101 (by decide) ?_
            refine b_iadd dX8_findFeet_102 ?_
            obtain ⟨r17, w16, hw16, h⟩ := bdO h
            refine b_callVi mv8_latest ml8_293 ob32 (s8_latest (x2 + 1)  _ _ _ hw16) rfl (by decide) (by decide) (Nat.le_of_ble_eq_true rfl) rfl dX8_findFeet_103 ?_
            refine b_iadd dX8_findFeet_106 ?_
            obtain ⟨g18, h⟩ := gdE h
            refine b_iald ar32_33 g18 rfl dX8_findFeet_107 ?_
            refine b_iadd dX8_findFeet_108 ?_
            refine b_aload_n dX8_findFeet_109 rfl (k := 1) rfl ?_
            refine b_getI fl8_284 ob32 rfl dX8_findFeet_110 ?_
            refine b_icge (tgt := 174) dX8_findFeet_113 (by decide) (fun c19 => ?_) (fun c19 => ?_)
            · replace h := ifT c19 h
              refine b_goto (tgt := 21) dX8_findFeet_174 (by decide) ?_
              refine b_sub [1, 2, 3] rfl ?_
              exact ih x2 _ _  h
            · replace h := ifF c19 h
              refine b_iload_n dX8_findFeet_116 rfl (k := 3) rfl ?_
              refine b_iload_n dX8_findFeet_117 rfl (k := 2) rfl ?_
              refine b_iconst (v := 1) dX8_findFeet_118 (by decide) ?_
              refine b_isub dX8_findFeet_119 ?_
              refine b_icne (tgt := 164) dX8_findFeet_120 (by decide) (fun c20 => ?_) (fun c20 => ?_)
              · replace h := ifF c20 h
                obtain ⟨y21, ey21, h⟩ := nmE h
                refine b_iinc (v := y21) (lv' := [(2, vI y21), (3, vI y6), (0, vR 32 0), (1, vI a1)]) dX8_findFeet_164 (k := 3) rfl ey21.symm (by decide) rfl ?_
                refine b_aload_n dX8_findFeet_167 rfl (k := 2) rfl ?_
                refine b_getF fl8_69 ob32 rfl rfl dX8_findFeet_168 ?_
                refine b_iload_n dX8_findFeet_171 rfl (k := 0) rfl ?_
                refine b_iconst (v := (-1)) dX8_findFeet_172 (by decide) ?_
                obtain ⟨g22, h⟩ := gdE h
                obtain ⟨w23, ew23, h⟩ := nmE h
                refine b_iast ar32_34 g22 rfl dX8_findFeet_173 ?_
                refine b_nmW ew23 ?_
                refine b_goto (tgt := 21) dX8_findFeet_174 (by decide) ?_
                refine b_sub [2, 3, 0] rfl ?_
                exact ih y21 _ _  h
              · replace h := ifT c20 h
                refine b_aload_n dX8_findFeet_123 rfl (k := 1) rfl ?_
                refine b_aload_n dX8_findFeet_124 rfl (k := 1) rfl ?_
                refine b_iload_n dX8_findFeet_125 rfl (k := 2) rfl ?_
                obtain ⟨r25, w24, hw24, h⟩ := bdO h
                refine b_callVi mv8_spent ml8_290 ob32 (s8_spent a1  _ _ _ hw24) rfl (by decide) (by decide) (Nat.le_of_ble_eq_true rfl) rfl dX8_findFeet_126 ?_
                obtain ⟨w26, ew26, h⟩ := nmE h
                refine b_putI fw8_284 ob32 rfl dX8_findFeet_129 ?_
                refine b_nmW ew26 ?_
                refine b_iconst (v := 0) dX8_findFeet_132 (by decide) ?_
                refine b_istore (lv' := [(4, vI 0), (3, vI y6), (0, vR 32 0), (1, vI a1), (2, vI x2)]) dX8_findFeet_133 (by decide) rfl ?_
                refine b_sub [2, 3, 4, 0] rfl ?_
                exact t8_findFeet_135  a1  (f8_findFeet_21  a1  n) ih 100000 x2 0 _ _  h
      · replace h := ifF c7 h
        obtain ⟨y27, ey27, h⟩ := nmE h
        refine b_iinc (v := y27) (lv' := [(2, vI y27), (3, vI y6), (0, vR 32 0), (1, vI a1)]) dX8_findFeet_50 (k := 3) rfl ey27.symm (by decide) rfl ?_
        refine b_goto (tgt := 174) dX8_findFeet_53 (by decide) ?_
        refine b_goto (tgt := 21) dX8_findFeet_174 (by decide) ?_
        refine b_sub [2, 3, 0] rfl ?_
        exact ih y27 _ _  h
def f8_findFeet  (a1 : Int32)   (w : Mem) : Option Mem :=
  bndV (f8_findLow a1 w) fun w1 => bnd (sI w1 32 36 0 1000000) fun w2 => bnd (sI w2 32 34 0 (-1)) fun w3 => f8_findFeet_21  a1  1000000000000 0 w3
set_option maxRecDepth 100000 in
set_option maxHeartbeats 4000000 in
theorem t8_findFeet   (a1 : Int32)     (w w' : Mem) (h : f8_findFeet  a1   w = some w') : Bk yX8_findFeet cX8_findFeet 5 none 4 0 [(0, vR 32 0), (1, vI a1)] [] w none w' := by
  unfold f8_findFeet at h
  refine b_aload_n dX8_findFeet_0 rfl (k := 0) rfl ?_
  refine b_iload_n dX8_findFeet_1 rfl (k := 1) rfl ?_
  obtain ⟨w1, hw1, h⟩ := bdV h
  refine b_callVv mv8_findLow ml8_281 ob32 (s8_findLow a1  _ _  hw1) rfl (by decide) (by decide) (Nat.le_of_ble_eq_true rfl) rfl dX8_findFeet_2 ?_
  refine b_aload_n dX8_findFeet_5 rfl (k := 0) rfl ?_
  refine b_ldcw dX8_findFeet_6 kk8_277 ?_
  obtain ⟨w2, ew2, h⟩ := nmE h
  refine b_putI fw8_284 ob32 rfl dX8_findFeet_9 ?_
  refine b_nmW ew2 ?_
  refine b_iconst (v := 0) dX8_findFeet_12 (by decide) ?_
  refine b_istore_n (lv' := [(2, vI 0), (0, vR 32 0), (1, vI a1)]) dX8_findFeet_13 rfl (by decide) rfl ?_
  refine b_aload_n dX8_findFeet_14 rfl (k := 1) rfl ?_
  refine b_getF fl8_69 ob32 rfl rfl dX8_findFeet_15 ?_
  refine b_iconst (v := 0) dX8_findFeet_18 (by decide) ?_
  refine b_iconst (v := (-1)) dX8_findFeet_19 (by decide) ?_
  obtain ⟨w3, ew3, h⟩ := nmE h
  refine b_iast ar32_34 (j0 := 0) (by decide) (by decide) dX8_findFeet_20 ?_
  refine b_nmW ew3 ?_
  refine b_sub [1, 2, 0] rfl ?_
  exact t8_findFeet_21  a1    1000000000000 0 _ _  h
theorem s8_findFeet (a1 : Int32)  (w w' : Mem) (h : f8_findFeet  a1  w = some w') : Sp yX8_findFeet cX8_findFeet 5 none 4 [vR 32 0, vI a1] w none w' := sp_of (by decide) (fun _ => rfl) (fun _ => Nat.le_of_ble_eq_true rfl) (t8_findFeet  a1   _ _  h)
