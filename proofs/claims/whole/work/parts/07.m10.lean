-- X8_takeClause OneADayModel
def f8_takeClause_64     (w : Mem) : Option (Int32 × Mem) :=
  bndO (f8_fails 1 (w.1 32 16 0) w) fun r2 w1 => some (r2, w1)
set_option maxRecDepth 100000 in
set_option maxHeartbeats 4000000 in
theorem t8_takeClause_64        (w w' : Mem) (r : Int32) (h : f8_takeClause_64     w = some (r, w')) : Bk yX8_takeClause cX8_takeClause 5 (some .int) 5 64 [(0, vR 32 0)] [] w (some (vI r)) w' := by
  unfold f8_takeClause_64 at h
  refine b_aload_n dX8_takeClause_64 rfl (k := 0) rfl ?_
  refine b_iconst (v := 1) dX8_takeClause_65 (by decide) ?_
  refine b_aload_n dX8_takeClause_66 rfl (k := 0) rfl ?_
  refine b_getI fl8_108 ob32 rfl dX8_takeClause_67 ?_
  obtain ⟨r2, w1, hw1, h⟩ := bdO h
  refine b_callVi mv8_fails ml8_119 ob32 (s8_fails 1 (w.1 32 16 0)  _ _ _ hw1) rfl (by decide) (by decide) (Nat.le_of_ble_eq_true rfl) rfl dX8_takeClause_70 ?_
  obtain ⟨rfl, rfl⟩ := rtE h
  exact b_iret rfl dX8_takeClause_73
def f8_takeClause_269    (x4 : Int32) (s1 : Int32) (s2 : Int32) (w : Mem) : Option (Int32 × Mem) :=
  bnd (sI w 32 27 0 (s1 + s2)) fun w1 => if x4 = 0 then (bndO (f8_here  w1) fun r5 w4 => if r5 = 59 then (bnd (sI w4 32 16 0 ((w4.1 32 16 0) + 1)) fun w7 => some (x4, w7)) else (bndO (f8_fails 1 (w4.1 32 16 0) w4) fun r9 w8 => some (r9, w8))) else (bnd (sI w1 32 16 0 ((w1.1 32 16 0) + 1)) fun w3 => some (x4, w3))
set_option maxRecDepth 100000 in
set_option maxHeartbeats 4000000 in
theorem t8_takeClause_269       (x4 : Int32) (s1 : Int32) (s2 : Int32) (w w' : Mem) (r : Int32) (h : f8_takeClause_269    x4 s1 s2 w = some (r, w')) : Bk yX8_takeClause cX8_takeClause 5 (some .int) 5 269 [(0, vR 32 0), (4, vI x4)] [vI s2, vI s1, vR 32 0] w (some (vI r)) w' := by
  unfold f8_takeClause_269 at h
  refine b_iadd dX8_takeClause_269 ?_
  obtain ⟨w1, ew1, h⟩ := nmE h
  refine b_putI fw8_142 ob32 rfl dX8_takeClause_270 ?_
  refine b_nmW ew1 ?_
  refine b_iload dX8_takeClause_273 (k := 1) rfl ?_
  refine b_ifne (tgt := 297) dX8_takeClause_275 (by decide) (fun c2 => ?_) (fun c2 => ?_)
  · replace h := ifF c2 h
    refine b_aload_n dX8_takeClause_297 rfl (k := 0) rfl ?_
    refine b_dup dX8_takeClause_298 rfl ?_
    refine b_getI fl8_108 ob32 rfl dX8_takeClause_299 ?_
    refine b_iconst (v := 1) dX8_takeClause_302 (by decide) ?_
    refine b_iadd dX8_takeClause_303 ?_
    obtain ⟨w3, ew3, h⟩ := nmE h
    refine b_putI fw8_108 ob32 rfl dX8_takeClause_304 ?_
    refine b_nmW ew3 ?_
    refine b_iload dX8_takeClause_307 (k := 1) rfl ?_
    obtain ⟨rfl, rfl⟩ := rtE h
    exact b_iret rfl dX8_takeClause_309
  · replace h := ifT c2 h
    refine b_aload_n dX8_takeClause_278 rfl (k := 0) rfl ?_
    obtain ⟨r5, w4, hw4, h⟩ := bdO h
    refine b_callVi mv8_here ml8_111 ob32 (s8_here   _ _ _ hw4) rfl (by decide) (by decide) (Nat.le_of_ble_eq_true rfl) rfl dX8_takeClause_279 ?_
    refine b_bipush (v := 59) dX8_takeClause_282 (by decide) ?_
    refine b_iceq (tgt := 297) dX8_takeClause_284 (by decide) (fun c6 => ?_) (fun c6 => ?_)
    · replace h := ifT c6 h
      refine b_aload_n dX8_takeClause_297 rfl (k := 0) rfl ?_
      refine b_dup dX8_takeClause_298 rfl ?_
      refine b_getI fl8_108 ob32 rfl dX8_takeClause_299 ?_
      refine b_iconst (v := 1) dX8_takeClause_302 (by decide) ?_
      refine b_iadd dX8_takeClause_303 ?_
      obtain ⟨w7, ew7, h⟩ := nmE h
      refine b_putI fw8_108 ob32 rfl dX8_takeClause_304 ?_
      refine b_nmW ew7 ?_
      refine b_iload dX8_takeClause_307 (k := 1) rfl ?_
      obtain ⟨rfl, rfl⟩ := rtE h
      exact b_iret rfl dX8_takeClause_309
    · replace h := ifF c6 h
      refine b_aload_n dX8_takeClause_287 rfl (k := 0) rfl ?_
      refine b_iconst (v := 1) dX8_takeClause_288 (by decide) ?_
      refine b_aload_n dX8_takeClause_289 rfl (k := 0) rfl ?_
      refine b_getI fl8_108 ob32 rfl dX8_takeClause_290 ?_
      obtain ⟨r9, w8, hw8, h⟩ := bdO h
      refine b_callVi mv8_fails ml8_119 ob32 (s8_fails 1 (w4.1 32 16 0)  _ _ _ hw8) rfl (by decide) (by decide) (Nat.le_of_ble_eq_true rfl) rfl dX8_takeClause_293 ?_
      obtain ⟨rfl, rfl⟩ := rtE h
      exact b_iret rfl dX8_takeClause_296
def f8_takeClause_250    (x2 : Int32) (x4 : Int32) (s1 : Int32) (s2 : Int32) (w : Mem) : Option (Int32 × Mem) :=
  bnd (sI w 32 25 0 (s1 + s2)) fun w1 => if x2 = 3 then (f8_takeClause_269    x4 (w1.1 32 27 0) 1 w1) else (f8_takeClause_269    x4 (w1.1 32 27 0) 0 w1)
set_option maxRecDepth 100000 in
set_option maxHeartbeats 4000000 in
theorem t8_takeClause_250       (x2 : Int32) (x4 : Int32) (s1 : Int32) (s2 : Int32) (w w' : Mem) (r : Int32) (h : f8_takeClause_250    x2 x4 s1 s2 w = some (r, w')) : Bk yX8_takeClause cX8_takeClause 5 (some .int) 5 250 [(0, vR 32 0), (2, vI x2), (4, vI x4)] [vI s2, vI s1, vR 32 0] w (some (vI r)) w' := by
  unfold f8_takeClause_250 at h
  refine b_iadd dX8_takeClause_250 ?_
  obtain ⟨w1, ew1, h⟩ := nmE h
  refine b_putI fw8_139 ob32 rfl dX8_takeClause_251 ?_
  refine b_nmW ew1 ?_
  refine b_aload_n dX8_takeClause_254 rfl (k := 0) rfl ?_
  refine b_dup dX8_takeClause_255 rfl ?_
  refine b_getI fl8_142 ob32 rfl dX8_takeClause_256 ?_
  refine b_iload_n dX8_takeClause_259 rfl (k := 1) rfl ?_
  refine b_iconst (v := 3) dX8_takeClause_260 (by decide) ?_
  refine b_icne (tgt := 268) dX8_takeClause_261 (by decide) (fun c2 => ?_) (fun c2 => ?_)
  · replace h := ifF c2 h
    refine b_iconst (v := 0) dX8_takeClause_268 (by decide) ?_
    refine b_sub [0, 2] rfl ?_
    exact t8_takeClause_269      x4 (w1.1 32 27 0) 0 _ _ _ h
  · replace h := ifT c2 h
    refine b_iconst (v := 1) dX8_takeClause_264 (by decide) ?_
    refine b_goto (tgt := 269) dX8_takeClause_265 (by decide) ?_
    refine b_sub [0, 2] rfl ?_
    exact t8_takeClause_269      x4 (w1.1 32 27 0) 1 _ _ _ h
def f8_takeClause_233    (x2 : Int32) (s0 : Int32) (w : Mem) : Option (Int32 × Mem) :=
  if x2 = 2 then (f8_takeClause_250    x2 s0 (w.1 32 25 0) 1 w) else (f8_takeClause_250    x2 s0 (w.1 32 25 0) 0 w)
set_option maxRecDepth 100000 in
set_option maxHeartbeats 4000000 in
theorem t8_takeClause_233       (x2 : Int32) (s0 : Int32) (w w' : Mem) (r : Int32) (h : f8_takeClause_233    x2 s0 w = some (r, w')) : Bk yX8_takeClause cX8_takeClause 5 (some .int) 5 233 [(0, vR 32 0), (2, vI x2)] [vI s0] w (some (vI r)) w' := by
  unfold f8_takeClause_233 at h
  refine b_istore (lv' := [(4, vI s0), (0, vR 32 0), (2, vI x2)]) dX8_takeClause_233 (by decide) rfl ?_
  refine b_aload_n dX8_takeClause_235 rfl (k := 1) rfl ?_
  refine b_dup dX8_takeClause_236 rfl ?_
  refine b_getI fl8_139 ob32 rfl dX8_takeClause_237 ?_
  refine b_iload_n dX8_takeClause_240 rfl (k := 2) rfl ?_
  refine b_iconst (v := 2) dX8_takeClause_241 (by decide) ?_
  refine b_icne (tgt := 249) dX8_takeClause_242 (by decide) (fun c1 => ?_) (fun c1 => ?_)
  · replace h := ifF c1 h
    refine b_iconst (v := 0) dX8_takeClause_249 (by decide) ?_
    refine b_sub [1, 2, 0] rfl ?_
    exact t8_takeClause_250      x2 s0 (w.1 32 25 0) 0 _ _ _ h
  · replace h := ifT c1 h
    refine b_iconst (v := 1) dX8_takeClause_245 (by decide) ?_
    refine b_goto (tgt := 250) dX8_takeClause_246 (by decide) ?_
    refine b_sub [1, 2, 0] rfl ?_
    exact t8_takeClause_250      x2 s0 (w.1 32 25 0) 1 _ _ _ h
def f8_takeClause_153    (x2 : Int32) (s0 : Int32) (w : Mem) : Option (Int32 × Mem) :=
  if s0 = 0 then (bnd (sI w 32 16 0 ((w.1 32 16 0) + 1)) fun w2 => if x2 = 0 then (bndO (f8_takeHermit  w2) fun r13 w12 => f8_takeClause_233    x2 r13 w12) else (if x2 = 1 then (bndO (f8_takeVillage  w2) fun r11 w10 => f8_takeClause_233    x2 r11 w10) else (if x2 = 2 then (bndO (f8_takeDay 32 26 8 (w2.1 32 25 0) w2) fun r9 w8 => f8_takeClause_233    x2 r9 w8) else (bndO (f8_takeDay 32 28 8 (w2.1 32 27 0) w2) fun r7 w6 => f8_takeClause_233    x2 r7 w6)))) else (bndO (f8_fails 3 (w.1 32 16 0) w) fun r15 w14 => some (r15, w14))
set_option maxRecDepth 100000 in
set_option maxHeartbeats 4000000 in
theorem t8_takeClause_153       (x2 : Int32) (s0 : Int32) (w w' : Mem) (r : Int32) (h : f8_takeClause_153    x2 s0 w = some (r, w')) : Bk yX8_takeClause cX8_takeClause 5 (some .int) 5 153 [(0, vR 32 0), (2, vI x2)] [vI s0] w (some (vI r)) w' := by
  unfold f8_takeClause_153 at h
  refine b_istore_n (lv' := [(3, vI s0), (0, vR 32 0), (2, vI x2)]) dX8_takeClause_153 rfl (by decide) rfl ?_
  refine b_iload_n dX8_takeClause_154 rfl (k := 0) rfl ?_
  refine b_ifeq (tgt := 168) dX8_takeClause_155 (by decide) (fun c1 => ?_) (fun c1 => ?_)
  · replace h := ifT c1 h
    refine b_aload_n dX8_takeClause_168 rfl (k := 1) rfl ?_
    refine b_dup dX8_takeClause_169 rfl ?_
    refine b_getI fl8_108 ob32 rfl dX8_takeClause_170 ?_
    refine b_iconst (v := 1) dX8_takeClause_173 (by decide) ?_
    refine b_iadd dX8_takeClause_174 ?_
    obtain ⟨w2, ew2, h⟩ := nmE h
    refine b_putI fw8_108 ob32 rfl dX8_takeClause_175 ?_
    refine b_nmW ew2 ?_
    refine b_iload_n dX8_takeClause_178 rfl (k := 2) rfl ?_
    refine b_ifne (tgt := 189) dX8_takeClause_179 (by decide) (fun c3 => ?_) (fun c3 => ?_)
    · replace h := ifF c3 h
      refine b_iload_n dX8_takeClause_189 rfl (k := 2) rfl ?_
      refine b_iconst (v := 1) dX8_takeClause_190 (by decide) ?_
      refine b_icne (tgt := 201) dX8_takeClause_191 (by decide) (fun c4 => ?_) (fun c4 => ?_)
      · replace h := ifF c4 h
        refine b_iload_n dX8_takeClause_201 rfl (k := 2) rfl ?_
        refine b_iconst (v := 2) dX8_takeClause_202 (by decide) ?_
        refine b_icne (tgt := 221) dX8_takeClause_203 (by decide) (fun c5 => ?_) (fun c5 => ?_)
        · replace h := ifF c5 h
          refine b_aload_n dX8_takeClause_221 rfl (k := 1) rfl ?_
          refine b_aload_n dX8_takeClause_222 rfl (k := 1) rfl ?_
          refine b_getF fl8_53 ob32 rfl rfl dX8_takeClause_223 ?_
          refine b_aload_n dX8_takeClause_226 rfl (k := 1) rfl ?_
          refine b_getI fl8_142 ob32 rfl dX8_takeClause_227 ?_
          obtain ⟨r7, w6, hw6, h⟩ := bdO h
          refine b_callVi mv8_takeDay ml8_151 ob32 (s8_takeDay 32 28 8 (w2.1 32 27 0) ar32_28 _ _ _ hw6) rfl (by decide) (by decide) (Nat.le_of_ble_eq_true rfl) rfl dX8_takeClause_230 ?_
          refine b_sub [1, 2] rfl ?_
          exact t8_takeClause_233      x2 r7 _ _ _ h
        · replace h := ifT c5 h
          refine b_aload_n dX8_takeClause_206 rfl (k := 1) rfl ?_
          refine b_aload_n dX8_takeClause_207 rfl (k := 1) rfl ?_
          refine b_getF fl8_50 ob32 rfl rfl dX8_takeClause_208 ?_
          refine b_aload_n dX8_takeClause_211 rfl (k := 1) rfl ?_
          refine b_getI fl8_139 ob32 rfl dX8_takeClause_212 ?_
          obtain ⟨r9, w8, hw8, h⟩ := bdO h
          refine b_callVi mv8_takeDay ml8_151 ob32 (s8_takeDay 32 26 8 (w2.1 32 25 0) ar32_26 _ _ _ hw8) rfl (by decide) (by decide) (Nat.le_of_ble_eq_true rfl) rfl dX8_takeClause_215 ?_
          refine b_goto (tgt := 233) dX8_takeClause_218 (by decide) ?_
          refine b_sub [1, 2] rfl ?_
          exact t8_takeClause_233      x2 r9 _ _ _ h
      · replace h := ifT c4 h
        refine b_aload_n dX8_takeClause_194 rfl (k := 1) rfl ?_
        obtain ⟨r11, w10, hw10, h⟩ := bdO h
        refine b_callVi mv8_takeVillage ml8_148 ob32 (s8_takeVillage   _ _ _ hw10) rfl (by decide) (by decide) (Nat.le_of_ble_eq_true rfl) rfl dX8_takeClause_195 ?_
        refine b_goto (tgt := 233) dX8_takeClause_198 (by decide) ?_
        refine b_sub [1, 2] rfl ?_
        exact t8_takeClause_233      x2 r11 _ _ _ h
    · replace h := ifT c3 h
      refine b_aload_n dX8_takeClause_182 rfl (k := 1) rfl ?_
      obtain ⟨r13, w12, hw12, h⟩ := bdO h
      refine b_callVi mv8_takeHermit ml8_145 ob32 (s8_takeHermit   _ _ _ hw12) rfl (by decide) (by decide) (Nat.le_of_ble_eq_true rfl) rfl dX8_takeClause_183 ?_
      refine b_goto (tgt := 233) dX8_takeClause_186 (by decide) ?_
      refine b_sub [1, 2] rfl ?_
      exact t8_takeClause_233      x2 r13 _ _ _ h
  · replace h := ifF c1 h
    refine b_aload_n dX8_takeClause_158 rfl (k := 1) rfl ?_
    refine b_iconst (v := 3) dX8_takeClause_159 (by decide) ?_
    refine b_aload_n dX8_takeClause_160 rfl (k := 1) rfl ?_
    refine b_getI fl8_108 ob32 rfl dX8_takeClause_161 ?_
    obtain ⟨r15, w14, hw14, h⟩ := bdO h
    refine b_callVi mv8_fails ml8_119 ob32 (s8_fails 3 (w.1 32 16 0)  _ _ _ hw14) rfl (by decide) (by decide) (Nat.le_of_ble_eq_true rfl) rfl dX8_takeClause_164 ?_
    obtain ⟨rfl, rfl⟩ := rtE h
    exact b_iret rfl dX8_takeClause_167
def f8_takeClause_74    (x2 : Int32) (w : Mem) : Option (Int32 × Mem) :=
  if x2 = 0 then (if (w.1 32 19 0) ≤ 0 then (f8_takeClause_153    x2 0 w) else (f8_takeClause_153    x2 1 w)) else (if x2 = 1 then (if (w.1 32 20 0) = 8 then (f8_takeClause_153    x2 1 w) else (f8_takeClause_153    x2 0 w)) else (if x2 = 2 then (if (w.1 32 25 0) = 8 then (f8_takeClause_153    x2 1 w) else (f8_takeClause_153    x2 0 w)) else (if (w.1 32 27 0) = 8 then (f8_takeClause_153    x2 1 w) else (f8_takeClause_153    x2 0 w))))
set_option maxRecDepth 100000 in
set_option maxHeartbeats 4000000 in
theorem t8_takeClause_74       (x2 : Int32) (w w' : Mem) (r : Int32) (h : f8_takeClause_74    x2 w = some (r, w')) : Bk yX8_takeClause cX8_takeClause 5 (some .int) 5 74 [(0, vR 32 0), (2, vI x2)] [] w (some (vI r)) w' := by
  unfold f8_takeClause_74 at h
  refine b_iload_n dX8_takeClause_74 rfl (k := 1) rfl ?_
  refine b_ifne (tgt := 95) dX8_takeClause_75 (by decide) (fun c1 => ?_) (fun c1 => ?_)
  · replace h := ifF c1 h
    refine b_iload_n dX8_takeClause_95 rfl (k := 1) rfl ?_
    refine b_iconst (v := 1) dX8_takeClause_96 (by decide) ?_
    refine b_icne (tgt := 117) dX8_takeClause_97 (by decide) (fun c2 => ?_) (fun c2 => ?_)
    · replace h := ifF c2 h
      refine b_iload_n dX8_takeClause_117 rfl (k := 1) rfl ?_
      refine b_iconst (v := 2) dX8_takeClause_118 (by decide) ?_
      refine b_icne (tgt := 139) dX8_takeClause_119 (by decide) (fun c3 => ?_) (fun c3 => ?_)
      · replace h := ifF c3 h
        refine b_aload_n dX8_takeClause_139 rfl (k := 0) rfl ?_
        refine b_getI fl8_142 ob32 rfl dX8_takeClause_140 ?_
        refine b_bipush (v := 8) dX8_takeClause_143 (by decide) ?_
        refine b_icne (tgt := 152) dX8_takeClause_145 (by decide) (fun c4 => ?_) (fun c4 => ?_)
        · replace h := ifF c4 h
          refine b_iconst (v := 0) dX8_takeClause_152 (by decide) ?_
          refine b_sub [0, 1] rfl ?_
          exact t8_takeClause_153      x2 0 _ _ _ h
        · replace h := ifT c4 h
          refine b_iconst (v := 1) dX8_takeClause_148 (by decide) ?_
          refine b_goto (tgt := 153) dX8_takeClause_149 (by decide) ?_
          refine b_sub [0, 1] rfl ?_
          exact t8_takeClause_153      x2 1 _ _ _ h
      · replace h := ifT c3 h
        refine b_aload_n dX8_takeClause_122 rfl (k := 0) rfl ?_
        refine b_getI fl8_139 ob32 rfl dX8_takeClause_123 ?_
        refine b_bipush (v := 8) dX8_takeClause_126 (by decide) ?_
        refine b_icne (tgt := 135) dX8_takeClause_128 (by decide) (fun c5 => ?_) (fun c5 => ?_)
        · replace h := ifF c5 h
          refine b_iconst (v := 0) dX8_takeClause_135 (by decide) ?_
          refine b_goto (tgt := 153) dX8_takeClause_136 (by decide) ?_
          refine b_sub [0, 1] rfl ?_
          exact t8_takeClause_153      x2 0 _ _ _ h
        · replace h := ifT c5 h
          refine b_iconst (v := 1) dX8_takeClause_131 (by decide) ?_
          refine b_goto (tgt := 153) dX8_takeClause_132 (by decide) ?_
          refine b_sub [0, 1] rfl ?_
          exact t8_takeClause_153      x2 1 _ _ _ h
    · replace h := ifT c2 h
      refine b_aload_n dX8_takeClause_100 rfl (k := 0) rfl ?_
      refine b_getI fl8_136 ob32 rfl dX8_takeClause_101 ?_
      refine b_bipush (v := 8) dX8_takeClause_104 (by decide) ?_
      refine b_icne (tgt := 113) dX8_takeClause_106 (by decide) (fun c6 => ?_) (fun c6 => ?_)
      · replace h := ifF c6 h
        refine b_iconst (v := 0) dX8_takeClause_113 (by decide) ?_
        refine b_goto (tgt := 153) dX8_takeClause_114 (by decide) ?_
        refine b_sub [0, 1] rfl ?_
        exact t8_takeClause_153      x2 0 _ _ _ h
      · replace h := ifT c6 h
        refine b_iconst (v := 1) dX8_takeClause_109 (by decide) ?_
        refine b_goto (tgt := 153) dX8_takeClause_110 (by decide) ?_
        refine b_sub [0, 1] rfl ?_
        exact t8_takeClause_153      x2 1 _ _ _ h
  · replace h := ifT c1 h
    refine b_aload_n dX8_takeClause_78 rfl (k := 0) rfl ?_
    refine b_getF fl8_35 ob32 rfl rfl dX8_takeClause_79 ?_
    refine b_iconst (v := 0) dX8_takeClause_82 (by decide) ?_
    refine b_iald ar32_19 (j0 := 0) (by decide) (by decide) dX8_takeClause_83 ?_
    refine b_ifle (tgt := 91) dX8_takeClause_84 (by decide) (fun c7 => ?_) (fun c7 => ?_)
    · replace h := ifT c7 h
      refine b_iconst (v := 0) dX8_takeClause_91 (by decide) ?_
      refine b_goto (tgt := 153) dX8_takeClause_92 (by decide) ?_
      refine b_sub [0, 1] rfl ?_
      exact t8_takeClause_153      x2 0 _ _ _ h
    · replace h := ifF c7 h
      refine b_iconst (v := 1) dX8_takeClause_87 (by decide) ?_
      refine b_goto (tgt := 153) dX8_takeClause_88 (by decide) ?_
      refine b_sub [0, 1] rfl ?_
      exact t8_takeClause_153      x2 1 _ _ _ h
def f8_takeClause_46    (s0 : Int32) (w : Mem) : Option (Int32 × Mem) :=
  if s0 < 0 then (f8_takeClause_64     w) else (if s0 ≤ 0 then (f8_takeClause_74    s0 w) else (if (w.1 32 19 0) = 0 then (f8_takeClause_64     w) else (f8_takeClause_74    s0 w)))
set_option maxRecDepth 100000 in
set_option maxHeartbeats 4000000 in
theorem t8_takeClause_46       (s0 : Int32) (w w' : Mem) (r : Int32) (h : f8_takeClause_46    s0 w = some (r, w')) : Bk yX8_takeClause cX8_takeClause 5 (some .int) 5 46 [(0, vR 32 0)] [vI s0] w (some (vI r)) w' := by
  unfold f8_takeClause_46 at h
  refine b_istore_n (lv' := [(2, vI s0), (0, vR 32 0)]) dX8_takeClause_46 rfl (by decide) rfl ?_
  refine b_iload_n dX8_takeClause_47 rfl (k := 0) rfl ?_
  refine b_iflt (tgt := 64) dX8_takeClause_48 (by decide) (fun c1 => ?_) (fun c1 => ?_)
  · replace h := ifT c1 h
    refine b_sub [1] rfl ?_
    exact t8_takeClause_64       _ _ _ h
  · replace h := ifF c1 h
    refine b_iload_n dX8_takeClause_51 rfl (k := 0) rfl ?_
    refine b_ifle (tgt := 74) dX8_takeClause_52 (by decide) (fun c2 => ?_) (fun c2 => ?_)
    · replace h := ifT c2 h
      refine b_sub [1, 0] rfl ?_
      exact t8_takeClause_74      s0 _ _ _ h
    · replace h := ifF c2 h
      refine b_aload_n dX8_takeClause_55 rfl (k := 1) rfl ?_
      refine b_getF fl8_35 ob32 rfl rfl dX8_takeClause_56 ?_
      refine b_iconst (v := 0) dX8_takeClause_59 (by decide) ?_
      refine b_iald ar32_19 (j0 := 0) (by decide) (by decide) dX8_takeClause_60 ?_
      refine b_ifne (tgt := 74) dX8_takeClause_61 (by decide) (fun c3 => ?_) (fun c3 => ?_)
      · replace h := ifF c3 h
        refine b_sub [1, 0] rfl ?_
        exact t8_takeClause_74      s0 _ _ _ h
      · replace h := ifT c3 h
        refine b_sub [1] rfl ?_
        exact t8_takeClause_64       _ _ _ h
def f8_takeClause     (w : Mem) : Option (Int32 × Mem) :=
  bndO (f8_here  w) fun r2 w1 => if r2 = 104 then (f8_takeClause_46    0 w1) else (if r2 = 118 then (f8_takeClause_46    1 w1) else (if r2 = 102 then (f8_takeClause_46    2 w1) else (if r2 = 103 then (f8_takeClause_46    3 w1) else (f8_takeClause_46    (-1) w1))))
set_option maxRecDepth 100000 in
set_option maxHeartbeats 4000000 in
theorem t8_takeClause        (w w' : Mem) (r : Int32) (h : f8_takeClause     w = some (r, w')) : Bk yX8_takeClause cX8_takeClause 5 (some .int) 5 0 [(0, vR 32 0)] [] w (some (vI r)) w' := by
  unfold f8_takeClause at h
  refine b_aload_n dX8_takeClause_0 rfl (k := 0) rfl ?_
  obtain ⟨r2, w1, hw1, h⟩ := bdO h
  refine b_callVi mv8_here ml8_111 ob32 (s8_here   _ _ _ hw1) rfl (by decide) (by decide) (Nat.le_of_ble_eq_true rfl) rfl dX8_takeClause_1 ?_
  refine b_istore_n (lv' := [(1, vI r2), (0, vR 32 0)]) dX8_takeClause_4 rfl (by decide) rfl ?_
  refine b_iload_n dX8_takeClause_5 rfl (k := 0) rfl ?_
  refine b_bipush (v := 104) dX8_takeClause_6 (by decide) ?_
  refine b_icne (tgt := 15) dX8_takeClause_8 (by decide) (fun c3 => ?_) (fun c3 => ?_)
  · replace h := ifF c3 h
    refine b_iload_n dX8_takeClause_15 rfl (k := 0) rfl ?_
    refine b_bipush (v := 118) dX8_takeClause_16 (by decide) ?_
    refine b_icne (tgt := 25) dX8_takeClause_18 (by decide) (fun c4 => ?_) (fun c4 => ?_)
    · replace h := ifF c4 h
      refine b_iload_n dX8_takeClause_25 rfl (k := 0) rfl ?_
      refine b_bipush (v := 102) dX8_takeClause_26 (by decide) ?_
      refine b_icne (tgt := 35) dX8_takeClause_28 (by decide) (fun c5 => ?_) (fun c5 => ?_)
      · replace h := ifF c5 h
        refine b_iload_n dX8_takeClause_35 rfl (k := 0) rfl ?_
        refine b_bipush (v := 103) dX8_takeClause_36 (by decide) ?_
        refine b_icne (tgt := 45) dX8_takeClause_38 (by decide) (fun c6 => ?_) (fun c6 => ?_)
        · replace h := ifF c6 h
          refine b_iconst (v := (-1)) dX8_takeClause_45 (by decide) ?_
          refine b_sub [1] rfl ?_
          exact t8_takeClause_46      (-1) _ _ _ h
        · replace h := ifT c6 h
          refine b_iconst (v := 3) dX8_takeClause_41 (by decide) ?_
          refine b_goto (tgt := 46) dX8_takeClause_42 (by decide) ?_
          refine b_sub [1] rfl ?_
          exact t8_takeClause_46      3 _ _ _ h
      · replace h := ifT c5 h
        refine b_iconst (v := 2) dX8_takeClause_31 (by decide) ?_
        refine b_goto (tgt := 46) dX8_takeClause_32 (by decide) ?_
        refine b_sub [1] rfl ?_
        exact t8_takeClause_46      2 _ _ _ h
    · replace h := ifT c4 h
      refine b_iconst (v := 1) dX8_takeClause_21 (by decide) ?_
      refine b_goto (tgt := 46) dX8_takeClause_22 (by decide) ?_
      refine b_sub [1] rfl ?_
      exact t8_takeClause_46      1 _ _ _ h
  · replace h := ifT c3 h
    refine b_iconst (v := 0) dX8_takeClause_11 (by decide) ?_
    refine b_goto (tgt := 46) dX8_takeClause_12 (by decide) ?_
    refine b_sub [1] rfl ?_
    exact t8_takeClause_46      0 _ _ _ h
theorem s8_takeClause   (w w' : Mem) (r : Int32) (h : f8_takeClause    w = some (r, w')) : Sp yX8_takeClause cX8_takeClause 5 (some .int) 5 [vR 32 0] w (some (vI r)) w' := sp_of (by decide) (fun _ => rfl) (fun _ => Nat.le_of_ble_eq_true rfl) (t8_takeClause     _ _ _ h)
-- X8_takeRead OneADayModel
def f8_takeRead_154    : Nat → Int32 → Mem → Option Mem
  | 0, _, _ => none
  | n + 1, x1, w =>
  if 8 ≤ x1 then (some w) else (if x1 < 0 ∨ 8 ≤ Int32.toNatClampNeg x1 then none else if x1 < 0 ∨ 8 ≤ Int32.toNatClampNeg x1 then none else bnd (sI w 32 8 (Int32.toNatClampNeg x1) (w.1 32 26 (Int32.toNatClampNeg x1))) fun w4 => if x1 < 0 ∨ 8 ≤ Int32.toNatClampNeg x1 then none else if x1 < 0 ∨ 8 ≤ Int32.toNatClampNeg x1 then none else bnd (sI w4 32 10 (Int32.toNatClampNeg x1) (w4.1 32 28 (Int32.toNatClampNeg x1))) fun w7 => bnd (x1 + 1) fun y8 => f8_takeRead_154    n y8 w7)
set_option maxRecDepth 100000 in
set_option maxHeartbeats 4000000 in
theorem t8_takeRead_154       : ∀ (n : Nat) (x1 : Int32) (w w' : Mem), f8_takeRead_154    n x1 w = some w' → Bk yX8_takeRead cX8_takeRead 2 none 1 154 [(0, vR 32 0), (1, vI x1)] [] w none w' := by
  intro n
  induction n with
  | zero =>
    intro x1 w w' h
    cases (show (none : Option Mem) = some _ from h)
  | succ n ih =>
    intro x1 w w' h
    rw [f8_takeRead_154] at h
    refine b_iload_n dX8_takeRead_154 rfl (k := 1) rfl ?_
    refine b_bipush (v := 8) dX8_takeRead_155 (by decide) ?_
    refine b_icge (tgt := 190) dX8_takeRead_157 (by decide) (fun c1 => ?_) (fun c1 => ?_)
    · replace h := ifT c1 h
      cases h
      exact b_vret rfl dX8_takeRead_190
    · replace h := ifF c1 h
      refine b_aload_n dX8_takeRead_160 rfl (k := 0) rfl ?_
      refine b_getF fl8_19 ob32 rfl rfl dX8_takeRead_161 ?_
      refine b_iload_n dX8_takeRead_164 rfl (k := 1) rfl ?_
      refine b_aload_n dX8_takeRead_165 rfl (k := 0) rfl ?_
      refine b_getF fl8_50 ob32 rfl rfl dX8_takeRead_166 ?_
      refine b_iload_n dX8_takeRead_169 rfl (k := 1) rfl ?_
      obtain ⟨g2, h⟩ := gdE h
      refine b_iald ar32_26 g2 rfl dX8_takeRead_170 ?_
      obtain ⟨g3, h⟩ := gdE h
      obtain ⟨w4, ew4, h⟩ := nmE h
      refine b_iast ar32_8 g3 rfl dX8_takeRead_171 ?_
      refine b_nmW ew4 ?_
      refine b_aload_n dX8_takeRead_172 rfl (k := 0) rfl ?_
      refine b_getF fl8_22 ob32 rfl rfl dX8_takeRead_173 ?_
      refine b_iload_n dX8_takeRead_176 rfl (k := 1) rfl ?_
      refine b_aload_n dX8_takeRead_177 rfl (k := 0) rfl ?_
      refine b_getF fl8_53 ob32 rfl rfl dX8_takeRead_178 ?_
      refine b_iload_n dX8_takeRead_181 rfl (k := 1) rfl ?_
      obtain ⟨g5, h⟩ := gdE h
      refine b_iald ar32_28 g5 rfl dX8_takeRead_182 ?_
      obtain ⟨g6, h⟩ := gdE h
      obtain ⟨w7, ew7, h⟩ := nmE h
      refine b_iast ar32_10 g6 rfl dX8_takeRead_183 ?_
      refine b_nmW ew7 ?_
      obtain ⟨y8, ey8, h⟩ := nmE h
      refine b_iinc (v := y8) (lv' := [(1, vI y8), (0, vR 32 0)]) dX8_takeRead_184 (k := 1) rfl ey8.symm (by decide) rfl ?_
      refine b_goto (tgt := 154) dX8_takeRead_187 (by decide) ?_
      refine b_sub [1, 0] rfl ?_
      exact ih y8 _ _  h
def f8_takeRead_87    : Nat → Int32 → Mem → Option Mem
  | 0, _, _ => none
  | n + 1, x1, w =>
  if (w.1 32 3 0) ≤ x1 then (f8_takeRead_154    100000 0 w) else (if x1 < 0 ∨ 8 ≤ Int32.toNatClampNeg x1 then none else if x1 < 0 ∨ 8 ≤ Int32.toNatClampNeg x1 then none else bnd (sI w 32 4 (Int32.toNatClampNeg x1) (w.1 32 21 (Int32.toNatClampNeg x1))) fun w4 => if x1 < 0 ∨ 8 ≤ Int32.toNatClampNeg x1 then none else if x1 < 0 ∨ 8 ≤ Int32.toNatClampNeg x1 then none else bnd (sI w4 32 5 (Int32.toNatClampNeg x1) (w4.1 32 22 (Int32.toNatClampNeg x1))) fun w7 => if x1 < 0 ∨ 8 ≤ Int32.toNatClampNeg x1 then none else if x1 < 0 ∨ 8 ≤ Int32.toNatClampNeg x1 then none else bnd (sI w7 32 6 (Int32.toNatClampNeg x1) (w7.1 32 24 (Int32.toNatClampNeg x1))) fun w10 => if x1 < 0 ∨ 8 ≤ Int32.toNatClampNeg x1 then none else if (10 + x1) < 0 ∨ 103 ≤ Int32.toNatClampNeg (10 + x1) then none else bnd (sI w10 32 11 (Int32.toNatClampNeg (10 + x1)) (w10.1 32 23 (Int32.toNatClampNeg x1))) fun w13 => bnd (x1 + 1) fun y14 => f8_takeRead_87    n y14 w13)
set_option maxRecDepth 100000 in
set_option maxHeartbeats 4000000 in
theorem t8_takeRead_87       : ∀ (n : Nat) (x1 : Int32) (w w' : Mem), f8_takeRead_87    n x1 w = some w' → Bk yX8_takeRead cX8_takeRead 2 none 1 87 [(0, vR 32 0), (1, vI x1)] [] w none w' := by
  intro n
  induction n with
  | zero =>
    intro x1 w w' h
    cases (show (none : Option Mem) = some _ from h)
  | succ n ih =>
    intro x1 w w' h
    rw [f8_takeRead_87] at h
    refine b_iload_n dX8_takeRead_87 rfl (k := 1) rfl ?_
    refine b_aload_n dX8_takeRead_88 rfl (k := 0) rfl ?_
    refine b_getI fl8_94 ob32 rfl dX8_takeRead_89 ?_
    refine b_icge (tgt := 152) dX8_takeRead_92 (by decide) (fun c1 => ?_) (fun c1 => ?_)
    · replace h := ifT c1 h
      refine b_iconst (v := 0) dX8_takeRead_152 (by decide) ?_
      refine b_istore_n (lv' := [(1, vI 0), (0, vR 32 0)]) dX8_takeRead_153 rfl (by decide) rfl ?_
      refine b_sub [1, 0] rfl ?_
      exact t8_takeRead_154      100000 0 _ _  h
    · replace h := ifF c1 h
      refine b_aload_n dX8_takeRead_95 rfl (k := 0) rfl ?_
      refine b_getF fl8_7 ob32 rfl rfl dX8_takeRead_96 ?_
      refine b_iload_n dX8_takeRead_99 rfl (k := 1) rfl ?_
      refine b_aload_n dX8_takeRead_100 rfl (k := 0) rfl ?_
      refine b_getF fl8_38 ob32 rfl rfl dX8_takeRead_101 ?_
      refine b_iload_n dX8_takeRead_104 rfl (k := 1) rfl ?_
      obtain ⟨g2, h⟩ := gdE h
      refine b_iald ar32_21 g2 rfl dX8_takeRead_105 ?_
      obtain ⟨g3, h⟩ := gdE h
      obtain ⟨w4, ew4, h⟩ := nmE h
      refine b_iast ar32_4 g3 rfl dX8_takeRead_106 ?_
      refine b_nmW ew4 ?_
      refine b_aload_n dX8_takeRead_107 rfl (k := 0) rfl ?_
      refine b_getF fl8_13 ob32 rfl rfl dX8_takeRead_108 ?_
      refine b_iload_n dX8_takeRead_111 rfl (k := 1) rfl ?_
      refine b_aload_n dX8_takeRead_112 rfl (k := 0) rfl ?_
      refine b_getF fl8_41 ob32 rfl rfl dX8_takeRead_113 ?_
      refine b_iload_n dX8_takeRead_116 rfl (k := 1) rfl ?_
      obtain ⟨g5, h⟩ := gdE h
      refine b_iald ar32_22 g5 rfl dX8_takeRead_117 ?_
      obtain ⟨g6, h⟩ := gdE h
      obtain ⟨w7, ew7, h⟩ := nmE h
      refine b_iast ar32_5 g6 rfl dX8_takeRead_118 ?_
      refine b_nmW ew7 ?_
      refine b_aload_n dX8_takeRead_119 rfl (k := 0) rfl ?_
      refine b_getF fl8_16 ob32 rfl rfl dX8_takeRead_120 ?_
      refine b_iload_n dX8_takeRead_123 rfl (k := 1) rfl ?_
      refine b_aload_n dX8_takeRead_124 rfl (k := 0) rfl ?_
      refine b_getF fl8_47 ob32 rfl rfl dX8_takeRead_125 ?_
      refine b_iload_n dX8_takeRead_128 rfl (k := 1) rfl ?_
      obtain ⟨g8, h⟩ := gdE h
      refine b_iald ar32_24 g8 rfl dX8_takeRead_129 ?_
      obtain ⟨g9, h⟩ := gdE h
      obtain ⟨w10, ew10, h⟩ := nmE h
      refine b_iast ar32_6 g9 rfl dX8_takeRead_130 ?_
      refine b_nmW ew10 ?_
      refine b_aload_n dX8_takeRead_131 rfl (k := 0) rfl ?_
      refine b_getF fl8_25 ob32 rfl rfl dX8_takeRead_132 ?_
      refine b_bipush (v := 10) dX8_takeRead_135 (by decide) ?_
      refine b_iload_n dX8_takeRead_137 rfl (k := 1) rfl ?_
      refine b_iadd dX8_takeRead_138 ?_
      refine b_aload_n dX8_takeRead_139 rfl (k := 0) rfl ?_
      refine b_getF fl8_44 ob32 rfl rfl dX8_takeRead_140 ?_
      refine b_iload_n dX8_takeRead_143 rfl (k := 1) rfl ?_
      obtain ⟨g11, h⟩ := gdE h
      refine b_iald ar32_23 g11 rfl dX8_takeRead_144 ?_
      obtain ⟨g12, h⟩ := gdE h
      obtain ⟨w13, ew13, h⟩ := nmE h
      refine b_iast ar32_11 g12 rfl dX8_takeRead_145 ?_
      refine b_nmW ew13 ?_
      obtain ⟨y14, ey14, h⟩ := nmE h
      refine b_iinc (v := y14) (lv' := [(1, vI y14), (0, vR 32 0)]) dX8_takeRead_146 (k := 1) rfl ey14.symm (by decide) rfl ?_
      refine b_goto (tgt := 87) dX8_takeRead_149 (by decide) ?_
      refine b_sub [1, 0] rfl ?_
      exact ih y14 _ _  h
def f8_takeRead_56    : Nat → Int32 → Mem → Option Mem
  | 0, _, _ => none
  | n + 1, x1, w =>
  if 103 ≤ x1 then (f8_takeRead_87    100000 0 w) else (if 18 ≤ x1 then (if x1 < 0 ∨ 103 ≤ Int32.toNatClampNeg x1 then none else bnd (sI w 32 11 (Int32.toNatClampNeg x1) (-1)) fun w4 => bnd (x1 + 1) fun y5 => f8_takeRead_56    n y5 w4) else (if x1 < 0 ∨ 103 ≤ Int32.toNatClampNeg x1 then none else bnd (sI w 32 11 (Int32.toNatClampNeg x1) 0) fun w7 => bnd (x1 + 1) fun y8 => f8_takeRead_56    n y8 w7))
set_option maxRecDepth 100000 in
set_option maxHeartbeats 4000000 in
theorem t8_takeRead_56       : ∀ (n : Nat) (x1 : Int32) (w w' : Mem), f8_takeRead_56    n x1 w = some w' → Bk yX8_takeRead cX8_takeRead 2 none 1 56 [(0, vR 32 0), (1, vI x1)] [] w none w' := by
  intro n
  induction n with
  | zero =>
    intro x1 w w' h
    cases (show (none : Option Mem) = some _ from h)
  | succ n ih =>
    intro x1 w w' h
    rw [f8_takeRead_56] at h
    refine b_iload_n dX8_takeRead_56 rfl (k := 1) rfl ?_
    refine b_bipush (v := 103) dX8_takeRead_57 (by decide) ?_
    refine b_icge (tgt := 85) dX8_takeRead_59 (by decide) (fun c1 => ?_) (fun c1 => ?_)
    · replace h := ifT c1 h
      refine b_iconst (v := 0) dX8_takeRead_85 (by decide) ?_
      refine b_istore_n (lv' := [(1, vI 0), (0, vR 32 0)]) dX8_takeRead_86 rfl (by decide) rfl ?_
      refine b_sub [1, 0] rfl ?_
      exact t8_takeRead_87      100000 0 _ _  h
    · replace h := ifF c1 h
      refine b_aload_n dX8_takeRead_62 rfl (k := 0) rfl ?_
      refine b_getF fl8_25 ob32 rfl rfl dX8_takeRead_63 ?_
      refine b_iload_n dX8_takeRead_66 rfl (k := 1) rfl ?_
      refine b_iload_n dX8_takeRead_67 rfl (k := 1) rfl ?_
      refine b_bipush (v := 18) dX8_takeRead_68 (by decide) ?_
      refine b_icge (tgt := 77) dX8_takeRead_70 (by decide) (fun c2 => ?_) (fun c2 => ?_)
      · replace h := ifT c2 h
        refine b_iconst (v := (-1)) dX8_takeRead_77 (by decide) ?_
        obtain ⟨g3, h⟩ := gdE h
        obtain ⟨w4, ew4, h⟩ := nmE h
        refine b_iast ar32_11 g3 rfl dX8_takeRead_78 ?_
        refine b_nmW ew4 ?_
        obtain ⟨y5, ey5, h⟩ := nmE h
        refine b_iinc (v := y5) (lv' := [(1, vI y5), (0, vR 32 0)]) dX8_takeRead_79 (k := 1) rfl ey5.symm (by decide) rfl ?_
        refine b_goto (tgt := 56) dX8_takeRead_82 (by decide) ?_
        refine b_sub [1, 0] rfl ?_
        exact ih y5 _ _  h
      · replace h := ifF c2 h
        refine b_iconst (v := 0) dX8_takeRead_73 (by decide) ?_
        refine b_goto (tgt := 78) dX8_takeRead_74 (by decide) ?_
        obtain ⟨g6, h⟩ := gdE h
        obtain ⟨w7, ew7, h⟩ := nmE h
        refine b_iast ar32_11 g6 rfl dX8_takeRead_78 ?_
        refine b_nmW ew7 ?_
        obtain ⟨y8, ey8, h⟩ := nmE h
        refine b_iinc (v := y8) (lv' := [(1, vI y8), (0, vR 32 0)]) dX8_takeRead_79 (k := 1) rfl ey8.symm (by decide) rfl ?_
        refine b_goto (tgt := 56) dX8_takeRead_82 (by decide) ?_
        refine b_sub [1, 0] rfl ?_
        exact ih y8 _ _  h
def f8_takeRead     (w : Mem) : Option Mem :=
  bnd (sI w 32 0 0 (w.1 32 19 0)) fun w1 => bnd (sI w1 32 1 0 (w1.1 32 19 1)) fun w2 => bnd (sI w2 32 2 0 (w2.1 32 19 2)) fun w3 => bnd (sI w3 32 3 0 (w3.1 32 20 0)) fun w4 => bnd (sI w4 32 7 0 (w4.1 32 25 0)) fun w5 => bnd (sI w5 32 9 0 (w5.1 32 27 0)) fun w6 => f8_takeRead_56    100000 0 w6
set_option maxRecDepth 100000 in
set_option maxHeartbeats 4000000 in
theorem t8_takeRead        (w w' : Mem) (h : f8_takeRead     w = some w') : Bk yX8_takeRead cX8_takeRead 2 none 1 0 [(0, vR 32 0)] [] w none w' := by
  unfold f8_takeRead at h
  refine b_aload_n dX8_takeRead_0 rfl (k := 0) rfl ?_
  refine b_aload_n dX8_takeRead_1 rfl (k := 0) rfl ?_
  refine b_getF fl8_35 ob32 rfl rfl dX8_takeRead_2 ?_
  refine b_iconst (v := 0) dX8_takeRead_5 (by decide) ?_
  refine b_iald ar32_19 (j0 := 0) (by decide) (by decide) dX8_takeRead_6 ?_
  obtain ⟨w1, ew1, h⟩ := nmE h
  refine b_putI fw8_155 ob32 rfl dX8_takeRead_7 ?_
  refine b_nmW ew1 ?_
  refine b_aload_n dX8_takeRead_10 rfl (k := 0) rfl ?_
  refine b_aload_n dX8_takeRead_11 rfl (k := 0) rfl ?_
  refine b_getF fl8_35 ob32 rfl rfl dX8_takeRead_12 ?_
  refine b_iconst (v := 1) dX8_takeRead_15 (by decide) ?_
  refine b_iald ar32_19 (j0 := 1) (by decide) (by decide) dX8_takeRead_16 ?_
  obtain ⟨w2, ew2, h⟩ := nmE h
  refine b_putI fw8_158 ob32 rfl dX8_takeRead_17 ?_
  refine b_nmW ew2 ?_
  refine b_aload_n dX8_takeRead_20 rfl (k := 0) rfl ?_
  refine b_aload_n dX8_takeRead_21 rfl (k := 0) rfl ?_
  refine b_getF fl8_35 ob32 rfl rfl dX8_takeRead_22 ?_
  refine b_iconst (v := 2) dX8_takeRead_25 (by decide) ?_
  refine b_iald ar32_19 (j0 := 2) (by decide) (by decide) dX8_takeRead_26 ?_
  obtain ⟨w3, ew3, h⟩ := nmE h
  refine b_putI fw8_161 ob32 rfl dX8_takeRead_27 ?_
  refine b_nmW ew3 ?_
  refine b_aload_n dX8_takeRead_30 rfl (k := 0) rfl ?_
  refine b_aload_n dX8_takeRead_31 rfl (k := 0) rfl ?_
  refine b_getI fl8_136 ob32 rfl dX8_takeRead_32 ?_
  obtain ⟨w4, ew4, h⟩ := nmE h
  refine b_putI fw8_94 ob32 rfl dX8_takeRead_35 ?_
  refine b_nmW ew4 ?_
  refine b_aload_n dX8_takeRead_38 rfl (k := 0) rfl ?_
  refine b_aload_n dX8_takeRead_39 rfl (k := 0) rfl ?_
  refine b_getI fl8_139 ob32 rfl dX8_takeRead_40 ?_
  obtain ⟨w5, ew5, h⟩ := nmE h
  refine b_putI fw8_164 ob32 rfl dX8_takeRead_43 ?_
  refine b_nmW ew5 ?_
  refine b_aload_n dX8_takeRead_46 rfl (k := 0) rfl ?_
  refine b_aload_n dX8_takeRead_47 rfl (k := 0) rfl ?_
  refine b_getI fl8_142 ob32 rfl dX8_takeRead_48 ?_
  obtain ⟨w6, ew6, h⟩ := nmE h
  refine b_putI fw8_167 ob32 rfl dX8_takeRead_51 ?_
  refine b_nmW ew6 ?_
  refine b_iconst (v := 0) dX8_takeRead_54 (by decide) ?_
  refine b_istore_n (lv' := [(1, vI 0), (0, vR 32 0)]) dX8_takeRead_55 rfl (by decide) rfl ?_
  refine b_sub [1, 0] rfl ?_
  exact t8_takeRead_56      100000 0 _ _  h
theorem s8_takeRead   (w w' : Mem) (h : f8_takeRead    w = some w') : Sp yX8_takeRead cX8_takeRead 2 none 1 [vR 32 0] w none w' := sp_of (by decide) (fun _ => rfl) (fun _ => Nat.le_of_ble_eq_true rfl) (t8_takeRead     _ _  h)
-- X8_rock OneADayModel
def f8_rock_66    (x1 : Int32) (w : Mem) : Option (Int32 × Mem) :=
  bnd (sI w 32 14 0 0) fun w1 => if x1 ≤ 0 then (bndV (f8_takeRead  w1) fun w3 => bnd (sI w3 32 37 0 0) fun w4 => bnd (sI w4 32 40 0 0) fun w5 => bnd (sI w5 32 29 0 0) fun w6 => bnd (sI w6 32 44 0 0) fun w7 => bnd (sI w7 32 44 1 0) fun w8 => some (w8.1 32 3 0, w8)) else (some ((-10) - x1, w1))
set_option maxRecDepth 100000 in
set_option maxHeartbeats 4000000 in
theorem t8_rock_66       (x1 : Int32) (w w' : Mem) (r : Int32) (h : f8_rock_66    x1 w = some (r, w')) : Bk yX8_rock cX8_rock 2 (some .int) 6 66 [(0, vR 32 0), (1, vI x1)] [] w (some (vI r)) w' := by
  unfold f8_rock_66 at h
  refine b_aload_n dX8_rock_66 rfl (k := 0) rfl ?_
  refine b_iconst (v := 0) dX8_rock_67 (by decide) ?_
  obtain ⟨w1, ew1, h⟩ := nmE h
  refine b_putI fw8_104 ob32 rfl dX8_rock_68 ?_
  refine b_nmW ew1 ?_
  refine b_iload_n dX8_rock_71 rfl (k := 1) rfl ?_
  refine b_ifle (tgt := 80) dX8_rock_72 (by decide) (fun c2 => ?_) (fun c2 => ?_)
  · replace h := ifT c2 h
    refine b_aload_n dX8_rock_80 rfl (k := 0) rfl ?_
    obtain ⟨w3, hw3, h⟩ := bdV h
    refine b_callVv mv8_takeRead ml8_173 ob32 (s8_takeRead   _ _  hw3) rfl (by decide) (by decide) (Nat.le_of_ble_eq_true rfl) rfl dX8_rock_81 ?_
    refine b_aload_n dX8_rock_84 rfl (k := 0) rfl ?_
    refine b_iconst (v := 0) dX8_rock_85 (by decide) ?_
    obtain ⟨w4, ew4, h⟩ := nmE h
    refine b_putI fw8_176 ob32 rfl dX8_rock_86 ?_
    refine b_nmW ew4 ?_
    refine b_aload_n dX8_rock_89 rfl (k := 0) rfl ?_
    refine b_iconst (v := 0) dX8_rock_90 (by decide) ?_
    obtain ⟨w5, ew5, h⟩ := nmE h
    refine b_putI fw8_179 ob32 rfl dX8_rock_91 ?_
    refine b_nmW ew5 ?_
    refine b_aload_n dX8_rock_94 rfl (k := 0) rfl ?_
    refine b_iconst (v := 0) dX8_rock_95 (by decide) ?_
    obtain ⟨w6, ew6, h⟩ := nmE h
    refine b_putI fw8_182 ob32 rfl dX8_rock_96 ?_
    refine b_nmW ew6 ?_
    refine b_aload_n dX8_rock_99 rfl (k := 0) rfl ?_
    refine b_getF fl8_90 ob32 rfl rfl dX8_rock_100 ?_
    refine b_iconst (v := 0) dX8_rock_103 (by decide) ?_
    refine b_iconst (v := 0) dX8_rock_104 (by decide) ?_
    obtain ⟨w7, ew7, h⟩ := nmE h
    refine b_zast ar32_44 (j0 := 0) (by decide) (by decide) (by decide) dX8_rock_105 ?_
    refine b_nmW ew7 ?_
    refine b_aload_n dX8_rock_106 rfl (k := 0) rfl ?_
    refine b_getF fl8_90 ob32 rfl rfl dX8_rock_107 ?_
    refine b_iconst (v := 1) dX8_rock_110 (by decide) ?_
    refine b_iconst (v := 0) dX8_rock_111 (by decide) ?_
    obtain ⟨w8, ew8, h⟩ := nmE h
    refine b_zast ar32_44 (j0 := 1) (by decide) (by decide) (by decide) dX8_rock_112 ?_
    refine b_nmW ew8 ?_
    refine b_aload_n dX8_rock_113 rfl (k := 0) rfl ?_
    refine b_getI fl8_94 ob32 rfl dX8_rock_114 ?_
    obtain ⟨rfl, rfl⟩ := rtE h
    exact b_iret rfl dX8_rock_117
  · replace h := ifF c2 h
    refine b_bipush (v := (-10)) dX8_rock_75 (by decide) ?_
    refine b_iload_n dX8_rock_77 rfl (k := 1) rfl ?_
    refine b_isub dX8_rock_78 ?_
    obtain ⟨rfl, rfl⟩ := rtE h
    exact b_iret rfl dX8_rock_79
def f8_rock_47    : Nat → Int32 → Mem → Option (Int32 × Mem)
  | 0, _, _ => none
  | n + 1, x1, w =>
  if x1 = 0 then (bndO (f8_here  w) fun r3 w2 => if r3 < 0 then (f8_rock_66    x1 w2) else (bndO (f8_takeClause  w2) fun r6 w5 => f8_rock_47    n r6 w5)) else (f8_rock_66    x1 w)
set_option maxRecDepth 100000 in
set_option maxHeartbeats 4000000 in
theorem t8_rock_47       : ∀ (n : Nat) (x1 : Int32) (w w' : Mem) (r : Int32), f8_rock_47    n x1 w = some (r, w') → Bk yX8_rock cX8_rock 2 (some .int) 6 47 [(0, vR 32 0), (1, vI x1)] [] w (some (vI r)) w' := by
  intro n
  induction n with
  | zero =>
    intro x1 w w' r h
    cases (show (none : Option (Int32 × Mem)) = some _ from h)
  | succ n ih =>
    intro x1 w w' r h
    rw [f8_rock_47] at h
    refine b_iload_n dX8_rock_47 rfl (k := 1) rfl ?_
    refine b_ifne (tgt := 66) dX8_rock_48 (by decide) (fun c1 => ?_) (fun c1 => ?_)
    · replace h := ifF c1 h
      refine b_sub [0, 1] rfl ?_
      exact t8_rock_66      x1 _ _ _ h
    · replace h := ifT c1 h
      refine b_aload_n dX8_rock_51 rfl (k := 0) rfl ?_
      obtain ⟨r3, w2, hw2, h⟩ := bdO h
      refine b_callVi mv8_here ml8_111 ob32 (s8_here   _ _ _ hw2) rfl (by decide) (by decide) (Nat.le_of_ble_eq_true rfl) rfl dX8_rock_52 ?_
      refine b_iflt (tgt := 66) dX8_rock_55 (by decide) (fun c4 => ?_) (fun c4 => ?_)
      · replace h := ifT c4 h
        refine b_sub [0, 1] rfl ?_
        exact t8_rock_66      x1 _ _ _ h
      · replace h := ifF c4 h
        refine b_aload_n dX8_rock_58 rfl (k := 0) rfl ?_
        obtain ⟨r6, w5, hw5, h⟩ := bdO h
        refine b_callVi mv8_takeClause ml8_170 ob32 (s8_takeClause   _ _ _ hw5) rfl (by decide) (by decide) (Nat.le_of_ble_eq_true rfl) rfl dX8_rock_59 ?_
        refine b_istore_n (lv' := [(1, vI r6), (0, vR 32 0)]) dX8_rock_62 rfl (by decide) rfl ?_
        refine b_goto (tgt := 47) dX8_rock_63 (by decide) ?_
        refine b_sub [1, 0] rfl ?_
        exact ih r6 _ _ _ h
def f8_rock_30     (w : Mem) : Option (Int32 × Mem) :=
  bnd (sI w 32 20 0 0) fun w1 => bnd (sI w1 32 25 0 0) fun w2 => bnd (sI w2 32 27 0 0) fun w3 => f8_rock_47    100000 0 w3
set_option maxRecDepth 100000 in
set_option maxHeartbeats 4000000 in
theorem t8_rock_30        (w w' : Mem) (r : Int32) (h : f8_rock_30     w = some (r, w')) : Bk yX8_rock cX8_rock 2 (some .int) 6 30 [(0, vR 32 0)] [] w (some (vI r)) w' := by
  unfold f8_rock_30 at h
  refine b_aload_n dX8_rock_30 rfl (k := 0) rfl ?_
  refine b_iconst (v := 0) dX8_rock_31 (by decide) ?_
  obtain ⟨w1, ew1, h⟩ := nmE h
  refine b_putI fw8_136 ob32 rfl dX8_rock_32 ?_
  refine b_nmW ew1 ?_
  refine b_aload_n dX8_rock_35 rfl (k := 0) rfl ?_
  refine b_iconst (v := 0) dX8_rock_36 (by decide) ?_
  obtain ⟨w2, ew2, h⟩ := nmE h
  refine b_putI fw8_139 ob32 rfl dX8_rock_37 ?_
  refine b_nmW ew2 ?_
  refine b_aload_n dX8_rock_40 rfl (k := 0) rfl ?_
  refine b_iconst (v := 0) dX8_rock_41 (by decide) ?_
  obtain ⟨w3, ew3, h⟩ := nmE h
  refine b_putI fw8_142 ob32 rfl dX8_rock_42 ?_
  refine b_nmW ew3 ?_
  refine b_iconst (v := 0) dX8_rock_45 (by decide) ?_
  refine b_istore_n (lv' := [(1, vI 0), (0, vR 32 0)]) dX8_rock_46 rfl (by decide) rfl ?_
  refine b_sub [1, 0] rfl ?_
  exact t8_rock_47      100000 0 _ _ _ h
def f8_rock_12    : Nat → Int32 → Mem → Option (Int32 × Mem)
  | 0, _, _ => none
  | n + 1, x1, w =>
  if 3 ≤ x1 then (f8_rock_30     w) else (if x1 < 0 ∨ 3 ≤ Int32.toNatClampNeg x1 then none else bnd (sI w 32 19 (Int32.toNatClampNeg x1) 0) fun w3 => bnd (x1 + 1) fun y4 => f8_rock_12    n y4 w3)
set_option maxRecDepth 100000 in
set_option maxHeartbeats 4000000 in
theorem t8_rock_12       : ∀ (n : Nat) (x1 : Int32) (w w' : Mem) (r : Int32), f8_rock_12    n x1 w = some (r, w') → Bk yX8_rock cX8_rock 2 (some .int) 6 12 [(0, vR 32 0), (1, vI x1)] [] w (some (vI r)) w' := by
  intro n
  induction n with
  | zero =>
    intro x1 w w' r h
    cases (show (none : Option (Int32 × Mem)) = some _ from h)
  | succ n ih =>
    intro x1 w w' r h
    rw [f8_rock_12] at h
    refine b_iload_n dX8_rock_12 rfl (k := 1) rfl ?_
    refine b_iconst (v := 3) dX8_rock_13 (by decide) ?_
    refine b_icge (tgt := 30) dX8_rock_14 (by decide) (fun c1 => ?_) (fun c1 => ?_)
    · replace h := ifT c1 h
      refine b_sub [0] rfl ?_
      exact t8_rock_30       _ _ _ h
    · replace h := ifF c1 h
      refine b_aload_n dX8_rock_17 rfl (k := 0) rfl ?_
      refine b_getF fl8_35 ob32 rfl rfl dX8_rock_18 ?_
      refine b_iload_n dX8_rock_21 rfl (k := 1) rfl ?_
      refine b_iconst (v := 0) dX8_rock_22 (by decide) ?_
      obtain ⟨g2, h⟩ := gdE h
      obtain ⟨w3, ew3, h⟩ := nmE h
      refine b_iast ar32_19 g2 rfl dX8_rock_23 ?_
      refine b_nmW ew3 ?_
      obtain ⟨y4, ey4, h⟩ := nmE h
      refine b_iinc (v := y4) (lv' := [(1, vI y4), (0, vR 32 0)]) dX8_rock_24 (k := 1) rfl ey4.symm (by decide) rfl ?_
      refine b_goto (tgt := 12) dX8_rock_27 (by decide) ?_
      refine b_sub [1, 0] rfl ?_
      exact ih y4 _ _ _ h
def f8_rock     (w : Mem) : Option (Int32 × Mem) :=
  bnd (sI w 32 15 0 (-1)) fun w1 => bnd (sI w1 32 16 0 0) fun w2 => f8_rock_12    100000 0 w2
set_option maxRecDepth 100000 in
set_option maxHeartbeats 4000000 in
theorem t8_rock        (w w' : Mem) (r : Int32) (h : f8_rock     w = some (r, w')) : Bk yX8_rock cX8_rock 2 (some .int) 6 0 [(0, vR 32 0)] [] w (some (vI r)) w' := by
  unfold f8_rock at h
  refine b_aload_n dX8_rock_0 rfl (k := 0) rfl ?_
  refine b_iconst (v := (-1)) dX8_rock_1 (by decide) ?_
  obtain ⟨w1, ew1, h⟩ := nmE h
  refine b_putI fw8_31 ob32 rfl dX8_rock_2 ?_
  refine b_nmW ew1 ?_
  refine b_aload_n dX8_rock_5 rfl (k := 0) rfl ?_
  refine b_iconst (v := 0) dX8_rock_6 (by decide) ?_
  obtain ⟨w2, ew2, h⟩ := nmE h
  refine b_putI fw8_108 ob32 rfl dX8_rock_7 ?_
  refine b_nmW ew2 ?_
  refine b_iconst (v := 0) dX8_rock_10 (by decide) ?_
  refine b_istore_n (lv' := [(1, vI 0), (0, vR 32 0)]) dX8_rock_11 rfl (by decide) rfl ?_
  refine b_sub [1, 0] rfl ?_
  exact t8_rock_12      100000 0 _ _ _ h
theorem s8_rock   (w w' : Mem) (r : Int32) (h : f8_rock    w = some (r, w')) : Sp yX8_rock cX8_rock 2 (some .int) 6 [vR 32 0] w (some (vI r)) w' := sp_of (by decide) (fun _ => rfl) (fun _ => Nat.le_of_ble_eq_true rfl) (t8_rock     _ _ _ h)
-- X8_fault OneADayModel
def f8_fault     (w : Mem) : Option (Int32 × Mem) :=
  some (w.1 32 15 0, w)
set_option maxRecDepth 100000 in
set_option maxHeartbeats 4000000 in
theorem t8_fault        (w w' : Mem) (r : Int32) (h : f8_fault     w = some (r, w')) : Bk yX8_fault cX8_fault 1 (some .int) 1 0 [(0, vR 32 0)] [] w (some (vI r)) w' := by
  unfold f8_fault at h
  refine b_aload_n dX8_fault_0 rfl (k := 0) rfl ?_
  refine b_getI fl8_31 ob32 rfl dX8_fault_1 ?_
  obtain ⟨rfl, rfl⟩ := rtE h
  exact b_iret rfl dX8_fault_4
theorem s8_fault   (w w' : Mem) (r : Int32) (h : f8_fault    w = some (r, w')) : Sp yX8_fault cX8_fault 1 (some .int) 1 [vR 32 0] w (some (vI r)) w' := sp_of (by decide) (fun _ => rfl) (fun _ => Nat.le_of_ble_eq_true rfl) (t8_fault     _ _ _ h)
