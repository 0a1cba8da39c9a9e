-- X7_draw OneADay
def f7_draw  (a1 : Int32)   (w : Mem) : Option (Int32 × Mem) :=
  bnd (sI w 26 12 0 (Int64.toInt32 ((((Int32.toInt64 (w.1 26 12 0)) * 1103515245) + 12345) &&& 2147483647))) fun w1 => if 1 ≤ a1 then (if a1 = 0 then none else some (jrem ((w1.1 26 12 0) / 65536) a1, w1)) else (some (0, w1))
set_option maxRecDepth 100000 in
set_option maxHeartbeats 4000000 in
theorem t7_draw   (a1 : Int32)     (w w' : Mem) (r : Int32) (h : f7_draw  a1   w = some (r, w')) : Bk yX7_draw cX7_draw 2 (some .int) 1 0 [(0, vR 26 0), (1, vI a1)] [] w (some (vI r)) w' := by
  unfold f7_draw at h
  refine b_aload_n dX7_draw_0 rfl (k := 0) rfl ?_
  refine b_aload_n dX7_draw_1 rfl (k := 0) rfl ?_
  refine b_getI fl7_266 ob26 rfl dX7_draw_2 ?_
  refine b_i2l dX7_draw_5 ?_
  refine b_ldc2 dX7_draw_6 kl7_272 ?_
  refine b_lmul dX7_draw_9 ?_
  refine b_ldc2 dX7_draw_10 kl7_274 ?_
  refine b_ladd dX7_draw_13 ?_
  refine b_ldc2 dX7_draw_14 kl7_276 ?_
  refine b_land dX7_draw_17 ?_
  refine b_l2i dX7_draw_18 ?_
  obtain ⟨w1, ew1, h⟩ := nmE h
  refine b_putI fw7_266 ob26 rfl dX7_draw_19 ?_
  refine b_nmW ew1 ?_
  refine b_iload_n dX7_draw_22 rfl (k := 1) rfl ?_
  refine b_iconst (v := 1) dX7_draw_23 (by decide) ?_
  refine b_icge (tgt := 31) dX7_draw_24 (by decide) (fun c2 => ?_) (fun c2 => ?_)
  · replace h := ifT c2 h
    refine b_aload_n dX7_draw_31 rfl (k := 0) rfl ?_
    refine b_getI fl7_266 ob26 rfl dX7_draw_32 ?_
    refine b_ldcw dX7_draw_35 kk7_278 ?_
    refine b_idiv dX7_draw_38 (by decide) ?_
    refine b_iload_n dX7_draw_39 rfl (k := 1) rfl ?_
    obtain ⟨g3, h⟩ := gdE h
    refine b_irem dX7_draw_40 g3 ?_
    obtain ⟨rfl, rfl⟩ := rtE h
    exact b_iret rfl dX7_draw_41
  · replace h := ifF c2 h
    refine b_iconst (v := 0) dX7_draw_27 (by decide) ?_
    refine b_goto (tgt := 41) dX7_draw_28 (by decide) ?_
    obtain ⟨rfl, rfl⟩ := rtE h
    exact b_iret rfl dX7_draw_41
theorem s7_draw (a1 : Int32)  (w w' : Mem) (r : Int32) (h : f7_draw  a1  w = some (r, w')) : Sp yX7_draw cX7_draw 2 (some .int) 1 [vR 26 0, vI a1] w (some (vI r)) w' := sp_of (by decide) (fun _ => rfl) (fun _ => Nat.le_of_ble_eq_true rfl) (t7_draw  a1   _ _ _ h)
-- X7_shiftByDraws OneADay
def f7_shiftByDraws     (w : Mem) : Option Mem :=
  bndO (f7_draw 4 w) fun r2 w1 => if r2 = 0 then ((rk (w1.2.2 26 4)).bind fun g4 => if 1 ≤ (w1.1 g4 4 0) then ((rk (w1.2.2 26 4)).bind fun g6 => bndO (f7_draw (w1.1 g6 4 0) w1) fun r8 w7 => (rk (w7.2.2 26 4)).bind fun g9 => bndO (f6_has g9 r8 w7) fun r11 w10 => if r11 = 0 then (some w10) else ((rk (w10.2.2 26 4)).bind fun g13 => if r8 < 0 ∨ 8 ≤ Int32.toNatClampNeg r8 then none else bndO (f7_draw (w10.1 g13 8 (Int32.toNatClampNeg r8)) w10) fun r16 w15 => if r8 < 0 ∨ 8 ≤ Int32.toNatClampNeg r8 then none else bnd (sI w15 0 0 (Int32.toNatClampNeg r8) r16) fun w18 => some w18)) else (some w1)) else (some w1)
set_option maxRecDepth 100000 in
set_option maxHeartbeats 4000000 in
theorem t7_shiftByDraws        (w w' : Mem) (h : f7_shiftByDraws     w = some w') : Bk yX7_shiftByDraws cX7_shiftByDraws 2 none 2 0 [(0, vR 26 0)] [] w none w' := by
  unfold f7_shiftByDraws at h
  refine b_aload_n dX7_shiftByDraws_0 rfl (k := 0) rfl ?_
  refine b_iconst (v := 4) dX7_shiftByDraws_1 (by decide) ?_
  obtain ⟨r2, w1, hw1, h⟩ := bdO h
  refine b_callVi mv7_draw ml7_279 ob26 (s7_draw 4  _ _ _ hw1) rfl (by decide) (by decide) (Nat.le_of_ble_eq_true rfl) rfl dX7_shiftByDraws_2 ?_
  refine b_ifne (tgt := 19) dX7_shiftByDraws_5 (by decide) (fun c3 => ?_) (fun c3 => ?_)
  · replace h := ifF c3 h
    cases h
    exact b_vret rfl dX7_shiftByDraws_19
  · replace h := ifT c3 h
    refine b_aload_n dX7_shiftByDraws_8 rfl (k := 0) rfl ?_
    obtain ⟨g4, qg4, og4, h⟩ := bdR h
    refine b_getM qg4 fl7_27 ob26 rfl dX7_shiftByDraws_9 ?_
    refine b_getI fl7_103 og4 rfl dX7_shiftByDraws_12 ?_
    refine b_iconst (v := 1) dX7_shiftByDraws_15 (by decide) ?_
    refine b_icge (tgt := 20) dX7_shiftByDraws_16 (by decide) (fun c5 => ?_) (fun c5 => ?_)
    · replace h := ifT c5 h
      refine b_aload_n dX7_shiftByDraws_20 rfl (k := 0) rfl ?_
      refine b_aload_n dX7_shiftByDraws_21 rfl (k := 0) rfl ?_
      obtain ⟨g6, qg6, og6, h⟩ := bdR h
      refine b_getM qg6 fl7_27 ob26 rfl dX7_shiftByDraws_22 ?_
      refine b_getI fl7_103 og6 rfl dX7_shiftByDraws_25 ?_
      obtain ⟨r8, w7, hw7, h⟩ := bdO h
      refine b_callVi mv7_draw ml7_279 ob26 (s7_draw (w1.1 g6 4 0)  _ _ _ hw7) rfl (by decide) (by decide) (Nat.le_of_ble_eq_true rfl) rfl dX7_shiftByDraws_28 ?_
      refine b_istore_n (lv' := [(1, vI r8), (0, vR 26 0)]) dX7_shiftByDraws_31 rfl (by decide) rfl ?_
      refine b_aload_n dX7_shiftByDraws_32 rfl (k := 1) rfl ?_
      obtain ⟨g9, qg9, og9, h⟩ := bdR h
      refine b_getM qg9 fl7_27 ob26 rfl dX7_shiftByDraws_33 ?_
      refine b_iload_n dX7_shiftByDraws_36 rfl (k := 0) rfl ?_
      obtain ⟨r11, w10, hw10, h⟩ := bdO h
      refine b_callVi mv6_has ml7_158 og9 (s6_has g9 r8 og9 _ _ _ hw10) rfl (by decide) (by decide) (Nat.le_of_ble_eq_true rfl) rfl dX7_shiftByDraws_37 ?_
      refine b_ifeq (tgt := 65) dX7_shiftByDraws_40 (by decide) (fun c12 => ?_) (fun c12 => ?_)
      · replace h := ifT c12 h
        cases h
        exact b_vret rfl dX7_shiftByDraws_65
      · replace h := ifF c12 h
        refine b_aload_n dX7_shiftByDraws_43 rfl (k := 1) rfl ?_
        refine b_getF fl7_37 ob26 rfl rfl dX7_shiftByDraws_44 ?_
        refine b_getF fl7_169 ob0 rfl rfl dX7_shiftByDraws_47 ?_
        refine b_iload_n dX7_shiftByDraws_50 rfl (k := 0) rfl ?_
        refine b_aload_n dX7_shiftByDraws_51 rfl (k := 1) rfl ?_
        refine b_aload_n dX7_shiftByDraws_52 rfl (k := 1) rfl ?_
        obtain ⟨g13, qg13, og13, h⟩ := bdR h
        refine b_getM qg13 fl7_27 ob26 rfl dX7_shiftByDraws_53 ?_
        refine b_getF fl7_166 og13 rfl (grC6 og13 8) dX7_shiftByDraws_56 ?_
        refine b_iload_n dX7_shiftByDraws_59 rfl (k := 0) rfl ?_
        obtain ⟨g14, h⟩ := gdE h
        refine b_iald (arC6_8 og13) g14 rfl dX7_shiftByDraws_60 ?_
        obtain ⟨r16, w15, hw15, h⟩ := bdO h
        refine b_callVi mv7_draw ml7_279 ob26 (s7_draw (w10.1 g13 8 (Int32.toNatClampNeg r8))  _ _ _ hw15) rfl (by decide) (by decide) (Nat.le_of_ble_eq_true rfl) rfl dX7_shiftByDraws_61 ?_
        obtain ⟨g17, h⟩ := gdE h
        obtain ⟨w18, ew18, h⟩ := nmE h
        refine b_iast ar0_0 g17 rfl dX7_shiftByDraws_64 ?_
        refine b_nmW ew18 ?_
        cases h
        exact b_vret rfl dX7_shiftByDraws_65
    · replace h := ifF c5 h
      cases h
      exact b_vret rfl dX7_shiftByDraws_19
theorem s7_shiftByDraws   (w w' : Mem) (h : f7_shiftByDraws    w = some w') : Sp yX7_shiftByDraws cX7_shiftByDraws 2 none 2 [vR 26 0] w none w' := sp_of (by decide) (fun _ => rfl) (fun _ => Nat.le_of_ble_eq_true rfl) (t7_shiftByDraws     _ _  h)
-- X7_drift OneADay
def f7_drift_25  (a1 : Int32)  : Nat → Int32 → Mem → Option (Int32 × Mem)
  | 0, _, _ => none
  | n + 1, x3, w =>
  if a1 ≤ x3 then (some (w.1 0 6 0, w)) else (if (w.1 0 13 0) = 0 then (bndV (f7_shiftByDraws  w) fun w3 => (rk (w3.2.2 26 4)).bind fun g4 => (rk (w3.2.2 26 4)).bind fun g5 => bndV (f1_live 0 g4 (w3.1 g5 3 0) w3) fun w6 => bnd (x3 + 1) fun y7 => f7_drift_25  a1  n y7 w6) else (some (w.1 0 6 0, w)))
set_option maxRecDepth 100000 in
set_option maxHeartbeats 4000000 in
theorem t7_drift_25   (a1 : Int32)    : ∀ (n : Nat) (x3 : Int32) (w w' : Mem) (r : Int32), f7_drift_25  a1  n x3 w = some (r, w') → Bk yX7_drift cX7_drift 4 (some .int) 7 25 [(0, vR 26 0), (1, vI a1), (3, vI x3)] [] w (some (vI r)) w' := by
  intro n
  induction n with
  | zero =>
    intro x3 w w' r h
    cases (show (none : Option (Int32 × Mem)) = some _ from h)
  | succ n ih =>
    intro x3 w w' r h
    rw [f7_drift_25] at h
    refine b_iload_n dX7_drift_25 rfl (k := 2) rfl ?_
    refine b_iload_n dX7_drift_26 rfl (k := 1) rfl ?_
    refine b_icge (tgt := 68) dX7_drift_27 (by decide) (fun c1 => ?_) (fun c1 => ?_)
    · replace h := ifT c1 h
      refine b_aload_n dX7_drift_68 rfl (k := 0) rfl ?_
      refine b_getF fl7_37 ob26 rfl rfl dX7_drift_69 ?_
      refine b_getI fl7_121 ob0 rfl dX7_drift_72 ?_
      obtain ⟨rfl, rfl⟩ := rtE h
      exact b_iret rfl dX7_drift_75
    · replace h := ifF c1 h
      refine b_aload_n dX7_drift_30 rfl (k := 0) rfl ?_
      refine b_getF fl7_37 ob26 rfl rfl dX7_drift_31 ?_
      refine b_getI fl7_127 ob0 rfl dX7_drift_34 ?_
      refine b_ifne (tgt := 68) dX7_drift_37 (by decide) (fun c2 => ?_) (fun c2 => ?_)
      · replace h := ifF c2 h
        refine b_aload_n dX7_drift_68 rfl (k := 0) rfl ?_
        refine b_getF fl7_37 ob26 rfl rfl dX7_drift_69 ?_
        refine b_getI fl7_121 ob0 rfl dX7_drift_72 ?_
        obtain ⟨rfl, rfl⟩ := rtE h
        exact b_iret rfl dX7_drift_75
      · replace h := ifT c2 h
        refine b_aload_n dX7_drift_40 rfl (k := 0) rfl ?_
        obtain ⟨w3, hw3, h⟩ := bdV h
        refine b_callVv mv7_shiftByDraws ml7_203 ob26 (s7_shiftByDraws   _ _  hw3) rfl (by decide) (by decide) (Nat.le_of_ble_eq_true rfl) rfl dX7_drift_41 ?_
        refine b_aload_n dX7_drift_44 rfl (k := 0) rfl ?_
        refine b_getF fl7_37 ob26 rfl rfl dX7_drift_45 ?_
        refine b_aload_n dX7_drift_48 rfl (k := 0) rfl ?_
        obtain ⟨g4, qg4, og4, h⟩ := bdR h
        refine b_getM qg4 fl7_27 ob26 rfl dX7_drift_49 ?_
        refine b_aload_n dX7_drift_52 rfl (k := 0) rfl ?_
        obtain ⟨g5, qg5, og5, h⟩ := bdR h
        refine b_getM qg5 fl7_27 ob26 rfl dX7_drift_53 ?_
        refine b_getI fl7_112 og5 rfl dX7_drift_56 ?_
        obtain ⟨w6, hw6, h⟩ := bdV h
        refine b_callVv mv1_live ml7_196 ob0 (s1_live 0 g4 (w3.1 g5 3 0) ob0 og4 _ _  hw6) rfl (by decide) (by decide) (Nat.le_of_ble_eq_true rfl) rfl dX7_drift_59 ?_
        obtain ⟨y7, ey7, h⟩ := nmE h
        refine b_iinc (v := y7) (lv' := [(3, vI y7), (0, vR 26 0), (1, vI a1)]) dX7_drift_62 (k := 2) rfl ey7.symm (by decide) rfl ?_
        refine b_goto (tgt := 25) dX7_drift_65 (by decide) ?_
        refine b_sub [1, 2, 0] rfl ?_
        exact ih y7 _ _ _ h
def f7_drift  (a1 : Int32)   (w : Mem) : Option (Int32 × Mem) :=
  bndO (f7_refusalOfDays a1 w) fun r2 w1 => if r2 = 0 then (bndV (f3_push 0 w1) fun w4 => f7_drift_25  a1  100000 0 w4) else (some (r2, w1))
set_option maxRecDepth 100000 in
set_option maxHeartbeats 4000000 in
theorem t7_drift   (a1 : Int32)     (w w' : Mem) (r : Int32) (h : f7_drift  a1   w = some (r, w')) : Bk yX7_drift cX7_drift 4 (some .int) 7 0 [(0, vR 26 0), (1, vI a1)] [] w (some (vI r)) w' := by
  unfold f7_drift at h
  refine b_aload_n dX7_drift_0 rfl (k := 0) rfl ?_
  refine b_iload_n dX7_drift_1 rfl (k := 1) rfl ?_
  obtain ⟨r2, w1, hw1, h⟩ := bdO h
  refine b_callVi mv7_refusalOfDays ml7_189 ob26 (s7_refusalOfDays a1  _ _ _ hw1) rfl (by decide) (by decide) (Nat.le_of_ble_eq_true rfl) rfl dX7_drift_2 ?_
  refine b_istore_n (lv' := [(2, vI r2), (0, vR 26 0), (1, vI a1)]) dX7_drift_5 rfl (by decide) rfl ?_
  refine b_iload_n dX7_drift_6 rfl (k := 0) rfl ?_
  refine b_ifeq (tgt := 12) dX7_drift_7 (by decide) (fun c3 => ?_) (fun c3 => ?_)
  · replace h := ifT c3 h
    refine b_aload_n dX7_drift_12 rfl (k := 1) rfl ?_
    refine b_getF fl7_47 ob26 rfl rfl dX7_drift_13 ?_
    refine b_aload_n dX7_drift_16 rfl (k := 1) rfl ?_
    refine b_getF fl7_37 ob26 rfl rfl dX7_drift_17 ?_
    obtain ⟨w4, hw4, h⟩ := bdV h
    refine b_callVv mv3_push ml7_192 ob28 (s3_push 0 ob0 _ _  hw4) rfl (by decide) (by decide) (Nat.le_of_ble_eq_true rfl) rfl dX7_drift_20 ?_
    refine b_iconst (v := 0) dX7_drift_23 (by decide) ?_
    refine b_istore_n (lv' := [(3, vI 0), (2, vI r2), (0, vR 26 0), (1, vI a1)]) dX7_drift_24 rfl (by decide) rfl ?_
    refine b_sub [2, 3, 0] rfl ?_
    exact t7_drift_25  a1    100000 0 _ _ _ h
  · replace h := ifF c3 h
    refine b_iload_n dX7_drift_10 rfl (k := 0) rfl ?_
    obtain ⟨rfl, rfl⟩ := rtE h
    exact b_iret rfl dX7_drift_11
theorem s7_drift (a1 : Int32)  (w w' : Mem) (r : Int32) (h : f7_drift  a1  w = some (r, w')) : Sp yX7_drift cX7_drift 4 (some .int) 7 [vR 26 0, vI a1] w (some (vI r)) w' := sp_of (by decide) (fun _ => rfl) (fun _ => Nat.le_of_ble_eq_true rfl) (t7_drift  a1   _ _ _ h)
-- X7_undo OneADay
def f7_undo     (w : Mem) : Option (Int32 × Mem) :=
  if 1 ≤ (w.1 28 2 0) then (bndV (f3_pop 0 w) fun w2 => some (w2.1 28 2 0, w2)) else (some ((-1000000003), w))
set_option maxRecDepth 100000 in
set_option maxHeartbeats 4000000 in
theorem t7_undo        (w w' : Mem) (r : Int32) (h : f7_undo     w = some (r, w')) : Bk yX7_undo cX7_undo 1 (some .int) 4 0 [(0, vR 26 0)] [] w (some (vI r)) w' := by
  unfold f7_undo at h
  refine b_aload_n dX7_undo_0 rfl (k := 0) rfl ?_
  refine b_getF fl7_47 ob26 rfl rfl dX7_undo_1 ?_
  refine b_getI fl7_155 ob28 rfl dX7_undo_4 ?_
  refine b_iconst (v := 1) dX7_undo_7 (by decide) ?_
  refine b_icge (tgt := 14) dX7_undo_8 (by decide) (fun c1 => ?_) (fun c1 => ?_)
  · replace h := ifT c1 h
    refine b_aload_n dX7_undo_14 rfl (k := 0) rfl ?_
    refine b_getF fl7_47 ob26 rfl rfl dX7_undo_15 ?_
    refine b_aload_n dX7_undo_18 rfl (k := 0) rfl ?_
    refine b_getF fl7_37 ob26 rfl rfl dX7_undo_19 ?_
    obtain ⟨w2, hw2, h⟩ := bdV h
    refine b_callVv mv3_pop ml7_207 ob28 (s3_pop 0 ob0 _ _  hw2) rfl (by decide) (by decide) (Nat.le_of_ble_eq_true rfl) rfl dX7_undo_22 ?_
    refine b_aload_n dX7_undo_25 rfl (k := 0) rfl ?_
    refine b_getF fl7_47 ob26 rfl rfl dX7_undo_26 ?_
    refine b_getI fl7_155 ob28 rfl dX7_undo_29 ?_
    obtain ⟨rfl, rfl⟩ := rtE h
    exact b_iret rfl dX7_undo_32
  · replace h := ifF c1 h
    refine b_ldc dX7_undo_11 kk7_206 ?_
    obtain ⟨rfl, rfl⟩ := rtE h
    exact b_iret rfl dX7_undo_13
theorem s7_undo   (w w' : Mem) (r : Int32) (h : f7_undo    w = some (r, w')) : Sp yX7_undo cX7_undo 1 (some .int) 4 [vR 26 0] w (some (vI r)) w' := sp_of (by decide) (fun _ => rfl) (fun _ => Nat.le_of_ble_eq_true rfl) (t7_undo     _ _ _ h)
-- X7_whenDown OneADay
def f7_whenDown_36    : Nat → Int32 → Mem → Option (Int32 × Mem)
  | 0, _, _ => none
  | n + 1, x1, w =>
  if 999 ≤ x1 then (some ((-1), w)) else ((rk (w.2.2 26 4)).bind fun g2 => (rk (w.2.2 26 4)).bind fun g3 => bndV (f1_live 1 g2 (w.1 g3 3 0) w) fun w4 => if (w4.1 1 13 0) = 0 then (bnd (x1 + 1) fun y6 => f7_whenDown_36    n y6 w4) else (some ((w4.1 1 6 0) - 1, w4)))
set_option maxRecDepth 100000 in
set_option maxHeartbeats 4000000 in
theorem t7_whenDown_36       : ∀ (n : Nat) (x1 : Int32) (w w' : Mem) (r : Int32), f7_whenDown_36    n x1 w = some (r, w') → Bk yX7_whenDown cX7_whenDown 2 (some .int) 7 36 [(0, vR 26 0), (1, vI x1)] [] w (some (vI r)) w' := by
  intro n
  induction n with
  | zero =>
    intro x1 w w' r h
    cases (show (none : Option (Int32 × Mem)) = some _ from h)
  | succ n ih =>
    intro x1 w w' r h
    rw [f7_whenDown_36] at h
    refine b_iload_n dX7_whenDown_36 rfl (k := 1) rfl ?_
    refine b_sipush (v := 999) dX7_whenDown_37 (by decide) ?_
    refine b_icge (tgt := 87) dX7_whenDown_40 (by decide) (fun c1 => ?_) (fun c1 => ?_)
    · replace h := ifT c1 h
      refine b_iconst (v := (-1)) dX7_whenDown_87 (by decide) ?_
      obtain ⟨rfl, rfl⟩ := rtE h
      exact b_iret rfl dX7_whenDown_88
    · replace h := ifF c1 h
      refine b_aload_n dX7_whenDown_43 rfl (k := 0) rfl ?_
      refine b_getF fl7_41 ob26 rfl rfl dX7_whenDown_44 ?_
      refine b_aload_n dX7_whenDown_47 rfl (k := 0) rfl ?_
      obtain ⟨g2, qg2, og2, h⟩ := bdR h
      refine b_getM qg2 fl7_27 ob26 rfl dX7_whenDown_48 ?_
      refine b_aload_n dX7_whenDown_51 rfl (k := 0) rfl ?_
      obtain ⟨g3, qg3, og3, h⟩ := bdR h
      refine b_getM qg3 fl7_27 ob26 rfl dX7_whenDown_52 ?_
      refine b_getI fl7_112 og3 rfl dX7_whenDown_55 ?_
      obtain ⟨w4, hw4, h⟩ := bdV h
      refine b_callVv mv1_live ml7_196 ob1 (s1_live 1 g2 (w.1 g3 3 0) ob1 og2 _ _  hw4) rfl (by decide) (by decide) (Nat.le_of_ble_eq_true rfl) rfl dX7_whenDown_58 ?_
      refine b_aload_n dX7_whenDown_61 rfl (k := 0) rfl ?_
      refine b_getF fl7_41 ob26 rfl rfl dX7_whenDown_62 ?_
      refine b_getI fl7_127 ob1 rfl dX7_whenDown_65 ?_
      refine b_ifeq (tgt := 81) dX7_whenDown_68 (by decide) (fun c5 => ?_) (fun c5 => ?_)
      · replace h := ifT c5 h
        obtain ⟨y6, ey6, h⟩ := nmE h
        refine b_iinc (v := y6) (lv' := [(1, vI y6), (0, vR 26 0)]) dX7_whenDown_81 (k := 1) rfl ey6.symm (by decide) rfl ?_
        refine b_goto (tgt := 36) dX7_whenDown_84 (by decide) ?_
        refine b_sub [1, 0] rfl ?_
        exact ih y6 _ _ _ h
      · replace h := ifF c5 h
        refine b_aload_n dX7_whenDown_71 rfl (k := 0) rfl ?_
        refine b_getF fl7_41 ob26 rfl rfl dX7_whenDown_72 ?_
        refine b_getI fl7_121 ob1 rfl dX7_whenDown_75 ?_
        refine b_iconst (v := 1) dX7_whenDown_78 (by decide) ?_
        refine b_isub dX7_whenDown_79 ?_
        obtain ⟨rfl, rfl⟩ := rtE h
        exact b_iret rfl dX7_whenDown_80
def f7_whenDown     (w : Mem) : Option (Int32 × Mem) :=
  (rk (w.2.2 26 4)).bind fun g1 => if (w.1 g1 0 0) = 0 then (some ((-1000000003), w)) else (if (w.1 0 13 0) = 0 then (bndV (f1_goOnFrom 1 0 w) fun w4 => f7_whenDown_36    100000 0 w4) else (some ((-1000000003), w)))
set_option maxRecDepth 100000 in
set_option maxHeartbeats 4000000 in
theorem t7_whenDown        (w w' : Mem) (r : Int32) (h : f7_whenDown     w = some (r, w')) : Bk yX7_whenDown cX7_whenDown 2 (some .int) 7 0 [(0, vR 26 0)] [] w (some (vI r)) w' := by
  unfold f7_whenDown at h
  refine b_aload_n dX7_whenDown_0 rfl (k := 0) rfl ?_
  obtain ⟨g1, qg1, og1, h⟩ := bdR h
  refine b_getM qg1 fl7_27 ob26 rfl dX7_whenDown_1 ?_
  refine b_getI fl7_210 og1 rfl dX7_whenDown_4 ?_
  refine b_ifeq (tgt := 20) dX7_whenDown_7 (by decide) (fun c2 => ?_) (fun c2 => ?_)
  · replace h := ifT c2 h
    refine b_ldc dX7_whenDown_20 kk7_206 ?_
    obtain ⟨rfl, rfl⟩ := rtE h
    exact b_iret rfl dX7_whenDown_22
  · replace h := ifF c2 h
    refine b_aload_n dX7_whenDown_10 rfl (k := 0) rfl ?_
    refine b_getF fl7_37 ob26 rfl rfl dX7_whenDown_11 ?_
    refine b_getI fl7_127 ob0 rfl dX7_whenDown_14 ?_
    refine b_ifeq (tgt := 23) dX7_whenDown_17 (by decide) (fun c3 => ?_) (fun c3 => ?_)
    · replace h := ifT c3 h
      refine b_aload_n dX7_whenDown_23 rfl (k := 0) rfl ?_
      refine b_getF fl7_41 ob26 rfl rfl dX7_whenDown_24 ?_
      refine b_aload_n dX7_whenDown_27 rfl (k := 0) rfl ?_
      refine b_getF fl7_37 ob26 rfl rfl dX7_whenDown_28 ?_
      obtain ⟨w4, hw4, h⟩ := bdV h
      refine b_callVv mv1_goOnFrom ml7_213 ob1 (s1_goOnFrom 1 0 ob1 ob0 _ _  hw4) rfl (by decide) (by decide) (Nat.le_of_ble_eq_true rfl) rfl dX7_whenDown_31 ?_
      refine b_iconst (v := 0) dX7_whenDown_34 (by decide) ?_
      refine b_istore_n (lv' := [(1, vI 0), (0, vR 26 0)]) dX7_whenDown_35 rfl (by decide) rfl ?_
      refine b_sub [1, 0] rfl ?_
      exact t7_whenDown_36      100000 0 _ _ _ h
    · replace h := ifF c3 h
      refine b_ldc dX7_whenDown_20 kk7_206 ?_
      obtain ⟨rfl, rfl⟩ := rtE h
      exact b_iret rfl dX7_whenDown_22
theorem s7_whenDown   (w w' : Mem) (r : Int32) (h : f7_whenDown    w = some (r, w')) : Sp yX7_whenDown cX7_whenDown 2 (some .int) 7 [vR 26 0] w (some (vI r)) w' := sp_of (by decide) (fun _ => rfl) (fun _ => Nat.le_of_ble_eq_true rfl) (t7_whenDown     _ _ _ h)
-- X7_ahead OneADay
def f7_ahead_87  (a1 : Int32) (a2 : Int32)   (w : Mem) : Option (Int32 × Mem) :=
  if a2 = 0 then (some ((w.1 1 10 0) - (w.1 0 10 0), w)) else (some ((w.1 1 9 0) - (w.1 0 9 0), w))
set_option maxRecDepth 100000 in
set_option maxHeartbeats 4000000 in
theorem t7_ahead_87   (a1 : Int32) (a2 : Int32)     (w w' : Mem) (r : Int32) (h : f7_ahead_87  a1 a2   w = some (r, w')) : Bk yX7_ahead cX7_ahead 4 (some .int) 7 87 [(0, vR 26 0), (2, vI a2)] [] w (some (vI r)) w' := by
  unfold f7_ahead_87 at h
  refine b_iload_n dX7_ahead_87 rfl (k := 1) rfl ?_
  refine b_ifne (tgt := 109) dX7_ahead_88 (by decide) (fun c1 => ?_) (fun c1 => ?_)
  · replace h := ifF c1 h
    refine b_aload_n dX7_ahead_109 rfl (k := 0) rfl ?_
    refine b_getF fl7_41 ob26 rfl rfl dX7_ahead_110 ?_
    refine b_getI fl7_134 ob1 rfl dX7_ahead_113 ?_
    refine b_aload_n dX7_ahead_116 rfl (k := 0) rfl ?_
    refine b_getF fl7_37 ob26 rfl rfl dX7_ahead_117 ?_
    refine b_getI fl7_134 ob0 rfl dX7_ahead_120 ?_
    refine b_isub dX7_ahead_123 ?_
    obtain ⟨rfl, rfl⟩ := rtE h
    exact b_iret rfl dX7_ahead_124
  · replace h := ifT c1 h
    refine b_aload_n dX7_ahead_91 rfl (k := 0) rfl ?_
    refine b_getF fl7_41 ob26 rfl rfl dX7_ahead_92 ?_
    refine b_getI fl7_137 ob1 rfl dX7_ahead_95 ?_
    refine b_aload_n dX7_ahead_98 rfl (k := 0) rfl ?_
    refine b_getF fl7_37 ob26 rfl rfl dX7_ahead_99 ?_
    refine b_getI fl7_137 ob0 rfl dX7_ahead_102 ?_
    refine b_isub dX7_ahead_105 ?_
    refine b_goto (tgt := 124) dX7_ahead_106 (by decide) ?_
    obtain ⟨rfl, rfl⟩ := rtE h
    exact b_iret rfl dX7_ahead_124
def f7_ahead_48  (a1 : Int32) (a2 : Int32)  : Nat → Int32 → Mem → Option (Int32 × Mem)
  | 0, _, _ => none
  | n + 1, x3, w =>
  if a1 ≤ x3 then (f7_ahead_87  a1 a2   w) else (if (w.1 1 13 0) = 0 then ((rk (w.2.2 26 4)).bind fun g3 => (rk (w.2.2 26 4)).bind fun g4 => bndV (f1_live 1 g3 (w.1 g4 3 0) w) fun w5 => bnd (x3 + 1) fun y6 => f7_ahead_48  a1 a2  n y6 w5) else (f7_ahead_87  a1 a2   w))
set_option maxRecDepth 100000 in
set_option maxHeartbeats 4000000 in
theorem t7_ahead_48   (a1 : Int32) (a2 : Int32)    : ∀ (n : Nat) (x3 : Int32) (w w' : Mem) (r : Int32), f7_ahead_48  a1 a2  n x3 w = some (r, w') → Bk yX7_ahead cX7_ahead 4 (some .int) 7 48 [(0, vR 26 0), (1, vI a1), (2, vI a2), (3, vI x3)] [] w (some (vI r)) w' := by
  intro n
  induction n with
  | zero =>
    intro x3 w w' r h
    cases (show (none : Option (Int32 × Mem)) = some _ from h)
  | succ n ih =>
    intro x3 w w' r h
    rw [f7_ahead_48] at h
    refine b_iload_n dX7_ahead_48 rfl (k := 3) rfl ?_
    refine b_iload_n dX7_ahead_49 rfl (k := 1) rfl ?_
    refine b_icge (tgt := 87) dX7_ahead_50 (by decide) (fun c1 => ?_) (fun c1 => ?_)
    · replace h := ifT c1 h
      refine b_sub [0, 2] rfl ?_
      exact t7_ahead_87  a1 a2     _ _ _ h
    · replace h := ifF c1 h
      refine b_aload_n dX7_ahead_53 rfl (k := 0) rfl ?_
      refine b_getF fl7_41 ob26 rfl rfl dX7_ahead_54 ?_
      refine b_getI fl7_127 ob1 rfl dX7_ahead_57 ?_
      refine b_ifne (tgt := 87) dX7_ahead_60 (by decide) (fun c2 => ?_) (fun c2 => ?_)
      · replace h := ifF c2 h
        refine b_sub [0, 2] rfl ?_
        exact t7_ahead_87  a1 a2     _ _ _ h
      · replace h := ifT c2 h
        refine b_aload_n dX7_ahead_63 rfl (k := 0) rfl ?_
        refine b_getF fl7_41 ob26 rfl rfl dX7_ahead_64 ?_
        refine b_aload_n dX7_ahead_67 rfl (k := 0) rfl ?_
        obtain ⟨g3, qg3, og3, h⟩ := bdR h
        refine b_getM qg3 fl7_27 ob26 rfl dX7_ahead_68 ?_
        refine b_aload_n dX7_ahead_71 rfl (k := 0) rfl ?_
        obtain ⟨g4, qg4, og4, h⟩ := bdR h
        refine b_getM qg4 fl7_27 ob26 rfl dX7_ahead_72 ?_
        refine b_getI fl7_112 og4 rfl dX7_ahead_75 ?_
        obtain ⟨w5, hw5, h⟩ := bdV h
        refine b_callVv mv1_live ml7_196 ob1 (s1_live 1 g3 (w.1 g4 3 0) ob1 og3 _ _  hw5) rfl (by decide) (by decide) (Nat.le_of_ble_eq_true rfl) rfl dX7_ahead_78 ?_
        obtain ⟨y6, ey6, h⟩ := nmE h
        refine b_iinc (v := y6) (lv' := [(3, vI y6), (0, vR 26 0), (1, vI a1), (2, vI a2)]) dX7_ahead_81 (k := 3) rfl ey6.symm (by decide) rfl ?_
        refine b_goto (tgt := 48) dX7_ahead_84 (by decide) ?_
        refine b_sub [1, 2, 3, 0] rfl ?_
        exact ih y6 _ _ _ h
def f7_ahead  (a1 : Int32) (a2 : Int32)   (w : Mem) : Option (Int32 × Mem) :=
  if a1 < 0 then (some ((-1000000002), w)) else (if 60 < a1 then (some ((-1000000002), w)) else (if a2 < 0 then (some ((-1000000002), w)) else (if a2 ≤ 1 then ((rk (w.2.2 26 4)).bind fun g5 => if (w.1 g5 0 0) = 0 then (some ((-1000000003), w)) else (bndV (f1_goOnFrom 1 0 w) fun w7 => f7_ahead_48  a1 a2  100000 0 w7)) else (some ((-1000000002), w)))))
set_option maxRecDepth 100000 in
set_option maxHeartbeats 4000000 in
theorem t7_ahead   (a1 : Int32) (a2 : Int32)     (w w' : Mem) (r : Int32) (h : f7_ahead  a1 a2   w = some (r, w')) : Bk yX7_ahead cX7_ahead 4 (some .int) 7 0 [(0, vR 26 0), (1, vI a1), (2, vI a2)] [] w (some (vI r)) w' := by
  unfold f7_ahead at h
  refine b_iload_n dX7_ahead_0 rfl (k := 1) rfl ?_
  refine b_iflt (tgt := 19) dX7_ahead_1 (by decide) (fun c1 => ?_) (fun c1 => ?_)
  · replace h := ifT c1 h
    refine b_ldc dX7_ahead_19 kk7_80 ?_
    obtain ⟨rfl, rfl⟩ := rtE h
    exact b_iret rfl dX7_ahead_21
  · replace h := ifF c1 h
    refine b_iload_n dX7_ahead_4 rfl (k := 1) rfl ?_
    refine b_bipush (v := 60) dX7_ahead_5 (by decide) ?_
    refine b_icgt (tgt := 19) dX7_ahead_7 (by decide) (fun c2 => ?_) (fun c2 => ?_)
    · replace h := ifT c2 h
      refine b_ldc dX7_ahead_19 kk7_80 ?_
      obtain ⟨rfl, rfl⟩ := rtE h
      exact b_iret rfl dX7_ahead_21
    · replace h := ifF c2 h
      refine b_iload_n dX7_ahead_10 rfl (k := 2) rfl ?_
      refine b_iflt (tgt := 19) dX7_ahead_11 (by decide) (fun c3 => ?_) (fun c3 => ?_)
      · replace h := ifT c3 h
        refine b_ldc dX7_ahead_19 kk7_80 ?_
        obtain ⟨rfl, rfl⟩ := rtE h
        exact b_iret rfl dX7_ahead_21
      · replace h := ifF c3 h
        refine b_iload_n dX7_ahead_14 rfl (k := 2) rfl ?_
        refine b_iconst (v := 1) dX7_ahead_15 (by decide) ?_
        refine b_icle (tgt := 22) dX7_ahead_16 (by decide) (fun c4 => ?_) (fun c4 => ?_)
        · replace h := ifT c4 h
          refine b_aload_n dX7_ahead_22 rfl (k := 0) rfl ?_
          obtain ⟨g5, qg5, og5, h⟩ := bdR h
          refine b_getM qg5 fl7_27 ob26 rfl dX7_ahead_23 ?_
          refine b_getI fl7_210 og5 rfl dX7_ahead_26 ?_
          refine b_ifne (tgt := 35) dX7_ahead_29 (by decide) (fun c6 => ?_) (fun c6 => ?_)
          · replace h := ifF c6 h
            refine b_aload_n dX7_ahead_35 rfl (k := 0) rfl ?_
            refine b_getF fl7_41 ob26 rfl rfl dX7_ahead_36 ?_
            refine b_aload_n dX7_ahead_39 rfl (k := 0) rfl ?_
            refine b_getF fl7_37 ob26 rfl rfl dX7_ahead_40 ?_
            obtain ⟨w7, hw7, h⟩ := bdV h
            refine b_callVv mv1_goOnFrom ml7_213 ob1 (s1_goOnFrom 1 0 ob1 ob0 _ _  hw7) rfl (by decide) (by decide) (Nat.le_of_ble_eq_true rfl) rfl dX7_ahead_43 ?_
            refine b_iconst (v := 0) dX7_ahead_46 (by decide) ?_
            refine b_istore_n (lv' := [(3, vI 0), (0, vR 26 0), (1, vI a1), (2, vI a2)]) dX7_ahead_47 rfl (by decide) rfl ?_
            refine b_sub [1, 2, 3, 0] rfl ?_
            exact t7_ahead_48  a1 a2    100000 0 _ _ _ h
          · replace h := ifT c6 h
            refine b_ldc dX7_ahead_32 kk7_206 ?_
            obtain ⟨rfl, rfl⟩ := rtE h
            exact b_iret rfl dX7_ahead_34
        · replace h := ifF c4 h
          refine b_ldc dX7_ahead_19 kk7_80 ?_
          obtain ⟨rfl, rfl⟩ := rtE h
          exact b_iret rfl dX7_ahead_21
theorem s7_ahead (a1 : Int32) (a2 : Int32)  (w w' : Mem) (r : Int32) (h : f7_ahead  a1 a2  w = some (r, w')) : Sp yX7_ahead cX7_ahead 4 (some .int) 7 [vR 26 0, vI a1, vI a2] w (some (vI r)) w' := sp_of (by decide) (fun _ => rfl) (fun _ => Nat.le_of_ble_eq_true rfl) (t7_ahead  a1 a2   _ _ _ h)
-- X7_certain OneADay
def f7_certain  (a1 : Int32) (a2 : Int32)   (w : Mem) : Option (Int32 × Mem) :=
  (rk (w.2.2 26 4)).bind fun g1 => bndO (f6_has g1 a2 w) fun r3 w2 => if r3 = 0 then (some ((-1000000001), w2)) else ((rk (w2.2.2 26 4)).bind fun g5 => bndO (f6_all g5 w2) fun r7 w6 => if (a1 &&& (r7 ^^^ (-1))) = 0 then (if ((jshr a1 a2) &&& 1) = 0 then (some ((-1), w6)) else ((rk (w6.2.2 26 4)).bind fun g10 => bndO (f0_find g10 a1 w6) fun r12 w11 => if r12 = 0 then (some ((-1), w11)) else (if a2 < 0 ∨ 8 ≤ Int32.toNatClampNeg a2 then none else some (w11.1 30 0 (Int32.toNatClampNeg a2), w11)))) else (some ((-1000000001), w6)))
set_option maxRecDepth 100000 in
set_option maxHeartbeats 4000000 in
theorem t7_certain   (a1 : Int32) (a2 : Int32)     (w w' : Mem) (r : Int32) (h : f7_certain  a1 a2   w = some (r, w')) : Bk yX7_certain cX7_certain 3 (some .int) 34 0 [(0, vR 26 0), (1, vI a1), (2, vI a2)] [] w (some (vI r)) w' := by
  unfold f7_certain at h
  refine b_aload_n dX7_certain_0 rfl (k := 0) rfl ?_
  obtain ⟨g1, qg1, og1, h⟩ := bdR h
  refine b_getM qg1 fl7_27 ob26 rfl dX7_certain_1 ?_
  refine b_iload_n dX7_certain_4 rfl (k := 2) rfl ?_
  obtain ⟨r3, w2, hw2, h⟩ := bdO h
  refine b_callVi mv6_has ml7_158 og1 (s6_has g1 a2 og1 _ _ _ hw2) rfl (by decide) (by decide) (Nat.le_of_ble_eq_true rfl) rfl dX7_certain_5 ?_
  refine b_ifeq (tgt := 25) dX7_certain_8 (by decide) (fun c4 => ?_) (fun c4 => ?_)
  · replace h := ifT c4 h
    refine b_ldc dX7_certain_25 kk7_162 ?_
    obtain ⟨rfl, rfl⟩ := rtE h
    exact b_iret rfl dX7_certain_27
  · replace h := ifF c4 h
    refine b_iload_n dX7_certain_11 rfl (k := 1) rfl ?_
    refine b_aload_n dX7_certain_12 rfl (k := 0) rfl ?_
    obtain ⟨g5, qg5, og5, h⟩ := bdR h
    refine b_getM qg5 fl7_27 ob26 rfl dX7_certain_13 ?_
    obtain ⟨r7, w6, hw6, h⟩ := bdO h
    refine b_callVi mv6_all ml7_216 og5 (s6_all g5 og5 _ _ _ hw6) rfl (by decide) (by decide) (Nat.le_of_ble_eq_true rfl) rfl dX7_certain_16 ?_
    refine b_iconst (v := (-1)) dX7_certain_19 (by decide) ?_
    refine b_ixor dX7_certain_20 ?_
    refine b_iand dX7_certain_21 ?_
    refine b_ifeq (tgt := 28) dX7_certain_22 (by decide) (fun c8 => ?_) (fun c8 => ?_)
    · replace h := ifT c8 h
      refine b_iload_n dX7_certain_28 rfl (k := 1) rfl ?_
      refine b_iload_n dX7_certain_29 rfl (k := 2) rfl ?_
      refine b_ishr dX7_certain_30 ?_
      refine b_iconst (v := 1) dX7_certain_31 (by decide) ?_
      refine b_iand dX7_certain_32 ?_
      refine b_ifne (tgt := 38) dX7_certain_33 (by decide) (fun c9 => ?_) (fun c9 => ?_)
      · replace h := ifF c9 h
        refine b_aload_n dX7_certain_38 rfl (k := 0) rfl ?_
        refine b_getF fl7_69 ob26 rfl rfl dX7_certain_39 ?_
        refine b_aload_n dX7_certain_42 rfl (k := 0) rfl ?_
        obtain ⟨g10, qg10, og10, h⟩ := bdR h
        refine b_getM qg10 fl7_27 ob26 rfl dX7_certain_43 ?_
        refine b_iload_n dX7_certain_46 rfl (k := 1) rfl ?_
        obtain ⟨r12, w11, hw11, h⟩ := bdO h
        refine b_callVi mv0_find ml7_220 ob30 (s0_find g10 a1 og10 _ _ _ hw11) rfl (by decide) (by decide) (Nat.le_of_ble_eq_true rfl) rfl dX7_certain_47 ?_
        refine b_ifeq (tgt := 65) dX7_certain_50 (by decide) (fun c13 => ?_) (fun c13 => ?_)
        · replace h := ifT c13 h
          refine b_iconst (v := (-1)) dX7_certain_65 (by decide) ?_
          obtain ⟨rfl, rfl⟩ := rtE h
          exact b_iret rfl dX7_certain_66
        · replace h := ifF c13 h
          refine b_aload_n dX7_certain_53 rfl (k := 0) rfl ?_
          refine b_getF fl7_69 ob26 rfl rfl dX7_certain_54 ?_
          refine b_getF fl7_224 ob30 rfl rfl dX7_certain_57 ?_
          refine b_iload_n dX7_certain_60 rfl (k := 2) rfl ?_
          obtain ⟨g14, h⟩ := gdE h
          refine b_iald ar30_0 g14 rfl dX7_certain_61 ?_
          refine b_goto (tgt := 66) dX7_certain_62 (by decide) ?_
          obtain ⟨rfl, rfl⟩ := rtE h
          exact b_iret rfl dX7_certain_66
      · replace h := ifT c9 h
        refine b_iconst (v := (-1)) dX7_certain_36 (by decide) ?_
        obtain ⟨rfl, rfl⟩ := rtE h
        exact b_iret rfl dX7_certain_37
    · replace h := ifF c8 h
      refine b_ldc dX7_certain_25 kk7_162 ?_
      obtain ⟨rfl, rfl⟩ := rtE h
      exact b_iret rfl dX7_certain_27
theorem s7_certain (a1 : Int32) (a2 : Int32)  (w w' : Mem) (r : Int32) (h : f7_certain  a1 a2  w = some (r, w')) : Sp yX7_certain cX7_certain 3 (some .int) 34 [vR 26 0, vI a1, vI a2] w (some (vI r)) w' := sp_of (by decide) (fun _ => rfl) (fun _ => Nat.le_of_ble_eq_true rfl) (t7_certain  a1 a2   _ _ _ h)
-- X7_isPeaceful OneADay
def f7_isPeaceful_26  (a1 : Int32) (a2 : Int32)  : Nat → Int32 → Mem → Option (Int32 × Mem)
  | 0, _, _ => none
  | n + 1, x3, w =>
  if a2 ≤ x3 then (some (1, w)) else (if (w.1 1 13 0) = 0 then ((rk (w.2.2 26 4)).bind fun g3 => (rk (w.2.2 26 4)).bind fun g4 => bndV (f1_live 1 g3 (w.1 g4 3 0) w) fun w5 => if (w5.1 0 9 0) < (w5.1 1 9 0) then (some (0, w5)) else (if (w5.1 1 12 0) ≤ (w5.1 0 12 0) then (bnd (x3 + 1) fun y8 => f7_isPeaceful_26  a1 a2  n y8 w5) else (some (0, w5)))) else (some (1, w)))
set_option maxRecDepth 100000 in
set_option maxHeartbeats 4000000 in
theorem t7_isPeaceful_26   (a1 : Int32) (a2 : Int32)    : ∀ (n : Nat) (x3 : Int32) (w w' : Mem) (r : Int32), f7_isPeaceful_26  a1 a2  n x3 w = some (r, w') → Bk yX7_isPeaceful cX7_isPeaceful 4 (some .boolean) 7 26 [(0, vR 26 0), (2, vI a2), (3, vI x3)] [] w (some (vI r)) w' := by
  intro n
  induction n with
  | zero =>
    intro x3 w w' r h
    cases (show (none : Option (Int32 × Mem)) = some _ from h)
  | succ n ih =>
    intro x3 w w' r h
    rw [f7_isPeaceful_26] at h
    refine b_iload_n dX7_isPeaceful_26 rfl (k := 2) rfl ?_
    refine b_iload_n dX7_isPeaceful_27 rfl (k := 1) rfl ?_
    refine b_icge (tgt := 101) dX7_isPeaceful_28 (by decide) (fun c1 => ?_) (fun c1 => ?_)
    · replace h := ifT c1 h
      refine b_iconst (v := 1) dX7_isPeaceful_101 (by decide) ?_
      obtain ⟨rfl, rfl⟩ := rtE h
      exact b_zret rfl (by decide) dX7_isPeaceful_102
    · replace h := ifF c1 h
      refine b_aload_n dX7_isPeaceful_31 rfl (k := 0) rfl ?_
      refine b_getF fl7_41 ob26 rfl rfl dX7_isPeaceful_32 ?_
      refine b_getI fl7_127 ob1 rfl dX7_isPeaceful_35 ?_
      refine b_ifne (tgt := 101) dX7_isPeaceful_38 (by decide) (fun c2 => ?_) (fun c2 => ?_)
      · replace h := ifF c2 h
        refine b_iconst (v := 1) dX7_isPeaceful_101 (by decide) ?_
        obtain ⟨rfl, rfl⟩ := rtE h
        exact b_zret rfl (by decide) dX7_isPeaceful_102
      · replace h := ifT c2 h
        refine b_aload_n dX7_isPeaceful_41 rfl (k := 0) rfl ?_
        refine b_getF fl7_41 ob26 rfl rfl dX7_isPeaceful_42 ?_
        refine b_aload_n dX7_isPeaceful_45 rfl (k := 0) rfl ?_
        obtain ⟨g3, qg3, og3, h⟩ := bdR h
        refine b_getM qg3 fl7_27 ob26 rfl dX7_isPeaceful_46 ?_
        refine b_aload_n dX7_isPeaceful_49 rfl (k := 0) rfl ?_
        obtain ⟨g4, qg4, og4, h⟩ := bdR h
        refine b_getM qg4 fl7_27 ob26 rfl dX7_isPeaceful_50 ?_
        refine b_getI fl7_112 og4 rfl dX7_isPeaceful_53 ?_
        obtain ⟨w5, hw5, h⟩ := bdV h
        refine b_callVv mv1_live ml7_196 ob1 (s1_live 1 g3 (w.1 g4 3 0) ob1 og3 _ _  hw5) rfl (by decide) (by decide) (Nat.le_of_ble_eq_true rfl) rfl dX7_isPeaceful_56 ?_
        refine b_aload_n dX7_isPeaceful_59 rfl (k := 0) rfl ?_
        refine b_getF fl7_41 ob26 rfl rfl dX7_isPeaceful_60 ?_
        refine b_getI fl7_134 ob1 rfl dX7_isPeaceful_63 ?_
        refine b_aload_n dX7_isPeaceful_66 rfl (k := 0) rfl ?_
        refine b_getF fl7_37 ob26 rfl rfl dX7_isPeaceful_67 ?_
        refine b_getI fl7_134 ob0 rfl dX7_isPeaceful_70 ?_
        refine b_icgt (tgt := 93) dX7_isPeaceful_73 (by decide) (fun c6 => ?_) (fun c6 => ?_)
        · replace h := ifT c6 h
          refine b_iconst (v := 0) dX7_isPeaceful_93 (by decide) ?_
          obtain ⟨rfl, rfl⟩ := rtE h
          exact b_zret rfl (by decide) dX7_isPeaceful_94
        · replace h := ifF c6 h
          refine b_aload_n dX7_isPeaceful_76 rfl (k := 0) rfl ?_
          refine b_getF fl7_41 ob26 rfl rfl dX7_isPeaceful_77 ?_
          refine b_getI fl7_146 ob1 rfl dX7_isPeaceful_80 ?_
          refine b_aload_n dX7_isPeaceful_83 rfl (k := 0) rfl ?_
          refine b_getF fl7_37 ob26 rfl rfl dX7_isPeaceful_84 ?_
          refine b_getI fl7_146 ob0 rfl dX7_isPeaceful_87 ?_
          refine b_icle (tgt := 95) dX7_isPeaceful_90 (by decide) (fun c7 => ?_) (fun c7 => ?_)
          · replace h := ifT c7 h
            obtain ⟨y8, ey8, h⟩ := nmE h
            refine b_iinc (v := y8) (lv' := [(3, vI y8), (0, vR 26 0), (2, vI a2)]) dX7_isPeaceful_95 (k := 2) rfl ey8.symm (by decide) rfl ?_
            refine b_goto (tgt := 26) dX7_isPeaceful_98 (by decide) ?_
            refine b_sub [1, 2, 0] rfl ?_
            exact ih y8 _ _ _ h
          · replace h := ifF c7 h
            refine b_iconst (v := 0) dX7_isPeaceful_93 (by decide) ?_
            obtain ⟨rfl, rfl⟩ := rtE h
            exact b_zret rfl (by decide) dX7_isPeaceful_94
def f7_isPeaceful  (a1 : Int32) (a2 : Int32)   (w : Mem) : Option (Int32 × Mem) :=
  bndV (f1_goOnFrom 1 0 w) fun w1 => bnd (sI w1 1 4 0 ((w1.1 1 4 0) ||| a1)) fun w2 => f7_isPeaceful_26  a1 a2  100000 0 w2
set_option maxRecDepth 100000 in
set_option maxHeartbeats 4000000 in
theorem t7_isPeaceful   (a1 : Int32) (a2 : Int32)     (w w' : Mem) (r : Int32) (h : f7_isPeaceful  a1 a2   w = some (r, w')) : Bk yX7_isPeaceful cX7_isPeaceful 4 (some .boolean) 7 0 [(0, vR 26 0), (1, vI a1), (2, vI a2)] [] w (some (vI r)) w' := by
  unfold f7_isPeaceful at h
  refine b_aload_n dX7_isPeaceful_0 rfl (k := 0) rfl ?_
  refine b_getF fl7_41 ob26 rfl rfl dX7_isPeaceful_1 ?_
  refine b_aload_n dX7_isPeaceful_4 rfl (k := 0) rfl ?_
  refine b_getF fl7_37 ob26 rfl rfl dX7_isPeaceful_5 ?_
  obtain ⟨w1, hw1, h⟩ := bdV h
  refine b_callVv mv1_goOnFrom ml7_213 ob1 (s1_goOnFrom 1 0 ob1 ob0 _ _  hw1) rfl (by decide) (by decide) (Nat.le_of_ble_eq_true rfl) rfl dX7_isPeaceful_8 ?_
  refine b_aload_n dX7_isPeaceful_11 rfl (k := 0) rfl ?_
  refine b_getF fl7_41 ob26 rfl rfl dX7_isPeaceful_12 ?_
  refine b_dup dX7_isPeaceful_15 rfl ?_
  refine b_getI fl7_200 ob1 rfl dX7_isPeaceful_16 ?_
  refine b_iload_n dX7_isPeaceful_19 rfl (k := 1) rfl ?_
  refine b_ior dX7_isPeaceful_20 ?_
  obtain ⟨w2, ew2, h⟩ := nmE h
  refine b_putI fw7_200 ob1 rfl dX7_isPeaceful_21 ?_
  refine b_nmW ew2 ?_
  refine b_iconst (v := 0) dX7_isPeaceful_24 (by decide) ?_
  refine b_istore_n (lv' := [(3, vI 0), (0, vR 26 0), (1, vI a1), (2, vI a2)]) dX7_isPeaceful_25 rfl (by decide) rfl ?_
  refine b_sub [1, 3, 0] rfl ?_
  exact t7_isPeaceful_26  a1 a2    100000 0 _ _ _ h
theorem s7_isPeaceful (a1 : Int32) (a2 : Int32)  (w w' : Mem) (r : Int32) (h : f7_isPeaceful  a1 a2  w = some (r, w')) : Sp yX7_isPeaceful cX7_isPeaceful 4 (some .boolean) 7 [vR 26 0, vI a1, vI a2] w (some (vI r)) w' := sp_of (by decide) (fun _ => rfl) (fun _ => Nat.le_of_ble_eq_true rfl) (t7_isPeaceful  a1 a2   _ _ _ h)
-- X7_away OneADay
def f7_away_79  (a1 : Int32) (rec37 : Int32 → Int32 → Mem → Option (Int32 × Mem)) (rec46 : Int32 → Int32 → Int32 → Mem → Option (Int32 × Mem)) (x2 : Int32) (x3 : Int32) (x4 : Int32) (s0 : Int32) (w : Mem) : Option (Int32 × Mem) :=
  if s0 = 0 then (bnd (x4 + 1) fun y2 => rec46 x2 x3 y2 w) else (bndO (f7_isPeaceful x4 a1 w) fun r4 w3 => if r4 = 0 then (bnd (x4 + 1) fun y6 => rec46 x2 x3 y6 w3) else (some (x4, w3)))
set_option maxRecDepth 100000 in
set_option maxHeartbeats 4000000 in
theorem t7_away_79   (a1 : Int32)  (rec37 : Int32 → Int32 → Mem → Option (Int32 × Mem)) (rec46 : Int32 → Int32 → Int32 → Mem → Option (Int32 × Mem)) (hrec37 : ∀ (x2 : Int32) (x3 : Int32) (w w' : Mem) (r : Int32), rec37 x2 x3 w = some (r, w') → Bk yX7_away cX7_away 6 (some .int) 8 37 [(0, vR 26 0), (1, vI a1), (2, vI x2), (3, vI x3)] [] w (some (vI r)) w') (hrec46 : ∀ (x2 : Int32) (x3 : Int32) (x4 : Int32) (w w' : Mem) (r : Int32), rec46 x2 x3 x4 w = some (r, w') → Bk yX7_away cX7_away 6 (some .int) 8 46 [(0, vR 26 0), (1, vI a1), (2, vI x2), (3, vI x3), (4, vI x4)] [] w (some (vI r)) w') (x2 : Int32) (x3 : Int32) (x4 : Int32) (s0 : Int32) (w w' : Mem) (r : Int32) (h : f7_away_79  a1 rec37 rec46 x2 x3 x4 s0 w = some (r, w')) : Bk yX7_away cX7_away 6 (some .int) 8 79 [(0, vR 26 0), (1, vI a1), (2, vI x2), (3, vI x3), (4, vI x4)] [vI s0] w (some (vI r)) w' := by
  unfold f7_away_79 at h
  refine b_istore (lv' := [(5, vI s0), (0, vR 26 0), (1, vI a1), (2, vI x2), (3, vI x3), (4, vI x4)]) dX7_away_79 (by decide) rfl ?_
  refine b_iload dX7_away_81 (k := 0) rfl ?_
  refine b_ifeq (tgt := 99) dX7_away_83 (by decide) (fun c1 => ?_) (fun c1 => ?_)
  · replace h := ifT c1 h
    obtain ⟨y2, ey2, h⟩ := nmE h
    refine b_iinc (v := y2) (lv' := [(4, vI y2), (5, vI s0), (0, vR 26 0), (1, vI a1), (2, vI x2), (3, vI x3)]) dX7_away_99 (k := 5) rfl ey2.symm (by decide) rfl ?_
    refine b_goto (tgt := 46) dX7_away_102 (by decide) ?_
    refine b_sub [2, 3, 4, 5, 0] rfl ?_
    exact hrec46 x2 x3 y2 _ _ _ h
  · replace h := ifF c1 h
    refine b_aload_n dX7_away_86 rfl (k := 1) rfl ?_
    refine b_iload dX7_away_87 (k := 5) rfl ?_
    refine b_iload_n dX7_away_89 rfl (k := 2) rfl ?_
    obtain ⟨r4, w3, hw3, h⟩ := bdO h
    refine b_callVi mv7_isPeaceful ml7_230 ob26 (s7_isPeaceful x4 a1  _ _ _ hw3) rfl (by decide) (by decide) (Nat.le_of_ble_eq_true rfl) rfl dX7_away_90 ?_
    refine b_ifeq (tgt := 99) dX7_away_93 (by decide) (fun c5 => ?_) (fun c5 => ?_)
    · replace h := ifT c5 h
      obtain ⟨y6, ey6, h⟩ := nmE h
      refine b_iinc (v := y6) (lv' := [(4, vI y6), (5, vI s0), (0, vR 26 0), (1, vI a1), (2, vI x2), (3, vI x3)]) dX7_away_99 (k := 5) rfl ey6.symm (by decide) rfl ?_
      refine b_goto (tgt := 46) dX7_away_102 (by decide) ?_
      refine b_sub [2, 3, 4, 5, 0] rfl ?_
      exact hrec46 x2 x3 y6 _ _ _ h
    · replace h := ifF c5 h
      refine b_iload dX7_away_96 (k := 5) rfl ?_
      obtain ⟨rfl, rfl⟩ := rtE h
      exact b_iret rfl dX7_away_98
def f7_away_46  (a1 : Int32) (rec37 : Int32 → Int32 → Mem → Option (Int32 × Mem)) : Nat → Int32 → Int32 → Int32 → Mem → Option (Int32 × Mem)
  | 0, _, _, _, _ => none
  | n + 1, x2, x3, x4, w =>
  if x2 < x4 then (bnd (x3 + 1) fun y2 => rec37 x2 y2 w) else (if (x4 &&& (w.1 0 4 0)) = 0 then (bndO (f6_bitCount_0f7a4 x4 w) fun r5 w4 => if r5 = x3 then (f7_away_79  a1 rec37 (f7_away_46  a1 rec37 n) x2 x3 x4 1 w4) else (f7_away_79  a1 rec37 (f7_away_46  a1 rec37 n) x2 x3 x4 0 w4)) else (f7_away_79  a1 rec37 (f7_away_46  a1 rec37 n) x2 x3 x4 0 w))
set_option maxRecDepth 100000 in
set_option maxHeartbeats 4000000 in
theorem t7_away_46   (a1 : Int32)  (rec37 : Int32 → Int32 → Mem → Option (Int32 × Mem)) (hrec37 : ∀ (x2 : Int32) (x3 : Int32) (w w' : Mem) (r : Int32), rec37 x2 x3 w = some (r, w') → Bk yX7_away cX7_away 6 (some .int) 8 37 [(0, vR 26 0), (1, vI a1), (2, vI x2), (3, vI x3)] [] w (some (vI r)) w') : ∀ (n : Nat) (x2 : Int32) (x3 : Int32) (x4 : Int32) (w w' : Mem) (r : Int32), f7_away_46  a1 rec37 n x2 x3 x4 w = some (r, w') → Bk yX7_away cX7_away 6 (some .int) 8 46 [(0, vR 26 0), (1, vI a1), (2, vI x2), (3, vI x3), (4, vI x4)] [] w (some (vI r)) w' := by
  intro n
  induction n with
  | zero =>
    intro x2 x3 x4 w w' r h
    cases (show (none : Option (Int32 × Mem)) = some _ from h)
  | succ n ih =>
    intro x2 x3 x4 w w' r h
    rw [f7_away_46] at h
    refine b_iload dX7_away_46 (k := 4) rfl ?_
    refine b_iload_n dX7_away_48 rfl (k := 2) rfl ?_
    refine b_icgt (tgt := 105) dX7_away_49 (by decide) (fun c1 => ?_) (fun c1 => ?_)
    · replace h := ifT c1 h
      obtain ⟨y2, ey2, h⟩ := nmE h
      refine b_iinc (v := y2) (lv' := [(3, vI y2), (0, vR 26 0), (1, vI a1), (2, vI x2), (4, vI x4)]) dX7_away_105 (k := 3) rfl ey2.symm (by decide) rfl ?_
      refine b_goto (tgt := 37) dX7_away_108 (by decide) ?_
      refine b_sub [1, 2, 3, 0] rfl ?_
      exact hrec37 x2 y2 _ _ _ h
    · replace h := ifF c1 h
      refine b_iload dX7_away_52 (k := 4) rfl ?_
      refine b_aload_n dX7_away_54 rfl (k := 0) rfl ?_
      refine b_getF fl7_37 ob26 rfl rfl dX7_away_55 ?_
      refine b_getI fl7_200 ob0 rfl dX7_away_58 ?_
      refine b_iand dX7_away_61 ?_
      refine b_ifne (tgt := 78) dX7_away_62 (by decide) (fun c3 => ?_) (fun c3 => ?_)
      · replace h := ifF c3 h
        refine b_iconst (v := 0) dX7_away_78 (by decide) ?_
        refine b_sub [0, 1, 2, 3, 4] rfl ?_
        exact t7_away_79  a1  rec37 (f7_away_46  a1 rec37 n) hrec37 ih x2 x3 x4 0 _ _ _ h
      · replace h := ifT c3 h
        refine b_iload dX7_away_65 (k := 4) rfl ?_
        obtain ⟨r5, w4, hw4, h⟩ := bdO h
        refine b_callSi ms6_bitCount_0f7a4 ml7_225 (s6_bitCount_0f7a4 x4  _ _ _ hw4) rfl (by decide) (by decide) (Nat.le_of_ble_eq_true rfl) rfl dX7_away_67 ?_
        refine b_iload_n dX7_away_70 rfl (k := 3) rfl ?_
        refine b_icne (tgt := 78) dX7_away_71 (by decide) (fun c6 => ?_) (fun c6 => ?_)
        · replace h := ifF c6 h
          refine b_iconst (v := 0) dX7_away_78 (by decide) ?_
          refine b_sub [0, 1, 2, 3, 4] rfl ?_
          exact t7_away_79  a1  rec37 (f7_away_46  a1 rec37 n) hrec37 ih x2 x3 x4 0 _ _ _ h
        · replace h := ifT c6 h
          refine b_iconst (v := 1) dX7_away_74 (by decide) ?_
          refine b_goto (tgt := 79) dX7_away_75 (by decide) ?_
          refine b_sub [0, 1, 2, 3, 4] rfl ?_
          exact t7_away_79  a1  rec37 (f7_away_46  a1 rec37 n) hrec37 ih x2 x3 x4 1 _ _ _ h
def f7_away_37  (a1 : Int32)  : Nat → Int32 → Int32 → Mem → Option (Int32 × Mem)
  | 0, _, _, _ => none
  | n + 1, x2, x3, w =>
  if 8 < x3 then (some ((-1), w)) else (f7_away_46  a1 (f7_away_37  a1  n) 100000 x2 x3 0 w)
set_option maxRecDepth 100000 in
set_option maxHeartbeats 4000000 in
theorem t7_away_37   (a1 : Int32)    : ∀ (n : Nat) (x2 : Int32) (x3 : Int32) (w w' : Mem) (r : Int32), f7_away_37  a1  n x2 x3 w = some (r, w') → Bk yX7_away cX7_away 6 (some .int) 8 37 [(0, vR 26 0), (1, vI a1), (2, vI x2), (3, vI x3)] [] w (some (vI r)) w' := by
  intro n
  induction n with
  | zero =>
    intro x2 x3 w w' r h
    cases (show (none : Option (Int32 × Mem)) = some _ from h)
  | succ n ih =>
    intro x2 x3 w w' r h
    rw [f7_away_37] at h
    refine b_iload_n dX7_away_37 rfl (k := 3) rfl ?_
    refine b_bipush (v := 8) dX7_away_38 (by decide) ?_
    refine b_icgt (tgt := 111) dX7_away_40 (by decide) (fun c1 => ?_) (fun c1 => ?_)
    · replace h := ifT c1 h
      refine b_iconst (v := (-1)) dX7_away_111 (by decide) ?_
      obtain ⟨rfl, rfl⟩ := rtE h
      exact b_iret rfl dX7_away_112
    · replace h := ifF c1 h
      refine b_iconst (v := 0) dX7_away_43 (by decide) ?_
      refine b_istore (lv' := [(4, vI 0), (0, vR 26 0), (1, vI a1), (2, vI x2), (3, vI x3)]) dX7_away_44 (by decide) rfl ?_
      refine b_sub [1, 2, 3, 4, 0] rfl ?_
      exact t7_away_46  a1  (f7_away_37  a1  n) ih 100000 x2 x3 0 _ _ _ h
def f7_away  (a1 : Int32)   (w : Mem) : Option (Int32 × Mem) :=
  if a1 < 1 then (some ((-1000000002), w)) else (if a1 ≤ 30 then ((rk (w.2.2 26 4)).bind fun g3 => if (w.1 g3 0 0) = 0 then (some ((-1000000003), w)) else ((rk (w.2.2 26 4)).bind fun g5 => bndO (f6_all g5 w) fun r7 w6 => f7_away_37  a1  100000 r7 0 w6)) else (some ((-1000000002), w)))
set_option maxRecDepth 100000 in
set_option maxHeartbeats 4000000 in
theorem t7_away   (a1 : Int32)     (w w' : Mem) (r : Int32) (h : f7_away  a1   w = some (r, w')) : Bk yX7_away cX7_away 6 (some .int) 8 0 [(0, vR 26 0), (1, vI a1)] [] w (some (vI r)) w' := by
  unfold f7_away at h
  refine b_iload_n dX7_away_0 rfl (k := 1) rfl ?_
  refine b_iconst (v := 1) dX7_away_1 (by decide) ?_
  refine b_iclt (tgt := 11) dX7_away_2 (by decide) (fun c1 => ?_) (fun c1 => ?_)
  · replace h := ifT c1 h
    refine b_ldc dX7_away_11 kk7_80 ?_
    obtain ⟨rfl, rfl⟩ := rtE h
    exact b_iret rfl dX7_away_13
  · replace h := ifF c1 h
    refine b_iload_n dX7_away_5 rfl (k := 1) rfl ?_
    refine b_bipush (v := 30) dX7_away_6 (by decide) ?_
    refine b_icle (tgt := 14) dX7_away_8 (by decide) (fun c2 => ?_) (fun c2 => ?_)
    · replace h := ifT c2 h
      refine b_aload_n dX7_away_14 rfl (k := 0) rfl ?_
      obtain ⟨g3, qg3, og3, h⟩ := bdR h
      refine b_getM qg3 fl7_27 ob26 rfl dX7_away_15 ?_
      refine b_getI fl7_210 og3 rfl dX7_away_18 ?_
      refine b_ifne (tgt := 27) dX7_away_21 (by decide) (fun c4 => ?_) (fun c4 => ?_)
      · replace h := ifF c4 h
        refine b_aload_n dX7_away_27 rfl (k := 0) rfl ?_
        obtain ⟨g5, qg5, og5, h⟩ := bdR h
        refine b_getM qg5 fl7_27 ob26 rfl dX7_away_28 ?_
        obtain ⟨r7, w6, hw6, h⟩ := bdO h
        refine b_callVi mv6_all ml7_216 og5 (s6_all g5 og5 _ _ _ hw6) rfl (by decide) (by decide) (Nat.le_of_ble_eq_true rfl) rfl dX7_away_31 ?_
        refine b_istore_n (lv' := [(2, vI r7), (0, vR 26 0), (1, vI a1)]) dX7_away_34 rfl (by decide) rfl ?_
        refine b_iconst (v := 0) dX7_away_35 (by decide) ?_
        refine b_istore_n (lv' := [(3, vI 0), (2, vI r7), (0, vR 26 0), (1, vI a1)]) dX7_away_36 rfl (by decide) rfl ?_
        refine b_sub [2, 3, 1, 0] rfl ?_
        exact t7_away_37  a1    100000 r7 0 _ _ _ h
      · replace h := ifT c4 h
        refine b_ldc dX7_away_24 kk7_206 ?_
        obtain ⟨rfl, rfl⟩ := rtE h
        exact b_iret rfl dX7_away_26
    · replace h := ifF c2 h
      refine b_ldc dX7_away_11 kk7_80 ?_
      obtain ⟨rfl, rfl⟩ := rtE h
      exact b_iret rfl dX7_away_13
theorem s7_away (a1 : Int32)  (w w' : Mem) (r : Int32) (h : f7_away  a1  w = some (r, w')) : Sp yX7_away cX7_away 6 (some .int) 8 [vR 26 0, vI a1] w (some (vI r)) w' := sp_of (by decide) (fun _ => rfl) (fun _ => Nat.le_of_ble_eq_true rfl) (t7_away  a1   _ _ _ h)
-- X7_smoke OneADay
def f7_smoke  (a1 : Int32) (a2 : Int32)   (w : Mem) : Option (Int32 × Mem) :=
  (rk (w.2.2 26 4)).bind fun g1 => bndO (f6_has g1 a1 w) fun r3 w2 => if r3 = 0 then (some ((-1000000001), w2)) else (if a2 < 0 then (some ((-1000000002), w2)) else (if a2 ≤ 999 then ((rk (w2.2.2 26 4)).bind fun g7 => bndO (f1_comersByCalendar 0 g7 a2 w2) fun r9 w8 => if (r9 &&& ((jshl 1 a1) ^^^ (-1))) = 0 then (some (1, w8)) else (some (0, w8))) else (some ((-1000000002), w2))))
set_option maxRecDepth 100000 in
set_option maxHeartbeats 4000000 in
theorem t7_smoke   (a1 : Int32) (a2 : Int32)     (w w' : Mem) (r : Int32) (h : f7_smoke  a1 a2   w = some (r, w')) : Bk yX7_smoke cX7_smoke 3 (some .int) 5 0 [(0, vR 26 0), (1, vI a1), (2, vI a2)] [] w (some (vI r)) w' := by
  unfold f7_smoke at h
  refine b_aload_n dX7_smoke_0 rfl (k := 0) rfl ?_
  obtain ⟨g1, qg1, og1, h⟩ := bdR h
  refine b_getM qg1 fl7_27 ob26 rfl dX7_smoke_1 ?_
  refine b_iload_n dX7_smoke_4 rfl (k := 1) rfl ?_
  obtain ⟨r3, w2, hw2, h⟩ := bdO h
  refine b_callVi mv6_has ml7_158 og1 (s6_has g1 a1 og1 _ _ _ hw2) rfl (by decide) (by decide) (Nat.le_of_ble_eq_true rfl) rfl dX7_smoke_5 ?_
  refine b_ifne (tgt := 14) dX7_smoke_8 (by decide) (fun c4 => ?_) (fun c4 => ?_)
  · replace h := ifF c4 h
    refine b_iload_n dX7_smoke_14 rfl (k := 2) rfl ?_
    refine b_iflt (tgt := 25) dX7_smoke_15 (by decide) (fun c5 => ?_) (fun c5 => ?_)
    · replace h := ifT c5 h
      refine b_ldc dX7_smoke_25 kk7_80 ?_
      obtain ⟨rfl, rfl⟩ := rtE h
      exact b_iret rfl dX7_smoke_27
    · replace h := ifF c5 h
      refine b_iload_n dX7_smoke_18 rfl (k := 2) rfl ?_
      refine b_sipush (v := 999) dX7_smoke_19 (by decide) ?_
      refine b_icle (tgt := 28) dX7_smoke_22 (by decide) (fun c6 => ?_) (fun c6 => ?_)
      · replace h := ifT c6 h
        refine b_aload_n dX7_smoke_28 rfl (k := 0) rfl ?_
        refine b_getF fl7_37 ob26 rfl rfl dX7_smoke_29 ?_
        refine b_aload_n dX7_smoke_32 rfl (k := 0) rfl ?_
        obtain ⟨g7, qg7, og7, h⟩ := bdR h
        refine b_getM qg7 fl7_27 ob26 rfl dX7_smoke_33 ?_
        refine b_iload_n dX7_smoke_36 rfl (k := 2) rfl ?_
        obtain ⟨r9, w8, hw8, h⟩ := bdO h
        refine b_callVi mv1_comersByCalendar ml7_234 ob0 (s1_comersByCalendar 0 g7 a2 ob0 og7 _ _ _ hw8) rfl (by decide) (by decide) (Nat.le_of_ble_eq_true rfl) rfl dX7_smoke_37 ?_
        refine b_iconst (v := 1) dX7_smoke_40 (by decide) ?_
        refine b_iload_n dX7_smoke_41 rfl (k := 1) rfl ?_
        refine b_ishl dX7_smoke_42 ?_
        refine b_iconst (v := (-1)) dX7_smoke_43 (by decide) ?_
        refine b_ixor dX7_smoke_44 ?_
        refine b_iand dX7_smoke_45 ?_
        refine b_ifne (tgt := 53) dX7_smoke_46 (by decide) (fun c10 => ?_) (fun c10 => ?_)
        · replace h := ifF c10 h
          refine b_iconst (v := 0) dX7_smoke_53 (by decide) ?_
          obtain ⟨rfl, rfl⟩ := rtE h
          exact b_iret rfl dX7_smoke_54
        · replace h := ifT c10 h
          refine b_iconst (v := 1) dX7_smoke_49 (by decide) ?_
          refine b_goto (tgt := 54) dX7_smoke_50 (by decide) ?_
          obtain ⟨rfl, rfl⟩ := rtE h
          exact b_iret rfl dX7_smoke_54
      · replace h := ifF c6 h
        refine b_ldc dX7_smoke_25 kk7_80 ?_
        obtain ⟨rfl, rfl⟩ := rtE h
        exact b_iret rfl dX7_smoke_27
  · replace h := ifT c4 h
    refine b_ldc dX7_smoke_11 kk7_162 ?_
    obtain ⟨rfl, rfl⟩ := rtE h
    exact b_iret rfl dX7_smoke_13
theorem s7_smoke (a1 : Int32) (a2 : Int32)  (w w' : Mem) (r : Int32) (h : f7_smoke  a1 a2  w = some (r, w')) : Sp yX7_smoke cX7_smoke 3 (some .int) 5 [vR 26 0, vI a1, vI a2] w (some (vI r)) w' := sp_of (by decide) (fun _ => rfl) (fun _ => Nat.le_of_ble_eq_true rfl) (t7_smoke  a1 a2   _ _ _ h)
