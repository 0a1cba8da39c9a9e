-- X5_isWord OneADay$Reader
def f5_isWord  (a0 : Int32)   (w : Mem) : Option (Int32 × Mem) :=
  if a0 = 104 then (some (1, w)) else (if a0 = 118 then (some (1, w)) else (if a0 = 102 then (some (1, w)) else (if a0 = 103 then (some (1, w)) else (some (0, w)))))
set_option maxRecDepth 100000 in
set_option maxHeartbeats 4000000 in
theorem t5_isWord   (a0 : Int32)     (w w' : Mem) (r : Int32) (h : f5_isWord  a0   w = some (r, w')) : Bk yX5_isWord cX5_isWord 1 (some .boolean) 1 0 [(0, vI a0)] [] w (some (vI r)) w' := by
  unfold f5_isWord at h
  refine b_iload_n dX5_isWord_0 rfl (k := 0) rfl ?_
  refine b_bipush (v := 104) dX5_isWord_1 (by decide) ?_
  refine b_iceq (tgt := 24) dX5_isWord_3 (by decide) (fun c1 => ?_) (fun c1 => ?_)
  · replace h := ifT c1 h
    refine b_iconst (v := 1) dX5_isWord_24 (by decide) ?_
    refine b_goto (tgt := 29) dX5_isWord_25 (by decide) ?_
    obtain ⟨rfl, rfl⟩ := rtE h
    exact b_zret rfl (by decide) dX5_isWord_29
  · replace h := ifF c1 h
    refine b_iload_n dX5_isWord_6 rfl (k := 0) rfl ?_
    refine b_bipush (v := 118) dX5_isWord_7 (by decide) ?_
    refine b_iceq (tgt := 24) dX5_isWord_9 (by decide) (fun c2 => ?_) (fun c2 => ?_)
    · replace h := ifT c2 h
      refine b_iconst (v := 1) dX5_isWord_24 (by decide) ?_
      refine b_goto (tgt := 29) dX5_isWord_25 (by decide) ?_
      obtain ⟨rfl, rfl⟩ := rtE h
      exact b_zret rfl (by decide) dX5_isWord_29
    · replace h := ifF c2 h
      refine b_iload_n dX5_isWord_12 rfl (k := 0) rfl ?_
      refine b_bipush (v := 102) dX5_isWord_13 (by decide) ?_
      refine b_iceq (tgt := 24) dX5_isWord_15 (by decide) (fun c3 => ?_) (fun c3 => ?_)
      · replace h := ifT c3 h
        refine b_iconst (v := 1) dX5_isWord_24 (by decide) ?_
        refine b_goto (tgt := 29) dX5_isWord_25 (by decide) ?_
        obtain ⟨rfl, rfl⟩ := rtE h
        exact b_zret rfl (by decide) dX5_isWord_29
      · replace h := ifF c3 h
        refine b_iload_n dX5_isWord_18 rfl (k := 0) rfl ?_
        refine b_bipush (v := 103) dX5_isWord_19 (by decide) ?_
        refine b_icne (tgt := 28) dX5_isWord_21 (by decide) (fun c4 => ?_) (fun c4 => ?_)
        · replace h := ifF c4 h
          refine b_iconst (v := 0) dX5_isWord_28 (by decide) ?_
          obtain ⟨rfl, rfl⟩ := rtE h
          exact b_zret rfl (by decide) dX5_isWord_29
        · replace h := ifT c4 h
          refine b_iconst (v := 1) dX5_isWord_24 (by decide) ?_
          refine b_goto (tgt := 29) dX5_isWord_25 (by decide) ?_
          obtain ⟨rfl, rfl⟩ := rtE h
          exact b_zret rfl (by decide) dX5_isWord_29
theorem s5_isWord (a0 : Int32)  (w w' : Mem) (r : Int32) (h : f5_isWord  a0  w = some (r, w')) : Sp yX5_isWord cX5_isWord 1 (some .boolean) 1 [vI a0] w (some (vI r)) w' := sp_of (by decide) (fun _ => rfl) (fun _ => Nat.le_of_ble_eq_true rfl) (t5_isWord  a0   _ _ _ h)
-- X5_letterHere OneADay$Reader
def f5_letterHere     (w : Mem) : Option (Int32 × Mem) :=
  if (w.1 27 4 0) < 0 then (some (0, w)) else (if (w.1 27 1 0) ≤ (w.1 27 4 0) then (some (0, w)) else (if w.2.2 27 0 = (26, 1) then (if (w.1 27 4 0) < 240 then (if w.2.2 27 0 = (26, 1) then (if (w.1 27 4 0) < 0 ∨ 240 ≤ Int32.toNatClampNeg (w.1 27 4 0) then none else if ¬ (w.1 26 0 (Int32.toNatClampNeg (w.1 27 4 0))).toUInt32.toUInt16.toUInt32.toInt32 = (w.1 26 0 (Int32.toNatClampNeg (w.1 27 4 0))) then none else some (w.1 26 0 (Int32.toNatClampNeg (w.1 27 4 0)), w)) else none) else (some (0, w))) else none))
set_option maxRecDepth 100000 in
set_option maxHeartbeats 4000000 in
theorem t5_letterHere        (w w' : Mem) (r : Int32) (h : f5_letterHere     w = some (r, w')) : Bk yX5_letterHere cX5_letterHere 1 (some .char) 1 0 [(0, vR 27 0)] [] w (some (vI r)) w' := by
  unfold f5_letterHere at h
  refine b_aload_n dX5_letterHere_0 rfl (k := 0) rfl ?_
  refine b_getI fl5_25 ob27 rfl dX5_letterHere_1 ?_
  refine b_iflt (tgt := 30) dX5_letterHere_4 (by decide) (fun c1 => ?_) (fun c1 => ?_)
  · replace h := ifT c1 h
    refine b_iconst (v := 0) dX5_letterHere_30 (by decide) ?_
    refine b_goto (tgt := 43) dX5_letterHere_31 (by decide) ?_
    obtain ⟨rfl, rfl⟩ := rtE h
    exact b_cret rfl (by decide) dX5_letterHere_43
  · replace h := ifF c1 h
    refine b_aload_n dX5_letterHere_7 rfl (k := 0) rfl ?_
    refine b_getI fl5_25 ob27 rfl dX5_letterHere_8 ?_
    refine b_aload_n dX5_letterHere_11 rfl (k := 0) rfl ?_
    refine b_getI fl5_21 ob27 rfl dX5_letterHere_12 ?_
    refine b_icge (tgt := 30) dX5_letterHere_15 (by decide) (fun c2 => ?_) (fun c2 => ?_)
    · replace h := ifT c2 h
      refine b_iconst (v := 0) dX5_letterHere_30 (by decide) ?_
      refine b_goto (tgt := 43) dX5_letterHere_31 (by decide) ?_
      obtain ⟨rfl, rfl⟩ := rtE h
      exact b_cret rfl (by decide) dX5_letterHere_43
    · replace h := ifF c2 h
      refine b_aload_n dX5_letterHere_18 rfl (k := 0) rfl ?_
      refine b_getI fl5_25 ob27 rfl dX5_letterHere_19 ?_
      refine b_aload_n dX5_letterHere_22 rfl (k := 0) rfl ?_
      obtain ⟨g3, h⟩ := gdP h
      refine b_getM g3 fl5_9 ob27 rfl dX5_letterHere_23 ?_
      refine b_alen (v := 240) ar26_0 (by decide) (by decide) dX5_letterHere_26 ?_
      refine b_iclt (tgt := 34) dX5_letterHere_27 (by decide) (fun c4 => ?_) (fun c4 => ?_)
      · replace h := ifT c4 h
        refine b_aload_n dX5_letterHere_34 rfl (k := 0) rfl ?_
        obtain ⟨g5, h⟩ := gdP h
        refine b_getM g5 fl5_9 ob27 rfl dX5_letterHere_35 ?_
        refine b_aload_n dX5_letterHere_38 rfl (k := 0) rfl ?_
        refine b_getI fl5_25 ob27 rfl dX5_letterHere_39 ?_
        obtain ⟨g6, h⟩ := gdE h
        refine b_cald ar26_0 g6 rfl dX5_letterHere_42 ?_
        obtain ⟨g7, h⟩ := gdE h
        obtain ⟨rfl, rfl⟩ := rtE h
        exact b_cret rfl (Decidable.not_not.mp g7) dX5_letterHere_43
      · replace h := ifF c4 h
        refine b_iconst (v := 0) dX5_letterHere_30 (by decide) ?_
        refine b_goto (tgt := 43) dX5_letterHere_31 (by decide) ?_
        obtain ⟨rfl, rfl⟩ := rtE h
        exact b_cret rfl (by decide) dX5_letterHere_43
theorem s5_letterHere   (w w' : Mem) (r : Int32) (h : f5_letterHere    w = some (r, w')) : Sp yX5_letterHere cX5_letterHere 1 (some .char) 1 [vR 27 0] w (some (vI r)) w' := sp_of (by decide) (fun _ => rfl) (fun _ => Nat.le_of_ble_eq_true rfl) (t5_letterHere     _ _ _ h)
-- X5_skipBlanks OneADay$Reader
def f5_skipBlanks_10    : Nat → Int32 → Mem → Option Mem
  | 0, _, _ => none
  | n + 1, x1, w =>
  if 240 ≤ x1 then (some w) else (bndO (f5_letterHere  w) fun r3 w2 => if r3 = 32 then (bnd (sI w2 27 4 0 ((w2.1 27 4 0) + 1)) fun w5 => bnd (x1 + 1) fun y6 => f5_skipBlanks_10    n y6 w5) else (some w2))
set_option maxRecDepth 100000 in
set_option maxHeartbeats 4000000 in
theorem t5_skipBlanks_10       : ∀ (n : Nat) (x1 : Int32) (w w' : Mem), f5_skipBlanks_10    n x1 w = some w' → Bk yX5_skipBlanks cX5_skipBlanks 2 none 2 10 [(0, vR 27 0), (1, vI x1)] [] w none w' := by
  intro n
  induction n with
  | zero =>
    intro x1 w w' h
    cases (show (none : Option Mem) = some _ from h)
  | succ n ih =>
    intro x1 w w' h
    rw [f5_skipBlanks_10] at h
    refine b_iload_n dX5_skipBlanks_10 rfl (k := 1) rfl ?_
    refine b_sipush (v := 240) dX5_skipBlanks_11 (by decide) ?_
    refine b_icge (tgt := 42) dX5_skipBlanks_14 (by decide) (fun c1 => ?_) (fun c1 => ?_)
    · replace h := ifT c1 h
      cases h
      exact b_vret rfl dX5_skipBlanks_42
    · replace h := ifF c1 h
      refine b_aload_n dX5_skipBlanks_17 rfl (k := 0) rfl ?_
      obtain ⟨r3, w2, hw2, h⟩ := bdO h
      refine b_callVi mv5_letterHere ml5_43 ob27 (s5_letterHere   _ _ _ hw2) rfl (by decide) (by decide) (Nat.le_of_ble_eq_true rfl) rfl dX5_skipBlanks_18 ?_
      refine b_bipush (v := 32) dX5_skipBlanks_21 (by decide) ?_
      refine b_icne (tgt := 42) dX5_skipBlanks_23 (by decide) (fun c4 => ?_) (fun c4 => ?_)
      · replace h := ifF c4 h
        cases h
        exact b_vret rfl dX5_skipBlanks_42
      · replace h := ifT c4 h
        refine b_aload_n dX5_skipBlanks_26 rfl (k := 0) rfl ?_
        refine b_dup dX5_skipBlanks_27 rfl ?_
        refine b_getI fl5_25 ob27 rfl dX5_skipBlanks_28 ?_
        refine b_iconst (v := 1) dX5_skipBlanks_31 (by decide) ?_
        refine b_iadd dX5_skipBlanks_32 ?_
        obtain ⟨w5, ew5, h⟩ := nmE h
        refine b_putI fw5_25 ob27 rfl dX5_skipBlanks_33 ?_
        refine b_nmW ew5 ?_
        obtain ⟨y6, ey6, h⟩ := nmE h
        refine b_iinc (v := y6) (lv' := [(1, vI y6), (0, vR 27 0)]) dX5_skipBlanks_36 (k := 1) rfl ey6.symm (by decide) rfl ?_
        refine b_goto (tgt := 10) dX5_skipBlanks_39 (by decide) ?_
        refine b_sub [1, 0] rfl ?_
        exact ih y6 _ _  h
def f5_skipBlanks     (w : Mem) : Option Mem :=
  if (w.1 27 2 0) = 0 then (f5_skipBlanks_10    100000 0 w) else (some w)
set_option maxRecDepth 100000 in
set_option maxHeartbeats 4000000 in
theorem t5_skipBlanks        (w w' : Mem) (h : f5_skipBlanks     w = some w') : Bk yX5_skipBlanks cX5_skipBlanks 2 none 2 0 [(0, vR 27 0)] [] w none w' := by
  unfold f5_skipBlanks at h
  refine b_aload_n dX5_skipBlanks_0 rfl (k := 0) rfl ?_
  refine b_getI fl5_28 ob27 rfl dX5_skipBlanks_1 ?_
  refine b_ifeq (tgt := 8) dX5_skipBlanks_4 (by decide) (fun c1 => ?_) (fun c1 => ?_)
  · replace h := ifT c1 h
    refine b_iconst (v := 0) dX5_skipBlanks_8 (by decide) ?_
    refine b_istore_n (lv' := [(1, vI 0), (0, vR 27 0)]) dX5_skipBlanks_9 rfl (by decide) rfl ?_
    refine b_sub [1, 0] rfl ?_
    exact t5_skipBlanks_10      100000 0 _ _  h
  · replace h := ifF c1 h
    cases h
    exact b_vret rfl dX5_skipBlanks_7
theorem s5_skipBlanks   (w w' : Mem) (h : f5_skipBlanks    w = some w') : Sp yX5_skipBlanks cX5_skipBlanks 2 none 2 [vR 27 0] w none w' := sp_of (by decide) (fun _ => rfl) (fun _ => Nat.le_of_ble_eq_true rfl) (t5_skipBlanks     _ _  h)
-- X5_readEnd OneADay$Reader
def f5_readEnd     (w : Mem) : Option Mem :=
  if (w.1 27 2 0) = 0 then (bndV (f5_skipBlanks  w) fun w2 => bndO (f5_letterHere  w2) fun r4 w3 => if r4 = 59 then (bnd (sI w3 27 4 0 ((w3.1 27 4 0) + 1)) fun w7 => some w7) else (bndV (f5_blame 1 (w3.1 27 4 0) w3) fun w6 => some w6)) else (some w)
set_option maxRecDepth 100000 in
set_option maxHeartbeats 4000000 in
theorem t5_readEnd        (w w' : Mem) (h : f5_readEnd     w = some w') : Bk yX5_readEnd cX5_readEnd 1 none 3 0 [(0, vR 27 0)] [] w none w' := by
  unfold f5_readEnd at h
  refine b_aload_n dX5_readEnd_0 rfl (k := 0) rfl ?_
  refine b_getI fl5_28 ob27 rfl dX5_readEnd_1 ?_
  refine b_ifeq (tgt := 8) dX5_readEnd_4 (by decide) (fun c1 => ?_) (fun c1 => ?_)
  · replace h := ifT c1 h
    refine b_aload_n dX5_readEnd_8 rfl (k := 0) rfl ?_
    obtain ⟨w2, hw2, h⟩ := bdV h
    refine b_callVv mv5_skipBlanks ml5_36 ob27 (s5_skipBlanks   _ _  hw2) rfl (by decide) (by decide) (Nat.le_of_ble_eq_true rfl) rfl dX5_readEnd_9 ?_
    refine b_aload_n dX5_readEnd_12 rfl (k := 0) rfl ?_
    obtain ⟨r4, w3, hw3, h⟩ := bdO h
    refine b_callVi mv5_letterHere ml5_43 ob27 (s5_letterHere   _ _ _ hw3) rfl (by decide) (by decide) (Nat.le_of_ble_eq_true rfl) rfl dX5_readEnd_13 ?_
    refine b_bipush (v := 59) dX5_readEnd_16 (by decide) ?_
    refine b_icne (tgt := 34) dX5_readEnd_18 (by decide) (fun c5 => ?_) (fun c5 => ?_)
    · replace h := ifF c5 h
      refine b_aload_n dX5_readEnd_34 rfl (k := 0) rfl ?_
      refine b_iconst (v := 1) dX5_readEnd_35 (by decide) ?_
      refine b_aload_n dX5_readEnd_36 rfl (k := 0) rfl ?_
      refine b_getI fl5_25 ob27 rfl dX5_readEnd_37 ?_
      obtain ⟨w6, hw6, h⟩ := bdV h
      refine b_callVv mv5_blame ml5_55 ob27 (s5_blame 1 (w3.1 27 4 0)  _ _  hw6) rfl (by decide) (by decide) (Nat.le_of_ble_eq_true rfl) rfl dX5_readEnd_40 ?_
      cases h
      exact b_vret rfl dX5_readEnd_43
    · replace h := ifT c5 h
      refine b_aload_n dX5_readEnd_21 rfl (k := 0) rfl ?_
      refine b_dup dX5_readEnd_22 rfl ?_
      refine b_getI fl5_25 ob27 rfl dX5_readEnd_23 ?_
      refine b_iconst (v := 1) dX5_readEnd_26 (by decide) ?_
      refine b_iadd dX5_readEnd_27 ?_
      obtain ⟨w7, ew7, h⟩ := nmE h
      refine b_putI fw5_25 ob27 rfl dX5_readEnd_28 ?_
      refine b_nmW ew7 ?_
      refine b_goto (tgt := 43) dX5_readEnd_31 (by decide) ?_
      cases h
      exact b_vret rfl dX5_readEnd_43
  · replace h := ifF c1 h
    cases h
    exact b_vret rfl dX5_readEnd_7
theorem s5_readEnd   (w w' : Mem) (h : f5_readEnd    w = some w') : Sp yX5_readEnd cX5_readEnd 1 none 3 [vR 27 0] w none w' := sp_of (by decide) (fun _ => rfl) (fun _ => Nat.le_of_ble_eq_true rfl) (t5_readEnd     _ _  h)
-- X5_isFigure OneADay$Reader
def f5_isFigure  (a0 : Int32)   (w : Mem) : Option (Int32 × Mem) :=
  if a0 < 48 then (some (0, w)) else (if 57 < a0 then (some (0, w)) else (some (1, w)))
set_option maxRecDepth 100000 in
set_option maxHeartbeats 4000000 in
theorem t5_isFigure   (a0 : Int32)     (w w' : Mem) (r : Int32) (h : f5_isFigure  a0   w = some (r, w')) : Bk yX5_isFigure cX5_isFigure 1 (some .boolean) 1 0 [(0, vI a0)] [] w (some (vI r)) w' := by
  unfold f5_isFigure at h
  refine b_iload_n dX5_isFigure_0 rfl (k := 0) rfl ?_
  refine b_bipush (v := 48) dX5_isFigure_1 (by decide) ?_
  refine b_iclt (tgt := 16) dX5_isFigure_3 (by decide) (fun c1 => ?_) (fun c1 => ?_)
  · replace h := ifT c1 h
    refine b_iconst (v := 0) dX5_isFigure_16 (by decide) ?_
    obtain ⟨rfl, rfl⟩ := rtE h
    exact b_zret rfl (by decide) dX5_isFigure_17
  · replace h := ifF c1 h
    refine b_iload_n dX5_isFigure_6 rfl (k := 0) rfl ?_
    refine b_bipush (v := 57) dX5_isFigure_7 (by decide) ?_
    refine b_icgt (tgt := 16) dX5_isFigure_9 (by decide) (fun c2 => ?_) (fun c2 => ?_)
    · replace h := ifT c2 h
      refine b_iconst (v := 0) dX5_isFigure_16 (by decide) ?_
      obtain ⟨rfl, rfl⟩ := rtE h
      exact b_zret rfl (by decide) dX5_isFigure_17
    · replace h := ifF c2 h
      refine b_iconst (v := 1) dX5_isFigure_12 (by decide) ?_
      refine b_goto (tgt := 17) dX5_isFigure_13 (by decide) ?_
      obtain ⟨rfl, rfl⟩ := rtE h
      exact b_zret rfl (by decide) dX5_isFigure_17
theorem s5_isFigure (a0 : Int32)  (w w' : Mem) (r : Int32) (h : f5_isFigure  a0  w = some (r, w')) : Sp yX5_isFigure cX5_isFigure 1 (some .boolean) 1 [vI a0] w (some (vI r)) w' := sp_of (by decide) (fun _ => rfl) (fun _ => Nat.le_of_ble_eq_true rfl) (t5_isFigure  a0   _ _ _ h)
-- X5_readNumber OneADay$Reader
def f5_readNumber_123  (a1 : Int32) (a2 : Int32)  (x3 : Int32) (w : Mem) : Option (Int32 × Mem) :=
  bndV (f5_blame 2 (w.1 27 3 0) w) fun w1 => some (x3, w1)
set_option maxRecDepth 100000 in
set_option maxHeartbeats 4000000 in
theorem t5_readNumber_123   (a1 : Int32) (a2 : Int32)    (x3 : Int32) (w w' : Mem) (r : Int32) (h : f5_readNumber_123  a1 a2  x3 w = some (r, w')) : Bk yX5_readNumber cX5_readNumber 5 (some .int) 3 123 [(0, vR 27 0), (3, vI x3)] [] w (some (vI r)) w' := by
  unfold f5_readNumber_123 at h
  refine b_aload_n dX5_readNumber_123 rfl (k := 0) rfl ?_
  refine b_iconst (v := 2) dX5_readNumber_124 (by decide) ?_
  refine b_aload_n dX5_readNumber_125 rfl (k := 0) rfl ?_
  refine b_getI fl5_121 ob27 rfl dX5_readNumber_126 ?_
  obtain ⟨w1, hw1, h⟩ := bdV h
  refine b_callVv mv5_blame ml5_55 ob27 (s5_blame 2 (w.1 27 3 0)  _ _  hw1) rfl (by decide) (by decide) (Nat.le_of_ble_eq_true rfl) rfl dX5_readNumber_129 ?_
  refine b_iload_n dX5_readNumber_132 rfl (k := 1) rfl ?_
  obtain ⟨rfl, rfl⟩ := rtE h
  exact b_iret rfl dX5_readNumber_133
def f5_readNumber_79  (a1 : Int32) (a2 : Int32)  (x3 : Int32) (w : Mem) : Option (Int32 × Mem) :=
  bnd ((w.1 27 4 0) - (w.1 27 3 0)) fun y1 => if y1 = 0 then (bndV (f5_blame 1 (w.1 27 4 0) w) fun w6 => some (x3, w6)) else (if 3 < y1 then (f5_readNumber_123  a1 a2  x3 w) else (if x3 < a1 then (f5_readNumber_123  a1 a2  x3 w) else (if x3 ≤ a2 then (some (x3, w)) else (f5_readNumber_123  a1 a2  x3 w))))
set_option maxRecDepth 100000 in
set_option maxHeartbeats 4000000 in
theorem t5_readNumber_79   (a1 : Int32) (a2 : Int32)    (x3 : Int32) (w w' : Mem) (r : Int32) (h : f5_readNumber_79  a1 a2  x3 w = some (r, w')) : Bk yX5_readNumber cX5_readNumber 5 (some .int) 3 79 [(0, vR 27 0), (1, vI a1), (2, vI a2), (3, vI x3)] [] w (some (vI r)) w' := by
  unfold f5_readNumber_79 at h
  refine b_aload_n dX5_readNumber_79 rfl (k := 0) rfl ?_
  refine b_getI fl5_25 ob27 rfl dX5_readNumber_80 ?_
  refine b_aload_n dX5_readNumber_83 rfl (k := 0) rfl ?_
  refine b_getI fl5_121 ob27 rfl dX5_readNumber_84 ?_
  refine b_isub dX5_readNumber_87 ?_
  obtain ⟨y1, ey1, h⟩ := nmE h
  refine b_nmI ey1 ?_
  refine b_istore (lv' := [(4, vI y1), (0, vR 27 0), (1, vI a1), (2, vI a2), (3, vI x3)]) dX5_readNumber_88 (by decide) rfl ?_
  refine b_iload dX5_readNumber_90 (k := 0) rfl ?_
  refine b_ifne (tgt := 107) dX5_readNumber_92 (by decide) (fun c2 => ?_) (fun c2 => ?_)
  · replace h := ifF c2 h
    refine b_iload dX5_readNumber_107 (k := 0) rfl ?_
    refine b_iconst (v := 3) dX5_readNumber_109 (by decide) ?_
    refine b_icgt (tgt := 123) dX5_readNumber_110 (by decide) (fun c3 => ?_) (fun c3 => ?_)
    · replace h := ifT c3 h
      refine b_sub [1, 4] rfl ?_
      exact t5_readNumber_123  a1 a2    x3 _ _ _ h
    · replace h := ifF c3 h
      refine b_iload_n dX5_readNumber_113 rfl (k := 4) rfl ?_
      refine b_iload_n dX5_readNumber_114 rfl (k := 2) rfl ?_
      refine b_iclt (tgt := 123) dX5_readNumber_115 (by decide) (fun c4 => ?_) (fun c4 => ?_)
      · replace h := ifT c4 h
        refine b_sub [1, 4] rfl ?_
        exact t5_readNumber_123  a1 a2    x3 _ _ _ h
      · replace h := ifF c4 h
        refine b_iload_n dX5_readNumber_118 rfl (k := 4) rfl ?_
        refine b_iload_n dX5_readNumber_119 rfl (k := 3) rfl ?_
        refine b_icle (tgt := 132) dX5_readNumber_120 (by decide) (fun c5 => ?_) (fun c5 => ?_)
        · replace h := ifT c5 h
          refine b_iload_n dX5_readNumber_132 rfl (k := 4) rfl ?_
          obtain ⟨rfl, rfl⟩ := rtE h
          exact b_iret rfl dX5_readNumber_133
        · replace h := ifF c5 h
          refine b_sub [1, 4] rfl ?_
          exact t5_readNumber_123  a1 a2    x3 _ _ _ h
  · replace h := ifT c2 h
    refine b_aload_n dX5_readNumber_95 rfl (k := 1) rfl ?_
    refine b_iconst (v := 1) dX5_readNumber_96 (by decide) ?_
    refine b_aload_n dX5_readNumber_97 rfl (k := 1) rfl ?_
    refine b_getI fl5_25 ob27 rfl dX5_readNumber_98 ?_
    obtain ⟨w6, hw6, h⟩ := bdV h
    refine b_callVv mv5_blame ml5_55 ob27 (s5_blame 1 (w.1 27 4 0)  _ _  hw6) rfl (by decide) (by decide) (Nat.le_of_ble_eq_true rfl) rfl dX5_readNumber_101 ?_
    refine b_goto (tgt := 132) dX5_readNumber_104 (by decide) ?_
    refine b_iload_n dX5_readNumber_132 rfl (k := 4) rfl ?_
    obtain ⟨rfl, rfl⟩ := rtE h
    exact b_iret rfl dX5_readNumber_133
def f5_readNumber_26  (a1 : Int32) (a2 : Int32)  : Nat → Int32 → Int32 → Mem → Option (Int32 × Mem)
  | 0, _, _, _ => none
  | n + 1, x3, x4, w =>
  if 240 ≤ x4 then (f5_readNumber_79  a1 a2  x3 w) else (bndO (f5_letterHere  w) fun r3 w2 => bndO (f5_isFigure r3 w2) fun r5 w4 => if r5 = 0 then (f5_readNumber_79  a1 a2  x3 w4) else (if 3 ≤ x4 then (bnd (sI w4 27 4 0 ((w4.1 27 4 0) + 1)) fun w8 => bnd (x4 + 1) fun y9 => f5_readNumber_26  a1 a2  n x3 y9 w8) else (bndO (f5_letterHere  w4) fun r11 w10 => bnd ((x3 * 10) + (r11 - 48)) fun y12 => bnd (sI w10 27 4 0 ((w10.1 27 4 0) + 1)) fun w13 => bnd (x4 + 1) fun y14 => f5_readNumber_26  a1 a2  n y12 y14 w13)))
set_option maxRecDepth 100000 in
set_option maxHeartbeats 4000000 in
theorem t5_readNumber_26   (a1 : Int32) (a2 : Int32)    : ∀ (n : Nat) (x3 : Int32) (x4 : Int32) (w w' : Mem) (r : Int32), f5_readNumber_26  a1 a2  n x3 x4 w = some (r, w') → Bk yX5_readNumber cX5_readNumber 5 (some .int) 3 26 [(0, vR 27 0), (1, vI a1), (2, vI a2), (3, vI x3), (4, vI x4)] [] w (some (vI r)) w' := by
  intro n
  induction n with
  | zero =>
    intro x3 x4 w w' r h
    cases (show (none : Option (Int32 × Mem)) = some _ from h)
  | succ n ih =>
    intro x3 x4 w w' r h
    rw [f5_readNumber_26] at h
    refine b_iload dX5_readNumber_26 (k := 4) rfl ?_
    refine b_sipush (v := 240) dX5_readNumber_28 (by decide) ?_
    refine b_icge (tgt := 79) dX5_readNumber_31 (by decide) (fun c1 => ?_) (fun c1 => ?_)
    · replace h := ifT c1 h
      refine b_sub [0, 1, 2, 3] rfl ?_
      exact t5_readNumber_79  a1 a2    x3 _ _ _ h
    · replace h := ifF c1 h
      refine b_aload_n dX5_readNumber_34 rfl (k := 0) rfl ?_
      obtain ⟨r3, w2, hw2, h⟩ := bdO h
      refine b_callVi mv5_letterHere ml5_43 ob27 (s5_letterHere   _ _ _ hw2) rfl (by decide) (by decide) (Nat.le_of_ble_eq_true rfl) rfl dX5_readNumber_35 ?_
      obtain ⟨r5, w4, hw4, h⟩ := bdO h
      refine b_callSi ms5_isFigure ml5_128 (s5_isFigure r3  _ _ _ hw4) rfl (by decide) (by decide) (Nat.le_of_ble_eq_true rfl) rfl dX5_readNumber_38 ?_
      refine b_ifeq (tgt := 79) dX5_readNumber_41 (by decide) (fun c6 => ?_) (fun c6 => ?_)
      · replace h := ifT c6 h
        refine b_sub [0, 1, 2, 3] rfl ?_
        exact t5_readNumber_79  a1 a2    x3 _ _ _ h
      · replace h := ifF c6 h
        refine b_iload dX5_readNumber_44 (k := 4) rfl ?_
        refine b_iconst (v := 3) dX5_readNumber_46 (by decide) ?_
        refine b_icge (tgt := 63) dX5_readNumber_47 (by decide) (fun c7 => ?_) (fun c7 => ?_)
        · replace h := ifT c7 h
          refine b_aload_n dX5_readNumber_63 rfl (k := 0) rfl ?_
          refine b_dup dX5_readNumber_64 rfl ?_
          refine b_getI fl5_25 ob27 rfl dX5_readNumber_65 ?_
          refine b_iconst (v := 1) dX5_readNumber_68 (by decide) ?_
          refine b_iadd dX5_readNumber_69 ?_
          obtain ⟨w8, ew8, h⟩ := nmE h
          refine b_putI fw5_25 ob27 rfl dX5_readNumber_70 ?_
          refine b_nmW ew8 ?_
          obtain ⟨y9, ey9, h⟩ := nmE h
          refine b_iinc (v := y9) (lv' := [(4, vI y9), (0, vR 27 0), (1, vI a1), (2, vI a2), (3, vI x3)]) dX5_readNumber_73 (k := 4) rfl ey9.symm (by decide) rfl ?_
          refine b_goto (tgt := 26) dX5_readNumber_76 (by decide) ?_
          refine b_sub [1, 2, 3, 4, 0] rfl ?_
          exact ih x3 y9 _ _ _ h
        · replace h := ifF c7 h
          refine b_iload_n dX5_readNumber_50 rfl (k := 3) rfl ?_
          refine b_bipush (v := 10) dX5_readNumber_51 (by decide) ?_
          refine b_imul dX5_readNumber_53 ?_
          refine b_aload_n dX5_readNumber_54 rfl (k := 0) rfl ?_
          obtain ⟨r11, w10, hw10, h⟩ := bdO h
          refine b_callVi mv5_letterHere ml5_43 ob27 (s5_letterHere   _ _ _ hw10) rfl (by decide) (by decide) (Nat.le_of_ble_eq_true rfl) rfl dX5_readNumber_55 ?_
          refine b_bipush (v := 48) dX5_readNumber_58 (by decide) ?_
          refine b_isub dX5_readNumber_60 ?_
          refine b_iadd dX5_readNumber_61 ?_
          obtain ⟨y12, ey12, h⟩ := nmE h
          refine b_nmI ey12 ?_
          refine b_istore_n (lv' := [(3, vI y12), (0, vR 27 0), (1, vI a1), (2, vI a2), (4, vI x4)]) dX5_readNumber_62 rfl (by decide) rfl ?_
          refine b_aload_n dX5_readNumber_63 rfl (k := 1) rfl ?_
          refine b_dup dX5_readNumber_64 rfl ?_
          refine b_getI fl5_25 ob27 rfl dX5_readNumber_65 ?_
          refine b_iconst (v := 1) dX5_readNumber_68 (by decide) ?_
          refine b_iadd dX5_readNumber_69 ?_
          obtain ⟨w13, ew13, h⟩ := nmE h
          refine b_putI fw5_25 ob27 rfl dX5_readNumber_70 ?_
          refine b_nmW ew13 ?_
          obtain ⟨y14, ey14, h⟩ := nmE h
          refine b_iinc (v := y14) (lv' := [(4, vI y14), (3, vI y12), (0, vR 27 0), (1, vI a1), (2, vI a2)]) dX5_readNumber_73 (k := 4) rfl ey14.symm (by decide) rfl ?_
          refine b_goto (tgt := 26) dX5_readNumber_76 (by decide) ?_
          refine b_sub [2, 3, 4, 1, 0] rfl ?_
          exact ih y12 y14 _ _ _ h
def f5_readNumber  (a1 : Int32) (a2 : Int32)   (w : Mem) : Option (Int32 × Mem) :=
  if (w.1 27 2 0) = 0 then (bndV (f5_skipBlanks  w) fun w2 => bnd (sI w2 27 3 0 (w2.1 27 4 0)) fun w3 => f5_readNumber_26  a1 a2  100000 0 0 w3) else (some (0, w))
set_option maxRecDepth 100000 in
set_option maxHeartbeats 4000000 in
theorem t5_readNumber   (a1 : Int32) (a2 : Int32)     (w w' : Mem) (r : Int32) (h : f5_readNumber  a1 a2   w = some (r, w')) : Bk yX5_readNumber cX5_readNumber 5 (some .int) 3 0 [(0, vR 27 0), (1, vI a1), (2, vI a2)] [] w (some (vI r)) w' := by
  unfold f5_readNumber at h
  refine b_aload_n dX5_readNumber_0 rfl (k := 0) rfl ?_
  refine b_getI fl5_28 ob27 rfl dX5_readNumber_1 ?_
  refine b_ifeq (tgt := 9) dX5_readNumber_4 (by decide) (fun c1 => ?_) (fun c1 => ?_)
  · replace h := ifT c1 h
    refine b_aload_n dX5_readNumber_9 rfl (k := 0) rfl ?_
    obtain ⟨w2, hw2, h⟩ := bdV h
    refine b_callVv mv5_skipBlanks ml5_36 ob27 (s5_skipBlanks   _ _  hw2) rfl (by decide) (by decide) (Nat.le_of_ble_eq_true rfl) rfl dX5_readNumber_10 ?_
    refine b_aload_n dX5_readNumber_13 rfl (k := 0) rfl ?_
    refine b_aload_n dX5_readNumber_14 rfl (k := 0) rfl ?_
    refine b_getI fl5_25 ob27 rfl dX5_readNumber_15 ?_
    obtain ⟨w3, ew3, h⟩ := nmE h
    refine b_putI fw5_121 ob27 rfl dX5_readNumber_18 ?_
    refine b_nmW ew3 ?_
    refine b_iconst (v := 0) dX5_readNumber_21 (by decide) ?_
    refine b_istore_n (lv' := [(3, vI 0), (0, vR 27 0), (1, vI a1), (2, vI a2)]) dX5_readNumber_22 rfl (by decide) rfl ?_
    refine b_iconst (v := 0) dX5_readNumber_23 (by decide) ?_
    refine b_istore (lv' := [(4, vI 0), (3, vI 0), (0, vR 27 0), (1, vI a1), (2, vI a2)]) dX5_readNumber_24 (by decide) rfl ?_
    refine b_sub [2, 3, 4, 1, 0] rfl ?_
    exact t5_readNumber_26  a1 a2    100000 0 0 _ _ _ h
  · replace h := ifF c1 h
    refine b_iconst (v := 0) dX5_readNumber_7 (by decide) ?_
    obtain ⟨rfl, rfl⟩ := rtE h
    exact b_iret rfl dX5_readNumber_8
theorem s5_readNumber (a1 : Int32) (a2 : Int32)  (w w' : Mem) (r : Int32) (h : f5_readNumber  a1 a2  w = some (r, w')) : Sp yX5_readNumber cX5_readNumber 5 (some .int) 3 [vR 27 0, vI a1, vI a2] w (some (vI r)) w' := sp_of (by decide) (fun _ => rfl) (fun _ => Nat.le_of_ble_eq_true rfl) (t5_readNumber  a1 a2   _ _ _ h)
-- X5_readHermit OneADay$Reader
def f5_readHermit  (d1 : Nat)   (w : Mem) : Option Mem :=
  bnd (sI w d1 0 0 1) fun w1 => bndO (f5_readNumber 1 9 w1) fun r3 w2 => bnd (sI w2 d1 1 0 r3) fun w4 => bndO (f5_readNumber 0 30 w4) fun r6 w5 => bnd (sI w5 d1 2 0 r6) fun w7 => bndO (f5_readNumber 0 9 w7) fun r9 w8 => bnd (sI w8 d1 3 0 r9) fun w10 => some w10
set_option maxRecDepth 100000 in
set_option maxHeartbeats 4000000 in
theorem t5_readHermit   (d1 : Nat) (hd1 : Ob d1 6)    (w w' : Mem) (h : f5_readHermit  d1   w = some w') : Bk yX5_readHermit cX5_readHermit 2 none 4 0 [(0, vR 27 0), (1, vR d1 0)] [] w none w' := by
  unfold f5_readHermit at h
  refine b_aload_n dX5_readHermit_0 rfl (k := 1) rfl ?_
  refine b_iconst (v := 1) dX5_readHermit_1 (by decide) ?_
  obtain ⟨w1, ew1, h⟩ := nmE h
  refine b_putZ (by decide) fw5_51 hd1 rfl dX5_readHermit_2 ?_
  refine b_nmW ew1 ?_
  refine b_aload_n dX5_readHermit_5 rfl (k := 1) rfl ?_
  refine b_aload_n dX5_readHermit_6 rfl (k := 0) rfl ?_
  refine b_iconst (v := 1) dX5_readHermit_7 (by decide) ?_
  refine b_bipush (v := 9) dX5_readHermit_8 (by decide) ?_
  obtain ⟨r3, w2, hw2, h⟩ := bdO h
  refine b_callVi mv5_readNumber ml5_92 ob27 (s5_readNumber 1 9  _ _ _ hw2) rfl (by decide) (by decide) (Nat.le_of_ble_eq_true rfl) rfl dX5_readHermit_10 ?_
  obtain ⟨w4, ew4, h⟩ := nmE h
  refine b_putI fw5_95 hd1 rfl dX5_readHermit_13 ?_
  refine b_nmW ew4 ?_
  refine b_aload_n dX5_readHermit_16 rfl (k := 1) rfl ?_
  refine b_aload_n dX5_readHermit_17 rfl (k := 0) rfl ?_
  refine b_iconst (v := 0) dX5_readHermit_18 (by decide) ?_
  refine b_bipush (v := 30) dX5_readHermit_19 (by decide) ?_
  obtain ⟨r6, w5, hw5, h⟩ := bdO h
  refine b_callVi mv5_readNumber ml5_92 ob27 (s5_readNumber 0 30  _ _ _ hw5) rfl (by decide) (by decide) (Nat.le_of_ble_eq_true rfl) rfl dX5_readHermit_21 ?_
  obtain ⟨w7, ew7, h⟩ := nmE h
  refine b_putI fw5_98 hd1 rfl dX5_readHermit_24 ?_
  refine b_nmW ew7 ?_
  refine b_aload_n dX5_readHermit_27 rfl (k := 1) rfl ?_
  refine b_aload_n dX5_readHermit_28 rfl (k := 0) rfl ?_
  refine b_iconst (v := 0) dX5_readHermit_29 (by decide) ?_
  refine b_bipush (v := 9) dX5_readHermit_30 (by decide) ?_
  obtain ⟨r9, w8, hw8, h⟩ := bdO h
  refine b_callVi mv5_readNumber ml5_92 ob27 (s5_readNumber 0 9  _ _ _ hw8) rfl (by decide) (by decide) (Nat.le_of_ble_eq_true rfl) rfl dX5_readHermit_32 ?_
  obtain ⟨w10, ew10, h⟩ := nmE h
  refine b_putI fw5_101 hd1 rfl dX5_readHermit_35 ?_
  refine b_nmW ew10 ?_
  cases h
  exact b_vret rfl dX5_readHermit_38
theorem s5_readHermit (d1 : Nat) (hd1 : Ob d1 6) (w w' : Mem) (h : f5_readHermit  d1  w = some w') : Sp yX5_readHermit cX5_readHermit 2 none 4 [vR 27 0, vR d1 0] w none w' := sp_of (by decide) (fun _ => rfl) (fun _ => Nat.le_of_ble_eq_true rfl) (t5_readHermit  d1 hd1  _ _  h)
-- X6_mark OneADay$Rock
def f6_mark  (d0 k0 n0 : Nat) (a1 : Int32)   (w : Mem) : Option Mem :=
  bnd (jshr a1 6) fun y1 => if y1 < 0 then (some w) else (if (Int32.ofNat n0) ≤ y1 then (some w) else (if y1 < 0 ∨ n0 ≤ Int32.toNatClampNeg y1 then none else if y1 < 0 ∨ n0 ≤ Int32.toNatClampNeg y1 then none else bnd (sL w d0 k0 (Int32.toNatClampNeg y1) ((w.2.1 d0 k0 (Int32.toNatClampNeg y1)) ||| (jlshl 1 (a1 &&& 63)))) fun w6 => some w6))
set_option maxRecDepth 100000 in
set_option maxHeartbeats 4000000 in
theorem t6_mark   (d0 k0 n0 : Nat) (a1 : Int32) (ha0 : Ar d0 k0 1 n0)    (w w' : Mem) (h : f6_mark  d0 k0 n0 a1   w = some w') : Bk yX6_mark cX6_mark 3 none 1 0 [(0, vR d0 (k0 + 1)), (1, vI a1)] [] w none w' := by
  unfold f6_mark at h
  refine b_iload_n dX6_mark_0 rfl (k := 1) rfl ?_
  refine b_bipush (v := 6) dX6_mark_1 (by decide) ?_
  refine b_ishr dX6_mark_3 ?_
  obtain ⟨y1, ey1, h⟩ := nmE h
  refine b_nmI ey1 ?_
  refine b_istore_n (lv' := [(2, vI y1), (0, vR d0 (k0 + 1)), (1, vI a1)]) dX6_mark_4 rfl (by decide) rfl ?_
  refine b_iload_n dX6_mark_5 rfl (k := 0) rfl ?_
  refine b_iflt (tgt := 27) dX6_mark_6 (by decide) (fun c2 => ?_) (fun c2 => ?_)
  · replace h := ifT c2 h
    cases h
    exact b_vret rfl dX6_mark_27
  · replace h := ifF c2 h
    refine b_iload_n dX6_mark_9 rfl (k := 0) rfl ?_
    refine b_aload_n dX6_mark_10 rfl (k := 1) rfl ?_
    refine b_alen (v := Int32.ofNat n0) ha0 (by decide) rfl dX6_mark_11 ?_
    refine b_icge (tgt := 27) dX6_mark_12 (by decide) (fun c3 => ?_) (fun c3 => ?_)
    · replace h := ifT c3 h
      cases h
      exact b_vret rfl dX6_mark_27
    · replace h := ifF c3 h
      refine b_aload_n dX6_mark_15 rfl (k := 1) rfl ?_
      refine b_iload_n dX6_mark_16 rfl (k := 0) rfl ?_
      refine b_dup2 dX6_mark_17 rfl rfl ?_
      obtain ⟨g4, h⟩ := gdE h
      refine b_lald ha0 g4 rfl dX6_mark_18 ?_
      refine b_lconst (v := 1) dX6_mark_19 (by decide) ?_
      refine b_iload_n dX6_mark_20 rfl (k := 2) rfl ?_
      refine b_bipush (v := 63) dX6_mark_21 (by decide) ?_
      refine b_iand dX6_mark_23 ?_
      refine b_lshl dX6_mark_24 ?_
      refine b_lor dX6_mark_25 ?_
      obtain ⟨g5, h⟩ := gdE h
      obtain ⟨w6, ew6, h⟩ := nmE h
      refine b_last ha0 g5 rfl dX6_mark_26 ?_
      refine b_nmW ew6 ?_
      cases h
      exact b_vret rfl dX6_mark_27
theorem s6_mark (d0 k0 n0 : Nat) (a1 : Int32) (ha0 : Ar d0 k0 1 n0) (w w' : Mem) (h : f6_mark  d0 k0 n0 a1  w = some w') : Sp yX6_mark cX6_mark 3 none 1 [vR d0 (k0 + 1), vI a1] w none w' := sp_of (by decide) (fun _ => rfl) (fun _ => Nat.le_of_ble_eq_true rfl) (t6_mark  d0 k0 n0 a1 ha0  _ _  h)
-- X5_readMarkedDay OneADay$Reader
def f5_readMarkedDay  (d1 k1 n1 : Nat)   (w : Mem) : Option (Int32 × Mem) :=
  bndO (f5_readNumber 0 999 w) fun r2 w1 => if (w1.1 27 2 0) = 0 then (bndO (f6_isMarked d1 k1 n1 r2 w1) fun r5 w4 => if r5 = 0 then (bndV (f6_mark d1 k1 n1 r2 w4) fun w7 => some (1, w7)) else (bndV (f5_blame 4 (w4.1 27 3 0) w4) fun w8 => some (0, w8))) else (some (0, w1))
set_option maxRecDepth 100000 in
set_option maxHeartbeats 4000000 in
theorem t5_readMarkedDay   (d1 k1 n1 : Nat) (ha1 : Ar d1 k1 1 n1)    (w w' : Mem) (r : Int32) (h : f5_readMarkedDay  d1 k1 n1   w = some (r, w')) : Bk yX5_readMarkedDay cX5_readMarkedDay 3 (some .int) 4 0 [(0, vR 27 0), (1, vR d1 (k1 + 1))] [] w (some (vI r)) w' := by
  unfold f5_readMarkedDay at h
  refine b_aload_n dX5_readMarkedDay_0 rfl (k := 0) rfl ?_
  refine b_iconst (v := 0) dX5_readMarkedDay_1 (by decide) ?_
  refine b_sipush (v := 999) dX5_readMarkedDay_2 (by decide) ?_
  obtain ⟨r2, w1, hw1, h⟩ := bdO h
  refine b_callVi mv5_readNumber ml5_92 ob27 (s5_readNumber 0 999  _ _ _ hw1) rfl (by decide) (by decide) (Nat.le_of_ble_eq_true rfl) rfl dX5_readMarkedDay_5 ?_
  refine b_istore_n (lv' := [(2, vI r2), (0, vR 27 0), (1, vR d1 (k1 + 1))]) dX5_readMarkedDay_8 rfl (by decide) rfl ?_
  refine b_aload_n dX5_readMarkedDay_9 rfl (k := 1) rfl ?_
  refine b_getI fl5_28 ob27 rfl dX5_readMarkedDay_10 ?_
  refine b_ifeq (tgt := 18) dX5_readMarkedDay_13 (by decide) (fun c3 => ?_) (fun c3 => ?_)
  · replace h := ifT c3 h
    refine b_aload_n dX5_readMarkedDay_18 rfl (k := 2) rfl ?_
    refine b_iload_n dX5_readMarkedDay_19 rfl (k := 0) rfl ?_
    obtain ⟨r5, w4, hw4, h⟩ := bdO h
    refine b_callSi ms6_isMarked ml5_117 (s6_isMarked d1 k1 n1 r2 ha1 _ _ _ hw4) rfl (by decide) (by decide) (Nat.le_of_ble_eq_true rfl) rfl dX5_readMarkedDay_20 ?_
    refine b_ifeq (tgt := 37) dX5_readMarkedDay_23 (by decide) (fun c6 => ?_) (fun c6 => ?_)
    · replace h := ifT c6 h
      refine b_aload_n dX5_readMarkedDay_37 rfl (k := 2) rfl ?_
      refine b_iload_n dX5_readMarkedDay_38 rfl (k := 0) rfl ?_
      obtain ⟨w7, hw7, h⟩ := bdV h
      refine b_callSv ms6_mark ml5_124 (s6_mark d1 k1 n1 r2 ha1 _ _  hw7) rfl (by decide) (by decide) (Nat.le_of_ble_eq_true rfl) rfl dX5_readMarkedDay_39 ?_
      refine b_iconst (v := 1) dX5_readMarkedDay_42 (by decide) ?_
      obtain ⟨rfl, rfl⟩ := rtE h
      exact b_iret rfl dX5_readMarkedDay_43
    · replace h := ifF c6 h
      refine b_aload_n dX5_readMarkedDay_26 rfl (k := 1) rfl ?_
      refine b_iconst (v := 4) dX5_readMarkedDay_27 (by decide) ?_
      refine b_aload_n dX5_readMarkedDay_28 rfl (k := 1) rfl ?_
      refine b_getI fl5_121 ob27 rfl dX5_readMarkedDay_29 ?_
      obtain ⟨w8, hw8, h⟩ := bdV h
      refine b_callVv mv5_blame ml5_55 ob27 (s5_blame 4 (w4.1 27 3 0)  _ _  hw8) rfl (by decide) (by decide) (Nat.le_of_ble_eq_true rfl) rfl dX5_readMarkedDay_32 ?_
      refine b_iconst (v := 0) dX5_readMarkedDay_35 (by decide) ?_
      obtain ⟨rfl, rfl⟩ := rtE h
      exact b_iret rfl dX5_readMarkedDay_36
  · replace h := ifF c3 h
    refine b_iconst (v := 0) dX5_readMarkedDay_16 (by decide) ?_
    obtain ⟨rfl, rfl⟩ := rtE h
    exact b_iret rfl dX5_readMarkedDay_17
theorem s5_readMarkedDay (d1 k1 n1 : Nat) (ha1 : Ar d1 k1 1 n1) (w w' : Mem) (r : Int32) (h : f5_readMarkedDay  d1 k1 n1  w = some (r, w')) : Sp yX5_readMarkedDay cX5_readMarkedDay 3 (some .int) 4 [vR 27 0, vR d1 (k1 + 1)] w (some (vI r)) w' := sp_of (by decide) (fun _ => rfl) (fun _ => Nat.le_of_ble_eq_true rfl) (t5_readMarkedDay  d1 k1 n1 ha1  _ _ _ h)
-- X5_readVillage OneADay$Reader
def f5_readVillage  (d1 : Nat)   (w : Mem) : Option Mem :=
  bnd (w.1 d1 4 0) fun y1 => if y1 < 0 then (some w) else (if y1 < 8 then (bndO (f5_readNumber 0 9 w) fun r5 w4 => if y1 < 0 ∨ 8 ≤ Int32.toNatClampNeg y1 then none else bnd (sI w4 d1 7 (Int32.toNatClampNeg y1) r5) fun w7 => bndO (f5_readNumber 1 9 w7) fun r9 w8 => if y1 < 0 ∨ 8 ≤ Int32.toNatClampNeg y1 then none else bnd (sI w8 d1 8 (Int32.toNatClampNeg y1) r9) fun w11 => if y1 < 0 ∨ 8 ≤ Int32.toNatClampNeg y1 then none else bndO (f5_readNumber 0 ((w11.1 d1 8 (Int32.toNatClampNeg y1)) - 1) w11) fun r14 w13 => if y1 < 0 ∨ 8 ≤ Int32.toNatClampNeg y1 then none else bnd (sI w13 d1 9 (Int32.toNatClampNeg y1) r14) fun w16 => bndO (f5_readNumber 0 100 w16) fun r18 w17 => if y1 < 0 ∨ 8 ≤ Int32.toNatClampNeg y1 then none else bnd (sI w17 d1 10 (Int32.toNatClampNeg y1) r18) fun w20 => bnd (sI w20 d1 4 0 (y1 + 1)) fun w21 => some w21) else (some w))
set_option maxRecDepth 100000 in
set_option maxHeartbeats 4000000 in
theorem t5_readVillage   (d1 : Nat) (hd1 : Ob d1 6)    (w w' : Mem) (h : f5_readVillage  d1   w = some w') : Bk yX5_readVillage cX5_readVillage 3 none 4 0 [(0, vR 27 0), (1, vR d1 0)] [] w none w' := by
  unfold f5_readVillage at h
  refine b_aload_n dX5_readVillage_0 rfl (k := 1) rfl ?_
  refine b_getI fl5_89 hd1 rfl dX5_readVillage_1 ?_
  obtain ⟨y1, ey1, h⟩ := nmE h
  refine b_nmI ey1 ?_
  refine b_istore_n (lv' := [(2, vI y1), (0, vR 27 0), (1, vR d1 0)]) dX5_readVillage_4 rfl (by decide) rfl ?_
  refine b_iload_n dX5_readVillage_5 rfl (k := 0) rfl ?_
  refine b_iflt (tgt := 15) dX5_readVillage_6 (by decide) (fun c2 => ?_) (fun c2 => ?_)
  · replace h := ifT c2 h
    cases h
    exact b_vret rfl dX5_readVillage_15
  · replace h := ifF c2 h
    refine b_iload_n dX5_readVillage_9 rfl (k := 0) rfl ?_
    refine b_bipush (v := 8) dX5_readVillage_10 (by decide) ?_
    refine b_iclt (tgt := 16) dX5_readVillage_12 (by decide) (fun c3 => ?_) (fun c3 => ?_)
    · replace h := ifT c3 h
      refine b_aload_n dX5_readVillage_16 rfl (k := 2) rfl ?_
      refine b_getF fl5_104 hd1 rfl (grC6 hd1 7) dX5_readVillage_17 ?_
      refine b_iload_n dX5_readVillage_20 rfl (k := 0) rfl ?_
      refine b_aload_n dX5_readVillage_21 rfl (k := 1) rfl ?_
      refine b_iconst (v := 0) dX5_readVillage_22 (by decide) ?_
      refine b_bipush (v := 9) dX5_readVillage_23 (by decide) ?_
      obtain ⟨r5, w4, hw4, h⟩ := bdO h
      refine b_callVi mv5_readNumber ml5_92 ob27 (s5_readNumber 0 9  _ _ _ hw4) rfl (by decide) (by decide) (Nat.le_of_ble_eq_true rfl) rfl dX5_readVillage_25 ?_
      obtain ⟨g6, h⟩ := gdE h
      obtain ⟨w7, ew7, h⟩ := nmE h
      refine b_iast (arC6_7 hd1) g6 rfl dX5_readVillage_28 ?_
      refine b_nmW ew7 ?_
      refine b_aload_n dX5_readVillage_29 rfl (k := 2) rfl ?_
      refine b_getF fl5_108 hd1 rfl (grC6 hd1 8) dX5_readVillage_30 ?_
      refine b_iload_n dX5_readVillage_33 rfl (k := 0) rfl ?_
      refine b_aload_n dX5_readVillage_34 rfl (k := 1) rfl ?_
      refine b_iconst (v := 1) dX5_readVillage_35 (by decide) ?_
      refine b_bipush (v := 9) dX5_readVillage_36 (by decide) ?_
      obtain ⟨r9, w8, hw8, h⟩ := bdO h
      refine b_callVi mv5_readNumber ml5_92 ob27 (s5_readNumber 1 9  _ _ _ hw8) rfl (by decide) (by decide) (Nat.le_of_ble_eq_true rfl) rfl dX5_readVillage_38 ?_
      obtain ⟨g10, h⟩ := gdE h
      obtain ⟨w11, ew11, h⟩ := nmE h
      refine b_iast (arC6_8 hd1) g10 rfl dX5_readVillage_41 ?_
      refine b_nmW ew11 ?_
      refine b_aload_n dX5_readVillage_42 rfl (k := 2) rfl ?_
      refine b_getF fl5_111 hd1 rfl (grC6 hd1 9) dX5_readVillage_43 ?_
      refine b_iload_n dX5_readVillage_46 rfl (k := 0) rfl ?_
      refine b_aload_n dX5_readVillage_47 rfl (k := 1) rfl ?_
      refine b_iconst (v := 0) dX5_readVillage_48 (by decide) ?_
      refine b_aload_n dX5_readVillage_49 rfl (k := 2) rfl ?_
      refine b_getF fl5_108 hd1 rfl (grC6 hd1 8) dX5_readVillage_50 ?_
      refine b_iload_n dX5_readVillage_53 rfl (k := 0) rfl ?_
      obtain ⟨g12, h⟩ := gdE h
      refine b_iald (arC6_8 hd1) g12 rfl dX5_readVillage_54 ?_
      refine b_iconst (v := 1) dX5_readVillage_55 (by decide) ?_
      refine b_isub dX5_readVillage_56 ?_
      obtain ⟨r14, w13, hw13, h⟩ := bdO h
      refine b_callVi mv5_readNumber ml5_92 ob27 (s5_readNumber 0 ((w11.1 d1 8 (Int32.toNatClampNeg y1)) - 1)  _ _ _ hw13) rfl (by decide) (by decide) (Nat.le_of_ble_eq_true rfl) rfl dX5_readVillage_57 ?_
      obtain ⟨g15, h⟩ := gdE h
      obtain ⟨w16, ew16, h⟩ := nmE h
      refine b_iast (arC6_9 hd1) g15 rfl dX5_readVillage_60 ?_
      refine b_nmW ew16 ?_
      refine b_aload_n dX5_readVillage_61 rfl (k := 2) rfl ?_
      refine b_getF fl5_114 hd1 rfl (grC6 hd1 10) dX5_readVillage_62 ?_
      refine b_iload_n dX5_readVillage_65 rfl (k := 0) rfl ?_
      refine b_aload_n dX5_readVillage_66 rfl (k := 1) rfl ?_
      refine b_iconst (v := 0) dX5_readVillage_67 (by decide) ?_
      refine b_bipush (v := 100) dX5_readVillage_68 (by decide) ?_
      obtain ⟨r18, w17, hw17, h⟩ := bdO h
      refine b_callVi mv5_readNumber ml5_92 ob27 (s5_readNumber 0 100  _ _ _ hw17) rfl (by decide) (by decide) (Nat.le_of_ble_eq_true rfl) rfl dX5_readVillage_70 ?_
      obtain ⟨g19, h⟩ := gdE h
      obtain ⟨w20, ew20, h⟩ := nmE h
      refine b_iast (arC6_10 hd1) g19 rfl dX5_readVillage_73 ?_
      refine b_nmW ew20 ?_
      refine b_aload_n dX5_readVillage_74 rfl (k := 2) rfl ?_
      refine b_iload_n dX5_readVillage_75 rfl (k := 0) rfl ?_
      refine b_iconst (v := 1) dX5_readVillage_76 (by decide) ?_
      refine b_iadd dX5_readVillage_77 ?_
      obtain ⟨w21, ew21, h⟩ := nmE h
      refine b_putI fw5_89 hd1 rfl dX5_readVillage_78 ?_
      refine b_nmW ew21 ?_
      cases h
      exact b_vret rfl dX5_readVillage_81
    · replace h := ifF c3 h
      cases h
      exact b_vret rfl dX5_readVillage_15
theorem s5_readVillage (d1 : Nat) (hd1 : Ob d1 6) (w w' : Mem) (h : f5_readVillage  d1  w = some w') : Sp yX5_readVillage cX5_readVillage 3 none 4 [vR 27 0, vR d1 0] w none w' := sp_of (by decide) (fun _ => rfl) (fun _ => Nat.le_of_ble_eq_true rfl) (t5_readVillage  d1 hd1  _ _  h)
-- X5_readClause OneADay$Reader
def f5_readClause_25  (d1 : Nat)   (w : Mem) : Option Mem :=
  bndV (f5_blame 1 (w.1 27 4 0) w) fun w1 => some w1
set_option maxRecDepth 100000 in
set_option maxHeartbeats 4000000 in
theorem t5_readClause_25   (d1 : Nat) (hd1 : Ob d1 6)    (w w' : Mem) (h : f5_readClause_25  d1   w = some w') : Bk yX5_readClause cX5_readClause 3 none 5 25 [(0, vR 27 0)] [] w none w' := by
  unfold f5_readClause_25 at h
  refine b_aload_n dX5_readClause_25 rfl (k := 0) rfl ?_
  refine b_iconst (v := 1) dX5_readClause_26 (by decide) ?_
  refine b_aload_n dX5_readClause_27 rfl (k := 0) rfl ?_
  refine b_getI fl5_25 ob27 rfl dX5_readClause_28 ?_
  obtain ⟨w1, hw1, h⟩ := bdV h
  refine b_callVv mv5_blame ml5_55 ob27 (s5_blame 1 (w.1 27 4 0)  _ _  hw1) rfl (by decide) (by decide) (Nat.le_of_ble_eq_true rfl) rfl dX5_readClause_31 ?_
  refine b_goto (tgt := 142) dX5_readClause_34 (by decide) ?_
  cases h
  exact b_vret rfl dX5_readClause_142
def f5_readClause_138  (d1 : Nat)   (w : Mem) : Option Mem :=
  bndV (f5_readEnd  w) fun w1 => some w1
set_option maxRecDepth 100000 in
set_option maxHeartbeats 4000000 in
theorem t5_readClause_138   (d1 : Nat) (hd1 : Ob d1 6)    (w w' : Mem) (h : f5_readClause_138  d1   w = some w') : Bk yX5_readClause cX5_readClause 3 none 5 138 [(0, vR 27 0)] [] w none w' := by
  unfold f5_readClause_138 at h
  refine b_aload_n dX5_readClause_138 rfl (k := 0) rfl ?_
  obtain ⟨w1, hw1, h⟩ := bdV h
  refine b_callVv mv5_readEnd ml5_86 ob27 (s5_readEnd   _ _  hw1) rfl (by decide) (by decide) (Nat.le_of_ble_eq_true rfl) rfl dX5_readClause_139 ?_
  cases h
  exact b_vret rfl dX5_readClause_142
def f5_readClause_37  (d1 : Nat)  (x2 : Int32) (w : Mem) : Option Mem :=
  bndO (f5_isTooMany d1 x2 w) fun r2 w1 => if r2 = 0 then (bnd (sI w1 27 4 0 ((w1.1 27 4 0) + 1)) fun w4 => if x2 = 104 then (bndV (f5_readHermit d1 w4) fun w15 => f5_readClause_138  d1   w15) else (if x2 = 118 then (bndV (f5_readVillage d1 w4) fun w14 => f5_readClause_138  d1   w14) else (if x2 = 102 then (bndO (f5_readMarkedDay d1 11 16 w4) fun r12 w11 => bnd (sI w11 d1 5 0 ((w4.1 d1 5 0) + r12)) fun w13 => f5_readClause_138  d1   w13) else (bndO (f5_readMarkedDay d1 12 16 w4) fun r9 w8 => bnd (sI w8 d1 6 0 ((w4.1 d1 6 0) + r9)) fun w10 => f5_readClause_138  d1   w10)))) else (bndV (f5_blame 3 (w1.1 27 4 0) w1) fun w16 => some w16)
set_option maxRecDepth 100000 in
set_option maxHeartbeats 4000000 in
theorem t5_readClause_37   (d1 : Nat) (hd1 : Ob d1 6)   (x2 : Int32) (w w' : Mem) (h : f5_readClause_37  d1  x2 w = some w') : Bk yX5_readClause cX5_readClause 3 none 5 37 [(0, vR 27 0), (1, vR d1 0), (2, vI x2)] [] w none w' := by
  unfold f5_readClause_37 at h
  refine b_aload_n dX5_readClause_37 rfl (k := 1) rfl ?_
  refine b_iload_n dX5_readClause_38 rfl (k := 2) rfl ?_
  obtain ⟨r2, w1, hw1, h⟩ := bdO h
  refine b_callSi ms5_isTooMany ml5_59 (s5_isTooMany d1 x2 hd1 _ _ _ hw1) rfl (by decide) (by decide) (Nat.le_of_ble_eq_true rfl) rfl dX5_readClause_39 ?_
  refine b_ifeq (tgt := 57) dX5_readClause_42 (by decide) (fun c3 => ?_) (fun c3 => ?_)
  · replace h := ifT c3 h
    refine b_aload_n dX5_readClause_57 rfl (k := 0) rfl ?_
    refine b_dup dX5_readClause_58 rfl ?_
    refine b_getI fl5_25 ob27 rfl dX5_readClause_59 ?_
    refine b_iconst (v := 1) dX5_readClause_62 (by decide) ?_
    refine b_iadd dX5_readClause_63 ?_
    obtain ⟨w4, ew4, h⟩ := nmE h
    refine b_putI fw5_25 ob27 rfl dX5_readClause_64 ?_
    refine b_nmW ew4 ?_
    refine b_iload_n dX5_readClause_67 rfl (k := 2) rfl ?_
    refine b_bipush (v := 104) dX5_readClause_68 (by decide) ?_
    refine b_icne (tgt := 81) dX5_readClause_70 (by decide) (fun c5 => ?_) (fun c5 => ?_)
    · replace h := ifF c5 h
      refine b_iload_n dX5_readClause_81 rfl (k := 2) rfl ?_
      refine b_bipush (v := 118) dX5_readClause_82 (by decide) ?_
      refine b_icne (tgt := 95) dX5_readClause_84 (by decide) (fun c6 => ?_) (fun c6 => ?_)
      · replace h := ifF c6 h
        refine b_iload_n dX5_readClause_95 rfl (k := 2) rfl ?_
        refine b_bipush (v := 102) dX5_readClause_96 (by decide) ?_
        refine b_icne (tgt := 121) dX5_readClause_98 (by decide) (fun c7 => ?_) (fun c7 => ?_)
        · replace h := ifF c7 h
          refine b_aload_n dX5_readClause_121 rfl (k := 1) rfl ?_
          refine b_dup dX5_readClause_122 rfl ?_
          refine b_getI fl5_80 hd1 rfl dX5_readClause_123 ?_
          refine b_aload_n dX5_readClause_126 rfl (k := 0) rfl ?_
          refine b_aload_n dX5_readClause_127 rfl (k := 1) rfl ?_
          refine b_getF fl5_83 hd1 rfl (grC6 hd1 12) dX5_readClause_128 ?_
          obtain ⟨r9, w8, hw8, h⟩ := bdO h
          refine b_callVi mv5_readMarkedDay ml5_76 ob27 (s5_readMarkedDay d1 12 16 (arC6_12 hd1) _ _ _ hw8) rfl (by decide) (by decide) (Nat.le_of_ble_eq_true rfl) rfl dX5_readClause_131 ?_
          refine b_iadd dX5_readClause_134 ?_
          obtain ⟨w10, ew10, h⟩ := nmE h
          refine b_putI fw5_80 hd1 rfl dX5_readClause_135 ?_
          refine b_nmW ew10 ?_
          refine b_sub [0] rfl ?_
          exact t5_readClause_138  d1 hd1    _ _  h
        · replace h := ifT c7 h
          refine b_aload_n dX5_readClause_101 rfl (k := 1) rfl ?_
          refine b_dup dX5_readClause_102 rfl ?_
          refine b_getI fl5_69 hd1 rfl dX5_readClause_103 ?_
          refine b_aload_n dX5_readClause_106 rfl (k := 0) rfl ?_
          refine b_aload_n dX5_readClause_107 rfl (k := 1) rfl ?_
          refine b_getF fl5_72 hd1 rfl (grC6 hd1 11) dX5_readClause_108 ?_
          obtain ⟨r12, w11, hw11, h⟩ := bdO h
          refine b_callVi mv5_readMarkedDay ml5_76 ob27 (s5_readMarkedDay d1 11 16 (arC6_11 hd1) _ _ _ hw11) rfl (by decide) (by decide) (Nat.le_of_ble_eq_true rfl) rfl dX5_readClause_111 ?_
          refine b_iadd dX5_readClause_114 ?_
          obtain ⟨w13, ew13, h⟩ := nmE h
          refine b_putI fw5_69 hd1 rfl dX5_readClause_115 ?_
          refine b_nmW ew13 ?_
          refine b_goto (tgt := 138) dX5_readClause_118 (by decide) ?_
          refine b_sub [0] rfl ?_
          exact t5_readClause_138  d1 hd1    _ _  h
      · replace h := ifT c6 h
        refine b_aload_n dX5_readClause_87 rfl (k := 0) rfl ?_
        refine b_aload_n dX5_readClause_88 rfl (k := 1) rfl ?_
        obtain ⟨w14, hw14, h⟩ := bdV h
        refine b_callVv mv5_readVillage ml5_66 ob27 (s5_readVillage d1 hd1 _ _  hw14) rfl (by decide) (by decide) (Nat.le_of_ble_eq_true rfl) rfl dX5_readClause_89 ?_
        refine b_goto (tgt := 138) dX5_readClause_92 (by decide) ?_
        refine b_sub [0] rfl ?_
        exact t5_readClause_138  d1 hd1    _ _  h
    · replace h := ifT c5 h
      refine b_aload_n dX5_readClause_73 rfl (k := 0) rfl ?_
      refine b_aload_n dX5_readClause_74 rfl (k := 1) rfl ?_
      obtain ⟨w15, hw15, h⟩ := bdV h
      refine b_callVv mv5_readHermit ml5_63 ob27 (s5_readHermit d1 hd1 _ _  hw15) rfl (by decide) (by decide) (Nat.le_of_ble_eq_true rfl) rfl dX5_readClause_75 ?_
      refine b_goto (tgt := 138) dX5_readClause_78 (by decide) ?_
      refine b_sub [0] rfl ?_
      exact t5_readClause_138  d1 hd1    _ _  h
  · replace h := ifF c3 h
    refine b_aload_n dX5_readClause_45 rfl (k := 0) rfl ?_
    refine b_iconst (v := 3) dX5_readClause_46 (by decide) ?_
    refine b_aload_n dX5_readClause_47 rfl (k := 0) rfl ?_
    refine b_getI fl5_25 ob27 rfl dX5_readClause_48 ?_
    obtain ⟨w16, hw16, h⟩ := bdV h
    refine b_callVv mv5_blame ml5_55 ob27 (s5_blame 3 (w1.1 27 4 0)  _ _  hw16) rfl (by decide) (by decide) (Nat.le_of_ble_eq_true rfl) rfl dX5_readClause_51 ?_
    refine b_goto (tgt := 142) dX5_readClause_54 (by decide) ?_
    cases h
    exact b_vret rfl dX5_readClause_142
def f5_readClause  (d1 : Nat)   (w : Mem) : Option Mem :=
  bndO (f5_letterHere  w) fun r2 w1 => bndO (f5_isWord r2 w1) fun r4 w3 => if r4 = 0 then (f5_readClause_25  d1   w3) else (if (w3.1 d1 0 0) = 0 then (if r2 = 104 then (f5_readClause_37  d1  r2 w3) else (f5_readClause_25  d1   w3)) else (f5_readClause_37  d1  r2 w3))
set_option maxRecDepth 100000 in
set_option maxHeartbeats 4000000 in
theorem t5_readClause   (d1 : Nat) (hd1 : Ob d1 6)    (w w' : Mem) (h : f5_readClause  d1   w = some w') : Bk yX5_readClause cX5_readClause 3 none 5 0 [(0, vR 27 0), (1, vR d1 0)] [] w none w' := by
  unfold f5_readClause at h
  refine b_aload_n dX5_readClause_0 rfl (k := 0) rfl ?_
  obtain ⟨r2, w1, hw1, h⟩ := bdO h
  refine b_callVi mv5_letterHere ml5_43 ob27 (s5_letterHere   _ _ _ hw1) rfl (by decide) (by decide) (Nat.le_of_ble_eq_true rfl) rfl dX5_readClause_1 ?_
  refine b_istore_n (lv' := [(2, vI r2), (0, vR 27 0), (1, vR d1 0)]) dX5_readClause_4 rfl (by decide) rfl ?_
  refine b_iload_n dX5_readClause_5 rfl (k := 0) rfl ?_
  obtain ⟨r4, w3, hw3, h⟩ := bdO h
  refine b_callSi ms5_isWord ml5_47 (s5_isWord r2  _ _ _ hw3) rfl (by decide) (by decide) (Nat.le_of_ble_eq_true rfl) rfl dX5_readClause_6 ?_
  refine b_ifeq (tgt := 25) dX5_readClause_9 (by decide) (fun c5 => ?_) (fun c5 => ?_)
  · replace h := ifT c5 h
    refine b_sub [1] rfl ?_
    exact t5_readClause_25  d1 hd1    _ _  h
  · replace h := ifF c5 h
    refine b_aload_n dX5_readClause_12 rfl (k := 2) rfl ?_
    refine b_getI fl5_51 hd1 rfl dX5_readClause_13 ?_
    refine b_ifne (tgt := 37) dX5_readClause_16 (by decide) (fun c6 => ?_) (fun c6 => ?_)
    · replace h := ifF c6 h
      refine b_sub [1, 2, 0] rfl ?_
      exact t5_readClause_37  d1 hd1   r2 _ _  h
    · replace h := ifT c6 h
      refine b_iload_n dX5_readClause_19 rfl (k := 0) rfl ?_
      refine b_bipush (v := 104) dX5_readClause_20 (by decide) ?_
      refine b_iceq (tgt := 37) dX5_readClause_22 (by decide) (fun c7 => ?_) (fun c7 => ?_)
      · replace h := ifT c7 h
        refine b_sub [1, 2, 0] rfl ?_
        exact t5_readClause_37  d1 hd1   r2 _ _  h
      · replace h := ifF c7 h
        refine b_sub [1] rfl ?_
        exact t5_readClause_25  d1 hd1    _ _  h
theorem s5_readClause (d1 : Nat) (hd1 : Ob d1 6) (w w' : Mem) (h : f5_readClause  d1  w = some w') : Sp yX5_readClause cX5_readClause 3 none 5 [vR 27 0, vR d1 0] w none w' := sp_of (by decide) (fun _ => rfl) (fun _ => Nat.le_of_ble_eq_true rfl) (t5_readClause  d1 hd1  _ _  h)
-- J7_fill_d0a16 java/util/Arrays
def f7_fill_d0a16_6  (d0 k0 n0 : Nat) (l1 : Int64)  : Nat → Int32 → Int32 → Mem → Option Mem
  | 0, _, _, _ => none
  | n + 1, x3, x4, w =>
  if x4 ≤ x3 then (some w) else (if x3 < 0 ∨ n0 ≤ Int32.toNatClampNeg x3 then none else bnd (sL w d0 k0 (Int32.toNatClampNeg x3) l1) fun w3 => bnd (x3 + 1) fun y4 => f7_fill_d0a16_6  d0 k0 n0 l1  n y4 x4 w3)
set_option maxRecDepth 100000 in
set_option maxHeartbeats 4000000 in
theorem t7_fill_d0a16_6   (d0 k0 n0 : Nat) (l1 : Int64) (ha0 : Ar d0 k0 1 n0)   : ∀ (n : Nat) (x3 : Int32) (x4 : Int32) (w w' : Mem), f7_fill_d0a16_6  d0 k0 n0 l1  n x3 x4 w = some w' → Bk yJ7_fill_d0a16 cJ7_fill_d0a16 5 none 1 6 [(0, vR d0 (k0 + 1)), (1, vL l1), (3, vI x3), (4, vI x4)] [] w none w' := by
  intro n
  induction n with
  | zero =>
    intro x3 x4 w w' h
    cases (show (none : Option Mem) = some _ from h)
  | succ n ih =>
    intro x3 x4 w w' h
    rw [f7_fill_d0a16_6] at h
    refine b_iload_n dJ7_fill_d0a16_6 rfl (k := 2) rfl ?_
    refine b_iload dJ7_fill_d0a16_7 (k := 3) rfl ?_
    refine b_icge (tgt := 22) dJ7_fill_d0a16_9 (by decide) (fun c1 => ?_) (fun c1 => ?_)
    · replace h := ifT c1 h
      cases h
      exact b_vret rfl dJ7_fill_d0a16_22
    · replace h := ifF c1 h
      refine b_aload_n dJ7_fill_d0a16_12 rfl (k := 0) rfl ?_
      refine b_iload_n dJ7_fill_d0a16_13 rfl (k := 2) rfl ?_
      refine b_lload_n dJ7_fill_d0a16_14 rfl (k := 1) rfl ?_
      obtain ⟨g2, h⟩ := gdE h
      obtain ⟨w3, ew3, h⟩ := nmE h
      refine b_last ha0 g2 rfl dJ7_fill_d0a16_15 ?_
      refine b_nmW ew3 ?_
      obtain ⟨y4, ey4, h⟩ := nmE h
      refine b_iinc (v := y4) (lv' := [(3, vI y4), (0, vR d0 (k0 + 1)), (1, vL l1), (4, vI x4)]) dJ7_fill_d0a16_16 (k := 2) rfl ey4.symm (by decide) rfl ?_
      refine b_goto (tgt := 6) dJ7_fill_d0a16_19 (by decide) ?_
      refine b_sub [1, 2, 0, 3] rfl ?_
      exact ih y4 x4 _ _  h
def f7_fill_d0a16  (d0 k0 n0 : Nat) (l1 : Int64)   (w : Mem) : Option Mem :=
  bnd (Int32.ofNat n0) fun y1 => f7_fill_d0a16_6  d0 k0 n0 l1  100000 0 y1 w
set_option maxRecDepth 100000 in
set_option maxHeartbeats 4000000 in
theorem t7_fill_d0a16   (d0 k0 n0 : Nat) (l1 : Int64) (ha0 : Ar d0 k0 1 n0)    (w w' : Mem) (h : f7_fill_d0a16  d0 k0 n0 l1   w = some w') : Bk yJ7_fill_d0a16 cJ7_fill_d0a16 5 none 1 0 [(0, vR d0 (k0 + 1)), (1, vL l1)] [] w none w' := by
  unfold f7_fill_d0a16 at h
  refine b_iconst (v := 0) dJ7_fill_d0a16_0 (by decide) ?_
  refine b_istore_n (lv' := [(3, vI 0), (0, vR d0 (k0 + 1)), (1, vL l1)]) dJ7_fill_d0a16_1 rfl (by decide) rfl ?_
  refine b_aload_n dJ7_fill_d0a16_2 rfl (k := 1) rfl ?_
  refine b_alen (v := Int32.ofNat n0) ha0 (by decide) rfl dJ7_fill_d0a16_3 ?_
  obtain ⟨y1, ey1, h⟩ := nmE h
  refine b_nmI ey1 ?_
  refine b_istore (lv' := [(4, vI y1), (3, vI 0), (0, vR d0 (k0 + 1)), (1, vL l1)]) dJ7_fill_d0a16_4 (by decide) rfl ?_
  refine b_sub [2, 3, 1, 0] rfl ?_
  exact t7_fill_d0a16_6  d0 k0 n0 l1 ha0   100000 0 y1 _ _  h
theorem s7_fill_d0a16 (d0 k0 n0 : Nat) (l1 : Int64) (ha0 : Ar d0 k0 1 n0) (w w' : Mem) (h : f7_fill_d0a16  d0 k0 n0 l1  w = some w') : Sp yJ7_fill_d0a16 cJ7_fill_d0a16 5 none 1 [vR d0 (k0 + 1), vL l1] w none w' := sp_of (by decide) (fun _ => rfl) (fun _ => Nat.le_of_ble_eq_true rfl) (t7_fill_d0a16  d0 k0 n0 l1 ha0  _ _  h)
-- X6_clear OneADay$Rock
def f6_clear  (d0 : Nat)   (w : Mem) : Option Mem :=
  bnd (sI w d0 0 0 0) fun w1 => bnd (sI w1 d0 1 0 0) fun w2 => bnd (sI w2 d0 2 0 0) fun w3 => bnd (sI w3 d0 3 0 0) fun w4 => bnd (sI w4 d0 4 0 0) fun w5 => bnd (sI w5 d0 5 0 0) fun w6 => bnd (sI w6 d0 6 0 0) fun w7 => bndV (f7_fill_d0a16 d0 11 16 0 w7) fun w8 => bndV (f7_fill_d0a16 d0 12 16 0 w8) fun w9 => some w9
set_option maxRecDepth 100000 in
set_option maxHeartbeats 4000000 in
theorem t6_clear   (d0 : Nat) (hd0 : Ob d0 6)    (w w' : Mem) (h : f6_clear  d0   w = some w') : Bk yX6_clear cX6_clear 1 none 2 0 [(0, vR d0 0)] [] w none w' := by
  unfold f6_clear at h
  refine b_aload_n dX6_clear_0 rfl (k := 0) rfl ?_
  refine b_iconst (v := 0) dX6_clear_1 (by decide) ?_
  obtain ⟨w1, ew1, h⟩ := nmE h
  refine b_putZ (by decide) fw6_31 hd0 rfl dX6_clear_2 ?_
  refine b_nmW ew1 ?_
  refine b_aload_n dX6_clear_5 rfl (k := 0) rfl ?_
  refine b_iconst (v := 0) dX6_clear_6 (by decide) ?_
  obtain ⟨w2, ew2, h⟩ := nmE h
  refine b_putI fw6_35 hd0 rfl dX6_clear_7 ?_
  refine b_nmW ew2 ?_
  refine b_aload_n dX6_clear_10 rfl (k := 0) rfl ?_
  refine b_iconst (v := 0) dX6_clear_11 (by decide) ?_
  obtain ⟨w3, ew3, h⟩ := nmE h
  refine b_putI fw6_39 hd0 rfl dX6_clear_12 ?_
  refine b_nmW ew3 ?_
  refine b_aload_n dX6_clear_15 rfl (k := 0) rfl ?_
  refine b_iconst (v := 0) dX6_clear_16 (by decide) ?_
  obtain ⟨w4, ew4, h⟩ := nmE h
  refine b_putI fw6_42 hd0 rfl dX6_clear_17 ?_
  refine b_nmW ew4 ?_
  refine b_aload_n dX6_clear_20 rfl (k := 0) rfl ?_
  refine b_iconst (v := 0) dX6_clear_21 (by decide) ?_
  obtain ⟨w5, ew5, h⟩ := nmE h
  refine b_putI fw6_45 hd0 rfl dX6_clear_22 ?_
  refine b_nmW ew5 ?_
  refine b_aload_n dX6_clear_25 rfl (k := 0) rfl ?_
  refine b_iconst (v := 0) dX6_clear_26 (by decide) ?_
  obtain ⟨w6, ew6, h⟩ := nmE h
  refine b_putI fw6_48 hd0 rfl dX6_clear_27 ?_
  refine b_nmW ew6 ?_
  refine b_aload_n dX6_clear_30 rfl (k := 0) rfl ?_
  refine b_iconst (v := 0) dX6_clear_31 (by decide) ?_
  obtain ⟨w7, ew7, h⟩ := nmE h
  refine b_putI fw6_51 hd0 rfl dX6_clear_32 ?_
  refine b_nmW ew7 ?_
  refine b_aload_n dX6_clear_35 rfl (k := 0) rfl ?_
  refine b_getF fl6_24 hd0 rfl (grC6 hd0 11) dX6_clear_36 ?_
  refine b_lconst (v := 0) dX6_clear_39 (by decide) ?_
  obtain ⟨w8, hw8, h⟩ := bdV h
  refine b_callSv ms7_fill_d0a16 ml6_54 (s7_fill_d0a16 d0 11 16 0 (arC6_11 hd0) _ _  hw8) rfl (by decide) (by decide) (Nat.le_of_ble_eq_true rfl) rfl dX6_clear_40 ?_
  refine b_aload_n dX6_clear_43 rfl (k := 0) rfl ?_
  refine b_getF fl6_28 hd0 rfl (grC6 hd0 12) dX6_clear_44 ?_
  refine b_lconst (v := 0) dX6_clear_47 (by decide) ?_
  obtain ⟨w9, hw9, h⟩ := bdV h
  refine b_callSv ms7_fill_d0a16 ml6_54 (s7_fill_d0a16 d0 12 16 0 (arC6_12 hd0) _ _  hw9) rfl (by decide) (by decide) (Nat.le_of_ble_eq_true rfl) rfl dX6_clear_48 ?_
  cases h
  exact b_vret rfl dX6_clear_51
theorem s6_clear (d0 : Nat) (hd0 : Ob d0 6) (w w' : Mem) (h : f6_clear  d0  w = some w') : Sp yX6_clear cX6_clear 1 none 2 [vR d0 0] w none w' := sp_of (by decide) (fun _ => rfl) (fun _ => Nat.le_of_ble_eq_true rfl) (t6_clear  d0 hd0  _ _  h)
