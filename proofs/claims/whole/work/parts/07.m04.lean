-- X2_addSeen OneADay$Notes
def f2_addSeen  (a1 : Int32) (a2 : Int32)   (w : Mem) : Option (Int32 × Mem) :=
  if (w.1 29 4 0) < 0 then (some (0, w)) else (if (w.1 29 4 0) < 10 then (if (w.1 29 4 0) < 0 ∨ 10 ≤ Int32.toNatClampNeg (w.1 29 4 0) then none else bnd (sI w 29 0 (Int32.toNatClampNeg (w.1 29 4 0)) a1) fun w4 => if (w4.1 29 4 0) < 0 ∨ 10 ≤ Int32.toNatClampNeg (w4.1 29 4 0) then none else bnd (sI w4 29 1 (Int32.toNatClampNeg (w4.1 29 4 0)) a2) fun w6 => bnd (sI w6 29 4 0 ((w6.1 29 4 0) + 1)) fun w7 => some (1, w7)) else (some (0, w)))
set_option maxRecDepth 100000 in
set_option maxHeartbeats 4000000 in
theorem t2_addSeen   (a1 : Int32) (a2 : Int32)     (w w' : Mem) (r : Int32) (h : f2_addSeen  a1 a2   w = some (r, w')) : Bk yX2_addSeen cX2_addSeen 3 (some .boolean) 1 0 [(0, vR 29 0), (1, vI a1), (2, vI a2)] [] w (some (vI r)) w' := by
  unfold f2_addSeen at h
  refine b_aload_n dX2_addSeen_0 rfl (k := 0) rfl ?_
  refine b_getI fl2_24 ob29 rfl dX2_addSeen_1 ?_
  refine b_iflt (tgt := 16) dX2_addSeen_4 (by decide) (fun c1 => ?_) (fun c1 => ?_)
  · replace h := ifT c1 h
    refine b_iconst (v := 0) dX2_addSeen_16 (by decide) ?_
    obtain ⟨rfl, rfl⟩ := rtE h
    exact b_zret rfl (by decide) dX2_addSeen_17
  · replace h := ifF c1 h
    refine b_aload_n dX2_addSeen_7 rfl (k := 0) rfl ?_
    refine b_getI fl2_24 ob29 rfl dX2_addSeen_8 ?_
    refine b_bipush (v := 10) dX2_addSeen_11 (by decide) ?_
    refine b_iclt (tgt := 18) dX2_addSeen_13 (by decide) (fun c2 => ?_) (fun c2 => ?_)
    · replace h := ifT c2 h
      refine b_aload_n dX2_addSeen_18 rfl (k := 0) rfl ?_
      refine b_getF fl2_9 ob29 rfl rfl dX2_addSeen_19 ?_
      refine b_aload_n dX2_addSeen_22 rfl (k := 0) rfl ?_
      refine b_getI fl2_24 ob29 rfl dX2_addSeen_23 ?_
      refine b_iload_n dX2_addSeen_26 rfl (k := 1) rfl ?_
      obtain ⟨g3, h⟩ := gdE h
      obtain ⟨w4, ew4, h⟩ := nmE h
      refine b_iast ar29_0 g3 rfl dX2_addSeen_27 ?_
      refine b_nmW ew4 ?_
      refine b_aload_n dX2_addSeen_28 rfl (k := 0) rfl ?_
      refine b_getF fl2_15 ob29 rfl rfl dX2_addSeen_29 ?_
      refine b_aload_n dX2_addSeen_32 rfl (k := 0) rfl ?_
      refine b_getI fl2_24 ob29 rfl dX2_addSeen_33 ?_
      refine b_iload_n dX2_addSeen_36 rfl (k := 2) rfl ?_
      obtain ⟨g5, h⟩ := gdE h
      obtain ⟨w6, ew6, h⟩ := nmE h
      refine b_iast ar29_1 g5 rfl dX2_addSeen_37 ?_
      refine b_nmW ew6 ?_
      refine b_aload_n dX2_addSeen_38 rfl (k := 0) rfl ?_
      refine b_dup dX2_addSeen_39 rfl ?_
      refine b_getI fl2_24 ob29 rfl dX2_addSeen_40 ?_
      refine b_iconst (v := 1) dX2_addSeen_43 (by decide) ?_
      refine b_iadd dX2_addSeen_44 ?_
      obtain ⟨w7, ew7, h⟩ := nmE h
      refine b_putI fw2_24 ob29 rfl dX2_addSeen_45 ?_
      refine b_nmW ew7 ?_
      refine b_iconst (v := 1) dX2_addSeen_48 (by decide) ?_
      obtain ⟨rfl, rfl⟩ := rtE h
      exact b_zret rfl (by decide) dX2_addSeen_49
    · replace h := ifF c2 h
      refine b_iconst (v := 0) dX2_addSeen_16 (by decide) ?_
      obtain ⟨rfl, rfl⟩ := rtE h
      exact b_zret rfl (by decide) dX2_addSeen_17
theorem s2_addSeen (a1 : Int32) (a2 : Int32)  (w w' : Mem) (r : Int32) (h : f2_addSeen  a1 a2  w = some (r, w')) : Sp yX2_addSeen cX2_addSeen 3 (some .boolean) 1 [vR 29 0, vI a1, vI a2] w (some (vI r)) w' := sp_of (by decide) (fun _ => rfl) (fun _ => Nat.le_of_ble_eq_true rfl) (t2_addSeen  a1 a2   _ _ _ h)
-- X2_addEntry OneADay$Notes
def f2_addEntry  (a1 : Int32) (a2 : Int32)   (w : Mem) : Option (Int32 × Mem) :=
  if (w.1 29 5 0) < 0 then (some (0, w)) else (if (w.1 29 5 0) < 15 then (if (w.1 29 5 0) < 0 ∨ 15 ≤ Int32.toNatClampNeg (w.1 29 5 0) then none else bnd (sI w 29 2 (Int32.toNatClampNeg (w.1 29 5 0)) a1) fun w4 => if (w4.1 29 5 0) < 0 ∨ 15 ≤ Int32.toNatClampNeg (w4.1 29 5 0) then none else bnd (sI w4 29 3 (Int32.toNatClampNeg (w4.1 29 5 0)) a2) fun w6 => bnd (sI w6 29 5 0 ((w6.1 29 5 0) + 1)) fun w7 => some (1, w7)) else (some (0, w)))
set_option maxRecDepth 100000 in
set_option maxHeartbeats 4000000 in
theorem t2_addEntry   (a1 : Int32) (a2 : Int32)     (w w' : Mem) (r : Int32) (h : f2_addEntry  a1 a2   w = some (r, w')) : Bk yX2_addEntry cX2_addEntry 3 (some .boolean) 1 0 [(0, vR 29 0), (1, vI a1), (2, vI a2)] [] w (some (vI r)) w' := by
  unfold f2_addEntry at h
  refine b_aload_n dX2_addEntry_0 rfl (k := 0) rfl ?_
  refine b_getI fl2_28 ob29 rfl dX2_addEntry_1 ?_
  refine b_iflt (tgt := 16) dX2_addEntry_4 (by decide) (fun c1 => ?_) (fun c1 => ?_)
  · replace h := ifT c1 h
    refine b_iconst (v := 0) dX2_addEntry_16 (by decide) ?_
    obtain ⟨rfl, rfl⟩ := rtE h
    exact b_zret rfl (by decide) dX2_addEntry_17
  · replace h := ifF c1 h
    refine b_aload_n dX2_addEntry_7 rfl (k := 0) rfl ?_
    refine b_getI fl2_28 ob29 rfl dX2_addEntry_8 ?_
    refine b_bipush (v := 15) dX2_addEntry_11 (by decide) ?_
    refine b_iclt (tgt := 18) dX2_addEntry_13 (by decide) (fun c2 => ?_) (fun c2 => ?_)
    · replace h := ifT c2 h
      refine b_aload_n dX2_addEntry_18 rfl (k := 0) rfl ?_
      refine b_getF fl2_18 ob29 rfl rfl dX2_addEntry_19 ?_
      refine b_aload_n dX2_addEntry_22 rfl (k := 0) rfl ?_
      refine b_getI fl2_28 ob29 rfl dX2_addEntry_23 ?_
      refine b_iload_n dX2_addEntry_26 rfl (k := 1) rfl ?_
      obtain ⟨g3, h⟩ := gdE h
      obtain ⟨w4, ew4, h⟩ := nmE h
      refine b_iast ar29_2 g3 rfl dX2_addEntry_27 ?_
      refine b_nmW ew4 ?_
      refine b_aload_n dX2_addEntry_28 rfl (k := 0) rfl ?_
      refine b_getF fl2_21 ob29 rfl rfl dX2_addEntry_29 ?_
      refine b_aload_n dX2_addEntry_32 rfl (k := 0) rfl ?_
      refine b_getI fl2_28 ob29 rfl dX2_addEntry_33 ?_
      refine b_iload_n dX2_addEntry_36 rfl (k := 2) rfl ?_
      obtain ⟨g5, h⟩ := gdE h
      obtain ⟨w6, ew6, h⟩ := nmE h
      refine b_iast ar29_3 g5 rfl dX2_addEntry_37 ?_
      refine b_nmW ew6 ?_
      refine b_aload_n dX2_addEntry_38 rfl (k := 0) rfl ?_
      refine b_dup dX2_addEntry_39 rfl ?_
      refine b_getI fl2_28 ob29 rfl dX2_addEntry_40 ?_
      refine b_iconst (v := 1) dX2_addEntry_43 (by decide) ?_
      refine b_iadd dX2_addEntry_44 ?_
      obtain ⟨w7, ew7, h⟩ := nmE h
      refine b_putI fw2_28 ob29 rfl dX2_addEntry_45 ?_
      refine b_nmW ew7 ?_
      refine b_iconst (v := 1) dX2_addEntry_48 (by decide) ?_
      obtain ⟨rfl, rfl⟩ := rtE h
      exact b_zret rfl (by decide) dX2_addEntry_49
    · replace h := ifF c2 h
      refine b_iconst (v := 0) dX2_addEntry_16 (by decide) ?_
      obtain ⟨rfl, rfl⟩ := rtE h
      exact b_zret rfl (by decide) dX2_addEntry_17
theorem s2_addEntry (a1 : Int32) (a2 : Int32)  (w w' : Mem) (r : Int32) (h : f2_addEntry  a1 a2  w = some (r, w')) : Sp yX2_addEntry cX2_addEntry 3 (some .boolean) 1 [vR 29 0, vI a1, vI a2] w (some (vI r)) w' := sp_of (by decide) (fun _ => rfl) (fun _ => Nat.le_of_ble_eq_true rfl) (t2_addEntry  a1 a2   _ _ _ h)
-- X2_fits OneADay$Notes
def f2_fits_3  (d1 : Nat) (d2 : Nat) (a3 : Int32) (a4 : Int32)  : Nat → Int32 → Mem → Option (Int32 × Mem)
  | 0, _, _ => none
  | n + 1, x5, w =>
  if (w.1 29 4 0) ≤ x5 then (some (1, w)) else (if 10 ≤ x5 then (some (1, w)) else (if x5 < 0 ∨ 10 ≤ Int32.toNatClampNeg x5 then none else bndO (f1_outcomeWith d2 d1 a3 a4 (w.1 29 0 (Int32.toNatClampNeg x5)) w) fun r5 w4 => if x5 < 0 ∨ 10 ≤ Int32.toNatClampNeg x5 then none else if r5 = (w4.1 29 1 (Int32.toNatClampNeg x5)) then (bnd (x5 + 1) fun y8 => f2_fits_3  d1 d2 a3 a4  n y8 w4) else (some (0, w4))))
set_option maxRecDepth 100000 in
set_option maxHeartbeats 4000000 in
theorem t2_fits_3   (d1 : Nat) (d2 : Nat) (a3 : Int32) (a4 : Int32) (hd1 : Ob d1 6) (hd2 : Ob d2 1)   : ∀ (n : Nat) (x5 : Int32) (w w' : Mem) (r : Int32), f2_fits_3  d1 d2 a3 a4  n x5 w = some (r, w') → Bk yX2_fits cX2_fits 6 (some .boolean) 6 3 [(0, vR 29 0), (1, vR d1 0), (2, vR d2 0), (3, vI a3), (4, vI a4), (5, vI x5)] [] w (some (vI r)) w' := by
  intro n
  induction n with
  | zero =>
    intro x5 w w' r h
    cases (show (none : Option (Int32 × Mem)) = some _ from h)
  | succ n ih =>
    intro x5 w w' r h
    rw [f2_fits_3] at h
    refine b_iload dX2_fits_3 (k := 5) rfl ?_
    refine b_aload_n dX2_fits_5 rfl (k := 0) rfl ?_
    refine b_getI fl2_24 ob29 rfl dX2_fits_6 ?_
    refine b_icge (tgt := 52) dX2_fits_9 (by decide) (fun c1 => ?_) (fun c1 => ?_)
    · replace h := ifT c1 h
      refine b_iconst (v := 1) dX2_fits_52 (by decide) ?_
      obtain ⟨rfl, rfl⟩ := rtE h
      exact b_zret rfl (by decide) dX2_fits_53
    · replace h := ifF c1 h
      refine b_iload dX2_fits_12 (k := 5) rfl ?_
      refine b_bipush (v := 10) dX2_fits_14 (by decide) ?_
      refine b_icge (tgt := 52) dX2_fits_16 (by decide) (fun c2 => ?_) (fun c2 => ?_)
      · replace h := ifT c2 h
        refine b_iconst (v := 1) dX2_fits_52 (by decide) ?_
        obtain ⟨rfl, rfl⟩ := rtE h
        exact b_zret rfl (by decide) dX2_fits_53
      · replace h := ifF c2 h
        refine b_aload_n dX2_fits_19 rfl (k := 2) rfl ?_
        refine b_aload_n dX2_fits_20 rfl (k := 1) rfl ?_
        refine b_iload_n dX2_fits_21 rfl (k := 3) rfl ?_
        refine b_iload dX2_fits_22 (k := 4) rfl ?_
        refine b_aload_n dX2_fits_24 rfl (k := 0) rfl ?_
        refine b_getF fl2_9 ob29 rfl rfl dX2_fits_25 ?_
        refine b_iload dX2_fits_28 (k := 5) rfl ?_
        obtain ⟨g3, h⟩ := gdE h
        refine b_iald ar29_0 g3 rfl dX2_fits_30 ?_
        obtain ⟨r5, w4, hw4, h⟩ := bdO h
        refine b_callVi mv1_outcomeWith ml2_41 hd2 (s1_outcomeWith d2 d1 a3 a4 (w.1 29 0 (Int32.toNatClampNeg x5)) hd2 hd1 _ _ _ hw4) rfl (by decide) (by decide) (Nat.le_of_ble_eq_true rfl) rfl dX2_fits_31 ?_
        refine b_aload_n dX2_fits_34 rfl (k := 0) rfl ?_
        refine b_getF fl2_15 ob29 rfl rfl dX2_fits_35 ?_
        refine b_iload dX2_fits_38 (k := 5) rfl ?_
        obtain ⟨g6, h⟩ := gdE h
        refine b_iald ar29_1 g6 rfl dX2_fits_40 ?_
        refine b_iceq (tgt := 46) dX2_fits_41 (by decide) (fun c7 => ?_) (fun c7 => ?_)
        · replace h := ifT c7 h
          obtain ⟨y8, ey8, h⟩ := nmE h
          refine b_iinc (v := y8) (lv' := [(5, vI y8), (0, vR 29 0), (1, vR d1 0), (2, vR d2 0), (3, vI a3), (4, vI a4)]) dX2_fits_46 (k := 5) rfl ey8.symm (by decide) rfl ?_
          refine b_goto (tgt := 3) dX2_fits_49 (by decide) ?_
          refine b_sub [1, 2, 3, 4, 5, 0] rfl ?_
          exact ih y8 _ _ _ h
        · replace h := ifF c7 h
          refine b_iconst (v := 0) dX2_fits_44 (by decide) ?_
          obtain ⟨rfl, rfl⟩ := rtE h
          exact b_zret rfl (by decide) dX2_fits_45
def f2_fits  (d1 : Nat) (d2 : Nat) (a3 : Int32) (a4 : Int32)   (w : Mem) : Option (Int32 × Mem) :=
  f2_fits_3  d1 d2 a3 a4  100000 0 w
set_option maxRecDepth 100000 in
set_option maxHeartbeats 4000000 in
theorem t2_fits   (d1 : Nat) (d2 : Nat) (a3 : Int32) (a4 : Int32) (hd1 : Ob d1 6) (hd2 : Ob d2 1)    (w w' : Mem) (r : Int32) (h : f2_fits  d1 d2 a3 a4   w = some (r, w')) : Bk yX2_fits cX2_fits 6 (some .boolean) 6 0 [(0, vR 29 0), (1, vR d1 0), (2, vR d2 0), (3, vI a3), (4, vI a4)] [] w (some (vI r)) w' := by
  unfold f2_fits at h
  refine b_iconst (v := 0) dX2_fits_0 (by decide) ?_
  refine b_istore (lv' := [(5, vI 0), (0, vR 29 0), (1, vR d1 0), (2, vR d2 0), (3, vI a3), (4, vI a4)]) dX2_fits_1 (by decide) rfl ?_
  refine b_sub [1, 2, 3, 4, 5, 0] rfl ?_
  exact t2_fits_3  d1 d2 a3 a4 hd1 hd2   100000 0 _ _ _ h
theorem s2_fits (d1 : Nat) (d2 : Nat) (a3 : Int32) (a4 : Int32) (hd1 : Ob d1 6) (hd2 : Ob d2 1) (w w' : Mem) (r : Int32) (h : f2_fits  d1 d2 a3 a4  w = some (r, w')) : Sp yX2_fits cX2_fits 6 (some .boolean) 6 [vR 29 0, vR d1 0, vR d2 0, vI a3, vI a4] w (some (vI r)) w' := sp_of (by decide) (fun _ => rfl) (fun _ => Nat.le_of_ble_eq_true rfl) (t2_fits  d1 d2 a3 a4 hd1 hd2  _ _ _ h)
-- X2_fitting OneADay$Notes
def f2_fitting_6  (d1 : Nat) (d2 : Nat) (a3 : Int32)  : Nat → Int32 → Int32 → Mem → Option (Int32 × Mem)
  | 0, _, _, _ => none
  | n + 1, x4, x5, w =>
  bndO (f6_periodOf d1 a3 w) fun r2 w1 => if r2 ≤ x5 then (some (x4, w1)) else (bndO (f2_fits d1 d2 a3 x5 w1) fun r5 w4 => if r5 = 0 then (bnd (x5 + 1) fun y7 => f2_fitting_6  d1 d2 a3  n x4 y7 w4) else (bnd (x4 ||| (jshl 1 x5)) fun y8 => bnd (x5 + 1) fun y9 => f2_fitting_6  d1 d2 a3  n y8 y9 w4))
set_option maxRecDepth 100000 in
set_option maxHeartbeats 4000000 in
theorem t2_fitting_6   (d1 : Nat) (d2 : Nat) (a3 : Int32) (hd1 : Ob d1 6) (hd2 : Ob d2 1)   : ∀ (n : Nat) (x4 : Int32) (x5 : Int32) (w w' : Mem) (r : Int32), f2_fitting_6  d1 d2 a3  n x4 x5 w = some (r, w') → Bk yX2_fitting cX2_fitting 6 (some .int) 7 6 [(0, vR 29 0), (1, vR d1 0), (2, vR d2 0), (3, vI a3), (4, vI x4), (5, vI x5)] [] w (some (vI r)) w' := by
  intro n
  induction n with
  | zero =>
    intro x4 x5 w w' r h
    cases (show (none : Option (Int32 × Mem)) = some _ from h)
  | succ n ih =>
    intro x4 x5 w w' r h
    rw [f2_fitting_6] at h
    refine b_iload dX2_fitting_6 (k := 5) rfl ?_
    refine b_aload_n dX2_fitting_8 rfl (k := 1) rfl ?_
    refine b_iload_n dX2_fitting_9 rfl (k := 3) rfl ?_
    obtain ⟨r2, w1, hw1, h⟩ := bdO h
    refine b_callVi mv6_periodOf ml2_31 hd1 (s6_periodOf d1 a3 hd1 _ _ _ hw1) rfl (by decide) (by decide) (Nat.le_of_ble_eq_true rfl) rfl dX2_fitting_10 ?_
    refine b_icge (tgt := 43) dX2_fitting_13 (by decide) (fun c3 => ?_) (fun c3 => ?_)
    · replace h := ifT c3 h
      refine b_iload dX2_fitting_43 (k := 4) rfl ?_
      obtain ⟨rfl, rfl⟩ := rtE h
      exact b_iret rfl dX2_fitting_45
    · replace h := ifF c3 h
      refine b_aload_n dX2_fitting_16 rfl (k := 0) rfl ?_
      refine b_aload_n dX2_fitting_17 rfl (k := 1) rfl ?_
      refine b_aload_n dX2_fitting_18 rfl (k := 2) rfl ?_
      refine b_iload_n dX2_fitting_19 rfl (k := 3) rfl ?_
      refine b_iload dX2_fitting_20 (k := 5) rfl ?_
      obtain ⟨r5, w4, hw4, h⟩ := bdO h
      refine b_callVi mv2_fits ml2_37 ob29 (s2_fits d1 d2 a3 x5 hd1 hd2 _ _ _ hw4) rfl (by decide) (by decide) (Nat.le_of_ble_eq_true rfl) rfl dX2_fitting_22 ?_
      refine b_ifeq (tgt := 37) dX2_fitting_25 (by decide) (fun c6 => ?_) (fun c6 => ?_)
      · replace h := ifT c6 h
        obtain ⟨y7, ey7, h⟩ := nmE h
        refine b_iinc (v := y7) (lv' := [(5, vI y7), (0, vR 29 0), (1, vR d1 0), (2, vR d2 0), (3, vI a3), (4, vI x4)]) dX2_fitting_37 (k := 5) rfl ey7.symm (by decide) rfl ?_
        refine b_goto (tgt := 6) dX2_fitting_40 (by decide) ?_
        refine b_sub [1, 2, 3, 4, 5, 0] rfl ?_
        exact ih x4 y7 _ _ _ h
      · replace h := ifF c6 h
        refine b_iload dX2_fitting_28 (k := 4) rfl ?_
        refine b_iconst (v := 1) dX2_fitting_30 (by decide) ?_
        refine b_iload dX2_fitting_31 (k := 5) rfl ?_
        refine b_ishl dX2_fitting_33 ?_
        refine b_ior dX2_fitting_34 ?_
        obtain ⟨y8, ey8, h⟩ := nmE h
        refine b_nmI ey8 ?_
        refine b_istore (lv' := [(4, vI y8), (0, vR 29 0), (1, vR d1 0), (2, vR d2 0), (3, vI a3), (5, vI x5)]) dX2_fitting_35 (by decide) rfl ?_
        obtain ⟨y9, ey9, h⟩ := nmE h
        refine b_iinc (v := y9) (lv' := [(5, vI y9), (4, vI y8), (0, vR 29 0), (1, vR d1 0), (2, vR d2 0), (3, vI a3)]) dX2_fitting_37 (k := 5) rfl ey9.symm (by decide) rfl ?_
        refine b_goto (tgt := 6) dX2_fitting_40 (by decide) ?_
        refine b_sub [2, 3, 4, 5, 1, 0] rfl ?_
        exact ih y8 y9 _ _ _ h
def f2_fitting  (d1 : Nat) (d2 : Nat) (a3 : Int32)   (w : Mem) : Option (Int32 × Mem) :=
  f2_fitting_6  d1 d2 a3  100000 0 0 w
set_option maxRecDepth 100000 in
set_option maxHeartbeats 4000000 in
theorem t2_fitting   (d1 : Nat) (d2 : Nat) (a3 : Int32) (hd1 : Ob d1 6) (hd2 : Ob d2 1)    (w w' : Mem) (r : Int32) (h : f2_fitting  d1 d2 a3   w = some (r, w')) : Bk yX2_fitting cX2_fitting 6 (some .int) 7 0 [(0, vR 29 0), (1, vR d1 0), (2, vR d2 0), (3, vI a3)] [] w (some (vI r)) w' := by
  unfold f2_fitting at h
  refine b_iconst (v := 0) dX2_fitting_0 (by decide) ?_
  refine b_istore (lv' := [(4, vI 0), (0, vR 29 0), (1, vR d1 0), (2, vR d2 0), (3, vI a3)]) dX2_fitting_1 (by decide) rfl ?_
  refine b_iconst (v := 0) dX2_fitting_3 (by decide) ?_
  refine b_istore (lv' := [(5, vI 0), (4, vI 0), (0, vR 29 0), (1, vR d1 0), (2, vR d2 0), (3, vI a3)]) dX2_fitting_4 (by decide) rfl ?_
  refine b_sub [2, 3, 4, 5, 1, 0] rfl ?_
  exact t2_fitting_6  d1 d2 a3 hd1 hd2   100000 0 0 _ _ _ h
theorem s2_fitting (d1 : Nat) (d2 : Nat) (a3 : Int32) (hd1 : Ob d1 6) (hd2 : Ob d2 1) (w w' : Mem) (r : Int32) (h : f2_fitting  d1 d2 a3  w = some (r, w')) : Sp yX2_fitting cX2_fitting 6 (some .int) 7 [vR 29 0, vR d1 0, vR d2 0, vI a3] w (some (vI r)) w' := sp_of (by decide) (fun _ => rfl) (fun _ => Nat.le_of_ble_eq_true rfl) (t2_fitting  d1 d2 a3 hd1 hd2  _ _ _ h)
-- X2_firstWrong OneADay$Notes
def f2_firstWrong_2  (d1 : Nat)  : Nat → Int32 → Mem → Option (Int32 × Mem)
  | 0, _, _ => none
  | n + 1, x2, w =>
  if (w.1 29 5 0) ≤ x2 then (some ((-1), w)) else (if 15 ≤ x2 then (some ((-1), w)) else (if x2 < 0 ∨ 15 ≤ Int32.toNatClampNeg x2 then none else bnd (w.1 29 2 (Int32.toNatClampNeg x2)) fun y4 => bndO (f1_isLatest d1 y4 w) fun r6 w5 => if r6 = 0 then (some (x2, w5)) else (bndO (f1_blessedOn d1 y4 w5) fun r9 w8 => if x2 < 0 ∨ 15 ≤ Int32.toNatClampNeg x2 then none else if r9 = (w8.1 29 3 (Int32.toNatClampNeg x2)) then (bnd (x2 + 1) fun y12 => f2_firstWrong_2  d1  n y12 w8) else (some (x2, w8)))))
set_option maxRecDepth 100000 in
set_option maxHeartbeats 4000000 in
theorem t2_firstWrong_2   (d1 : Nat) (hd1 : Ob d1 1)   : ∀ (n : Nat) (x2 : Int32) (w w' : Mem) (r : Int32), f2_firstWrong_2  d1  n x2 w = some (r, w') → Bk yX2_firstWrong cX2_firstWrong 4 (some .int) 3 2 [(0, vR 29 0), (1, vR d1 0), (2, vI x2)] [] w (some (vI r)) w' := by
  intro n
  induction n with
  | zero =>
    intro x2 w w' r h
    cases (show (none : Option (Int32 × Mem)) = some _ from h)
  | succ n ih =>
    intro x2 w w' r h
    rw [f2_firstWrong_2] at h
    refine b_iload_n dX2_firstWrong_2 rfl (k := 2) rfl ?_
    refine b_aload_n dX2_firstWrong_3 rfl (k := 0) rfl ?_
    refine b_getI fl2_28 ob29 rfl dX2_firstWrong_4 ?_
    refine b_icge (tgt := 53) dX2_firstWrong_7 (by decide) (fun c1 => ?_) (fun c1 => ?_)
    · replace h := ifT c1 h
      refine b_iconst (v := (-1)) dX2_firstWrong_53 (by decide) ?_
      obtain ⟨rfl, rfl⟩ := rtE h
      exact b_iret rfl dX2_firstWrong_54
    · replace h := ifF c1 h
      refine b_iload_n dX2_firstWrong_10 rfl (k := 2) rfl ?_
      refine b_bipush (v := 15) dX2_firstWrong_11 (by decide) ?_
      refine b_icge (tgt := 53) dX2_firstWrong_13 (by decide) (fun c2 => ?_) (fun c2 => ?_)
      · replace h := ifT c2 h
        refine b_iconst (v := (-1)) dX2_firstWrong_53 (by decide) ?_
        obtain ⟨rfl, rfl⟩ := rtE h
        exact b_iret rfl dX2_firstWrong_54
      · replace h := ifF c2 h
        refine b_aload_n dX2_firstWrong_16 rfl (k := 0) rfl ?_
        refine b_getF fl2_18 ob29 rfl rfl dX2_firstWrong_17 ?_
        refine b_iload_n dX2_firstWrong_20 rfl (k := 2) rfl ?_
        obtain ⟨g3, h⟩ := gdE h
        refine b_iald ar29_2 g3 rfl dX2_firstWrong_21 ?_
        obtain ⟨y4, ey4, h⟩ := nmE h
        refine b_nmI ey4 ?_
        refine b_istore_n (lv' := [(3, vI y4), (0, vR 29 0), (1, vR d1 0), (2, vI x2)]) dX2_firstWrong_22 rfl (by decide) rfl ?_
        refine b_aload_n dX2_firstWrong_23 rfl (k := 2) rfl ?_
        refine b_iload_n dX2_firstWrong_24 rfl (k := 0) rfl ?_
        obtain ⟨r6, w5, hw5, h⟩ := bdO h
        refine b_callVi mv1_isLatest ml2_47 hd1 (s1_isLatest d1 y4 hd1 _ _ _ hw5) rfl (by decide) (by decide) (Nat.le_of_ble_eq_true rfl) rfl dX2_firstWrong_25 ?_
        refine b_ifeq (tgt := 45) dX2_firstWrong_28 (by decide) (fun c7 => ?_) (fun c7 => ?_)
        · replace h := ifT c7 h
          refine b_iload_n dX2_firstWrong_45 rfl (k := 3) rfl ?_
          obtain ⟨rfl, rfl⟩ := rtE h
          exact b_iret rfl dX2_firstWrong_46
        · replace h := ifF c7 h
          refine b_aload_n dX2_firstWrong_31 rfl (k := 2) rfl ?_
          refine b_iload_n dX2_firstWrong_32 rfl (k := 0) rfl ?_
          obtain ⟨r9, w8, hw8, h⟩ := bdO h
          refine b_callVi mv1_blessedOn ml2_51 hd1 (s1_blessedOn d1 y4 hd1 _ _ _ hw8) rfl (by decide) (by decide) (Nat.le_of_ble_eq_true rfl) rfl dX2_firstWrong_33 ?_
          refine b_aload_n dX2_firstWrong_36 rfl (k := 1) rfl ?_
          refine b_getF fl2_21 ob29 rfl rfl dX2_firstWrong_37 ?_
          refine b_iload_n dX2_firstWrong_40 rfl (k := 3) rfl ?_
          obtain ⟨g10, h⟩ := gdE h
          refine b_iald ar29_3 g10 rfl dX2_firstWrong_41 ?_
          refine b_iceq (tgt := 47) dX2_firstWrong_42 (by decide) (fun c11 => ?_) (fun c11 => ?_)
          · replace h := ifT c11 h
            obtain ⟨y12, ey12, h⟩ := nmE h
            refine b_iinc (v := y12) (lv' := [(2, vI y12), (3, vI y4), (0, vR 29 0), (1, vR d1 0)]) dX2_firstWrong_47 (k := 3) rfl ey12.symm (by decide) rfl ?_
            refine b_goto (tgt := 2) dX2_firstWrong_50 (by decide) ?_
            refine b_sub [2, 3, 0] rfl ?_
            exact ih y12 _ _ _ h
          · replace h := ifF c11 h
            refine b_iload_n dX2_firstWrong_45 rfl (k := 3) rfl ?_
            obtain ⟨rfl, rfl⟩ := rtE h
            exact b_iret rfl dX2_firstWrong_46
def f2_firstWrong  (d1 : Nat)   (w : Mem) : Option (Int32 × Mem) :=
  f2_firstWrong_2  d1  100000 0 w
set_option maxRecDepth 100000 in
set_option maxHeartbeats 4000000 in
theorem t2_firstWrong   (d1 : Nat) (hd1 : Ob d1 1)    (w w' : Mem) (r : Int32) (h : f2_firstWrong  d1   w = some (r, w')) : Bk yX2_firstWrong cX2_firstWrong 4 (some .int) 3 0 [(0, vR 29 0), (1, vR d1 0)] [] w (some (vI r)) w' := by
  unfold f2_firstWrong at h
  refine b_iconst (v := 0) dX2_firstWrong_0 (by decide) ?_
  refine b_istore_n (lv' := [(2, vI 0), (0, vR 29 0), (1, vR d1 0)]) dX2_firstWrong_1 rfl (by decide) rfl ?_
  refine b_sub [1, 2, 0] rfl ?_
  exact t2_firstWrong_2  d1 hd1   100000 0 _ _ _ h
theorem s2_firstWrong (d1 : Nat) (hd1 : Ob d1 1) (w w' : Mem) (r : Int32) (h : f2_firstWrong  d1  w = some (r, w')) : Sp yX2_firstWrong cX2_firstWrong 4 (some .int) 3 [vR 29 0, vR d1 0] w (some (vI r)) w' := sp_of (by decide) (fun _ => rfl) (fun _ => Nat.le_of_ble_eq_true rfl) (t2_firstWrong  d1 hd1  _ _ _ h)
-- X3_clear OneADay$Past
def f3_clear     (w : Mem) : Option Mem :=
  bnd (sI w 28 2 0 0) fun w1 => some w1
set_option maxRecDepth 100000 in
set_option maxHeartbeats 4000000 in
theorem t3_clear        (w w' : Mem) (h : f3_clear     w = some w') : Bk yX3_clear cX3_clear 1 none 1 0 [(0, vR 28 0)] [] w none w' := by
  unfold f3_clear at h
  refine b_aload_n dX3_clear_0 rfl (k := 0) rfl ?_
  refine b_iconst (v := 0) dX3_clear_1 (by decide) ?_
  obtain ⟨w1, ew1, h⟩ := nmE h
  refine b_putI fw3_18 ob28 rfl dX3_clear_2 ?_
  refine b_nmW ew1 ?_
  cases h
  exact b_vret rfl dX3_clear_5
theorem s3_clear   (w w' : Mem) (h : f3_clear    w = some w') : Sp yX3_clear cX3_clear 1 none 1 [vR 28 0] w none w' := sp_of (by decide) (fun _ => rfl) (fun _ => Nat.le_of_ble_eq_true rfl) (t3_clear     _ _  h)
-- X3_push OneADay$Past
def f3_push  (d1 : Nat)   (w : Mem) : Option Mem :=
  if (w.1 28 1 0) < 0 then (some w) else (if (w.1 28 1 0) < 20 then (if (w.1 28 1 0) < 0 ∨ 20 ≤ Int32.toNatClampNeg (w.1 28 1 0) then none else bndV (f1_copy (rb 28 + (Int32.toNatClampNeg (w.1 28 1 0))) d1 w) fun w5 => bnd (sI w5 28 1 0 (jrem ((w5.1 28 1 0) + 1) 20)) fun w6 => if 20 ≤ (w6.1 28 2 0) then (some w6) else (bnd (sI w6 28 2 0 ((w6.1 28 2 0) + 1)) fun w8 => some w8)) else (some w))
set_option maxRecDepth 100000 in
set_option maxHeartbeats 4000000 in
theorem t3_push   (d1 : Nat) (hd1 : Ob d1 1)    (w w' : Mem) (h : f3_push  d1   w = some w') : Bk yX3_push cX3_push 3 none 3 0 [(0, vR 28 0), (1, vR d1 0)] [] w none w' := by
  unfold f3_push at h
  refine b_aload_n dX3_push_0 rfl (k := 0) rfl ?_
  refine b_getI fl3_22 ob28 rfl dX3_push_1 ?_
  refine b_iflt (tgt := 19) dX3_push_4 (by decide) (fun c1 => ?_) (fun c1 => ?_)
  · replace h := ifT c1 h
    refine b_null dX3_push_19 ?_
    refine b_goto (tgt := 32) dX3_push_20 (by decide) ?_
    refine b_astore_nN (lv' := [(2, vN), (0, vR 28 0), (1, vR d1 0)]) dX3_push_32 rfl (by decide) rfl ?_
    refine b_aload_nN dX3_push_33 rfl (k := 0) rfl ?_
    refine b_ifnonnullN dX3_push_34 ?_
    cases h
    exact b_vret rfl dX3_push_37
  · replace h := ifF c1 h
    refine b_aload_n dX3_push_7 rfl (k := 0) rfl ?_
    refine b_getI fl3_22 ob28 rfl dX3_push_8 ?_
    refine b_aload_n dX3_push_11 rfl (k := 0) rfl ?_
    refine b_getF fl3_11 ob28 rfl rfl dX3_push_12 ?_
    refine b_alen (v := 20) ar28_0 (by decide) (by decide) dX3_push_15 ?_
    refine b_iclt (tgt := 23) dX3_push_16 (by decide) (fun c2 => ?_) (fun c2 => ?_)
    · replace h := ifT c2 h
      refine b_aload_n dX3_push_23 rfl (k := 0) rfl ?_
      refine b_getF fl3_11 ob28 rfl rfl dX3_push_24 ?_
      refine b_aload_n dX3_push_27 rfl (k := 0) rfl ?_
      refine b_getI fl3_22 ob28 rfl dX3_push_28 ?_
      obtain ⟨g3, h⟩ := gdE h
      refine b_aald ar28_0 g3 dX3_push_31 ?_
      refine b_astore_n (lv' := [(2, vR (rb 28 + (Int32.toNatClampNeg (w.1 28 1 0))) 0), (0, vR 28 0), (1, vR d1 0)]) dX3_push_32 rfl (by decide) rfl ?_
      refine b_aload_n dX3_push_33 rfl (k := 0) rfl ?_
      refine b_ifnonnull (tgt := 38) dX3_push_34 (by decide) ?_
      refine b_aload_n dX3_push_38 rfl (k := 0) rfl ?_
      refine b_aload_n dX3_push_39 rfl (k := 2) rfl ?_
      obtain ⟨w5, hw5, h⟩ := bdV h
      refine b_callVv mv1_copy ml3_25 (obK g3) (s1_copy (rb 28 + (Int32.toNatClampNeg (w.1 28 1 0))) d1 (obK g3) hd1 _ _  hw5) rfl (by decide) (by decide) (Nat.le_of_ble_eq_true rfl) rfl dX3_push_40 ?_
      refine b_aload_n dX3_push_43 rfl (k := 1) rfl ?_
      refine b_aload_n dX3_push_44 rfl (k := 1) rfl ?_
      refine b_getI fl3_22 ob28 rfl dX3_push_45 ?_
      refine b_iconst (v := 1) dX3_push_48 (by decide) ?_
      refine b_iadd dX3_push_49 ?_
      refine b_bipush (v := 20) dX3_push_50 (by decide) ?_
      refine b_irem dX3_push_52 (by decide) ?_
      obtain ⟨w6, ew6, h⟩ := nmE h
      refine b_putI fw3_22 ob28 rfl dX3_push_53 ?_
      refine b_nmW ew6 ?_
      refine b_aload_n dX3_push_56 rfl (k := 1) rfl ?_
      refine b_getI fl3_18 ob28 rfl dX3_push_57 ?_
      refine b_bipush (v := 20) dX3_push_60 (by decide) ?_
      refine b_icge (tgt := 75) dX3_push_62 (by decide) (fun c7 => ?_) (fun c7 => ?_)
      · replace h := ifT c7 h
        cases h
        exact b_vret rfl dX3_push_75
      · replace h := ifF c7 h
        refine b_aload_n dX3_push_65 rfl (k := 1) rfl ?_
        refine b_dup dX3_push_66 rfl ?_
        refine b_getI fl3_18 ob28 rfl dX3_push_67 ?_
        refine b_iconst (v := 1) dX3_push_70 (by decide) ?_
        refine b_iadd dX3_push_71 ?_
        obtain ⟨w8, ew8, h⟩ := nmE h
        refine b_putI fw3_18 ob28 rfl dX3_push_72 ?_
        refine b_nmW ew8 ?_
        cases h
        exact b_vret rfl dX3_push_75
    · replace h := ifF c2 h
      refine b_null dX3_push_19 ?_
      refine b_goto (tgt := 32) dX3_push_20 (by decide) ?_
      refine b_astore_nN (lv' := [(2, vN), (0, vR 28 0), (1, vR d1 0)]) dX3_push_32 rfl (by decide) rfl ?_
      refine b_aload_nN dX3_push_33 rfl (k := 0) rfl ?_
      refine b_ifnonnullN dX3_push_34 ?_
      cases h
      exact b_vret rfl dX3_push_37
theorem s3_push (d1 : Nat) (hd1 : Ob d1 1) (w w' : Mem) (h : f3_push  d1  w = some w') : Sp yX3_push cX3_push 3 none 3 [vR 28 0, vR d1 0] w none w' := sp_of (by decide) (fun _ => rfl) (fun _ => Nat.le_of_ble_eq_true rfl) (t3_push  d1 hd1  _ _  h)
-- X3_pop OneADay$Past
def f3_pop  (d1 : Nat)   (w : Mem) : Option Mem :=
  bnd (jrem (((w.1 28 1 0) + 20) - 1) 20) fun y1 => if (w.1 28 2 0) < 1 then (some w) else (if y1 < 0 then (some w) else (if y1 < 20 then (if y1 < 0 ∨ 20 ≤ Int32.toNatClampNeg y1 then none else bndV (f1_copy d1 (rb 28 + (Int32.toNatClampNeg y1)) w) fun w7 => bnd (sI w7 28 1 0 y1) fun w8 => bnd (sI w8 28 2 0 ((w8.1 28 2 0) - 1)) fun w9 => some w9) else (some w)))
set_option maxRecDepth 100000 in
set_option maxHeartbeats 4000000 in
theorem t3_pop   (d1 : Nat) (hd1 : Ob d1 1)    (w w' : Mem) (h : f3_pop  d1   w = some w') : Bk yX3_pop cX3_pop 4 none 3 0 [(0, vR 28 0), (1, vR d1 0)] [] w none w' := by
  unfold f3_pop at h
  refine b_aload_n dX3_pop_0 rfl (k := 0) rfl ?_
  refine b_getI fl3_22 ob28 rfl dX3_pop_1 ?_
  refine b_bipush (v := 20) dX3_pop_4 (by decide) ?_
  refine b_iadd dX3_pop_6 ?_
  refine b_iconst (v := 1) dX3_pop_7 (by decide) ?_
  refine b_isub dX3_pop_8 ?_
  refine b_bipush (v := 20) dX3_pop_9 (by decide) ?_
  refine b_irem dX3_pop_11 (by decide) ?_
  obtain ⟨y1, ey1, h⟩ := nmE h
  refine b_nmI ey1 ?_
  refine b_istore_n (lv' := [(2, vI y1), (0, vR 28 0), (1, vR d1 0)]) dX3_pop_12 rfl (by decide) rfl ?_
  refine b_aload_n dX3_pop_13 rfl (k := 1) rfl ?_
  refine b_getI fl3_18 ob28 rfl dX3_pop_14 ?_
  refine b_iconst (v := 1) dX3_pop_17 (by decide) ?_
  refine b_iclt (tgt := 34) dX3_pop_18 (by decide) (fun c2 => ?_) (fun c2 => ?_)
  · replace h := ifT c2 h
    refine b_null dX3_pop_34 ?_
    refine b_goto (tgt := 44) dX3_pop_35 (by decide) ?_
    refine b_astore_nN (lv' := [(3, vN), (2, vI y1), (0, vR 28 0), (1, vR d1 0)]) dX3_pop_44 rfl (by decide) rfl ?_
    refine b_aload_nN dX3_pop_45 rfl (k := 0) rfl ?_
    refine b_ifnonnullN dX3_pop_46 ?_
    cases h
    exact b_vret rfl dX3_pop_49
  · replace h := ifF c2 h
    refine b_iload_n dX3_pop_21 rfl (k := 0) rfl ?_
    refine b_iflt (tgt := 34) dX3_pop_22 (by decide) (fun c3 => ?_) (fun c3 => ?_)
    · replace h := ifT c3 h
      refine b_null dX3_pop_34 ?_
      refine b_goto (tgt := 44) dX3_pop_35 (by decide) ?_
      refine b_astore_nN (lv' := [(3, vN), (2, vI y1), (0, vR 28 0), (1, vR d1 0)]) dX3_pop_44 rfl (by decide) rfl ?_
      refine b_aload_nN dX3_pop_45 rfl (k := 0) rfl ?_
      refine b_ifnonnullN dX3_pop_46 ?_
      cases h
      exact b_vret rfl dX3_pop_49
    · replace h := ifF c3 h
      refine b_iload_n dX3_pop_25 rfl (k := 0) rfl ?_
      refine b_aload_n dX3_pop_26 rfl (k := 1) rfl ?_
      refine b_getF fl3_11 ob28 rfl rfl dX3_pop_27 ?_
      refine b_alen (v := 20) ar28_0 (by decide) (by decide) dX3_pop_30 ?_
      refine b_iclt (tgt := 38) dX3_pop_31 (by decide) (fun c4 => ?_) (fun c4 => ?_)
      · replace h := ifT c4 h
        refine b_aload_n dX3_pop_38 rfl (k := 1) rfl ?_
        refine b_getF fl3_11 ob28 rfl rfl dX3_pop_39 ?_
        refine b_iload_n dX3_pop_42 rfl (k := 0) rfl ?_
        obtain ⟨g5, h⟩ := gdE h
        refine b_aald ar28_0 g5 dX3_pop_43 ?_
        refine b_astore_n (lv' := [(3, vR (rb 28 + (Int32.toNatClampNeg y1)) 0), (2, vI y1), (0, vR 28 0), (1, vR d1 0)]) dX3_pop_44 rfl (by decide) rfl ?_
        refine b_aload_n dX3_pop_45 rfl (k := 0) rfl ?_
        refine b_ifnonnull (tgt := 50) dX3_pop_46 (by decide) ?_
        refine b_aload_n dX3_pop_50 rfl (k := 3) rfl ?_
        refine b_aload_n dX3_pop_51 rfl (k := 0) rfl ?_
        obtain ⟨w7, hw7, h⟩ := bdV h
        refine b_callVv mv1_copy ml3_25 hd1 (s1_copy d1 (rb 28 + (Int32.toNatClampNeg y1)) hd1 (obK g5) _ _  hw7) rfl (by decide) (by decide) (Nat.le_of_ble_eq_true rfl) rfl dX3_pop_52 ?_
        refine b_aload_n dX3_pop_55 rfl (k := 2) rfl ?_
        refine b_iload_n dX3_pop_56 rfl (k := 1) rfl ?_
        obtain ⟨w8, ew8, h⟩ := nmE h
        refine b_putI fw3_22 ob28 rfl dX3_pop_57 ?_
        refine b_nmW ew8 ?_
        refine b_aload_n dX3_pop_60 rfl (k := 2) rfl ?_
        refine b_dup dX3_pop_61 rfl ?_
        refine b_getI fl3_18 ob28 rfl dX3_pop_62 ?_
        refine b_iconst (v := 1) dX3_pop_65 (by decide) ?_
        refine b_isub dX3_pop_66 ?_
        obtain ⟨w9, ew9, h⟩ := nmE h
        refine b_putI fw3_18 ob28 rfl dX3_pop_67 ?_
        refine b_nmW ew9 ?_
        cases h
        exact b_vret rfl dX3_pop_70
      · replace h := ifF c4 h
        refine b_null dX3_pop_34 ?_
        refine b_goto (tgt := 44) dX3_pop_35 (by decide) ?_
        refine b_astore_nN (lv' := [(3, vN), (2, vI y1), (0, vR 28 0), (1, vR d1 0)]) dX3_pop_44 rfl (by decide) rfl ?_
        refine b_aload_nN dX3_pop_45 rfl (k := 0) rfl ?_
        refine b_ifnonnullN dX3_pop_46 ?_
        cases h
        exact b_vret rfl dX3_pop_49
theorem s3_pop (d1 : Nat) (hd1 : Ob d1 1) (w w' : Mem) (h : f3_pop  d1  w = some w') : Sp yX3_pop cX3_pop 4 none 3 [vR 28 0, vR d1 0] w none w' := sp_of (by decide) (fun _ => rfl) (fun _ => Nat.le_of_ble_eq_true rfl) (t3_pop  d1 hd1  _ _  h)
-- X4_choose OneADay$Plan
def f4_choose_32  (d1 : Nat) (a2 : Int32)  : Nat → Int32 → Int32 → Int32 → Int32 → Mem → Option (Int32 × Mem)
  | 0, _, _, _, _, _ => none
  | n + 1, x3, x4, x5, x6, w =>
  if (w.1 d1 4 0) ≤ x6 then (some (x4, w)) else (if 8 ≤ x6 then (some (x4, w)) else (if ((jshr x3 x6) &&& 1) = 0 then (bnd (x6 + 1) fun y13 => f4_choose_32  d1 a2  n x3 x4 x5 y13 w) else (if a2 < 0 ∨ 10 ≤ Int32.toNatClampNeg a2 then none else bnd (sI w 31 0 (Int32.toNatClampNeg a2) x6) fun w5 => if x6 < 0 ∨ 8 ≤ Int32.toNatClampNeg x6 then none else bndO (f4_leastFrom 24 d1 (a2 + 1) w5) fun r8 w7 => bnd ((2 * (w5.1 d1 7 (Int32.toNatClampNeg x6))) + r8) fun y9 => if x5 ≤ y9 then (bnd (x6 + 1) fun y11 => f4_choose_32  d1 a2  n x3 x4 x5 y11 w7) else (bnd (x6 + 1) fun y12 => f4_choose_32  d1 a2  n x3 x6 y9 y12 w7))))
set_option maxRecDepth 100000 in
set_option maxHeartbeats 4000000 in
theorem t4_choose_32   (d1 : Nat) (a2 : Int32) (hd1 : Ob d1 6)   : ∀ (n : Nat) (x3 : Int32) (x4 : Int32) (x5 : Int32) (x6 : Int32) (w w' : Mem) (r : Int32), f4_choose_32  d1 a2  n x3 x4 x5 x6 w = some (r, w') → Bk yX4_choose cX4_choose 8 (some .int) 61 32 [(0, vR 31 0), (1, vR d1 0), (2, vI a2), (3, vI x3), (4, vI x4), (5, vI x5), (6, vI x6)] [] w (some (vI r)) w' := by
  intro n
  induction n with
  | zero =>
    intro x3 x4 x5 x6 w w' r h
    cases (show (none : Option (Int32 × Mem)) = some _ from h)
  | succ n ih =>
    intro x3 x4 x5 x6 w w' r h
    rw [f4_choose_32] at h
    refine b_iload dX4_choose_32 (k := 6) rfl ?_
    refine b_aload_n dX4_choose_34 rfl (k := 1) rfl ?_
    refine b_getI fl4_48 hd1 rfl dX4_choose_35 ?_
    refine b_icge (tgt := 109) dX4_choose_38 (by decide) (fun c1 => ?_) (fun c1 => ?_)
    · replace h := ifT c1 h
      refine b_iload dX4_choose_109 (k := 4) rfl ?_
      obtain ⟨rfl, rfl⟩ := rtE h
      exact b_iret rfl dX4_choose_111
    · replace h := ifF c1 h
      refine b_iload dX4_choose_41 (k := 6) rfl ?_
      refine b_bipush (v := 8) dX4_choose_43 (by decide) ?_
      refine b_icge (tgt := 109) dX4_choose_45 (by decide) (fun c2 => ?_) (fun c2 => ?_)
      · replace h := ifT c2 h
        refine b_iload dX4_choose_109 (k := 4) rfl ?_
        obtain ⟨rfl, rfl⟩ := rtE h
        exact b_iret rfl dX4_choose_111
      · replace h := ifF c2 h
        refine b_iload_n dX4_choose_48 rfl (k := 3) rfl ?_
        refine b_iload dX4_choose_49 (k := 6) rfl ?_
        refine b_ishr dX4_choose_51 ?_
        refine b_iconst (v := 1) dX4_choose_52 (by decide) ?_
        refine b_iand dX4_choose_53 ?_
        refine b_ifne (tgt := 60) dX4_choose_54 (by decide) (fun c3 => ?_) (fun c3 => ?_)
        · replace h := ifF c3 h
          refine b_aload_n dX4_choose_60 rfl (k := 0) rfl ?_
          refine b_getF fl4_9 ob31 rfl rfl dX4_choose_61 ?_
          refine b_iload_n dX4_choose_64 rfl (k := 2) rfl ?_
          refine b_iload dX4_choose_65 (k := 6) rfl ?_
          obtain ⟨g4, h⟩ := gdE h
          obtain ⟨w5, ew5, h⟩ := nmE h
          refine b_iast ar31_0 g4 rfl dX4_choose_67 ?_
          refine b_nmW ew5 ?_
          refine b_iconst (v := 2) dX4_choose_68 (by decide) ?_
          refine b_aload_n dX4_choose_69 rfl (k := 1) rfl ?_
          refine b_getF fl4_41 hd1 rfl (grC6 hd1 7) dX4_choose_70 ?_
          refine b_iload dX4_choose_73 (k := 6) rfl ?_
          obtain ⟨g6, h⟩ := gdE h
          refine b_iald (arC6_7 hd1) g6 rfl dX4_choose_75 ?_
          refine b_imul dX4_choose_76 ?_
          refine b_aload_n dX4_choose_77 rfl (k := 0) rfl ?_
          refine b_aload_n dX4_choose_78 rfl (k := 1) rfl ?_
          refine b_iload_n dX4_choose_79 rfl (k := 2) rfl ?_
          refine b_iconst (v := 1) dX4_choose_80 (by decide) ?_
          refine b_iadd dX4_choose_81 ?_
          obtain ⟨r8, w7, hw7, h⟩ := bdO h
          refine b_callVi mv4_leastFrom ml4_51 ob31 (s4_leastFrom 24 d1 (a2 + 1) hd1 _ _ _ hw7) rfl (by decide) (by decide) (Nat.le_of_ble_eq_true rfl) rfl dX4_choose_82 ?_
          refine b_iadd dX4_choose_85 ?_
          obtain ⟨y9, ey9, h⟩ := nmE h
          refine b_nmI ey9 ?_
          refine b_istore (lv' := [(7, vI y9), (0, vR 31 0), (1, vR d1 0), (2, vI a2), (3, vI x3), (4, vI x4), (5, vI x5), (6, vI x6)]) dX4_choose_86 (by decide) rfl ?_
          refine b_iload dX4_choose_88 (k := 0) rfl ?_
          refine b_iload dX4_choose_90 (k := 6) rfl ?_
          refine b_icge (tgt := 103) dX4_choose_92 (by decide) (fun c10 => ?_) (fun c10 => ?_)
          · replace h := ifT c10 h
            obtain ⟨y11, ey11, h⟩ := nmE h
            refine b_iinc (v := y11) (lv' := [(6, vI y11), (7, vI y9), (0, vR 31 0), (1, vR d1 0), (2, vI a2), (3, vI x3), (4, vI x4), (5, vI x5)]) dX4_choose_103 (k := 7) rfl ey11.symm (by decide) rfl ?_
            refine b_goto (tgt := 32) dX4_choose_106 (by decide) ?_
            refine b_sub [2, 3, 4, 5, 6, 7, 0] rfl ?_
            exact ih x3 x4 x5 y11 _ _ _ h
          · replace h := ifF c10 h
            refine b_iload dX4_choose_95 (k := 0) rfl ?_
            refine b_istore (lv' := [(5, vI y9), (7, vI y9), (0, vR 31 0), (1, vR d1 0), (2, vI a2), (3, vI x3), (4, vI x4), (6, vI x6)]) dX4_choose_97 (by decide) rfl ?_
            refine b_iload dX4_choose_99 (k := 7) rfl ?_
            refine b_istore (lv' := [(4, vI x6), (5, vI y9), (7, vI y9), (0, vR 31 0), (1, vR d1 0), (2, vI a2), (3, vI x3), (6, vI x6)]) dX4_choose_101 (by decide) rfl ?_
            obtain ⟨y12, ey12, h⟩ := nmE h
            refine b_iinc (v := y12) (lv' := [(6, vI y12), (4, vI x6), (5, vI y9), (7, vI y9), (0, vR 31 0), (1, vR d1 0), (2, vI a2), (3, vI x3)]) dX4_choose_103 (k := 7) rfl ey12.symm (by decide) rfl ?_
            refine b_goto (tgt := 32) dX4_choose_106 (by decide) ?_
            refine b_sub [4, 5, 6, 7, 1, 2, 0] rfl ?_
            exact ih x3 x6 y9 y12 _ _ _ h
        · replace h := ifT c3 h
          refine b_goto (tgt := 103) dX4_choose_57 (by decide) ?_
          obtain ⟨y13, ey13, h⟩ := nmE h
          refine b_iinc (v := y13) (lv' := [(6, vI y13), (0, vR 31 0), (1, vR d1 0), (2, vI a2), (3, vI x3), (4, vI x4), (5, vI x5)]) dX4_choose_103 (k := 6) rfl ey13.symm (by decide) rfl ?_
          refine b_goto (tgt := 32) dX4_choose_106 (by decide) ?_
          refine b_sub [1, 2, 3, 4, 5, 6, 0] rfl ?_
          exact ih x3 x4 x5 y13 _ _ _ h
def f4_choose  (d1 : Nat) (a2 : Int32)   (w : Mem) : Option (Int32 × Mem) :=
  if a2 < 0 then (some ((-1), w)) else (if a2 < 10 then (bndO (f4_freeOn d1 a2 w) fun r4 w3 => f4_choose_32  d1 a2  100000 r4 (-1) 1000000 0 w3) else (some ((-1), w)))
set_option maxRecDepth 100000 in
set_option maxHeartbeats 4000000 in
theorem t4_choose   (d1 : Nat) (a2 : Int32) (hd1 : Ob d1 6)    (w w' : Mem) (r : Int32) (h : f4_choose  d1 a2   w = some (r, w')) : Bk yX4_choose cX4_choose 8 (some .int) 61 0 [(0, vR 31 0), (1, vR d1 0), (2, vI a2)] [] w (some (vI r)) w' := by
  unfold f4_choose at h
  refine b_iload_n dX4_choose_0 rfl (k := 2) rfl ?_
  refine b_iflt (tgt := 13) dX4_choose_1 (by decide) (fun c1 => ?_) (fun c1 => ?_)
  · replace h := ifT c1 h
    refine b_iconst (v := (-1)) dX4_choose_13 (by decide) ?_
    obtain ⟨rfl, rfl⟩ := rtE h
    exact b_iret rfl dX4_choose_14
  · replace h := ifF c1 h
    refine b_iload_n dX4_choose_4 rfl (k := 2) rfl ?_
    refine b_aload_n dX4_choose_5 rfl (k := 0) rfl ?_
    refine b_getF fl4_9 ob31 rfl rfl dX4_choose_6 ?_
    refine b_alen (v := 10) ar31_0 (by decide) (by decide) dX4_choose_9 ?_
    refine b_iclt (tgt := 15) dX4_choose_10 (by decide) (fun c2 => ?_) (fun c2 => ?_)
    · replace h := ifT c2 h
      refine b_aload_n dX4_choose_15 rfl (k := 0) rfl ?_
      refine b_aload_n dX4_choose_16 rfl (k := 1) rfl ?_
      refine b_iload_n dX4_choose_17 rfl (k := 2) rfl ?_
      obtain ⟨r4, w3, hw3, h⟩ := bdO h
      refine b_callVi mv4_freeOn ml4_44 ob31 (s4_freeOn d1 a2 hd1 _ _ _ hw3) rfl (by decide) (by decide) (Nat.le_of_ble_eq_true rfl) rfl dX4_choose_18 ?_
      refine b_istore_n (lv' := [(3, vI r4), (0, vR 31 0), (1, vR d1 0), (2, vI a2)]) dX4_choose_21 rfl (by decide) rfl ?_
      refine b_iconst (v := (-1)) dX4_choose_22 (by decide) ?_
      refine b_istore (lv' := [(4, vI (-1)), (3, vI r4), (0, vR 31 0), (1, vR d1 0), (2, vI a2)]) dX4_choose_23 (by decide) rfl ?_
      refine b_ldc dX4_choose_25 kk4_47 ?_
      refine b_istore (lv' := [(5, vI 1000000), (4, vI (-1)), (3, vI r4), (0, vR 31 0), (1, vR d1 0), (2, vI a2)]) dX4_choose_27 (by decide) rfl ?_
      refine b_iconst (v := 0) dX4_choose_29 (by decide) ?_
      refine b_istore (lv' := [(6, vI 0), (5, vI 1000000), (4, vI (-1)), (3, vI r4), (0, vR 31 0), (1, vR d1 0), (2, vI a2)]) dX4_choose_30 (by decide) rfl ?_
      refine b_sub [4, 5, 6, 3, 2, 1, 0] rfl ?_
      exact t4_choose_32  d1 a2 hd1   100000 r4 (-1) 1000000 0 _ _ _ h
    · replace h := ifF c2 h
      refine b_iconst (v := (-1)) dX4_choose_13 (by decide) ?_
      obtain ⟨rfl, rfl⟩ := rtE h
      exact b_iret rfl dX4_choose_14
theorem s4_choose (d1 : Nat) (a2 : Int32) (hd1 : Ob d1 6) (w w' : Mem) (r : Int32) (h : f4_choose  d1 a2  w = some (r, w')) : Sp yX4_choose cX4_choose 8 (some .int) 61 [vR 31 0, vR d1 0, vI a2] w (some (vI r)) w' := sp_of (by decide) (fun _ => rfl) (fun _ => Nat.le_of_ble_eq_true rfl) (t4_choose  d1 a2 hd1  _ _ _ h)
-- X4_make OneADay$Plan
def f4_make_64  (d1 : Nat) (a2 : Int32) (a3 : Int32)  : Nat → Int32 → Int32 → Mem → Option (Int32 × Mem)
  | 0, _, _, _ => none
  | n + 1, x4, x5, w =>
  if (w.1 31 2 0) ≤ x5 then (some (x4, w)) else (bndO (f4_choose d1 x5 w) fun r3 w2 => if r3 < 0 then (some ((-1), w2)) else (if r3 < 8 then (if x5 < 0 ∨ 10 ≤ Int32.toNatClampNeg x5 then none else bnd (sI w2 31 0 (Int32.toNatClampNeg x5) r3) fun w7 => if r3 < 0 ∨ 8 ≤ Int32.toNatClampNeg r3 then none else bnd (x4 + (2 * (w7.1 d1 7 (Int32.toNatClampNeg r3)))) fun y9 => bnd (x5 + 1) fun y10 => f4_make_64  d1 a2 a3  n y9 y10 w7) else (some ((-1), w2))))
set_option maxRecDepth 100000 in
set_option maxHeartbeats 4000000 in
theorem t4_make_64   (d1 : Nat) (a2 : Int32) (a3 : Int32) (hd1 : Ob d1 6)   : ∀ (n : Nat) (x4 : Int32) (x5 : Int32) (w w' : Mem) (r : Int32), f4_make_64  d1 a2 a3  n x4 x5 w = some (r, w') → Bk yX4_make cX4_make 7 (some .int) 62 64 [(0, vR 31 0), (1, vR d1 0), (4, vI x4), (5, vI x5)] [] w (some (vI r)) w' := by
  intro n
  induction n with
  | zero =>
    intro x4 x5 w w' r h
    cases (show (none : Option (Int32 × Mem)) = some _ from h)
  | succ n ih =>
    intro x4 x5 w w' r h
    rw [f4_make_64] at h
    refine b_iload dX4_make_64 (k := 3) rfl ?_
    refine b_aload_n dX4_make_66 rfl (k := 0) rfl ?_
    refine b_getI fl4_25 ob31 rfl dX4_make_67 ?_
    refine b_icge (tgt := 128) dX4_make_70 (by decide) (fun c1 => ?_) (fun c1 => ?_)
    · replace h := ifT c1 h
      refine b_iload dX4_make_128 (k := 2) rfl ?_
      obtain ⟨rfl, rfl⟩ := rtE h
      exact b_iret rfl dX4_make_130
    · replace h := ifF c1 h
      refine b_aload_n dX4_make_73 rfl (k := 0) rfl ?_
      refine b_aload_n dX4_make_74 rfl (k := 1) rfl ?_
      refine b_iload dX4_make_75 (k := 3) rfl ?_
      obtain ⟨r3, w2, hw2, h⟩ := bdO h
      refine b_callVi mv4_choose ml4_37 ob31 (s4_choose d1 x5 hd1 _ _ _ hw2) rfl (by decide) (by decide) (Nat.le_of_ble_eq_true rfl) rfl dX4_make_77 ?_
      refine b_istore (lv' := [(6, vI r3), (0, vR 31 0), (1, vR d1 0), (4, vI x4), (5, vI x5)]) dX4_make_80 (by decide) rfl ?_
      refine b_iload dX4_make_82 (k := 0) rfl ?_
      refine b_iflt (tgt := 97) dX4_make_84 (by decide) (fun c4 => ?_) (fun c4 => ?_)
      · replace h := ifT c4 h
        refine b_iconst (v := (-1)) dX4_make_97 (by decide) ?_
        obtain ⟨rfl, rfl⟩ := rtE h
        exact b_iret rfl dX4_make_98
      · replace h := ifF c4 h
        refine b_iload dX4_make_87 (k := 0) rfl ?_
        refine b_aload_n dX4_make_89 rfl (k := 2) rfl ?_
        refine b_getF fl4_41 hd1 rfl (grC6 hd1 7) dX4_make_90 ?_
        refine b_alen (v := 8) (arC6_7 hd1) (by decide) (by decide) dX4_make_93 ?_
        refine b_iclt (tgt := 99) dX4_make_94 (by decide) (fun c5 => ?_) (fun c5 => ?_)
        · replace h := ifT c5 h
          refine b_aload_n dX4_make_99 rfl (k := 1) rfl ?_
          refine b_getF fl4_9 ob31 rfl rfl dX4_make_100 ?_
          refine b_iload dX4_make_103 (k := 4) rfl ?_
          refine b_iload dX4_make_105 (k := 0) rfl ?_
          obtain ⟨g6, h⟩ := gdE h
          obtain ⟨w7, ew7, h⟩ := nmE h
          refine b_iast ar31_0 g6 rfl dX4_make_107 ?_
          refine b_nmW ew7 ?_
          refine b_iload dX4_make_108 (k := 3) rfl ?_
          refine b_iconst (v := 2) dX4_make_110 (by decide) ?_
          refine b_aload_n dX4_make_111 rfl (k := 2) rfl ?_
          refine b_getF fl4_41 hd1 rfl (grC6 hd1 7) dX4_make_112 ?_
          refine b_iload dX4_make_115 (k := 0) rfl ?_
          obtain ⟨g8, h⟩ := gdE h
          refine b_iald (arC6_7 hd1) g8 rfl dX4_make_117 ?_
          refine b_imul dX4_make_118 ?_
          refine b_iadd dX4_make_119 ?_
          obtain ⟨y9, ey9, h⟩ := nmE h
          refine b_nmI ey9 ?_
          refine b_istore (lv' := [(4, vI y9), (6, vI r3), (0, vR 31 0), (1, vR d1 0), (5, vI x5)]) dX4_make_120 (by decide) rfl ?_
          obtain ⟨y10, ey10, h⟩ := nmE h
          refine b_iinc (v := y10) (lv' := [(5, vI y10), (4, vI y9), (6, vI r3), (0, vR 31 0), (1, vR d1 0)]) dX4_make_122 (k := 4) rfl ey10.symm (by decide) rfl ?_
          refine b_goto (tgt := 64) dX4_make_125 (by decide) ?_
          refine b_sub [3, 4, 1, 0] rfl ?_
          exact ih y9 y10 _ _ _ h
        · replace h := ifF c5 h
          refine b_iconst (v := (-1)) dX4_make_97 (by decide) ?_
          obtain ⟨rfl, rfl⟩ := rtE h
          exact b_iret rfl dX4_make_98
def f4_make_26  (d1 : Nat) (a2 : Int32) (a3 : Int32)  : Nat → Int32 → Mem → Option (Int32 × Mem)
  | 0, _, _ => none
  | n + 1, x4, w =>
  if (w.1 31 2 0) ≤ x4 then (f4_make_64  d1 a2 a3  100000 0 0 w) else (bndO (f6_isFog d1 (a2 + x4) w) fun r3 w2 => if r3 = 0 then (bnd (x4 + 1) fun y5 => f4_make_26  d1 a2 a3  n y5 w2) else (bnd (sI w2 31 3 0 x4) fun w6 => bnd (x4 + 1) fun y7 => f4_make_26  d1 a2 a3  n y7 w6))
set_option maxRecDepth 100000 in
set_option maxHeartbeats 4000000 in
theorem t4_make_26   (d1 : Nat) (a2 : Int32) (a3 : Int32) (hd1 : Ob d1 6)   : ∀ (n : Nat) (x4 : Int32) (w w' : Mem) (r : Int32), f4_make_26  d1 a2 a3  n x4 w = some (r, w') → Bk yX4_make cX4_make 7 (some .int) 62 26 [(0, vR 31 0), (1, vR d1 0), (2, vI a2), (4, vI x4)] [] w (some (vI r)) w' := by
  intro n
  induction n with
  | zero =>
    intro x4 w w' r h
    cases (show (none : Option (Int32 × Mem)) = some _ from h)
  | succ n ih =>
    intro x4 w w' r h
    rw [f4_make_26] at h
    refine b_iload dX4_make_26 (k := 3) rfl ?_
    refine b_aload_n dX4_make_28 rfl (k := 0) rfl ?_
    refine b_getI fl4_25 ob31 rfl dX4_make_29 ?_
    refine b_icge (tgt := 58) dX4_make_32 (by decide) (fun c1 => ?_) (fun c1 => ?_)
    · replace h := ifT c1 h
      refine b_iconst (v := 0) dX4_make_58 (by decide) ?_
      refine b_istore (lv' := [(4, vI 0), (0, vR 31 0), (1, vR d1 0), (2, vI a2)]) dX4_make_59 (by decide) rfl ?_
      refine b_iconst (v := 0) dX4_make_61 (by decide) ?_
      refine b_istore (lv' := [(5, vI 0), (4, vI 0), (0, vR 31 0), (1, vR d1 0), (2, vI a2)]) dX4_make_62 (by decide) rfl ?_
      refine b_sub [2, 3, 1, 0] rfl ?_
      exact t4_make_64  d1 a2 a3 hd1   100000 0 0 _ _ _ h
    · replace h := ifF c1 h
      refine b_aload_n dX4_make_35 rfl (k := 1) rfl ?_
      refine b_iload_n dX4_make_36 rfl (k := 2) rfl ?_
      refine b_iload dX4_make_37 (k := 3) rfl ?_
      refine b_iadd dX4_make_39 ?_
      obtain ⟨r3, w2, hw2, h⟩ := bdO h
      refine b_callVi mv6_isFog ml4_31 hd1 (s6_isFog d1 (a2 + x4) hd1 _ _ _ hw2) rfl (by decide) (by decide) (Nat.le_of_ble_eq_true rfl) rfl dX4_make_40 ?_
      refine b_ifeq (tgt := 52) dX4_make_43 (by decide) (fun c4 => ?_) (fun c4 => ?_)
      · replace h := ifT c4 h
        obtain ⟨y5, ey5, h⟩ := nmE h
        refine b_iinc (v := y5) (lv' := [(4, vI y5), (0, vR 31 0), (1, vR d1 0), (2, vI a2)]) dX4_make_52 (k := 3) rfl ey5.symm (by decide) rfl ?_
        refine b_goto (tgt := 26) dX4_make_55 (by decide) ?_
        refine b_sub [1, 2, 3, 0] rfl ?_
        exact ih y5 _ _ _ h
      · replace h := ifF c4 h
        refine b_aload_n dX4_make_46 rfl (k := 0) rfl ?_
        refine b_iload dX4_make_47 (k := 3) rfl ?_
        obtain ⟨w6, ew6, h⟩ := nmE h
        refine b_putI fw4_28 ob31 rfl dX4_make_49 ?_
        refine b_nmW ew6 ?_
        obtain ⟨y7, ey7, h⟩ := nmE h
        refine b_iinc (v := y7) (lv' := [(4, vI y7), (0, vR 31 0), (1, vR d1 0), (2, vI a2)]) dX4_make_52 (k := 3) rfl ey7.symm (by decide) rfl ?_
        refine b_goto (tgt := 26) dX4_make_55 (by decide) ?_
        refine b_sub [1, 2, 3, 0] rfl ?_
        exact ih y7 _ _ _ h
def f4_make  (d1 : Nat) (a2 : Int32) (a3 : Int32)   (w : Mem) : Option (Int32 × Mem) :=
  bnd (sI w 31 1 0 a2) fun w1 => bnd (sI w1 31 2 0 (jmin a3 10)) fun w2 => bnd (sI w2 31 3 0 (-1)) fun w3 => f4_make_26  d1 a2 a3  100000 0 w3
set_option maxRecDepth 100000 in
set_option maxHeartbeats 4000000 in
theorem t4_make   (d1 : Nat) (a2 : Int32) (a3 : Int32) (hd1 : Ob d1 6)    (w w' : Mem) (r : Int32) (h : f4_make  d1 a2 a3   w = some (r, w')) : Bk yX4_make cX4_make 7 (some .int) 62 0 [(0, vR 31 0), (1, vR d1 0), (2, vI a2), (3, vI a3)] [] w (some (vI r)) w' := by
  unfold f4_make at h
  refine b_aload_n dX4_make_0 rfl (k := 0) rfl ?_
  refine b_iload_n dX4_make_1 rfl (k := 2) rfl ?_
  obtain ⟨w1, ew1, h⟩ := nmE h
  refine b_putI fw4_15 ob31 rfl dX4_make_2 ?_
  refine b_nmW ew1 ?_
  refine b_aload_n dX4_make_5 rfl (k := 0) rfl ?_
  refine b_iload_n dX4_make_6 rfl (k := 3) rfl ?_
  refine b_aload_n dX4_make_7 rfl (k := 0) rfl ?_
  refine b_getF fl4_9 ob31 rfl rfl dX4_make_8 ?_
  refine b_alen (v := 10) ar31_0 (by decide) (by decide) dX4_make_11 ?_
  refine b_mmin ml4_19 (Nat.le_of_ble_eq_true rfl) (by first | decide | omega) dX4_make_12 ?_
  obtain ⟨w2, ew2, h⟩ := nmE h
  refine b_putI fw4_25 ob31 rfl dX4_make_15 ?_
  refine b_nmW ew2 ?_
  refine b_aload_n dX4_make_18 rfl (k := 0) rfl ?_
  refine b_iconst (v := (-1)) dX4_make_19 (by decide) ?_
  obtain ⟨w3, ew3, h⟩ := nmE h
  refine b_putI fw4_28 ob31 rfl dX4_make_20 ?_
  refine b_nmW ew3 ?_
  refine b_iconst (v := 0) dX4_make_23 (by decide) ?_
  refine b_istore (lv' := [(4, vI 0), (0, vR 31 0), (1, vR d1 0), (2, vI a2), (3, vI a3)]) dX4_make_24 (by decide) rfl ?_
  refine b_sub [1, 2, 3, 0] rfl ?_
  exact t4_make_26  d1 a2 a3 hd1   100000 0 _ _ _ h
theorem s4_make (d1 : Nat) (a2 : Int32) (a3 : Int32) (hd1 : Ob d1 6) (w w' : Mem) (r : Int32) (h : f4_make  d1 a2 a3  w = some (r, w')) : Sp yX4_make cX4_make 7 (some .int) 62 [vR 31 0, vR d1 0, vI a2, vI a3] w (some (vI r)) w' := sp_of (by decide) (fun _ => rfl) (fun _ => Nat.le_of_ble_eq_true rfl) (t4_make  d1 a2 a3 hd1  _ _ _ h)
-- X5_blame OneADay$Reader
def f5_blame  (a1 : Int32) (a2 : Int32)   (w : Mem) : Option Mem :=
  if (w.1 27 2 0) = 0 then (bnd (sI w 27 2 0 a1) fun w2 => bnd (sI w2 27 4 0 a2) fun w3 => some w3) else (some w)
set_option maxRecDepth 100000 in
set_option maxHeartbeats 4000000 in
theorem t5_blame   (a1 : Int32) (a2 : Int32)     (w w' : Mem) (h : f5_blame  a1 a2   w = some w') : Bk yX5_blame cX5_blame 3 none 1 0 [(0, vR 27 0), (1, vI a1), (2, vI a2)] [] w none w' := by
  unfold f5_blame at h
  refine b_aload_n dX5_blame_0 rfl (k := 0) rfl ?_
  refine b_getI fl5_28 ob27 rfl dX5_blame_1 ?_
  refine b_ifeq (tgt := 8) dX5_blame_4 (by decide) (fun c1 => ?_) (fun c1 => ?_)
  · replace h := ifT c1 h
    refine b_aload_n dX5_blame_8 rfl (k := 0) rfl ?_
    refine b_iload_n dX5_blame_9 rfl (k := 1) rfl ?_
    obtain ⟨w2, ew2, h⟩ := nmE h
    refine b_putI fw5_28 ob27 rfl dX5_blame_10 ?_
    refine b_nmW ew2 ?_
    refine b_aload_n dX5_blame_13 rfl (k := 0) rfl ?_
    refine b_iload_n dX5_blame_14 rfl (k := 2) rfl ?_
    obtain ⟨w3, ew3, h⟩ := nmE h
    refine b_putI fw5_25 ob27 rfl dX5_blame_15 ?_
    refine b_nmW ew3 ?_
    cases h
    exact b_vret rfl dX5_blame_18
  · replace h := ifF c1 h
    cases h
    exact b_vret rfl dX5_blame_7
theorem s5_blame (a1 : Int32) (a2 : Int32)  (w w' : Mem) (h : f5_blame  a1 a2  w = some w') : Sp yX5_blame cX5_blame 3 none 1 [vR 27 0, vI a1, vI a2] w none w' := sp_of (by decide) (fun _ => rfl) (fun _ => Nat.le_of_ble_eq_true rfl) (t5_blame  a1 a2   _ _  h)
-- X5_isTooMany OneADay$Reader
def f5_isTooMany_49  (d0 : Nat) (a1 : Int32)  (s0 : Int32) (w : Mem) : Option (Int32 × Mem) :=
  if s0 < 8 then (some (0, w)) else (some (1, w))
set_option maxRecDepth 100000 in
set_option maxHeartbeats 4000000 in
theorem t5_isTooMany_49   (d0 : Nat) (a1 : Int32) (hd0 : Ob d0 6)   (s0 : Int32) (w w' : Mem) (r : Int32) (h : f5_isTooMany_49  d0 a1  s0 w = some (r, w')) : Bk yX5_isTooMany cX5_isTooMany 2 (some .boolean) 1 49 [] [vI s0] w (some (vI r)) w' := by
  unfold f5_isTooMany_49 at h
  refine b_bipush (v := 8) dX5_isTooMany_49 (by decide) ?_
  refine b_iclt (tgt := 58) dX5_isTooMany_51 (by decide) (fun c1 => ?_) (fun c1 => ?_)
  · replace h := ifT c1 h
    refine b_iconst (v := 0) dX5_isTooMany_58 (by decide) ?_
    obtain ⟨rfl, rfl⟩ := rtE h
    exact b_zret rfl (by decide) dX5_isTooMany_59
  · replace h := ifF c1 h
    refine b_iconst (v := 1) dX5_isTooMany_54 (by decide) ?_
    refine b_goto (tgt := 59) dX5_isTooMany_55 (by decide) ?_
    obtain ⟨rfl, rfl⟩ := rtE h
    exact b_zret rfl (by decide) dX5_isTooMany_59
def f5_isTooMany  (d0 : Nat) (a1 : Int32)   (w : Mem) : Option (Int32 × Mem) :=
  if a1 = 104 then (if ¬ (w.1 d0 0 0) &&& 1 = (w.1 d0 0 0) then none else some (w.1 d0 0 0, w)) else (if a1 = 118 then (if (w.1 d0 4 0) < 8 then (some (0, w)) else (some (1, w))) else (if a1 = 102 then (f5_isTooMany_49  d0 a1  (w.1 d0 5 0) w) else (f5_isTooMany_49  d0 a1  (w.1 d0 6 0) w)))
set_option maxRecDepth 100000 in
set_option maxHeartbeats 4000000 in
theorem t5_isTooMany   (d0 : Nat) (a1 : Int32) (hd0 : Ob d0 6)    (w w' : Mem) (r : Int32) (h : f5_isTooMany  d0 a1   w = some (r, w')) : Bk yX5_isTooMany cX5_isTooMany 2 (some .boolean) 1 0 [(0, vR d0 0), (1, vI a1)] [] w (some (vI r)) w' := by
  unfold f5_isTooMany at h
  refine b_iload_n dX5_isTooMany_0 rfl (k := 1) rfl ?_
  refine b_bipush (v := 104) dX5_isTooMany_1 (by decide) ?_
  refine b_icne (tgt := 11) dX5_isTooMany_3 (by decide) (fun c1 => ?_) (fun c1 => ?_)
  · replace h := ifF c1 h
    refine b_iload_n dX5_isTooMany_11 rfl (k := 1) rfl ?_
    refine b_bipush (v := 118) dX5_isTooMany_12 (by decide) ?_
    refine b_icne (tgt := 32) dX5_isTooMany_14 (by decide) (fun c2 => ?_) (fun c2 => ?_)
    · replace h := ifF c2 h
      refine b_iload_n dX5_isTooMany_32 rfl (k := 1) rfl ?_
      refine b_bipush (v := 102) dX5_isTooMany_33 (by decide) ?_
      refine b_icne (tgt := 45) dX5_isTooMany_35 (by decide) (fun c3 => ?_) (fun c3 => ?_)
      · replace h := ifF c3 h
        refine b_aload_n dX5_isTooMany_45 rfl (k := 0) rfl ?_
        refine b_getI fl5_80 hd0 rfl dX5_isTooMany_46 ?_
        refine b_sub [] rfl ?_
        exact t5_isTooMany_49  d0 a1 hd0   (w.1 d0 6 0) _ _ _ h
      · replace h := ifT c3 h
        refine b_aload_n dX5_isTooMany_38 rfl (k := 0) rfl ?_
        refine b_getI fl5_69 hd0 rfl dX5_isTooMany_39 ?_
        refine b_goto (tgt := 49) dX5_isTooMany_42 (by decide) ?_
        refine b_sub [] rfl ?_
        exact t5_isTooMany_49  d0 a1 hd0   (w.1 d0 5 0) _ _ _ h
    · replace h := ifT c2 h
      refine b_aload_n dX5_isTooMany_17 rfl (k := 0) rfl ?_
      refine b_getI fl5_89 hd0 rfl dX5_isTooMany_18 ?_
      refine b_bipush (v := 8) dX5_isTooMany_21 (by decide) ?_
      refine b_iclt (tgt := 30) dX5_isTooMany_23 (by decide) (fun c4 => ?_) (fun c4 => ?_)
      · replace h := ifT c4 h
        refine b_iconst (v := 0) dX5_isTooMany_30 (by decide) ?_
        obtain ⟨rfl, rfl⟩ := rtE h
        exact b_zret rfl (by decide) dX5_isTooMany_31
      · replace h := ifF c4 h
        refine b_iconst (v := 1) dX5_isTooMany_26 (by decide) ?_
        refine b_goto (tgt := 31) dX5_isTooMany_27 (by decide) ?_
        obtain ⟨rfl, rfl⟩ := rtE h
        exact b_zret rfl (by decide) dX5_isTooMany_31
  · replace h := ifT c1 h
    refine b_aload_n dX5_isTooMany_6 rfl (k := 0) rfl ?_
    refine b_getI fl5_51 hd0 rfl dX5_isTooMany_7 ?_
    obtain ⟨g5, h⟩ := gdE h
    obtain ⟨rfl, rfl⟩ := rtE h
    exact b_zret rfl (Decidable.not_not.mp g5) dX5_isTooMany_10
theorem s5_isTooMany (d0 : Nat) (a1 : Int32) (hd0 : Ob d0 6) (w w' : Mem) (r : Int32) (h : f5_isTooMany  d0 a1  w = some (r, w')) : Sp yX5_isTooMany cX5_isTooMany 2 (some .boolean) 1 [vR d0 0, vI a1] w (some (vI r)) w' := sp_of (by decide) (fun _ => rfl) (fun _ => Nat.le_of_ble_eq_true rfl) (t5_isTooMany  d0 a1 hd0  _ _ _ h)
