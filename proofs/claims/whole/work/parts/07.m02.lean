-- X0_meetsOneBefore OneADay$Cover
def f0_meetsOneBefore_3  (d0 : Nat) (a1 : Int32) (a2 : Int32) (a3 : Int32)  : Nat → Int32 → Mem → Option (Int32 × Mem)
  | 0, _, _ => none
  | n + 1, x5, w =>
  if a2 ≤ x5 then (some (0, w)) else (if 8 ≤ x5 then (some (0, w)) else (if ((jshr a1 x5) &&& 1) = 0 then (bnd (x5 + 1) fun y14 => f0_meetsOneBefore_3  d0 a1 a2 a3  n y14 w) else (bndO (f6_periodOf d0 x5 w) fun r5 w4 => bndO (f6_periodOf d0 a2 w4) fun r7 w6 => bndO (f0_commonDivisor r5 r7 w6) fun r9 w8 => if x5 < 0 ∨ 8 ≤ Int32.toNatClampNeg x5 then none else if r9 = 0 then none else if (jrem (a3 - (w8.1 30 0 (Int32.toNatClampNeg x5))) r9) = 0 then (some (1, w8)) else (bnd (x5 + 1) fun y13 => f0_meetsOneBefore_3  d0 a1 a2 a3  n y13 w8))))
set_option maxRecDepth 100000 in
set_option maxHeartbeats 4000000 in
theorem t0_meetsOneBefore_3   (d0 : Nat) (a1 : Int32) (a2 : Int32) (a3 : Int32) (hd0 : Ob d0 6)   : ∀ (n : Nat) (x5 : Int32) (w w' : Mem) (r : Int32), f0_meetsOneBefore_3  d0 a1 a2 a3  n x5 w = some (r, w') → Bk yX0_meetsOneBefore cX0_meetsOneBefore 7 (some .boolean) 3 3 [(0, vR d0 0), (1, vI a1), (2, vI a2), (3, vI a3), (4, vR 30 1), (5, vI x5)] [] w (some (vI r)) w' := by
  intro n
  induction n with
  | zero =>
    intro x5 w w' r h
    cases (show (none : Option (Int32 × Mem)) = some _ from h)
  | succ n ih =>
    intro x5 w w' r h
    rw [f0_meetsOneBefore_3] at h
    refine b_iload dX0_meetsOneBefore_3 (k := 5) rfl ?_
    refine b_iload_n dX0_meetsOneBefore_5 rfl (k := 2) rfl ?_
    refine b_icge (tgt := 66) dX0_meetsOneBefore_6 (by decide) (fun c1 => ?_) (fun c1 => ?_)
    · replace h := ifT c1 h
      refine b_iconst (v := 0) dX0_meetsOneBefore_66 (by decide) ?_
      obtain ⟨rfl, rfl⟩ := rtE h
      exact b_zret rfl (by decide) dX0_meetsOneBefore_67
    · replace h := ifF c1 h
      refine b_iload dX0_meetsOneBefore_9 (k := 5) rfl ?_
      refine b_aload dX0_meetsOneBefore_11 (k := 4) rfl ?_
      refine b_alen (v := 8) ar30_0 (by decide) (by decide) dX0_meetsOneBefore_13 ?_
      refine b_icge (tgt := 66) dX0_meetsOneBefore_14 (by decide) (fun c2 => ?_) (fun c2 => ?_)
      · replace h := ifT c2 h
        refine b_iconst (v := 0) dX0_meetsOneBefore_66 (by decide) ?_
        obtain ⟨rfl, rfl⟩ := rtE h
        exact b_zret rfl (by decide) dX0_meetsOneBefore_67
      · replace h := ifF c2 h
        refine b_iload_n dX0_meetsOneBefore_17 rfl (k := 1) rfl ?_
        refine b_iload dX0_meetsOneBefore_18 (k := 5) rfl ?_
        refine b_ishr dX0_meetsOneBefore_20 ?_
        refine b_iconst (v := 1) dX0_meetsOneBefore_21 (by decide) ?_
        refine b_iand dX0_meetsOneBefore_22 ?_
        refine b_ifne (tgt := 29) dX0_meetsOneBefore_23 (by decide) (fun c3 => ?_) (fun c3 => ?_)
        · replace h := ifF c3 h
          refine b_aload_n dX0_meetsOneBefore_29 rfl (k := 0) rfl ?_
          refine b_iload dX0_meetsOneBefore_30 (k := 5) rfl ?_
          obtain ⟨r5, w4, hw4, h⟩ := bdO h
          refine b_callVi mv6_periodOf ml0_32 hd0 (s6_periodOf d0 x5 hd0 _ _ _ hw4) rfl (by decide) (by decide) (Nat.le_of_ble_eq_true rfl) rfl dX0_meetsOneBefore_32 ?_
          refine b_aload_n dX0_meetsOneBefore_35 rfl (k := 0) rfl ?_
          refine b_iload_n dX0_meetsOneBefore_36 rfl (k := 2) rfl ?_
          obtain ⟨r7, w6, hw6, h⟩ := bdO h
          refine b_callVi mv6_periodOf ml0_32 hd0 (s6_periodOf d0 a2 hd0 _ _ _ hw6) rfl (by decide) (by decide) (Nat.le_of_ble_eq_true rfl) rfl dX0_meetsOneBefore_37 ?_
          obtain ⟨r9, w8, hw8, h⟩ := bdO h
          refine b_callSi ms0_commonDivisor ml0_36 (s0_commonDivisor r5 r7  _ _ _ hw8) rfl (by decide) (by decide) (Nat.le_of_ble_eq_true rfl) rfl dX0_meetsOneBefore_40 ?_
          refine b_istore (lv' := [(6, vI r9), (0, vR d0 0), (1, vI a1), (2, vI a2), (3, vI a3), (4, vR 30 1), (5, vI x5)]) dX0_meetsOneBefore_43 (by decide) rfl ?_
          refine b_iload_n dX0_meetsOneBefore_45 rfl (k := 4) rfl ?_
          refine b_aload dX0_meetsOneBefore_46 (k := 5) rfl ?_
          refine b_iload dX0_meetsOneBefore_48 (k := 6) rfl ?_
          obtain ⟨g10, h⟩ := gdE h
          refine b_iald ar30_0 g10 rfl dX0_meetsOneBefore_50 ?_
          refine b_isub dX0_meetsOneBefore_51 ?_
          refine b_iload dX0_meetsOneBefore_52 (k := 0) rfl ?_
          obtain ⟨g11, h⟩ := gdE h
          refine b_irem dX0_meetsOneBefore_54 g11 ?_
          refine b_ifne (tgt := 60) dX0_meetsOneBefore_55 (by decide) (fun c12 => ?_) (fun c12 => ?_)
          · replace h := ifF c12 h
            obtain ⟨y13, ey13, h⟩ := nmE h
            refine b_iinc (v := y13) (lv' := [(5, vI y13), (6, vI r9), (0, vR d0 0), (1, vI a1), (2, vI a2), (3, vI a3), (4, vR 30 1)]) dX0_meetsOneBefore_60 (k := 6) rfl ey13.symm (by decide) rfl ?_
            refine b_goto (tgt := 3) dX0_meetsOneBefore_63 (by decide) ?_
            refine b_sub [2, 3, 4, 5, 6, 0] rfl ?_
            exact ih y13 _ _ _ h
          · replace h := ifT c12 h
            refine b_iconst (v := 1) dX0_meetsOneBefore_58 (by decide) ?_
            obtain ⟨rfl, rfl⟩ := rtE h
            exact b_zret rfl (by decide) dX0_meetsOneBefore_59
        · replace h := ifT c3 h
          refine b_goto (tgt := 60) dX0_meetsOneBefore_26 (by decide) ?_
          obtain ⟨y14, ey14, h⟩ := nmE h
          refine b_iinc (v := y14) (lv' := [(5, vI y14), (0, vR d0 0), (1, vI a1), (2, vI a2), (3, vI a3), (4, vR 30 1)]) dX0_meetsOneBefore_60 (k := 5) rfl ey14.symm (by decide) rfl ?_
          refine b_goto (tgt := 3) dX0_meetsOneBefore_63 (by decide) ?_
          refine b_sub [1, 2, 3, 4, 5, 0] rfl ?_
          exact ih y14 _ _ _ h
def f0_meetsOneBefore  (d0 : Nat) (a1 : Int32) (a2 : Int32) (a3 : Int32)   (w : Mem) : Option (Int32 × Mem) :=
  f0_meetsOneBefore_3  d0 a1 a2 a3  100000 0 w
set_option maxRecDepth 100000 in
set_option maxHeartbeats 4000000 in
theorem t0_meetsOneBefore   (d0 : Nat) (a1 : Int32) (a2 : Int32) (a3 : Int32) (hd0 : Ob d0 6)    (w w' : Mem) (r : Int32) (h : f0_meetsOneBefore  d0 a1 a2 a3   w = some (r, w')) : Bk yX0_meetsOneBefore cX0_meetsOneBefore 7 (some .boolean) 3 0 [(0, vR d0 0), (1, vI a1), (2, vI a2), (3, vI a3), (4, vR 30 1)] [] w (some (vI r)) w' := by
  unfold f0_meetsOneBefore at h
  refine b_iconst (v := 0) dX0_meetsOneBefore_0 (by decide) ?_
  refine b_istore (lv' := [(5, vI 0), (0, vR d0 0), (1, vI a1), (2, vI a2), (3, vI a3), (4, vR 30 1)]) dX0_meetsOneBefore_1 (by decide) rfl ?_
  refine b_sub [1, 2, 3, 4, 5, 0] rfl ?_
  exact t0_meetsOneBefore_3  d0 a1 a2 a3 hd0   100000 0 _ _ _ h
theorem s0_meetsOneBefore (d0 : Nat) (a1 : Int32) (a2 : Int32) (a3 : Int32) (hd0 : Ob d0 6) (w w' : Mem) (r : Int32) (h : f0_meetsOneBefore  d0 a1 a2 a3  w = some (r, w')) : Sp yX0_meetsOneBefore cX0_meetsOneBefore 7 (some .boolean) 3 [vR d0 0, vI a1, vI a2, vI a3, vR 30 1] w (some (vI r)) w' := sp_of (by decide) (fun _ => rfl) (fun _ => Nat.le_of_ble_eq_true rfl) (t0_meetsOneBefore  d0 a1 a2 a3 hd0  _ _ _ h)
-- X0_place OneADay$Cover
def f0_place_41 (self : Nat → Int32 → Int32 → Mem → Option (Int32 × Mem)) (d0 : Nat) (a1 : Int32) (a2 : Int32)  : Nat → Int32 → Mem → Option (Int32 × Mem)
  | 0, _, _ => none
  | n + 1, x4, w =>
  bndO (f6_periodOf d0 a2 w) fun r2 w1 => if r2 ≤ x4 then (some (0, w1)) else (bndO (f0_meetsOneBefore d0 a1 a2 x4 w1) fun r5 w4 => if r5 = 0 then (if a2 < 0 ∨ 8 ≤ Int32.toNatClampNeg a2 then none else bnd (sI w4 30 0 (Int32.toNatClampNeg a2) x4) fun w8 => bndO (self d0 a1 (a2 + 1) w8) fun r10 w9 => if r10 = 0 then (bnd (x4 + 1) fun y12 => f0_place_41 self d0 a1 a2  n y12 w9) else (some (1, w9))) else (bnd (x4 + 1) fun y13 => f0_place_41 self d0 a1 a2  n y13 w4))
set_option maxRecDepth 100000 in
set_option maxHeartbeats 4000000 in
theorem t0_place_41 (self : Nat → Int32 → Int32 → Mem → Option (Int32 × Mem)) (ds dp : Nat) (hdp : ds + 1 ≤ dp) (hdc : 12 ≤ ds) (hself : ∀ (d0 : Nat) (a1 : Int32) (a2 : Int32) (hd0 : Ob d0 6) (w w' : Mem) (r : Int32), self d0 a1 a2 w = some (r, w') → Sp yX0_place cX0_place 5 (some .boolean) ds [vR d0 0, vI a1, vI a2, vR 30 1] w (some (vI r)) w') (d0 : Nat) (a1 : Int32) (a2 : Int32) (hd0 : Ob d0 6)   : ∀ (n : Nat) (x4 : Int32) (w w' : Mem) (r : Int32), f0_place_41 self d0 a1 a2  n x4 w = some (r, w') → Bk yX0_place cX0_place 5 (some .boolean) dp 41 [(0, vR d0 0), (1, vI a1), (2, vI a2), (3, vR 30 1), (4, vI x4)] [] w (some (vI r)) w' := by
  intro n
  induction n with
  | zero =>
    intro x4 w w' r h
    cases (show (none : Option (Int32 × Mem)) = some _ from h)
  | succ n ih =>
    intro x4 w w' r h
    rw [f0_place_41] at h
    refine b_iload dX0_place_41 (k := 4) rfl ?_
    refine b_aload_n dX0_place_43 rfl (k := 0) rfl ?_
    refine b_iload_n dX0_place_44 rfl (k := 2) rfl ?_
    obtain ⟨r2, w1, hw1, h⟩ := bdO h
    refine b_callVi mv6_periodOf ml0_32 hd0 (s6_periodOf d0 a2 hd0 _ _ _ hw1) rfl (by omega) (by decide) (Nat.le_of_ble_eq_true rfl) rfl dX0_place_45 ?_
    refine b_icge (tgt := 91) dX0_place_48 (by decide) (fun c3 => ?_) (fun c3 => ?_)
    · replace h := ifT c3 h
      refine b_iconst (v := 0) dX0_place_91 (by decide) ?_
      obtain ⟨rfl, rfl⟩ := rtE h
      exact b_zret rfl (by decide) dX0_place_92
    · replace h := ifF c3 h
      refine b_aload_n dX0_place_51 rfl (k := 0) rfl ?_
      refine b_iload_n dX0_place_52 rfl (k := 1) rfl ?_
      refine b_iload_n dX0_place_53 rfl (k := 2) rfl ?_
      refine b_iload dX0_place_54 (k := 4) rfl ?_
      refine b_aload_n dX0_place_56 rfl (k := 3) rfl ?_
      obtain ⟨r5, w4, hw4, h⟩ := bdO h
      refine b_callSi ms0_meetsOneBefore ml0_40 (s0_meetsOneBefore d0 a1 a2 x4 hd0 _ _ _ hw4) rfl (by omega) (by decide) (Nat.le_of_ble_eq_true rfl) rfl dX0_place_57 ?_
      refine b_ifeq (tgt := 66) dX0_place_60 (by decide) (fun c6 => ?_) (fun c6 => ?_)
      · replace h := ifT c6 h
        refine b_aload_n dX0_place_66 rfl (k := 3) rfl ?_
        refine b_iload_n dX0_place_67 rfl (k := 2) rfl ?_
        refine b_iload dX0_place_68 (k := 4) rfl ?_
        obtain ⟨g7, h⟩ := gdE h
        obtain ⟨w8, ew8, h⟩ := nmE h
        refine b_iast ar30_0 g7 rfl dX0_place_70 ?_
        refine b_nmW ew8 ?_
        refine b_aload_n dX0_place_71 rfl (k := 0) rfl ?_
        refine b_iload_n dX0_place_72 rfl (k := 1) rfl ?_
        refine b_iload_n dX0_place_73 rfl (k := 2) rfl ?_
        refine b_iconst (v := 1) dX0_place_74 (by decide) ?_
        refine b_iadd dX0_place_75 ?_
        refine b_aload_n dX0_place_76 rfl (k := 3) rfl ?_
        obtain ⟨r10, w9, hw9, h⟩ := bdO h
        refine b_callSi ms0_place ml0_22 (hself d0 a1 (a2 + 1) hd0 _ _ _ hw9) rfl (by omega) (by decide) (Nat.le_of_ble_eq_true rfl) rfl dX0_place_77 ?_
        refine b_ifeq (tgt := 85) dX0_place_80 (by decide) (fun c11 => ?_) (fun c11 => ?_)
        · replace h := ifT c11 h
          obtain ⟨y12, ey12, h⟩ := nmE h
          refine b_iinc (v := y12) (lv' := [(4, vI y12), (0, vR d0 0), (1, vI a1), (2, vI a2), (3, vR 30 1)]) dX0_place_85 (k := 4) rfl ey12.symm (by decide) rfl ?_
          refine b_goto (tgt := 41) dX0_place_88 (by decide) ?_
          refine b_sub [1, 2, 3, 4, 0] rfl ?_
          exact ih y12 _ _ _ h
        · replace h := ifF c11 h
          refine b_iconst (v := 1) dX0_place_83 (by decide) ?_
          obtain ⟨rfl, rfl⟩ := rtE h
          exact b_zret rfl (by decide) dX0_place_84
      · replace h := ifF c6 h
        refine b_goto (tgt := 85) dX0_place_63 (by decide) ?_
        obtain ⟨y13, ey13, h⟩ := nmE h
        refine b_iinc (v := y13) (lv' := [(4, vI y13), (0, vR d0 0), (1, vI a1), (2, vI a2), (3, vR 30 1)]) dX0_place_85 (k := 4) rfl ey13.symm (by decide) rfl ?_
        refine b_goto (tgt := 41) dX0_place_88 (by decide) ?_
        refine b_sub [1, 2, 3, 4, 0] rfl ?_
        exact ih y13 _ _ _ h
def f0_placeB (self : Nat → Int32 → Int32 → Mem → Option (Int32 × Mem)) (d0 : Nat) (a1 : Int32) (a2 : Int32)   (w : Mem) : Option (Int32 × Mem) :=
  if a2 < 0 then (some (1, w)) else (if (w.1 d0 4 0) ≤ a2 then (some (1, w)) else (if a2 < 8 then (if ((jshr a1 a2) &&& 1) = 0 then (bndO (self d0 a1 (a2 + 1) w) fun r6 w5 => if ¬ r6 &&& 1 = r6 then none else some (r6, w5)) else (f0_place_41 self d0 a1 a2  100000 0 w)) else (some (1, w))))
set_option maxRecDepth 100000 in
set_option maxHeartbeats 4000000 in
theorem t0_placeB (self : Nat → Int32 → Int32 → Mem → Option (Int32 × Mem)) (ds dp : Nat) (hdp : ds + 1 ≤ dp) (hdc : 12 ≤ ds) (hself : ∀ (d0 : Nat) (a1 : Int32) (a2 : Int32) (hd0 : Ob d0 6) (w w' : Mem) (r : Int32), self d0 a1 a2 w = some (r, w') → Sp yX0_place cX0_place 5 (some .boolean) ds [vR d0 0, vI a1, vI a2, vR 30 1] w (some (vI r)) w') (d0 : Nat) (a1 : Int32) (a2 : Int32) (hd0 : Ob d0 6)    (w w' : Mem) (r : Int32) (h : f0_placeB self d0 a1 a2   w = some (r, w')) : Bk yX0_place cX0_place 5 (some .boolean) dp 0 [(0, vR d0 0), (1, vI a1), (2, vI a2), (3, vR 30 1)] [] w (some (vI r)) w' := by
  unfold f0_placeB at h
  refine b_iload_n dX0_place_0 rfl (k := 2) rfl ?_
  refine b_iflt (tgt := 18) dX0_place_1 (by decide) (fun c1 => ?_) (fun c1 => ?_)
  · replace h := ifT c1 h
    refine b_iconst (v := 1) dX0_place_18 (by decide) ?_
    obtain ⟨rfl, rfl⟩ := rtE h
    exact b_zret rfl (by decide) dX0_place_19
  · replace h := ifF c1 h
    refine b_iload_n dX0_place_4 rfl (k := 2) rfl ?_
    refine b_aload_n dX0_place_5 rfl (k := 0) rfl ?_
    refine b_getI fl0_26 hd0 rfl dX0_place_6 ?_
    refine b_icge (tgt := 18) dX0_place_9 (by decide) (fun c2 => ?_) (fun c2 => ?_)
    · replace h := ifT c2 h
      refine b_iconst (v := 1) dX0_place_18 (by decide) ?_
      obtain ⟨rfl, rfl⟩ := rtE h
      exact b_zret rfl (by decide) dX0_place_19
    · replace h := ifF c2 h
      refine b_iload_n dX0_place_12 rfl (k := 2) rfl ?_
      refine b_aload_n dX0_place_13 rfl (k := 3) rfl ?_
      refine b_alen (v := 8) ar30_0 (by decide) (by decide) dX0_place_14 ?_
      refine b_iclt (tgt := 20) dX0_place_15 (by decide) (fun c3 => ?_) (fun c3 => ?_)
      · replace h := ifT c3 h
        refine b_iload_n dX0_place_20 rfl (k := 1) rfl ?_
        refine b_iload_n dX0_place_21 rfl (k := 2) rfl ?_
        refine b_ishr dX0_place_22 ?_
        refine b_iconst (v := 1) dX0_place_23 (by decide) ?_
        refine b_iand dX0_place_24 ?_
        refine b_ifne (tgt := 38) dX0_place_25 (by decide) (fun c4 => ?_) (fun c4 => ?_)
        · replace h := ifF c4 h
          refine b_iconst (v := 0) dX0_place_38 (by decide) ?_
          refine b_istore (lv' := [(4, vI 0), (0, vR d0 0), (1, vI a1), (2, vI a2), (3, vR 30 1)]) dX0_place_39 (by decide) rfl ?_
          refine b_sub [1, 2, 3, 4, 0] rfl ?_
          exact t0_place_41 self ds dp hdp hdc hself d0 a1 a2 hd0   100000 0 _ _ _ h
        · replace h := ifT c4 h
          refine b_aload_n dX0_place_28 rfl (k := 0) rfl ?_
          refine b_iload_n dX0_place_29 rfl (k := 1) rfl ?_
          refine b_iload_n dX0_place_30 rfl (k := 2) rfl ?_
          refine b_iconst (v := 1) dX0_place_31 (by decide) ?_
          refine b_iadd dX0_place_32 ?_
          refine b_aload_n dX0_place_33 rfl (k := 3) rfl ?_
          obtain ⟨r6, w5, hw5, h⟩ := bdO h
          refine b_callSi ms0_place ml0_22 (hself d0 a1 (a2 + 1) hd0 _ _ _ hw5) rfl (by omega) (by decide) (Nat.le_of_ble_eq_true rfl) rfl dX0_place_34 ?_
          obtain ⟨g7, h⟩ := gdE h
          obtain ⟨rfl, rfl⟩ := rtE h
          exact b_zret rfl (Decidable.not_not.mp g7) dX0_place_37
      · replace h := ifF c3 h
        refine b_iconst (v := 1) dX0_place_18 (by decide) ?_
        obtain ⟨rfl, rfl⟩ := rtE h
        exact b_zret rfl (by decide) dX0_place_19
theorem s0_placeB (self : Nat → Int32 → Int32 → Mem → Option (Int32 × Mem)) (ds dp : Nat) (hdp : ds + 1 ≤ dp) (hdc : 12 ≤ ds) (hself : ∀ (d0 : Nat) (a1 : Int32) (a2 : Int32) (hd0 : Ob d0 6) (w w' : Mem) (r : Int32), self d0 a1 a2 w = some (r, w') → Sp yX0_place cX0_place 5 (some .boolean) ds [vR d0 0, vI a1, vI a2, vR 30 1] w (some (vI r)) w') (d0 : Nat) (a1 : Int32) (a2 : Int32) (hd0 : Ob d0 6) (w w' : Mem) (r : Int32) (h : f0_placeB self d0 a1 a2  w = some (r, w')) : Sp yX0_place cX0_place 5 (some .boolean) dp [vR d0 0, vI a1, vI a2, vR 30 1] w (some (vI r)) w' := sp_of (by decide) (fun _ => rfl) (fun _ => Nat.le_of_ble_eq_true rfl) (t0_placeB self ds dp hdp hdc hself d0 a1 a2 hd0  _ _ _ h)
def f0_place : Nat → Nat → Int32 → Int32 → Mem → Option (Int32 × Mem)
  | 0, _, _, _, _ => none
  | n + 1, d0, a1, a2, w => f0_placeB (f0_place n) d0 a1 a2  w
theorem s0_place : ∀ (n : Nat) (d0 : Nat) (a1 : Int32) (a2 : Int32) (hd0 : Ob d0 6) (w w' : Mem) (r : Int32), f0_place n d0 a1 a2 w = some (r, w') → Sp yX0_place cX0_place 5 (some .boolean) (12 + 1 * n) [vR d0 0, vI a1, vI a2, vR 30 1] w (some (vI r)) w' := by
  intro n
  induction n with
  | zero =>
    intro d0 a1 a2 hd0 w w' r h
    cases (show (none : Option (Int32 × Mem)) = some _ from h)
  | succ n ih =>
    intro d0 a1 a2 hd0 w w' r h
    exact s0_placeB (f0_place n) (12 + 1 * n) (12 + 1 * (n + 1)) (by omega) (by omega) ih d0 a1 a2 hd0 w w' r h
-- X0_find OneADay$Cover
def f0_find  (d1 : Nat) (a2 : Int32)   (w : Mem) : Option (Int32 × Mem) :=
  bndO (f0_comesOften d1 a2 w) fun r2 w1 => if r2 = 0 then (some (0, w1)) else (bndO (f0_canPassEachOther d1 a2 w1) fun r5 w4 => if r5 = 0 then (some (0, w4)) else (bndO (f0_place 20 d1 a2 0 w4) fun r8 w7 => if r8 = 0 then (some (0, w7)) else (some (1, w7))))
set_option maxRecDepth 100000 in
set_option maxHeartbeats 4000000 in
theorem t0_find   (d1 : Nat) (a2 : Int32) (hd1 : Ob d1 6)    (w w' : Mem) (r : Int32) (h : f0_find  d1 a2   w = some (r, w')) : Bk yX0_find cX0_find 3 (some .boolean) 33 0 [(0, vR 30 0), (1, vR d1 0), (2, vI a2)] [] w (some (vI r)) w' := by
  unfold f0_find at h
  refine b_aload_n dX0_find_0 rfl (k := 1) rfl ?_
  refine b_iload_n dX0_find_1 rfl (k := 2) rfl ?_
  obtain ⟨r2, w1, hw1, h⟩ := bdO h
  refine b_callSi ms0_comesOften ml0_15 (s0_comesOften d1 a2 hd1 _ _ _ hw1) rfl (by decide) (by decide) (Nat.le_of_ble_eq_true rfl) rfl dX0_find_2 ?_
  refine b_ifeq (tgt := 33) dX0_find_5 (by decide) (fun c3 => ?_) (fun c3 => ?_)
  · replace h := ifT c3 h
    refine b_iconst (v := 0) dX0_find_33 (by decide) ?_
    obtain ⟨rfl, rfl⟩ := rtE h
    exact b_zret rfl (by decide) dX0_find_34
  · replace h := ifF c3 h
    refine b_aload_n dX0_find_8 rfl (k := 1) rfl ?_
    refine b_iload_n dX0_find_9 rfl (k := 2) rfl ?_
    obtain ⟨r5, w4, hw4, h⟩ := bdO h
    refine b_callSi ms0_canPassEachOther ml0_19 (s0_canPassEachOther d1 a2 hd1 _ _ _ hw4) rfl (by decide) (by decide) (Nat.le_of_ble_eq_true rfl) rfl dX0_find_10 ?_
    refine b_ifeq (tgt := 33) dX0_find_13 (by decide) (fun c6 => ?_) (fun c6 => ?_)
    · replace h := ifT c6 h
      refine b_iconst (v := 0) dX0_find_33 (by decide) ?_
      obtain ⟨rfl, rfl⟩ := rtE h
      exact b_zret rfl (by decide) dX0_find_34
    · replace h := ifF c6 h
      refine b_aload_n dX0_find_16 rfl (k := 1) rfl ?_
      refine b_iload_n dX0_find_17 rfl (k := 2) rfl ?_
      refine b_iconst (v := 0) dX0_find_18 (by decide) ?_
      refine b_aload_n dX0_find_19 rfl (k := 0) rfl ?_
      refine b_getF fl0_9 ob30 rfl rfl dX0_find_20 ?_
      obtain ⟨r8, w7, hw7, h⟩ := bdO h
      refine b_callSi ms0_place ml0_22 (s0_place 20 d1 a2 0 hd1 _ _ _ hw7) rfl (by decide) (by decide) (Nat.le_of_ble_eq_true rfl) rfl dX0_find_23 ?_
      refine b_ifeq (tgt := 33) dX0_find_26 (by decide) (fun c9 => ?_) (fun c9 => ?_)
      · replace h := ifT c9 h
        refine b_iconst (v := 0) dX0_find_33 (by decide) ?_
        obtain ⟨rfl, rfl⟩ := rtE h
        exact b_zret rfl (by decide) dX0_find_34
      · replace h := ifF c9 h
        refine b_iconst (v := 1) dX0_find_29 (by decide) ?_
        refine b_goto (tgt := 34) dX0_find_30 (by decide) ?_
        obtain ⟨rfl, rfl⟩ := rtE h
        exact b_zret rfl (by decide) dX0_find_34
theorem s0_find (d1 : Nat) (a2 : Int32) (hd1 : Ob d1 6) (w w' : Mem) (r : Int32) (h : f0_find  d1 a2  w = some (r, w')) : Sp yX0_find cX0_find 3 (some .boolean) 33 [vR 30 0, vR d1 0, vI a2] w (some (vI r)) w' := sp_of (by decide) (fun _ => rfl) (fun _ => Nat.le_of_ble_eq_true rfl) (t0_find  d1 a2 hd1  _ _ _ h)
-- J7_fill_53178 java/util/Arrays
def f7_fill_53178_5  (d0 k0 n0 : Nat) (a1 : Int32)  : Nat → Int32 → Int32 → Mem → Option Mem
  | 0, _, _, _ => none
  | n + 1, x2, x3, w =>
  if x3 ≤ x2 then (some w) else (if x2 < 0 ∨ n0 ≤ Int32.toNatClampNeg x2 then none else bnd (sI w d0 k0 (Int32.toNatClampNeg x2) a1) fun w3 => bnd (x2 + 1) fun y4 => f7_fill_53178_5  d0 k0 n0 a1  n y4 x3 w3)
set_option maxRecDepth 100000 in
set_option maxHeartbeats 4000000 in
theorem t7_fill_53178_5   (d0 k0 n0 : Nat) (a1 : Int32) (ha0 : Ar d0 k0 0 n0)   : ∀ (n : Nat) (x2 : Int32) (x3 : Int32) (w w' : Mem), f7_fill_53178_5  d0 k0 n0 a1  n x2 x3 w = some w' → Bk yJ7_fill_53178 cJ7_fill_53178 4 none 1 5 [(0, vR d0 (k0 + 1)), (1, vI a1), (2, vI x2), (3, vI x3)] [] w none w' := by
  intro n
  induction n with
  | zero =>
    intro x2 x3 w w' h
    cases (show (none : Option Mem) = some _ from h)
  | succ n ih =>
    intro x2 x3 w w' h
    rw [f7_fill_53178_5] at h
    refine b_iload_n dJ7_fill_53178_5 rfl (k := 2) rfl ?_
    refine b_iload_n dJ7_fill_53178_6 rfl (k := 3) rfl ?_
    refine b_icge (tgt := 20) dJ7_fill_53178_7 (by decide) (fun c1 => ?_) (fun c1 => ?_)
    · replace h := ifT c1 h
      cases h
      exact b_vret rfl dJ7_fill_53178_20
    · replace h := ifF c1 h
      refine b_aload_n dJ7_fill_53178_10 rfl (k := 0) rfl ?_
      refine b_iload_n dJ7_fill_53178_11 rfl (k := 2) rfl ?_
      refine b_iload_n dJ7_fill_53178_12 rfl (k := 1) rfl ?_
      obtain ⟨g2, h⟩ := gdE h
      obtain ⟨w3, ew3, h⟩ := nmE h
      refine b_iast ha0 g2 rfl dJ7_fill_53178_13 ?_
      refine b_nmW ew3 ?_
      obtain ⟨y4, ey4, h⟩ := nmE h
      refine b_iinc (v := y4) (lv' := [(2, vI y4), (0, vR d0 (k0 + 1)), (1, vI a1), (3, vI x3)]) dJ7_fill_53178_14 (k := 2) rfl ey4.symm (by decide) rfl ?_
      refine b_goto (tgt := 5) dJ7_fill_53178_17 (by decide) ?_
      refine b_sub [1, 2, 0, 3] rfl ?_
      exact ih y4 x3 _ _  h
def f7_fill_53178  (d0 k0 n0 : Nat) (a1 : Int32)   (w : Mem) : Option Mem :=
  bnd (Int32.ofNat n0) fun y1 => f7_fill_53178_5  d0 k0 n0 a1  100000 0 y1 w
set_option maxRecDepth 100000 in
set_option maxHeartbeats 4000000 in
theorem t7_fill_53178   (d0 k0 n0 : Nat) (a1 : Int32) (ha0 : Ar d0 k0 0 n0)    (w w' : Mem) (h : f7_fill_53178  d0 k0 n0 a1   w = some w') : Bk yJ7_fill_53178 cJ7_fill_53178 4 none 1 0 [(0, vR d0 (k0 + 1)), (1, vI a1)] [] w none w' := by
  unfold f7_fill_53178 at h
  refine b_iconst (v := 0) dJ7_fill_53178_0 (by decide) ?_
  refine b_istore_n (lv' := [(2, vI 0), (0, vR d0 (k0 + 1)), (1, vI a1)]) dJ7_fill_53178_1 rfl (by decide) rfl ?_
  refine b_aload_n dJ7_fill_53178_2 rfl (k := 1) rfl ?_
  refine b_alen (v := Int32.ofNat n0) ha0 (by decide) rfl dJ7_fill_53178_3 ?_
  obtain ⟨y1, ey1, h⟩ := nmE h
  refine b_nmI ey1 ?_
  refine b_istore_n (lv' := [(3, vI y1), (2, vI 0), (0, vR d0 (k0 + 1)), (1, vI a1)]) dJ7_fill_53178_4 rfl (by decide) rfl ?_
  refine b_sub [2, 3, 1, 0] rfl ?_
  exact t7_fill_53178_5  d0 k0 n0 a1 ha0   100000 0 y1 _ _  h
theorem s7_fill_53178 (d0 k0 n0 : Nat) (a1 : Int32) (ha0 : Ar d0 k0 0 n0) (w w' : Mem) (h : f7_fill_53178  d0 k0 n0 a1  w = some w') : Sp yJ7_fill_53178 cJ7_fill_53178 4 none 1 [vR d0 (k0 + 1), vI a1] w none w' := sp_of (by decide) (fun _ => rfl) (fun _ => Nat.le_of_ble_eq_true rfl) (t7_fill_53178  d0 k0 n0 a1 ha0  _ _  h)
-- X1_begin OneADay$Days
def f1_begin  (d0 : Nat) (d1 : Nat)   (w : Mem) : Option Mem :=
  bnd (sA w d0 0 (va_cpy (w.1 d1 9) (w.1 d0 0) 0 0 8)) fun w1 => bndV (f7_fill_53178 d0 1 8 (-1) w1) fun w2 => bnd (sI w2 d0 4 0 0) fun w3 => bnd (sI w3 d0 5 0 0) fun w4 => bnd (sI w4 d0 6 0 0) fun w5 => bnd (sI w5 d0 7 0 0) fun w6 => bnd (sI w6 d0 8 0 0) fun w7 => bnd (sI w7 d0 9 0 0) fun w8 => bnd (sI w8 d0 10 0 0) fun w9 => bnd (sI w9 d0 11 0 0) fun w10 => bnd (sI w10 d0 12 0 0) fun w11 => bnd (sI w11 d0 13 0 0) fun w12 => some w12
set_option maxRecDepth 100000 in
set_option maxHeartbeats 4000000 in
theorem t1_begin   (d0 : Nat) (d1 : Nat) (hd0 : Ob d0 1) (hd1 : Ob d1 6)    (w w' : Mem) (h : f1_begin  d0 d1   w = some w') : Bk yX1_begin cX1_begin 2 none 2 0 [(0, vR d0 0), (1, vR d1 0)] [] w none w' := by
  unfold f1_begin at h
  refine b_aload_n dX1_begin_0 rfl (k := 1) rfl ?_
  refine b_getF fl1_30 hd1 rfl (grC6 hd1 9) dX1_begin_1 ?_
  refine b_iconst (v := 0) dX1_begin_4 (by decide) ?_
  refine b_aload_n dX1_begin_5 rfl (k := 0) rfl ?_
  refine b_getF fl1_9 hd0 rfl (grC1 hd0 0) dX1_begin_6 ?_
  refine b_iconst (v := 0) dX1_begin_9 (by decide) ?_
  refine b_bipush (v := 8) dX1_begin_10 (by decide) ?_
  obtain ⟨w1, ew1, h⟩ := nmE h
  refine b_copy (arC6_9 hd1) (arC1_0 hd0) ml1_35 wNat wSta wIni (by decide) (by decide) (by decide) (by decide) (by decide) rfl (by decide) dX1_begin_12 ?_
  refine b_nmW ew1 ?_
  refine b_aload_n dX1_begin_15 rfl (k := 0) rfl ?_
  refine b_getF fl1_15 hd0 rfl (grC1 hd0 1) dX1_begin_16 ?_
  refine b_iconst (v := (-1)) dX1_begin_19 (by decide) ?_
  obtain ⟨w2, hw2, h⟩ := bdV h
  refine b_callSv ms7_fill_53178 ml1_24 (s7_fill_53178 d0 1 8 (-1) (arC1_1 hd0) _ _  hw2) rfl (by decide) (by decide) (Nat.le_of_ble_eq_true rfl) rfl dX1_begin_20 ?_
  refine b_aload_n dX1_begin_23 rfl (k := 0) rfl ?_
  refine b_iconst (v := 0) dX1_begin_24 (by decide) ?_
  obtain ⟨w3, ew3, h⟩ := nmE h
  refine b_putI fw1_41 hd0 rfl dX1_begin_25 ?_
  refine b_nmW ew3 ?_
  refine b_aload_n dX1_begin_28 rfl (k := 0) rfl ?_
  refine b_iconst (v := 0) dX1_begin_29 (by decide) ?_
  obtain ⟨w4, ew4, h⟩ := nmE h
  refine b_putI fw1_45 hd0 rfl dX1_begin_30 ?_
  refine b_nmW ew4 ?_
  refine b_aload_n dX1_begin_33 rfl (k := 0) rfl ?_
  refine b_iconst (v := 0) dX1_begin_34 (by decide) ?_
  obtain ⟨w5, ew5, h⟩ := nmE h
  refine b_putI fw1_48 hd0 rfl dX1_begin_35 ?_
  refine b_nmW ew5 ?_
  refine b_aload_n dX1_begin_38 rfl (k := 0) rfl ?_
  refine b_iconst (v := 0) dX1_begin_39 (by decide) ?_
  obtain ⟨w6, ew6, h⟩ := nmE h
  refine b_putI fw1_51 hd0 rfl dX1_begin_40 ?_
  refine b_nmW ew6 ?_
  refine b_aload_n dX1_begin_43 rfl (k := 0) rfl ?_
  refine b_iconst (v := 0) dX1_begin_44 (by decide) ?_
  obtain ⟨w7, ew7, h⟩ := nmE h
  refine b_putI fw1_54 hd0 rfl dX1_begin_45 ?_
  refine b_nmW ew7 ?_
  refine b_aload_n dX1_begin_48 rfl (k := 0) rfl ?_
  refine b_iconst (v := 0) dX1_begin_49 (by decide) ?_
  obtain ⟨w8, ew8, h⟩ := nmE h
  refine b_putI fw1_57 hd0 rfl dX1_begin_50 ?_
  refine b_nmW ew8 ?_
  refine b_aload_n dX1_begin_53 rfl (k := 0) rfl ?_
  refine b_iconst (v := 0) dX1_begin_54 (by decide) ?_
  obtain ⟨w9, ew9, h⟩ := nmE h
  refine b_putI fw1_60 hd0 rfl dX1_begin_55 ?_
  refine b_nmW ew9 ?_
  refine b_aload_n dX1_begin_58 rfl (k := 0) rfl ?_
  refine b_iconst (v := 0) dX1_begin_59 (by decide) ?_
  obtain ⟨w10, ew10, h⟩ := nmE h
  refine b_putI fw1_63 hd0 rfl dX1_begin_60 ?_
  refine b_nmW ew10 ?_
  refine b_aload_n dX1_begin_63 rfl (k := 0) rfl ?_
  refine b_iconst (v := 0) dX1_begin_64 (by decide) ?_
  obtain ⟨w11, ew11, h⟩ := nmE h
  refine b_putI fw1_66 hd0 rfl dX1_begin_65 ?_
  refine b_nmW ew11 ?_
  refine b_aload_n dX1_begin_68 rfl (k := 0) rfl ?_
  refine b_iconst (v := 0) dX1_begin_69 (by decide) ?_
  obtain ⟨w12, ew12, h⟩ := nmE h
  refine b_putZ (by decide) fw1_69 hd0 rfl dX1_begin_70 ?_
  refine b_nmW ew12 ?_
  cases h
  exact b_vret rfl dX1_begin_73
theorem s1_begin (d0 : Nat) (d1 : Nat) (hd0 : Ob d0 1) (hd1 : Ob d1 6) (w w' : Mem) (h : f1_begin  d0 d1  w = some w') : Sp yX1_begin cX1_begin 2 none 2 [vR d0 0, vR d1 0] w none w' := sp_of (by decide) (fun _ => rfl) (fun _ => Nat.le_of_ble_eq_true rfl) (t1_begin  d0 d1 hd0 hd1  _ _  h)
-- X1_goOnFrom OneADay$Days
def f1_goOnFrom  (d0 : Nat) (d1 : Nat)   (w : Mem) : Option Mem :=
  bnd (sA w d0 0 (va_cpy (w.1 d1 0) (w.1 d0 0) 0 0 8)) fun w1 => bnd (sA w1 d0 1 (va_cpy (w1.1 d1 1) (w1.1 d0 1) 0 0 8)) fun w2 => bnd (sA w2 d0 2 (va_cpy (w2.1 d1 2) (w2.1 d0 2) 0 0 17)) fun w3 => bnd (sI w3 d0 4 0 (w3.1 d1 4 0)) fun w4 => bnd (sI w4 d0 5 0 (w4.1 d1 5 0)) fun w5 => bnd (sI w5 d0 6 0 (w5.1 d1 6 0)) fun w6 => bnd (sI w6 d0 7 0 (w6.1 d1 7 0)) fun w7 => bnd (sI w7 d0 8 0 (w7.1 d1 8 0)) fun w8 => bnd (sI w8 d0 9 0 (w8.1 d1 9 0)) fun w9 => bnd (sI w9 d0 10 0 (w9.1 d1 10 0)) fun w10 => bnd (sI w10 d0 11 0 (w10.1 d1 11 0)) fun w11 => bnd (sI w11 d0 12 0 (w11.1 d1 12 0)) fun w12 => if ¬ (w12.1 d1 13 0) &&& 1 = (w12.1 d1 13 0) then none else bnd (sI w12 d0 13 0 (w12.1 d1 13 0)) fun w14 => some w14
set_option maxRecDepth 100000 in
set_option maxHeartbeats 4000000 in
theorem t1_goOnFrom   (d0 : Nat) (d1 : Nat) (hd0 : Ob d0 1) (hd1 : Ob d1 1)    (w w' : Mem) (h : f1_goOnFrom  d0 d1   w = some w') : Bk yX1_goOnFrom cX1_goOnFrom 2 none 1 0 [(0, vR d0 0), (1, vR d1 0)] [] w none w' := by
  unfold f1_goOnFrom at h
  refine b_aload_n dX1_goOnFrom_0 rfl (k := 1) rfl ?_
  refine b_getF fl1_9 hd1 rfl (grC1 hd1 0) dX1_goOnFrom_1 ?_
  refine b_iconst (v := 0) dX1_goOnFrom_4 (by decide) ?_
  refine b_aload_n dX1_goOnFrom_5 rfl (k := 0) rfl ?_
  refine b_getF fl1_9 hd0 rfl (grC1 hd0 0) dX1_goOnFrom_6 ?_
  refine b_iconst (v := 0) dX1_goOnFrom_9 (by decide) ?_
  refine b_bipush (v := 8) dX1_goOnFrom_10 (by decide) ?_
  obtain ⟨w1, ew1, h⟩ := nmE h
  refine b_copy (arC1_0 hd1) (arC1_0 hd0) ml1_35 wNat wSta wIni (by decide) (by decide) (by decide) (by decide) (by decide) rfl (by decide) dX1_goOnFrom_12 ?_
  refine b_nmW ew1 ?_
  refine b_aload_n dX1_goOnFrom_15 rfl (k := 1) rfl ?_
  refine b_getF fl1_15 hd1 rfl (grC1 hd1 1) dX1_goOnFrom_16 ?_
  refine b_iconst (v := 0) dX1_goOnFrom_19 (by decide) ?_
  refine b_aload_n dX1_goOnFrom_20 rfl (k := 0) rfl ?_
  refine b_getF fl1_15 hd0 rfl (grC1 hd0 1) dX1_goOnFrom_21 ?_
  refine b_iconst (v := 0) dX1_goOnFrom_24 (by decide) ?_
  refine b_bipush (v := 8) dX1_goOnFrom_25 (by decide) ?_
  obtain ⟨w2, ew2, h⟩ := nmE h
  refine b_copy (arC1_1 hd1) (arC1_1 hd0) ml1_35 wNat wSta wIni (by decide) (by decide) (by decide) (by decide) (by decide) rfl (by decide) dX1_goOnFrom_27 ?_
  refine b_nmW ew2 ?_
  refine b_aload_n dX1_goOnFrom_30 rfl (k := 1) rfl ?_
  refine b_getF fl1_18 hd1 rfl (grC1 hd1 2) dX1_goOnFrom_31 ?_
  refine b_iconst (v := 0) dX1_goOnFrom_34 (by decide) ?_
  refine b_aload_n dX1_goOnFrom_35 rfl (k := 0) rfl ?_
  refine b_getF fl1_18 hd0 rfl (grC1 hd0 2) dX1_goOnFrom_36 ?_
  refine b_iconst (v := 0) dX1_goOnFrom_39 (by decide) ?_
  refine b_bipush (v := 17) dX1_goOnFrom_40 (by decide) ?_
  obtain ⟨w3, ew3, h⟩ := nmE h
  refine b_copy (arC1_2 hd1) (arC1_2 hd0) ml1_35 wNat wSta wIni (by decide) (by decide) (by decide) (by decide) (by decide) rfl (by decide) dX1_goOnFrom_42 ?_
  refine b_nmW ew3 ?_
  refine b_aload_n dX1_goOnFrom_45 rfl (k := 0) rfl ?_
  refine b_aload_n dX1_goOnFrom_46 rfl (k := 1) rfl ?_
  refine b_getI fl1_41 hd1 rfl dX1_goOnFrom_47 ?_
  obtain ⟨w4, ew4, h⟩ := nmE h
  refine b_putI fw1_41 hd0 rfl dX1_goOnFrom_50 ?_
  refine b_nmW ew4 ?_
  refine b_aload_n dX1_goOnFrom_53 rfl (k := 0) rfl ?_
  refine b_aload_n dX1_goOnFrom_54 rfl (k := 1) rfl ?_
  refine b_getI fl1_45 hd1 rfl dX1_goOnFrom_55 ?_
  obtain ⟨w5, ew5, h⟩ := nmE h
  refine b_putI fw1_45 hd0 rfl dX1_goOnFrom_58 ?_
  refine b_nmW ew5 ?_
  refine b_aload_n dX1_goOnFrom_61 rfl (k := 0) rfl ?_
  refine b_aload_n dX1_goOnFrom_62 rfl (k := 1) rfl ?_
  refine b_getI fl1_48 hd1 rfl dX1_goOnFrom_63 ?_
  obtain ⟨w6, ew6, h⟩ := nmE h
  refine b_putI fw1_48 hd0 rfl dX1_goOnFrom_66 ?_
  refine b_nmW ew6 ?_
  refine b_aload_n dX1_goOnFrom_69 rfl (k := 0) rfl ?_
  refine b_aload_n dX1_goOnFrom_70 rfl (k := 1) rfl ?_
  refine b_getI fl1_51 hd1 rfl dX1_goOnFrom_71 ?_
  obtain ⟨w7, ew7, h⟩ := nmE h
  refine b_putI fw1_51 hd0 rfl dX1_goOnFrom_74 ?_
  refine b_nmW ew7 ?_
  refine b_aload_n dX1_goOnFrom_77 rfl (k := 0) rfl ?_
  refine b_aload_n dX1_goOnFrom_78 rfl (k := 1) rfl ?_
  refine b_getI fl1_54 hd1 rfl dX1_goOnFrom_79 ?_
  obtain ⟨w8, ew8, h⟩ := nmE h
  refine b_putI fw1_54 hd0 rfl dX1_goOnFrom_82 ?_
  refine b_nmW ew8 ?_
  refine b_aload_n dX1_goOnFrom_85 rfl (k := 0) rfl ?_
  refine b_aload_n dX1_goOnFrom_86 rfl (k := 1) rfl ?_
  refine b_getI fl1_57 hd1 rfl dX1_goOnFrom_87 ?_
  obtain ⟨w9, ew9, h⟩ := nmE h
  refine b_putI fw1_57 hd0 rfl dX1_goOnFrom_90 ?_
  refine b_nmW ew9 ?_
  refine b_aload_n dX1_goOnFrom_93 rfl (k := 0) rfl ?_
  refine b_aload_n dX1_goOnFrom_94 rfl (k := 1) rfl ?_
  refine b_getI fl1_60 hd1 rfl dX1_goOnFrom_95 ?_
  obtain ⟨w10, ew10, h⟩ := nmE h
  refine b_putI fw1_60 hd0 rfl dX1_goOnFrom_98 ?_
  refine b_nmW ew10 ?_
  refine b_aload_n dX1_goOnFrom_101 rfl (k := 0) rfl ?_
  refine b_aload_n dX1_goOnFrom_102 rfl (k := 1) rfl ?_
  refine b_getI fl1_63 hd1 rfl dX1_goOnFrom_103 ?_
  obtain ⟨w11, ew11, h⟩ := nmE h
  refine b_putI fw1_63 hd0 rfl dX1_goOnFrom_106 ?_
  refine b_nmW ew11 ?_
  refine b_aload_n dX1_goOnFrom_109 rfl (k := 0) rfl ?_
  refine b_aload_n dX1_goOnFrom_110 rfl (k := 1) rfl ?_
  refine b_getI fl1_66 hd1 rfl dX1_goOnFrom_111 ?_
  obtain ⟨w12, ew12, h⟩ := nmE h
  refine b_putI fw1_66 hd0 rfl dX1_goOnFrom_114 ?_
  refine b_nmW ew12 ?_
  refine b_aload_n dX1_goOnFrom_117 rfl (k := 0) rfl ?_
  refine b_aload_n dX1_goOnFrom_118 rfl (k := 1) rfl ?_
  refine b_getI fl1_69 hd1 rfl dX1_goOnFrom_119 ?_
  obtain ⟨g13, h⟩ := gdE h
  obtain ⟨w14, ew14, h⟩ := nmE h
  refine b_putZ (Decidable.not_not.mp g13) fw1_69 hd0 rfl dX1_goOnFrom_122 ?_
  refine b_nmW ew14 ?_
  cases h
  exact b_vret rfl dX1_goOnFrom_125
theorem s1_goOnFrom (d0 : Nat) (d1 : Nat) (hd0 : Ob d0 1) (hd1 : Ob d1 1) (w w' : Mem) (h : f1_goOnFrom  d0 d1  w = some w') : Sp yX1_goOnFrom cX1_goOnFrom 2 none 1 [vR d0 0, vR d1 0] w none w' := sp_of (by decide) (fun _ => rfl) (fun _ => Nat.le_of_ble_eq_true rfl) (t1_goOnFrom  d0 d1 hd0 hd1  _ _  h)
-- X1_copy OneADay$Days
def f1_copy  (d0 : Nat) (d1 : Nat)   (w : Mem) : Option Mem :=
  bndV (f1_goOnFrom d0 d1 w) fun w1 => bnd (sA w1 d0 3 (va_cpy (w1.1 d1 3) (w1.1 d0 3) 0 0 60)) fun w2 => some w2
set_option maxRecDepth 100000 in
set_option maxHeartbeats 4000000 in
theorem t1_copy   (d0 : Nat) (d1 : Nat) (hd0 : Ob d0 1) (hd1 : Ob d1 1)    (w w' : Mem) (h : f1_copy  d0 d1   w = some w') : Bk yX1_copy cX1_copy 2 none 2 0 [(0, vR d0 0), (1, vR d1 0)] [] w none w' := by
  unfold f1_copy at h
  refine b_aload_n dX1_copy_0 rfl (k := 0) rfl ?_
  refine b_aload_n dX1_copy_1 rfl (k := 1) rfl ?_
  obtain ⟨w1, hw1, h⟩ := bdV h
  refine b_callVv mv1_goOnFrom ml1_73 hd0 (s1_goOnFrom d0 d1 hd0 hd1 _ _  hw1) rfl (by decide) (by decide) (Nat.le_of_ble_eq_true rfl) rfl dX1_copy_2 ?_
  refine b_aload_n dX1_copy_5 rfl (k := 1) rfl ?_
  refine b_getF fl1_21 hd1 rfl (grC1 hd1 3) dX1_copy_6 ?_
  refine b_iconst (v := 0) dX1_copy_9 (by decide) ?_
  refine b_aload_n dX1_copy_10 rfl (k := 0) rfl ?_
  refine b_getF fl1_21 hd0 rfl (grC1 hd0 3) dX1_copy_11 ?_
  refine b_iconst (v := 0) dX1_copy_14 (by decide) ?_
  refine b_bipush (v := 60) dX1_copy_15 (by decide) ?_
  obtain ⟨w2, ew2, h⟩ := nmE h
  refine b_copy (arC1_3 hd1) (arC1_3 hd0) ml1_35 wNat wSta wIni (by decide) (by decide) (by decide) (by decide) (by decide) rfl (by decide) dX1_copy_17 ?_
  refine b_nmW ew2 ?_
  cases h
  exact b_vret rfl dX1_copy_20
theorem s1_copy (d0 : Nat) (d1 : Nat) (hd0 : Ob d0 1) (hd1 : Ob d1 1) (w w' : Mem) (h : f1_copy  d0 d1  w = some w') : Sp yX1_copy cX1_copy 2 none 2 [vR d0 0, vR d1 0] w none w' := sp_of (by decide) (fun _ => rfl) (fun _ => Nat.le_of_ble_eq_true rfl) (t1_copy  d0 d1 hd0 hd1  _ _  h)
-- X1_staysAway OneADay$Days
def f1_staysAway  (d0 : Nat) (a1 : Int32)   (w : Mem) : Option (Int32 × Mem) :=
  if ((jshr (w.1 d0 4 0) a1) &&& 1) = 0 then (some (0, w)) else (some (1, w))
set_option maxRecDepth 100000 in
set_option maxHeartbeats 4000000 in
theorem t1_staysAway   (d0 : Nat) (a1 : Int32) (hd0 : Ob d0 1)    (w w' : Mem) (r : Int32) (h : f1_staysAway  d0 a1   w = some (r, w')) : Bk yX1_staysAway cX1_staysAway 2 (some .boolean) 1 0 [(0, vR d0 0), (1, vI a1)] [] w (some (vI r)) w' := by
  unfold f1_staysAway at h
  refine b_aload_n dX1_staysAway_0 rfl (k := 0) rfl ?_
  refine b_getI fl1_41 hd0 rfl dX1_staysAway_1 ?_
  refine b_iload_n dX1_staysAway_4 rfl (k := 1) rfl ?_
  refine b_ishr dX1_staysAway_5 ?_
  refine b_iconst (v := 1) dX1_staysAway_6 (by decide) ?_
  refine b_iand dX1_staysAway_7 ?_
  refine b_ifeq (tgt := 15) dX1_staysAway_8 (by decide) (fun c1 => ?_) (fun c1 => ?_)
  · replace h := ifT c1 h
    refine b_iconst (v := 0) dX1_staysAway_15 (by decide) ?_
    obtain ⟨rfl, rfl⟩ := rtE h
    exact b_zret rfl (by decide) dX1_staysAway_16
  · replace h := ifF c1 h
    refine b_iconst (v := 1) dX1_staysAway_11 (by decide) ?_
    refine b_goto (tgt := 16) dX1_staysAway_12 (by decide) ?_
    obtain ⟨rfl, rfl⟩ := rtE h
    exact b_zret rfl (by decide) dX1_staysAway_16
theorem s1_staysAway (d0 : Nat) (a1 : Int32) (hd0 : Ob d0 1) (w w' : Mem) (r : Int32) (h : f1_staysAway  d0 a1  w = some (r, w')) : Sp yX1_staysAway cX1_staysAway 2 (some .boolean) 1 [vR d0 0, vI a1] w (some (vI r)) w' := sp_of (by decide) (fun _ => rfl) (fun _ => Nat.le_of_ble_eq_true rfl) (t1_staysAway  d0 a1 hd0  _ _ _ h)
-- X6_has OneADay$Rock
def f6_has  (d0 : Nat) (a1 : Int32)   (w : Mem) : Option (Int32 × Mem) :=
  if a1 < 0 then (some (0, w)) else (if (w.1 d0 4 0) ≤ a1 then (some (0, w)) else (if 8 ≤ a1 then (some (0, w)) else (some (1, w))))
set_option maxRecDepth 100000 in
set_option maxHeartbeats 4000000 in
theorem t6_has   (d0 : Nat) (a1 : Int32) (hd0 : Ob d0 6)    (w w' : Mem) (r : Int32) (h : f6_has  d0 a1   w = some (r, w')) : Bk yX6_has cX6_has 2 (some .boolean) 1 0 [(0, vR d0 0), (1, vI a1)] [] w (some (vI r)) w' := by
  unfold f6_has at h
  refine b_iload_n dX6_has_0 rfl (k := 1) rfl ?_
  refine b_iflt (tgt := 22) dX6_has_1 (by decide) (fun c1 => ?_) (fun c1 => ?_)
  · replace h := ifT c1 h
    refine b_iconst (v := 0) dX6_has_22 (by decide) ?_
    obtain ⟨rfl, rfl⟩ := rtE h
    exact b_zret rfl (by decide) dX6_has_23
  · replace h := ifF c1 h
    refine b_iload_n dX6_has_4 rfl (k := 1) rfl ?_
    refine b_aload_n dX6_has_5 rfl (k := 0) rfl ?_
    refine b_getI fl6_45 hd0 rfl dX6_has_6 ?_
    refine b_icge (tgt := 22) dX6_has_9 (by decide) (fun c2 => ?_) (fun c2 => ?_)
    · replace h := ifT c2 h
      refine b_iconst (v := 0) dX6_has_22 (by decide) ?_
      obtain ⟨rfl, rfl⟩ := rtE h
      exact b_zret rfl (by decide) dX6_has_23
    · replace h := ifF c2 h
      refine b_iload_n dX6_has_12 rfl (k := 1) rfl ?_
      refine b_bipush (v := 8) dX6_has_13 (by decide) ?_
      refine b_icge (tgt := 22) dX6_has_15 (by decide) (fun c3 => ?_) (fun c3 => ?_)
      · replace h := ifT c3 h
        refine b_iconst (v := 0) dX6_has_22 (by decide) ?_
        obtain ⟨rfl, rfl⟩ := rtE h
        exact b_zret rfl (by decide) dX6_has_23
      · replace h := ifF c3 h
        refine b_iconst (v := 1) dX6_has_18 (by decide) ?_
        refine b_goto (tgt := 23) dX6_has_19 (by decide) ?_
        obtain ⟨rfl, rfl⟩ := rtE h
        exact b_zret rfl (by decide) dX6_has_23
theorem s6_has (d0 : Nat) (a1 : Int32) (hd0 : Ob d0 6) (w w' : Mem) (r : Int32) (h : f6_has  d0 a1  w = some (r, w')) : Sp yX6_has cX6_has 2 (some .boolean) 1 [vR d0 0, vI a1] w (some (vI r)) w' := sp_of (by decide) (fun _ => rfl) (fun _ => Nat.le_of_ble_eq_true rfl) (t6_has  d0 a1 hd0  _ _ _ h)
-- X6_brings OneADay$Rock
def f6_brings_44  (d0 : Nat) (a1 : Int32) (a2 : Int32) (a3 : Int32)   (w : Mem) : Option (Int32 × Mem) :=
  if a1 < 0 ∨ 8 ≤ Int32.toNatClampNeg a1 then none else if (w.1 d0 7 (Int32.toNatClampNeg a1)) = 0 then (some (1, w)) else (bndO (f6_isMarked d0 12 16 a3 w) fun r4 w3 => if r4 = 0 then (some (1, w3)) else (some (0, w3)))
set_option maxRecDepth 100000 in
set_option maxHeartbeats 4000000 in
theorem t6_brings_44   (d0 : Nat) (a1 : Int32) (a2 : Int32) (a3 : Int32) (hd0 : Ob d0 6)    (w w' : Mem) (r : Int32) (h : f6_brings_44  d0 a1 a2 a3   w = some (r, w')) : Bk yX6_brings cX6_brings 4 (some .boolean) 3 44 [(0, vR d0 0), (1, vI a1), (3, vI a3)] [] w (some (vI r)) w' := by
  unfold f6_brings_44 at h
  refine b_aload_n dX6_brings_44 rfl (k := 0) rfl ?_
  refine b_getF fl6_9 hd0 rfl (grC6 hd0 7) dX6_brings_45 ?_
  refine b_iload_n dX6_brings_48 rfl (k := 1) rfl ?_
  obtain ⟨g1, h⟩ := gdE h
  refine b_iald (arC6_7 hd0) g1 rfl dX6_brings_49 ?_
  refine b_ifeq (tgt := 64) dX6_brings_50 (by decide) (fun c2 => ?_) (fun c2 => ?_)
  · replace h := ifT c2 h
    refine b_iconst (v := 1) dX6_brings_64 (by decide) ?_
    refine b_goto (tgt := 69) dX6_brings_65 (by decide) ?_
    obtain ⟨rfl, rfl⟩ := rtE h
    exact b_zret rfl (by decide) dX6_brings_69
  · replace h := ifF c2 h
    refine b_aload_n dX6_brings_53 rfl (k := 0) rfl ?_
    refine b_getF fl6_28 hd0 rfl (grC6 hd0 12) dX6_brings_54 ?_
    refine b_iload_n dX6_brings_57 rfl (k := 2) rfl ?_
    obtain ⟨r4, w3, hw3, h⟩ := bdO h
    refine b_callSi ms6_isMarked ml6_66 (s6_isMarked d0 12 16 a3 (arC6_12 hd0) _ _ _ hw3) rfl (by decide) (by decide) (Nat.le_of_ble_eq_true rfl) rfl dX6_brings_58 ?_
    refine b_ifne (tgt := 68) dX6_brings_61 (by decide) (fun c5 => ?_) (fun c5 => ?_)
    · replace h := ifF c5 h
      refine b_iconst (v := 0) dX6_brings_68 (by decide) ?_
      obtain ⟨rfl, rfl⟩ := rtE h
      exact b_zret rfl (by decide) dX6_brings_69
    · replace h := ifT c5 h
      refine b_iconst (v := 1) dX6_brings_64 (by decide) ?_
      refine b_goto (tgt := 69) dX6_brings_65 (by decide) ?_
      obtain ⟨rfl, rfl⟩ := rtE h
      exact b_zret rfl (by decide) dX6_brings_69
def f6_brings  (d0 : Nat) (a1 : Int32) (a2 : Int32) (a3 : Int32)   (w : Mem) : Option (Int32 × Mem) :=
  bndO (f6_has d0 a1 w) fun r2 w1 => if r2 = 0 then (some (0, w1)) else (if a1 < 0 ∨ 8 ≤ Int32.toNatClampNeg a1 then none else if (w1.1 d0 7 (Int32.toNatClampNeg a1)) ≤ a3 then (bndO (f6_periodOf d0 a1 w1) fun r7 w6 => if r7 = 0 then none else if (jrem a3 r7) = a2 then (f6_brings_44  d0 a1 a2 a3   w6) else (bndO (f6_isMarked d0 11 16 a3 w6) fun r11 w10 => if r11 = 0 then (some (0, w10)) else (f6_brings_44  d0 a1 a2 a3   w10))) else (some (0, w1)))
set_option maxRecDepth 100000 in
set_option maxHeartbeats 4000000 in
theorem t6_brings   (d0 : Nat) (a1 : Int32) (a2 : Int32) (a3 : Int32) (hd0 : Ob d0 6)    (w w' : Mem) (r : Int32) (h : f6_brings  d0 a1 a2 a3   w = some (r, w')) : Bk yX6_brings cX6_brings 4 (some .boolean) 3 0 [(0, vR d0 0), (1, vI a1), (2, vI a2), (3, vI a3)] [] w (some (vI r)) w' := by
  unfold f6_brings at h
  refine b_aload_n dX6_brings_0 rfl (k := 0) rfl ?_
  refine b_iload_n dX6_brings_1 rfl (k := 1) rfl ?_
  obtain ⟨r2, w1, hw1, h⟩ := bdO h
  refine b_callVi mv6_has ml6_70 hd0 (s6_has d0 a1 hd0 _ _ _ hw1) rfl (by decide) (by decide) (Nat.le_of_ble_eq_true rfl) rfl dX6_brings_2 ?_
  refine b_ifeq (tgt := 18) dX6_brings_5 (by decide) (fun c3 => ?_) (fun c3 => ?_)
  · replace h := ifT c3 h
    refine b_iconst (v := 0) dX6_brings_18 (by decide) ?_
    obtain ⟨rfl, rfl⟩ := rtE h
    exact b_zret rfl (by decide) dX6_brings_19
  · replace h := ifF c3 h
    refine b_iload_n dX6_brings_8 rfl (k := 3) rfl ?_
    refine b_aload_n dX6_brings_9 rfl (k := 0) rfl ?_
    refine b_getF fl6_9 hd0 rfl (grC6 hd0 7) dX6_brings_10 ?_
    refine b_iload_n dX6_brings_13 rfl (k := 1) rfl ?_
    obtain ⟨g4, h⟩ := gdE h
    refine b_iald (arC6_7 hd0) g4 rfl dX6_brings_14 ?_
    refine b_icge (tgt := 20) dX6_brings_15 (by decide) (fun c5 => ?_) (fun c5 => ?_)
    · replace h := ifT c5 h
      refine b_iload_n dX6_brings_20 rfl (k := 3) rfl ?_
      refine b_aload_n dX6_brings_21 rfl (k := 0) rfl ?_
      refine b_iload_n dX6_brings_22 rfl (k := 1) rfl ?_
      obtain ⟨r7, w6, hw6, h⟩ := bdO h
      refine b_callVi mv6_periodOf ml6_74 hd0 (s6_periodOf d0 a1 hd0 _ _ _ hw6) rfl (by decide) (by decide) (Nat.le_of_ble_eq_true rfl) rfl dX6_brings_23 ?_
      obtain ⟨g8, h⟩ := gdE h
      refine b_irem dX6_brings_26 g8 ?_
      refine b_iload_n dX6_brings_27 rfl (k := 2) rfl ?_
      refine b_iceq (tgt := 44) dX6_brings_28 (by decide) (fun c9 => ?_) (fun c9 => ?_)
      · replace h := ifT c9 h
        refine b_sub [0, 1, 3] rfl ?_
        exact t6_brings_44  d0 a1 a2 a3 hd0    _ _ _ h
      · replace h := ifF c9 h
        refine b_aload_n dX6_brings_31 rfl (k := 0) rfl ?_
        refine b_getF fl6_24 hd0 rfl (grC6 hd0 11) dX6_brings_32 ?_
        refine b_iload_n dX6_brings_35 rfl (k := 3) rfl ?_
        obtain ⟨r11, w10, hw10, h⟩ := bdO h
        refine b_callSi ms6_isMarked ml6_66 (s6_isMarked d0 11 16 a3 (arC6_11 hd0) _ _ _ hw10) rfl (by decide) (by decide) (Nat.le_of_ble_eq_true rfl) rfl dX6_brings_36 ?_
        refine b_ifne (tgt := 44) dX6_brings_39 (by decide) (fun c12 => ?_) (fun c12 => ?_)
        · replace h := ifF c12 h
          refine b_sub [0, 1, 3] rfl ?_
          exact t6_brings_44  d0 a1 a2 a3 hd0    _ _ _ h
        · replace h := ifT c12 h
          refine b_iconst (v := 0) dX6_brings_42 (by decide) ?_
          obtain ⟨rfl, rfl⟩ := rtE h
          exact b_zret rfl (by decide) dX6_brings_43
    · replace h := ifF c5 h
      refine b_iconst (v := 0) dX6_brings_18 (by decide) ?_
      obtain ⟨rfl, rfl⟩ := rtE h
      exact b_zret rfl (by decide) dX6_brings_19
theorem s6_brings (d0 : Nat) (a1 : Int32) (a2 : Int32) (a3 : Int32) (hd0 : Ob d0 6) (w w' : Mem) (r : Int32) (h : f6_brings  d0 a1 a2 a3  w = some (r, w')) : Sp yX6_brings cX6_brings 4 (some .boolean) 3 [vR d0 0, vI a1, vI a2, vI a3] w (some (vI r)) w' := sp_of (by decide) (fun _ => rfl) (fun _ => Nat.le_of_ble_eq_true rfl) (t6_brings  d0 a1 a2 a3 hd0  _ _ _ h)
-- X1_comersByCalendar OneADay$Days
def f1_comersByCalendar_5  (d0 : Nat) (d1 : Nat) (a2 : Int32)  : Nat → Int32 → Int32 → Mem → Option (Int32 × Mem)
  | 0, _, _, _ => none
  | n + 1, x3, x4, w =>
  if (w.1 d1 4 0) ≤ x4 then (some (x3, w)) else (if 8 ≤ x4 then (some (x3, w)) else (bndO (f1_staysAway d0 x4 w) fun r4 w3 => if r4 = 0 then (if x4 < 0 ∨ 8 ≤ Int32.toNatClampNeg x4 then none else bndO (f6_brings d1 x4 (w3.1 d0 0 (Int32.toNatClampNeg x4)) a2 w3) fun r9 w8 => if r9 = 0 then (bnd (x4 + 1) fun y11 => f1_comersByCalendar_5  d0 d1 a2  n x3 y11 w8) else (bnd (x3 ||| (jshl 1 x4)) fun y12 => bnd (x4 + 1) fun y13 => f1_comersByCalendar_5  d0 d1 a2  n y12 y13 w8)) else (bnd (x4 + 1) fun y6 => f1_comersByCalendar_5  d0 d1 a2  n x3 y6 w3)))
set_option maxRecDepth 100000 in
set_option maxHeartbeats 4000000 in
theorem t1_comersByCalendar_5   (d0 : Nat) (d1 : Nat) (a2 : Int32) (hd0 : Ob d0 1) (hd1 : Ob d1 6)   : ∀ (n : Nat) (x3 : Int32) (x4 : Int32) (w w' : Mem) (r : Int32), f1_comersByCalendar_5  d0 d1 a2  n x3 x4 w = some (r, w') → Bk yX1_comersByCalendar cX1_comersByCalendar 5 (some .int) 4 5 [(0, vR d0 0), (1, vR d1 0), (2, vI a2), (3, vI x3), (4, vI x4)] [] w (some (vI r)) w' := by
  intro n
  induction n with
  | zero =>
    intro x3 x4 w w' r h
    cases (show (none : Option (Int32 × Mem)) = some _ from h)
  | succ n ih =>
    intro x3 x4 w w' r h
    rw [f1_comersByCalendar_5] at h
    refine b_iload dX1_comersByCalendar_5 (k := 4) rfl ?_
    refine b_aload_n dX1_comersByCalendar_7 rfl (k := 1) rfl ?_
    refine b_getI fl1_77 hd1 rfl dX1_comersByCalendar_8 ?_
    refine b_icge (tgt := 63) dX1_comersByCalendar_11 (by decide) (fun c1 => ?_) (fun c1 => ?_)
    · replace h := ifT c1 h
      refine b_iload_n dX1_comersByCalendar_63 rfl (k := 3) rfl ?_
      obtain ⟨rfl, rfl⟩ := rtE h
      exact b_iret rfl dX1_comersByCalendar_64
    · replace h := ifF c1 h
      refine b_iload dX1_comersByCalendar_14 (k := 4) rfl ?_
      refine b_aload_n dX1_comersByCalendar_16 rfl (k := 0) rfl ?_
      refine b_getF fl1_9 hd0 rfl (grC1 hd0 0) dX1_comersByCalendar_17 ?_
      refine b_alen (v := 8) (arC1_0 hd0) (by decide) (by decide) dX1_comersByCalendar_20 ?_
      refine b_icge (tgt := 63) dX1_comersByCalendar_21 (by decide) (fun c2 => ?_) (fun c2 => ?_)
      · replace h := ifT c2 h
        refine b_iload_n dX1_comersByCalendar_63 rfl (k := 3) rfl ?_
        obtain ⟨rfl, rfl⟩ := rtE h
        exact b_iret rfl dX1_comersByCalendar_64
      · replace h := ifF c2 h
        refine b_aload_n dX1_comersByCalendar_24 rfl (k := 0) rfl ?_
        refine b_iload dX1_comersByCalendar_25 (k := 4) rfl ?_
        obtain ⟨r4, w3, hw3, h⟩ := bdO h
        refine b_callVi mv1_staysAway ml1_80 hd0 (s1_staysAway d0 x4 hd0 _ _ _ hw3) rfl (by decide) (by decide) (Nat.le_of_ble_eq_true rfl) rfl dX1_comersByCalendar_27 ?_
        refine b_ifne (tgt := 57) dX1_comersByCalendar_30 (by decide) (fun c5 => ?_) (fun c5 => ?_)
        · replace h := ifF c5 h
          obtain ⟨y6, ey6, h⟩ := nmE h
          refine b_iinc (v := y6) (lv' := [(4, vI y6), (0, vR d0 0), (1, vR d1 0), (2, vI a2), (3, vI x3)]) dX1_comersByCalendar_57 (k := 4) rfl ey6.symm (by decide) rfl ?_
          refine b_goto (tgt := 5) dX1_comersByCalendar_60 (by decide) ?_
          refine b_sub [1, 2, 3, 4, 0] rfl ?_
          exact ih x3 y6 _ _ _ h
        · replace h := ifT c5 h
          refine b_aload_n dX1_comersByCalendar_33 rfl (k := 1) rfl ?_
          refine b_iload dX1_comersByCalendar_34 (k := 4) rfl ?_
          refine b_aload_n dX1_comersByCalendar_36 rfl (k := 0) rfl ?_
          refine b_getF fl1_9 hd0 rfl (grC1 hd0 0) dX1_comersByCalendar_37 ?_
          refine b_iload dX1_comersByCalendar_40 (k := 4) rfl ?_
          obtain ⟨g7, h⟩ := gdE h
          refine b_iald (arC1_0 hd0) g7 rfl dX1_comersByCalendar_42 ?_
          refine b_iload_n dX1_comersByCalendar_43 rfl (k := 2) rfl ?_
          obtain ⟨r9, w8, hw8, h⟩ := bdO h
          refine b_callVi mv6_brings ml1_84 hd1 (s6_brings d1 x4 (w3.1 d0 0 (Int32.toNatClampNeg x4)) a2 hd1 _ _ _ hw8) rfl (by decide) (by decide) (Nat.le_of_ble_eq_true rfl) rfl dX1_comersByCalendar_44 ?_
          refine b_ifeq (tgt := 57) dX1_comersByCalendar_47 (by decide) (fun c10 => ?_) (fun c10 => ?_)
          · replace h := ifT c10 h
            obtain ⟨y11, ey11, h⟩ := nmE h
            refine b_iinc (v := y11) (lv' := [(4, vI y11), (0, vR d0 0), (1, vR d1 0), (2, vI a2), (3, vI x3)]) dX1_comersByCalendar_57 (k := 4) rfl ey11.symm (by decide) rfl ?_
            refine b_goto (tgt := 5) dX1_comersByCalendar_60 (by decide) ?_
            refine b_sub [1, 2, 3, 4, 0] rfl ?_
            exact ih x3 y11 _ _ _ h
          · replace h := ifF c10 h
            refine b_iload_n dX1_comersByCalendar_50 rfl (k := 3) rfl ?_
            refine b_iconst (v := 1) dX1_comersByCalendar_51 (by decide) ?_
            refine b_iload dX1_comersByCalendar_52 (k := 4) rfl ?_
            refine b_ishl dX1_comersByCalendar_54 ?_
            refine b_ior dX1_comersByCalendar_55 ?_
            obtain ⟨y12, ey12, h⟩ := nmE h
            refine b_nmI ey12 ?_
            refine b_istore_n (lv' := [(3, vI y12), (0, vR d0 0), (1, vR d1 0), (2, vI a2), (4, vI x4)]) dX1_comersByCalendar_56 rfl (by decide) rfl ?_
            obtain ⟨y13, ey13, h⟩ := nmE h
            refine b_iinc (v := y13) (lv' := [(4, vI y13), (3, vI y12), (0, vR d0 0), (1, vR d1 0), (2, vI a2)]) dX1_comersByCalendar_57 (k := 4) rfl ey13.symm (by decide) rfl ?_
            refine b_goto (tgt := 5) dX1_comersByCalendar_60 (by decide) ?_
            refine b_sub [2, 3, 4, 1, 0] rfl ?_
            exact ih y12 y13 _ _ _ h
def f1_comersByCalendar  (d0 : Nat) (d1 : Nat) (a2 : Int32)   (w : Mem) : Option (Int32 × Mem) :=
  f1_comersByCalendar_5  d0 d1 a2  100000 0 0 w
set_option maxRecDepth 100000 in
set_option maxHeartbeats 4000000 in
theorem t1_comersByCalendar   (d0 : Nat) (d1 : Nat) (a2 : Int32) (hd0 : Ob d0 1) (hd1 : Ob d1 6)    (w w' : Mem) (r : Int32) (h : f1_comersByCalendar  d0 d1 a2   w = some (r, w')) : Bk yX1_comersByCalendar cX1_comersByCalendar 5 (some .int) 4 0 [(0, vR d0 0), (1, vR d1 0), (2, vI a2)] [] w (some (vI r)) w' := by
  unfold f1_comersByCalendar at h
  refine b_iconst (v := 0) dX1_comersByCalendar_0 (by decide) ?_
  refine b_istore_n (lv' := [(3, vI 0), (0, vR d0 0), (1, vR d1 0), (2, vI a2)]) dX1_comersByCalendar_1 rfl (by decide) rfl ?_
  refine b_iconst (v := 0) dX1_comersByCalendar_2 (by decide) ?_
  refine b_istore (lv' := [(4, vI 0), (3, vI 0), (0, vR d0 0), (1, vR d1 0), (2, vI a2)]) dX1_comersByCalendar_3 (by decide) rfl ?_
  refine b_sub [2, 3, 4, 1, 0] rfl ?_
  exact t1_comersByCalendar_5  d0 d1 a2 hd0 hd1   100000 0 0 _ _ _ h
theorem s1_comersByCalendar (d0 : Nat) (d1 : Nat) (a2 : Int32) (hd0 : Ob d0 1) (hd1 : Ob d1 6) (w w' : Mem) (r : Int32) (h : f1_comersByCalendar  d0 d1 a2  w = some (r, w')) : Sp yX1_comersByCalendar cX1_comersByCalendar 5 (some .int) 4 [vR d0 0, vR d1 0, vI a2] w (some (vI r)) w' := sp_of (by decide) (fun _ => rfl) (fun _ => Nat.le_of_ble_eq_true rfl) (t1_comersByCalendar  d0 d1 a2 hd0 hd1  _ _ _ h)
-- X1_comers OneADay$Days
def f1_comers_63  (d0 : Nat) (d1 : Nat) (a2 : Int32) (rec10 : Int32 → Int32 → Mem → Option (Int32 × Mem)) (x3 : Int32) (x4 : Int32) (s0 : Int32) (w : Mem) : Option (Int32 × Mem) :=
  if s0 = 0 then (bnd (x4 + 1) fun y2 => rec10 x3 y2 w) else (bnd (x3 &&& ((jshl 1 x4) ^^^ (-1))) fun y3 => bnd (x4 + 1) fun y4 => rec10 y3 y4 w)
set_option maxRecDepth 100000 in
set_option maxHeartbeats 4000000 in
theorem t1_comers_63   (d0 : Nat) (d1 : Nat) (a2 : Int32) (hd0 : Ob d0 1) (hd1 : Ob d1 6) (rec10 : Int32 → Int32 → Mem → Option (Int32 × Mem)) (hrec10 : ∀ (x3 : Int32) (x4 : Int32) (w w' : Mem) (r : Int32), rec10 x3 x4 w = some (r, w') → Bk yX1_comers cX1_comers 6 (some .int) 5 10 [(0, vR d0 0), (1, vR d1 0), (2, vI a2), (3, vI x3), (4, vI x4)] [] w (some (vI r)) w') (x3 : Int32) (x4 : Int32) (s0 : Int32) (w w' : Mem) (r : Int32) (h : f1_comers_63  d0 d1 a2 rec10 x3 x4 s0 w = some (r, w')) : Bk yX1_comers cX1_comers 6 (some .int) 5 63 [(0, vR d0 0), (1, vR d1 0), (2, vI a2), (3, vI x3), (4, vI x4)] [vI s0] w (some (vI r)) w' := by
  unfold f1_comers_63 at h
  refine b_istore (lv' := [(5, vI s0), (0, vR d0 0), (1, vR d1 0), (2, vI a2), (3, vI x3), (4, vI x4)]) dX1_comers_63 (by decide) rfl ?_
  refine b_iload dX1_comers_65 (k := 0) rfl ?_
  refine b_ifeq (tgt := 79) dX1_comers_67 (by decide) (fun c1 => ?_) (fun c1 => ?_)
  · replace h := ifT c1 h
    obtain ⟨y2, ey2, h⟩ := nmE h
    refine b_iinc (v := y2) (lv' := [(4, vI y2), (5, vI s0), (0, vR d0 0), (1, vR d1 0), (2, vI a2), (3, vI x3)]) dX1_comers_79 (k := 5) rfl ey2.symm (by decide) rfl ?_
    refine b_goto (tgt := 10) dX1_comers_82 (by decide) ?_
    refine b_sub [2, 3, 4, 5, 0] rfl ?_
    exact hrec10 x3 y2 _ _ _ h
  · replace h := ifF c1 h
    refine b_iload_n dX1_comers_70 rfl (k := 4) rfl ?_
    refine b_iconst (v := 1) dX1_comers_71 (by decide) ?_
    refine b_iload dX1_comers_72 (k := 5) rfl ?_
    refine b_ishl dX1_comers_74 ?_
    refine b_iconst (v := (-1)) dX1_comers_75 (by decide) ?_
    refine b_ixor dX1_comers_76 ?_
    refine b_iand dX1_comers_77 ?_
    obtain ⟨y3, ey3, h⟩ := nmE h
    refine b_nmI ey3 ?_
    refine b_istore_n (lv' := [(3, vI y3), (5, vI s0), (0, vR d0 0), (1, vR d1 0), (2, vI a2), (4, vI x4)]) dX1_comers_78 rfl (by decide) rfl ?_
    obtain ⟨y4, ey4, h⟩ := nmE h
    refine b_iinc (v := y4) (lv' := [(4, vI y4), (3, vI y3), (5, vI s0), (0, vR d0 0), (1, vR d1 0), (2, vI a2)]) dX1_comers_79 (k := 5) rfl ey4.symm (by decide) rfl ?_
    refine b_goto (tgt := 10) dX1_comers_82 (by decide) ?_
    refine b_sub [3, 4, 5, 1, 0] rfl ?_
    exact hrec10 y3 y4 _ _ _ h
def f1_comers_10  (d0 : Nat) (d1 : Nat) (a2 : Int32)  : Nat → Int32 → Int32 → Mem → Option (Int32 × Mem)
  | 0, _, _, _ => none
  | n + 1, x3, x4, w =>
  if 8 ≤ x4 then (some (x3, w)) else (if x4 < 0 ∨ 8 ≤ Int32.toNatClampNeg x4 then none else if (w.1 d0 1 (Int32.toNatClampNeg x4)) = (-1) then (f1_comers_63  d0 d1 a2 (f1_comers_10  d0 d1 a2  n) x3 x4 0 w) else (if x4 < 0 ∨ 8 ≤ Int32.toNatClampNeg x4 then none else if a2 ≤ (w.1 d0 1 (Int32.toNatClampNeg x4)) then (f1_comers_63  d0 d1 a2 (f1_comers_10  d0 d1 a2  n) x3 x4 0 w) else (if x4 < 0 ∨ 8 ≤ Int32.toNatClampNeg x4 then none else if (w.1 d1 2 0) < (a2 - (w.1 d0 1 (Int32.toNatClampNeg x4))) then (f1_comers_63  d0 d1 a2 (f1_comers_10  d0 d1 a2  n) x3 x4 0 w) else (f1_comers_63  d0 d1 a2 (f1_comers_10  d0 d1 a2  n) x3 x4 1 w))))
set_option maxRecDepth 100000 in
set_option maxHeartbeats 4000000 in
theorem t1_comers_10   (d0 : Nat) (d1 : Nat) (a2 : Int32) (hd0 : Ob d0 1) (hd1 : Ob d1 6)   : ∀ (n : Nat) (x3 : Int32) (x4 : Int32) (w w' : Mem) (r : Int32), f1_comers_10  d0 d1 a2  n x3 x4 w = some (r, w') → Bk yX1_comers cX1_comers 6 (some .int) 5 10 [(0, vR d0 0), (1, vR d1 0), (2, vI a2), (3, vI x3), (4, vI x4)] [] w (some (vI r)) w' := by
  intro n
  induction n with
  | zero =>
    intro x3 x4 w w' r h
    cases (show (none : Option (Int32 × Mem)) = some _ from h)
  | succ n ih =>
    intro x3 x4 w w' r h
    rw [f1_comers_10] at h
    refine b_iload dX1_comers_10 (k := 4) rfl ?_
    refine b_aload_n dX1_comers_12 rfl (k := 0) rfl ?_
    refine b_getF fl1_15 hd0 rfl (grC1 hd0 1) dX1_comers_13 ?_
    refine b_alen (v := 8) (arC1_1 hd0) (by decide) (by decide) dX1_comers_16 ?_
    refine b_icge (tgt := 85) dX1_comers_17 (by decide) (fun c1 => ?_) (fun c1 => ?_)
    · replace h := ifT c1 h
      refine b_iload_n dX1_comers_85 rfl (k := 3) rfl ?_
      obtain ⟨rfl, rfl⟩ := rtE h
      exact b_iret rfl dX1_comers_86
    · replace h := ifF c1 h
      refine b_aload_n dX1_comers_20 rfl (k := 0) rfl ?_
      refine b_getF fl1_15 hd0 rfl (grC1 hd0 1) dX1_comers_21 ?_
      refine b_iload dX1_comers_24 (k := 4) rfl ?_
      obtain ⟨g2, h⟩ := gdE h
      refine b_iald (arC1_1 hd0) g2 rfl dX1_comers_26 ?_
      refine b_iconst (v := (-1)) dX1_comers_27 (by decide) ?_
      refine b_iceq (tgt := 62) dX1_comers_28 (by decide) (fun c3 => ?_) (fun c3 => ?_)
      · replace h := ifT c3 h
        refine b_iconst (v := 0) dX1_comers_62 (by decide) ?_
        refine b_sub [0, 1, 2, 3, 4] rfl ?_
        exact t1_comers_63  d0 d1 a2 hd0 hd1 (f1_comers_10  d0 d1 a2  n) ih x3 x4 0 _ _ _ h
      · replace h := ifF c3 h
        refine b_iload_n dX1_comers_31 rfl (k := 2) rfl ?_
        refine b_aload_n dX1_comers_32 rfl (k := 0) rfl ?_
        refine b_getF fl1_15 hd0 rfl (grC1 hd0 1) dX1_comers_33 ?_
        refine b_iload dX1_comers_36 (k := 4) rfl ?_
        obtain ⟨g4, h⟩ := gdE h
        refine b_iald (arC1_1 hd0) g4 rfl dX1_comers_38 ?_
        refine b_icle (tgt := 62) dX1_comers_39 (by decide) (fun c5 => ?_) (fun c5 => ?_)
        · replace h := ifT c5 h
          refine b_iconst (v := 0) dX1_comers_62 (by decide) ?_
          refine b_sub [0, 1, 2, 3, 4] rfl ?_
          exact t1_comers_63  d0 d1 a2 hd0 hd1 (f1_comers_10  d0 d1 a2  n) ih x3 x4 0 _ _ _ h
        · replace h := ifF c5 h
          refine b_iload_n dX1_comers_42 rfl (k := 2) rfl ?_
          refine b_aload_n dX1_comers_43 rfl (k := 0) rfl ?_
          refine b_getF fl1_15 hd0 rfl (grC1 hd0 1) dX1_comers_44 ?_
          refine b_iload dX1_comers_47 (k := 4) rfl ?_
          obtain ⟨g6, h⟩ := gdE h
          refine b_iald (arC1_1 hd0) g6 rfl dX1_comers_49 ?_
          refine b_isub dX1_comers_50 ?_
          refine b_aload_n dX1_comers_51 rfl (k := 1) rfl ?_
          refine b_getI fl1_92 hd1 rfl dX1_comers_52 ?_
          refine b_icgt (tgt := 62) dX1_comers_55 (by decide) (fun c7 => ?_) (fun c7 => ?_)
          · replace h := ifT c7 h
            refine b_iconst (v := 0) dX1_comers_62 (by decide) ?_
            refine b_sub [0, 1, 2, 3, 4] rfl ?_
            exact t1_comers_63  d0 d1 a2 hd0 hd1 (f1_comers_10  d0 d1 a2  n) ih x3 x4 0 _ _ _ h
          · replace h := ifF c7 h
            refine b_iconst (v := 1) dX1_comers_58 (by decide) ?_
            refine b_goto (tgt := 63) dX1_comers_59 (by decide) ?_
            refine b_sub [0, 1, 2, 3, 4] rfl ?_
            exact t1_comers_63  d0 d1 a2 hd0 hd1 (f1_comers_10  d0 d1 a2  n) ih x3 x4 1 _ _ _ h
def f1_comers  (d0 : Nat) (d1 : Nat) (a2 : Int32)   (w : Mem) : Option (Int32 × Mem) :=
  bndO (f1_comersByCalendar d0 d1 a2 w) fun r2 w1 => f1_comers_10  d0 d1 a2  100000 r2 0 w1
set_option maxRecDepth 100000 in
set_option maxHeartbeats 4000000 in
theorem t1_comers   (d0 : Nat) (d1 : Nat) (a2 : Int32) (hd0 : Ob d0 1) (hd1 : Ob d1 6)    (w w' : Mem) (r : Int32) (h : f1_comers  d0 d1 a2   w = some (r, w')) : Bk yX1_comers cX1_comers 6 (some .int) 5 0 [(0, vR d0 0), (1, vR d1 0), (2, vI a2)] [] w (some (vI r)) w' := by
  unfold f1_comers at h
  refine b_aload_n dX1_comers_0 rfl (k := 0) rfl ?_
  refine b_aload_n dX1_comers_1 rfl (k := 1) rfl ?_
  refine b_iload_n dX1_comers_2 rfl (k := 2) rfl ?_
  obtain ⟨r2, w1, hw1, h⟩ := bdO h
  refine b_callVi mv1_comersByCalendar ml1_88 hd0 (s1_comersByCalendar d0 d1 a2 hd0 hd1 _ _ _ hw1) rfl (by decide) (by decide) (Nat.le_of_ble_eq_true rfl) rfl dX1_comers_3 ?_
  refine b_istore_n (lv' := [(3, vI r2), (0, vR d0 0), (1, vR d1 0), (2, vI a2)]) dX1_comers_6 rfl (by decide) rfl ?_
  refine b_iconst (v := 0) dX1_comers_7 (by decide) ?_
  refine b_istore (lv' := [(4, vI 0), (3, vI r2), (0, vR d0 0), (1, vR d1 0), (2, vI a2)]) dX1_comers_8 (by decide) rfl ?_
  refine b_sub [2, 3, 4, 1, 0] rfl ?_
  exact t1_comers_10  d0 d1 a2 hd0 hd1   100000 r2 0 _ _ _ h
theorem s1_comers (d0 : Nat) (d1 : Nat) (a2 : Int32) (hd0 : Ob d0 1) (hd1 : Ob d1 6) (w w' : Mem) (r : Int32) (h : f1_comers  d0 d1 a2  w = some (r, w')) : Sp yX1_comers cX1_comers 6 (some .int) 5 [vR d0 0, vR d1 0, vI a2] w (some (vI r)) w' := sp_of (by decide) (fun _ => rfl) (fun _ => Nat.le_of_ble_eq_true rfl) (t1_comers  d0 d1 a2 hd0 hd1  _ _ _ h)
