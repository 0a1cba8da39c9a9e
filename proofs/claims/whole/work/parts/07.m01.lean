theorem rtE {x r : Int32} {w w' : Mem} (h : some (x, w) = some (r, w')) : r = x ∧ w' = w := by
  have h1 := Option.some.inj h
  exact ⟨(congrArg Prod.fst h1).symm, (congrArg Prod.snd h1).symm⟩
-- X6_all OneADay$Rock
def f6_all  (d0 : Nat)   (w : Mem) : Option (Int32 × Mem) :=
  some ((jshl 1 (w.1 d0 4 0)) - 1, w)
set_option maxRecDepth 100000 in
set_option maxHeartbeats 4000000 in
theorem t6_all   (d0 : Nat) (hd0 : Ob d0 6)    (w w' : Mem) (r : Int32) (h : f6_all  d0   w = some (r, w')) : Bk yX6_all cX6_all 1 (some .int) 1 0 [(0, vR d0 0)] [] w (some (vI r)) w' := by
  unfold f6_all at h
  refine b_iconst (v := 1) dX6_all_0 (by decide) ?_
  refine b_aload_n dX6_all_1 rfl (k := 0) rfl ?_
  refine b_getI fl6_45 hd0 rfl dX6_all_2 ?_
  refine b_ishl dX6_all_5 ?_
  refine b_iconst (v := 1) dX6_all_6 (by decide) ?_
  refine b_isub dX6_all_7 ?_
  obtain ⟨rfl, rfl⟩ := rtE h
  exact b_iret rfl dX6_all_8
theorem s6_all (d0 : Nat) (hd0 : Ob d0 6) (w w' : Mem) (r : Int32) (h : f6_all  d0  w = some (r, w')) : Sp yX6_all cX6_all 1 (some .int) 1 [vR d0 0] w (some (vI r)) w' := sp_of (by decide) (fun _ => rfl) (fun _ => Nat.le_of_ble_eq_true rfl) (t6_all  d0 hd0  _ _ _ h)
-- X6_isMarked OneADay$Rock
def f6_isMarked  (d0 k0 n0 : Nat) (a1 : Int32)   (w : Mem) : Option (Int32 × Mem) :=
  bnd (jshr a1 6) fun y1 => if y1 < 0 then (some (0, w)) else (if (Int32.ofNat n0) ≤ y1 then (some (0, w)) else (if y1 < 0 ∨ n0 ≤ Int32.toNatClampNeg y1 then none else if (lg_cmp ((jlushr (w.2.1 d0 k0 (Int32.toNatClampNeg y1)) (a1 &&& 63)) &&& 1) 0) = 0 then (some (0, w)) else (some (1, w))))
set_option maxRecDepth 100000 in
set_option maxHeartbeats 4000000 in
theorem t6_isMarked   (d0 k0 n0 : Nat) (a1 : Int32) (ha0 : Ar d0 k0 1 n0)    (w w' : Mem) (r : Int32) (h : f6_isMarked  d0 k0 n0 a1   w = some (r, w')) : Bk yX6_isMarked cX6_isMarked 3 (some .boolean) 1 0 [(0, vR d0 (k0 + 1)), (1, vI a1)] [] w (some (vI r)) w' := by
  unfold f6_isMarked at h
  refine b_iload_n dX6_isMarked_0 rfl (k := 1) rfl ?_
  refine b_bipush (v := 6) dX6_isMarked_1 (by decide) ?_
  refine b_ishr dX6_isMarked_3 ?_
  obtain ⟨y1, ey1, h⟩ := nmE h
  refine b_nmI ey1 ?_
  refine b_istore_n (lv' := [(2, vI y1), (0, vR d0 (k0 + 1)), (1, vI a1)]) dX6_isMarked_4 rfl (by decide) rfl ?_
  refine b_iload_n dX6_isMarked_5 rfl (k := 0) rfl ?_
  refine b_iflt (tgt := 34) dX6_isMarked_6 (by decide) (fun c2 => ?_) (fun c2 => ?_)
  · replace h := ifT c2 h
    refine b_iconst (v := 0) dX6_isMarked_34 (by decide) ?_
    obtain ⟨rfl, rfl⟩ := rtE h
    exact b_zret rfl (by decide) dX6_isMarked_35
  · replace h := ifF c2 h
    refine b_iload_n dX6_isMarked_9 rfl (k := 0) rfl ?_
    refine b_aload_n dX6_isMarked_10 rfl (k := 1) rfl ?_
    refine b_alen (v := Int32.ofNat n0) ha0 (by decide) rfl dX6_isMarked_11 ?_
    refine b_icge (tgt := 34) dX6_isMarked_12 (by decide) (fun c3 => ?_) (fun c3 => ?_)
    · replace h := ifT c3 h
      refine b_iconst (v := 0) dX6_isMarked_34 (by decide) ?_
      obtain ⟨rfl, rfl⟩ := rtE h
      exact b_zret rfl (by decide) dX6_isMarked_35
    · replace h := ifF c3 h
      refine b_aload_n dX6_isMarked_15 rfl (k := 1) rfl ?_
      refine b_iload_n dX6_isMarked_16 rfl (k := 0) rfl ?_
      obtain ⟨g4, h⟩ := gdE h
      refine b_lald ha0 g4 rfl dX6_isMarked_17 ?_
      refine b_iload_n dX6_isMarked_18 rfl (k := 2) rfl ?_
      refine b_bipush (v := 63) dX6_isMarked_19 (by decide) ?_
      refine b_iand dX6_isMarked_21 ?_
      refine b_lushr dX6_isMarked_22 ?_
      refine b_lconst (v := 1) dX6_isMarked_23 (by decide) ?_
      refine b_land dX6_isMarked_24 ?_
      refine b_lconst (v := 0) dX6_isMarked_25 (by decide) ?_
      refine b_lcmp dX6_isMarked_26 ?_
      refine b_ifeq (tgt := 34) dX6_isMarked_27 (by decide) (fun c5 => ?_) (fun c5 => ?_)
      · replace h := ifT c5 h
        refine b_iconst (v := 0) dX6_isMarked_34 (by decide) ?_
        obtain ⟨rfl, rfl⟩ := rtE h
        exact b_zret rfl (by decide) dX6_isMarked_35
      · replace h := ifF c5 h
        refine b_iconst (v := 1) dX6_isMarked_30 (by decide) ?_
        refine b_goto (tgt := 35) dX6_isMarked_31 (by decide) ?_
        obtain ⟨rfl, rfl⟩ := rtE h
        exact b_zret rfl (by decide) dX6_isMarked_35
theorem s6_isMarked (d0 k0 n0 : Nat) (a1 : Int32) (ha0 : Ar d0 k0 1 n0) (w w' : Mem) (r : Int32) (h : f6_isMarked  d0 k0 n0 a1  w = some (r, w')) : Sp yX6_isMarked cX6_isMarked 3 (some .boolean) 1 [vR d0 (k0 + 1), vI a1] w (some (vI r)) w' := sp_of (by decide) (fun _ => rfl) (fun _ => Nat.le_of_ble_eq_true rfl) (t6_isMarked  d0 k0 n0 a1 ha0  _ _ _ h)
-- X6_isFog OneADay$Rock
def f6_isFog  (d0 : Nat) (a1 : Int32)   (w : Mem) : Option (Int32 × Mem) :=
  bndO (f6_isMarked d0 12 16 a1 w) fun r2 w1 => if ¬ r2 &&& 1 = r2 then none else some (r2, w1)
set_option maxRecDepth 100000 in
set_option maxHeartbeats 4000000 in
theorem t6_isFog   (d0 : Nat) (a1 : Int32) (hd0 : Ob d0 6)    (w w' : Mem) (r : Int32) (h : f6_isFog  d0 a1   w = some (r, w')) : Bk yX6_isFog cX6_isFog 2 (some .boolean) 2 0 [(0, vR d0 0), (1, vI a1)] [] w (some (vI r)) w' := by
  unfold f6_isFog at h
  refine b_aload_n dX6_isFog_0 rfl (k := 0) rfl ?_
  refine b_getF fl6_28 hd0 rfl (grC6 hd0 12) dX6_isFog_1 ?_
  refine b_iload_n dX6_isFog_4 rfl (k := 1) rfl ?_
  obtain ⟨r2, w1, hw1, h⟩ := bdO h
  refine b_callSi ms6_isMarked ml6_66 (s6_isMarked d0 12 16 a1 (arC6_12 hd0) _ _ _ hw1) rfl (by decide) (by decide) (Nat.le_of_ble_eq_true rfl) rfl dX6_isFog_5 ?_
  obtain ⟨g3, h⟩ := gdE h
  obtain ⟨rfl, rfl⟩ := rtE h
  exact b_zret rfl (Decidable.not_not.mp g3) dX6_isFog_8
theorem s6_isFog (d0 : Nat) (a1 : Int32) (hd0 : Ob d0 6) (w w' : Mem) (r : Int32) (h : f6_isFog  d0 a1  w = some (r, w')) : Sp yX6_isFog cX6_isFog 2 (some .boolean) 2 [vR d0 0, vI a1] w (some (vI r)) w' := sp_of (by decide) (fun _ => rfl) (fun _ => Nat.le_of_ble_eq_true rfl) (t6_isFog  d0 a1 hd0  _ _ _ h)
-- X4_freeOn OneADay$Plan
def f4_freeOn_68  (d1 : Nat) (a2 : Int32)  : Nat → Int32 → Int32 → Int32 → Mem → Option (Int32 × Mem)
  | 0, _, _, _, _ => none
  | n + 1, x3, x4, x5, w =>
  if (w.1 d1 4 0) ≤ x5 then (some (x3, w)) else (if 8 ≤ x5 then (some (x3, w)) else (if x4 = 0 then (bnd (x5 + 1) fun y4 => f4_freeOn_68  d1 a2  n x3 x4 y4 w) else (if x5 < 0 ∨ 8 ≤ Int32.toNatClampNeg x5 then none else if (w.1 d1 7 (Int32.toNatClampNeg x5)) ≤ 0 then (bnd (x5 + 1) fun y7 => f4_freeOn_68  d1 a2  n x3 x4 y7 w) else (bnd (x3 &&& ((jshl 1 x5) ^^^ (-1))) fun y8 => bnd (x5 + 1) fun y9 => f4_freeOn_68  d1 a2  n y8 x4 y9 w))))
set_option maxRecDepth 100000 in
set_option maxHeartbeats 4000000 in
theorem t4_freeOn_68   (d1 : Nat) (a2 : Int32) (hd1 : Ob d1 6)   : ∀ (n : Nat) (x3 : Int32) (x4 : Int32) (x5 : Int32) (w w' : Mem) (r : Int32), f4_freeOn_68  d1 a2  n x3 x4 x5 w = some (r, w') → Bk yX4_freeOn cX4_freeOn 6 (some .int) 3 68 [(1, vR d1 0), (3, vI x3), (4, vI x4), (5, vI x5)] [] w (some (vI r)) w' := by
  intro n
  induction n with
  | zero =>
    intro x3 x4 x5 w w' r h
    cases (show (none : Option (Int32 × Mem)) = some _ from h)
  | succ n ih =>
    intro x3 x4 x5 w w' r h
    rw [f4_freeOn_68] at h
    refine b_iload dX4_freeOn_68 (k := 3) rfl ?_
    refine b_aload_n dX4_freeOn_70 rfl (k := 0) rfl ?_
    refine b_getI fl4_48 hd1 rfl dX4_freeOn_71 ?_
    refine b_icge (tgt := 114) dX4_freeOn_74 (by decide) (fun c1 => ?_) (fun c1 => ?_)
    · replace h := ifT c1 h
      refine b_iload_n dX4_freeOn_114 rfl (k := 1) rfl ?_
      obtain ⟨rfl, rfl⟩ := rtE h
      exact b_iret rfl dX4_freeOn_115
    · replace h := ifF c1 h
      refine b_iload dX4_freeOn_77 (k := 3) rfl ?_
      refine b_bipush (v := 8) dX4_freeOn_79 (by decide) ?_
      refine b_icge (tgt := 114) dX4_freeOn_81 (by decide) (fun c2 => ?_) (fun c2 => ?_)
      · replace h := ifT c2 h
        refine b_iload_n dX4_freeOn_114 rfl (k := 1) rfl ?_
        obtain ⟨rfl, rfl⟩ := rtE h
        exact b_iret rfl dX4_freeOn_115
      · replace h := ifF c2 h
        refine b_iload dX4_freeOn_84 (k := 2) rfl ?_
        refine b_ifeq (tgt := 108) dX4_freeOn_86 (by decide) (fun c3 => ?_) (fun c3 => ?_)
        · replace h := ifT c3 h
          obtain ⟨y4, ey4, h⟩ := nmE h
          refine b_iinc (v := y4) (lv' := [(5, vI y4), (1, vR d1 0), (3, vI x3), (4, vI x4)]) dX4_freeOn_108 (k := 3) rfl ey4.symm (by decide) rfl ?_
          refine b_goto (tgt := 68) dX4_freeOn_111 (by decide) ?_
          refine b_sub [1, 2, 3, 0] rfl ?_
          exact ih x3 x4 y4 _ _ _ h
        · replace h := ifF c3 h
          refine b_aload_n dX4_freeOn_89 rfl (k := 0) rfl ?_
          refine b_getF fl4_41 hd1 rfl (grC6 hd1 7) dX4_freeOn_90 ?_
          refine b_iload dX4_freeOn_93 (k := 3) rfl ?_
          obtain ⟨g5, h⟩ := gdE h
          refine b_iald (arC6_7 hd1) g5 rfl dX4_freeOn_95 ?_
          refine b_ifle (tgt := 108) dX4_freeOn_96 (by decide) (fun c6 => ?_) (fun c6 => ?_)
          · replace h := ifT c6 h
            obtain ⟨y7, ey7, h⟩ := nmE h
            refine b_iinc (v := y7) (lv' := [(5, vI y7), (1, vR d1 0), (3, vI x3), (4, vI x4)]) dX4_freeOn_108 (k := 3) rfl ey7.symm (by decide) rfl ?_
            refine b_goto (tgt := 68) dX4_freeOn_111 (by decide) ?_
            refine b_sub [1, 2, 3, 0] rfl ?_
            exact ih x3 x4 y7 _ _ _ h
          · replace h := ifF c6 h
            refine b_iload_n dX4_freeOn_99 rfl (k := 1) rfl ?_
            refine b_iconst (v := 1) dX4_freeOn_100 (by decide) ?_
            refine b_iload dX4_freeOn_101 (k := 3) rfl ?_
            refine b_ishl dX4_freeOn_103 ?_
            refine b_iconst (v := (-1)) dX4_freeOn_104 (by decide) ?_
            refine b_ixor dX4_freeOn_105 ?_
            refine b_iand dX4_freeOn_106 ?_
            obtain ⟨y8, ey8, h⟩ := nmE h
            refine b_nmI ey8 ?_
            refine b_istore_n (lv' := [(3, vI y8), (1, vR d1 0), (4, vI x4), (5, vI x5)]) dX4_freeOn_107 rfl (by decide) rfl ?_
            obtain ⟨y9, ey9, h⟩ := nmE h
            refine b_iinc (v := y9) (lv' := [(5, vI y9), (3, vI y8), (1, vR d1 0), (4, vI x4)]) dX4_freeOn_108 (k := 3) rfl ey9.symm (by decide) rfl ?_
            refine b_goto (tgt := 68) dX4_freeOn_111 (by decide) ?_
            refine b_sub [2, 1, 3, 0] rfl ?_
            exact ih y8 x4 y9 _ _ _ h
def f4_freeOn_53  (d1 : Nat) (a2 : Int32)  (x3 : Int32) (w : Mem) : Option (Int32 × Mem) :=
  bndO (f6_isFog d1 ((w.1 31 1 0) + a2) w) fun r2 w1 => f4_freeOn_68  d1 a2  100000 x3 r2 0 w1
set_option maxRecDepth 100000 in
set_option maxHeartbeats 4000000 in
theorem t4_freeOn_53   (d1 : Nat) (a2 : Int32) (hd1 : Ob d1 6)   (x3 : Int32) (w w' : Mem) (r : Int32) (h : f4_freeOn_53  d1 a2  x3 w = some (r, w')) : Bk yX4_freeOn cX4_freeOn 6 (some .int) 3 53 [(0, vR 31 0), (1, vR d1 0), (2, vI a2), (3, vI x3)] [] w (some (vI r)) w' := by
  unfold f4_freeOn_53 at h
  refine b_aload_n dX4_freeOn_53 rfl (k := 1) rfl ?_
  refine b_aload_n dX4_freeOn_54 rfl (k := 0) rfl ?_
  refine b_getI fl4_15 ob31 rfl dX4_freeOn_55 ?_
  refine b_iload_n dX4_freeOn_58 rfl (k := 2) rfl ?_
  refine b_iadd dX4_freeOn_59 ?_
  obtain ⟨r2, w1, hw1, h⟩ := bdO h
  refine b_callVi mv6_isFog ml4_31 hd1 (s6_isFog d1 ((w.1 31 1 0) + a2) hd1 _ _ _ hw1) rfl (by decide) (by decide) (Nat.le_of_ble_eq_true rfl) rfl dX4_freeOn_60 ?_
  refine b_istore (lv' := [(4, vI r2), (0, vR 31 0), (1, vR d1 0), (2, vI a2), (3, vI x3)]) dX4_freeOn_63 (by decide) rfl ?_
  refine b_iconst (v := 0) dX4_freeOn_65 (by decide) ?_
  refine b_istore (lv' := [(5, vI 0), (4, vI r2), (0, vR 31 0), (1, vR d1 0), (2, vI a2), (3, vI x3)]) dX4_freeOn_66 (by decide) rfl ?_
  refine b_sub [3, 5, 1, 0] rfl ?_
  exact t4_freeOn_68  d1 a2 hd1   100000 x3 r2 0 _ _ _ h
def f4_freeOn_17  (d1 : Nat) (a2 : Int32)  : Nat → Int32 → Int32 → Mem → Option (Int32 × Mem)
  | 0, _, _, _ => none
  | n + 1, x3, x4, w =>
  if a2 ≤ x4 then (f4_freeOn_53  d1 a2  x3 w) else (if 10 ≤ x4 then (f4_freeOn_53  d1 a2  x3 w) else (if x4 < 0 ∨ 10 ≤ Int32.toNatClampNeg x4 then none else bnd (x3 &&& ((jshl 1 (w.1 31 0 (Int32.toNatClampNeg x4))) ^^^ (-1))) fun y4 => bnd (x4 + 1) fun y5 => f4_freeOn_17  d1 a2  n y4 y5 w))
set_option maxRecDepth 100000 in
set_option maxHeartbeats 4000000 in
theorem t4_freeOn_17   (d1 : Nat) (a2 : Int32) (hd1 : Ob d1 6)   : ∀ (n : Nat) (x3 : Int32) (x4 : Int32) (w w' : Mem) (r : Int32), f4_freeOn_17  d1 a2  n x3 x4 w = some (r, w') → Bk yX4_freeOn cX4_freeOn 6 (some .int) 3 17 [(0, vR 31 0), (1, vR d1 0), (2, vI a2), (3, vI x3), (4, vI x4)] [] w (some (vI r)) w' := by
  intro n
  induction n with
  | zero =>
    intro x3 x4 w w' r h
    cases (show (none : Option (Int32 × Mem)) = some _ from h)
  | succ n ih =>
    intro x3 x4 w w' r h
    rw [f4_freeOn_17] at h
    refine b_iload dX4_freeOn_17 (k := 4) rfl ?_
    refine b_iload_n dX4_freeOn_19 rfl (k := 2) rfl ?_
    refine b_icge (tgt := 53) dX4_freeOn_20 (by decide) (fun c1 => ?_) (fun c1 => ?_)
    · replace h := ifT c1 h
      refine b_sub [0, 1, 2, 3] rfl ?_
      exact t4_freeOn_53  d1 a2 hd1   x3 _ _ _ h
    · replace h := ifF c1 h
      refine b_iload dX4_freeOn_23 (k := 4) rfl ?_
      refine b_aload_n dX4_freeOn_25 rfl (k := 0) rfl ?_
      refine b_getF fl4_9 ob31 rfl rfl dX4_freeOn_26 ?_
      refine b_alen (v := 10) ar31_0 (by decide) (by decide) dX4_freeOn_29 ?_
      refine b_icge (tgt := 53) dX4_freeOn_30 (by decide) (fun c2 => ?_) (fun c2 => ?_)
      · replace h := ifT c2 h
        refine b_sub [0, 1, 2, 3] rfl ?_
        exact t4_freeOn_53  d1 a2 hd1   x3 _ _ _ h
      · replace h := ifF c2 h
        refine b_iload_n dX4_freeOn_33 rfl (k := 3) rfl ?_
        refine b_iconst (v := 1) dX4_freeOn_34 (by decide) ?_
        refine b_aload_n dX4_freeOn_35 rfl (k := 0) rfl ?_
        refine b_getF fl4_9 ob31 rfl rfl dX4_freeOn_36 ?_
        refine b_iload dX4_freeOn_39 (k := 4) rfl ?_
        obtain ⟨g3, h⟩ := gdE h
        refine b_iald ar31_0 g3 rfl dX4_freeOn_41 ?_
        refine b_ishl dX4_freeOn_42 ?_
        refine b_iconst (v := (-1)) dX4_freeOn_43 (by decide) ?_
        refine b_ixor dX4_freeOn_44 ?_
        refine b_iand dX4_freeOn_45 ?_
        obtain ⟨y4, ey4, h⟩ := nmE h
        refine b_nmI ey4 ?_
        refine b_istore_n (lv' := [(3, vI y4), (0, vR 31 0), (1, vR d1 0), (2, vI a2), (4, vI x4)]) dX4_freeOn_46 rfl (by decide) rfl ?_
        obtain ⟨y5, ey5, h⟩ := nmE h
        refine b_iinc (v := y5) (lv' := [(4, vI y5), (3, vI y4), (0, vR 31 0), (1, vR d1 0), (2, vI a2)]) dX4_freeOn_47 (k := 4) rfl ey5.symm (by decide) rfl ?_
        refine b_goto (tgt := 17) dX4_freeOn_50 (by decide) ?_
        refine b_sub [2, 3, 4, 1, 0] rfl ?_
        exact ih y4 y5 _ _ _ h
def f4_freeOn  (d1 : Nat) (a2 : Int32)   (w : Mem) : Option (Int32 × Mem) :=
  bndO (f6_all d1 w) fun r2 w1 => bnd (jmax 0 (a2 - (w1.1 d1 2 0))) fun y3 => f4_freeOn_17  d1 a2  100000 r2 y3 w1
set_option maxRecDepth 100000 in
set_option maxHeartbeats 4000000 in
theorem t4_freeOn   (d1 : Nat) (a2 : Int32) (hd1 : Ob d1 6)    (w w' : Mem) (r : Int32) (h : f4_freeOn  d1 a2   w = some (r, w')) : Bk yX4_freeOn cX4_freeOn 6 (some .int) 3 0 [(0, vR 31 0), (1, vR d1 0), (2, vI a2)] [] w (some (vI r)) w' := by
  unfold f4_freeOn at h
  refine b_aload_n dX4_freeOn_0 rfl (k := 1) rfl ?_
  obtain ⟨r2, w1, hw1, h⟩ := bdO h
  refine b_callVi mv6_all ml4_54 hd1 (s6_all d1 hd1 _ _ _ hw1) rfl (by decide) (by decide) (Nat.le_of_ble_eq_true rfl) rfl dX4_freeOn_1 ?_
  refine b_istore_n (lv' := [(3, vI r2), (0, vR 31 0), (1, vR d1 0), (2, vI a2)]) dX4_freeOn_4 rfl (by decide) rfl ?_
  refine b_iconst (v := 0) dX4_freeOn_5 (by decide) ?_
  refine b_iload_n dX4_freeOn_6 rfl (k := 3) rfl ?_
  refine b_aload_n dX4_freeOn_7 rfl (k := 2) rfl ?_
  refine b_getI fl4_58 hd1 rfl dX4_freeOn_8 ?_
  refine b_isub dX4_freeOn_11 ?_
  refine b_mmax ml4_61 (Nat.le_of_ble_eq_true rfl) (by first | decide | omega) dX4_freeOn_12 ?_
  obtain ⟨y3, ey3, h⟩ := nmE h
  refine b_nmI ey3 ?_
  refine b_istore (lv' := [(4, vI y3), (3, vI r2), (0, vR 31 0), (1, vR d1 0), (2, vI a2)]) dX4_freeOn_15 (by decide) rfl ?_
  refine b_sub [2, 3, 4, 1, 0] rfl ?_
  exact t4_freeOn_17  d1 a2 hd1   100000 r2 y3 _ _ _ h
theorem s4_freeOn (d1 : Nat) (a2 : Int32) (hd1 : Ob d1 6) (w w' : Mem) (r : Int32) (h : f4_freeOn  d1 a2  w = some (r, w')) : Sp yX4_freeOn cX4_freeOn 6 (some .int) 3 [vR 31 0, vR d1 0, vI a2] w (some (vI r)) w' := sp_of (by decide) (fun _ => rfl) (fun _ => Nat.le_of_ble_eq_true rfl) (t4_freeOn  d1 a2 hd1  _ _ _ h)
-- X4_nearestOf OneADay$Plan
def f4_nearestOf_5  (d0 : Nat) (a1 : Int32) (a2 : Int32)  : Nat → Int32 → Int32 → Mem → Option (Int32 × Mem)
  | 0, _, _, _ => none
  | n + 1, x3, x4, w =>
  if (w.1 d0 4 0) ≤ x4 then (some (x3, w)) else (if 8 ≤ x4 then (some (x3, w)) else (if ((jshr a1 x4) &&& 1) = 0 then (bnd (x4 + 1) fun y4 => f4_nearestOf_5  d0 a1 a2  n x3 y4 w) else (if x4 < 0 ∨ 8 ≤ Int32.toNatClampNeg x4 then none else if a2 ≤ (w.1 d0 7 (Int32.toNatClampNeg x4)) then (if x3 = (-1) then (bnd (x4 + 1) fun y8 => f4_nearestOf_5  d0 a1 a2  n x4 y8 w) else (if x4 < 0 ∨ 8 ≤ Int32.toNatClampNeg x4 then none else if x3 < 0 ∨ 8 ≤ Int32.toNatClampNeg x3 then none else if (w.1 d0 7 (Int32.toNatClampNeg x3)) ≤ (w.1 d0 7 (Int32.toNatClampNeg x4)) then (bnd (x4 + 1) fun y12 => f4_nearestOf_5  d0 a1 a2  n x3 y12 w) else (bnd (x4 + 1) fun y13 => f4_nearestOf_5  d0 a1 a2  n x4 y13 w))) else (bnd (x4 + 1) fun y14 => f4_nearestOf_5  d0 a1 a2  n x3 y14 w))))
set_option maxRecDepth 100000 in
set_option maxHeartbeats 4000000 in
theorem t4_nearestOf_5   (d0 : Nat) (a1 : Int32) (a2 : Int32) (hd0 : Ob d0 6)   : ∀ (n : Nat) (x3 : Int32) (x4 : Int32) (w w' : Mem) (r : Int32), f4_nearestOf_5  d0 a1 a2  n x3 x4 w = some (r, w') → Bk yX4_nearestOf cX4_nearestOf 5 (some .int) 1 5 [(0, vR d0 0), (1, vI a1), (2, vI a2), (3, vI x3), (4, vI x4)] [] w (some (vI r)) w' := by
  intro n
  induction n with
  | zero =>
    intro x3 x4 w w' r h
    cases (show (none : Option (Int32 × Mem)) = some _ from h)
  | succ n ih =>
    intro x3 x4 w w' r h
    rw [f4_nearestOf_5] at h
    refine b_iload dX4_nearestOf_5 (k := 4) rfl ?_
    refine b_aload_n dX4_nearestOf_7 rfl (k := 0) rfl ?_
    refine b_getI fl4_48 hd0 rfl dX4_nearestOf_8 ?_
    refine b_icge (tgt := 74) dX4_nearestOf_11 (by decide) (fun c1 => ?_) (fun c1 => ?_)
    · replace h := ifT c1 h
      refine b_iload_n dX4_nearestOf_74 rfl (k := 3) rfl ?_
      obtain ⟨rfl, rfl⟩ := rtE h
      exact b_iret rfl dX4_nearestOf_75
    · replace h := ifF c1 h
      refine b_iload dX4_nearestOf_14 (k := 4) rfl ?_
      refine b_bipush (v := 8) dX4_nearestOf_16 (by decide) ?_
      refine b_icge (tgt := 74) dX4_nearestOf_18 (by decide) (fun c2 => ?_) (fun c2 => ?_)
      · replace h := ifT c2 h
        refine b_iload_n dX4_nearestOf_74 rfl (k := 3) rfl ?_
        obtain ⟨rfl, rfl⟩ := rtE h
        exact b_iret rfl dX4_nearestOf_75
      · replace h := ifF c2 h
        refine b_iload_n dX4_nearestOf_21 rfl (k := 1) rfl ?_
        refine b_iload dX4_nearestOf_22 (k := 4) rfl ?_
        refine b_ishr dX4_nearestOf_24 ?_
        refine b_iconst (v := 1) dX4_nearestOf_25 (by decide) ?_
        refine b_iand dX4_nearestOf_26 ?_
        refine b_ifeq (tgt := 68) dX4_nearestOf_27 (by decide) (fun c3 => ?_) (fun c3 => ?_)
        · replace h := ifT c3 h
          obtain ⟨y4, ey4, h⟩ := nmE h
          refine b_iinc (v := y4) (lv' := [(4, vI y4), (0, vR d0 0), (1, vI a1), (2, vI a2), (3, vI x3)]) dX4_nearestOf_68 (k := 4) rfl ey4.symm (by decide) rfl ?_
          refine b_goto (tgt := 5) dX4_nearestOf_71 (by decide) ?_
          refine b_sub [1, 2, 3, 4, 0] rfl ?_
          exact ih x3 y4 _ _ _ h
        · replace h := ifF c3 h
          refine b_aload_n dX4_nearestOf_30 rfl (k := 0) rfl ?_
          refine b_getF fl4_41 hd0 rfl (grC6 hd0 7) dX4_nearestOf_31 ?_
          refine b_iload dX4_nearestOf_34 (k := 4) rfl ?_
          obtain ⟨g5, h⟩ := gdE h
          refine b_iald (arC6_7 hd0) g5 rfl dX4_nearestOf_36 ?_
          refine b_iload_n dX4_nearestOf_37 rfl (k := 2) rfl ?_
          refine b_icge (tgt := 44) dX4_nearestOf_38 (by decide) (fun c6 => ?_) (fun c6 => ?_)
          · replace h := ifT c6 h
            refine b_iload_n dX4_nearestOf_44 rfl (k := 3) rfl ?_
            refine b_iconst (v := (-1)) dX4_nearestOf_45 (by decide) ?_
            refine b_iceq (tgt := 65) dX4_nearestOf_46 (by decide) (fun c7 => ?_) (fun c7 => ?_)
            · replace h := ifT c7 h
              refine b_iload dX4_nearestOf_65 (k := 4) rfl ?_
              refine b_istore_n (lv' := [(3, vI x4), (0, vR d0 0), (1, vI a1), (2, vI a2), (4, vI x4)]) dX4_nearestOf_67 rfl (by decide) rfl ?_
              obtain ⟨y8, ey8, h⟩ := nmE h
              refine b_iinc (v := y8) (lv' := [(4, vI y8), (3, vI x4), (0, vR d0 0), (1, vI a1), (2, vI a2)]) dX4_nearestOf_68 (k := 4) rfl ey8.symm (by decide) rfl ?_
              refine b_goto (tgt := 5) dX4_nearestOf_71 (by decide) ?_
              refine b_sub [2, 3, 4, 1, 0] rfl ?_
              exact ih x4 y8 _ _ _ h
            · replace h := ifF c7 h
              refine b_aload_n dX4_nearestOf_49 rfl (k := 0) rfl ?_
              refine b_getF fl4_41 hd0 rfl (grC6 hd0 7) dX4_nearestOf_50 ?_
              refine b_iload dX4_nearestOf_53 (k := 4) rfl ?_
              obtain ⟨g9, h⟩ := gdE h
              refine b_iald (arC6_7 hd0) g9 rfl dX4_nearestOf_55 ?_
              refine b_aload_n dX4_nearestOf_56 rfl (k := 0) rfl ?_
              refine b_getF fl4_41 hd0 rfl (grC6 hd0 7) dX4_nearestOf_57 ?_
              refine b_iload_n dX4_nearestOf_60 rfl (k := 3) rfl ?_
              obtain ⟨g10, h⟩ := gdE h
              refine b_iald (arC6_7 hd0) g10 rfl dX4_nearestOf_61 ?_
              refine b_icge (tgt := 68) dX4_nearestOf_62 (by decide) (fun c11 => ?_) (fun c11 => ?_)
              · replace h := ifT c11 h
                obtain ⟨y12, ey12, h⟩ := nmE h
                refine b_iinc (v := y12) (lv' := [(4, vI y12), (0, vR d0 0), (1, vI a1), (2, vI a2), (3, vI x3)]) dX4_nearestOf_68 (k := 4) rfl ey12.symm (by decide) rfl ?_
                refine b_goto (tgt := 5) dX4_nearestOf_71 (by decide) ?_
                refine b_sub [1, 2, 3, 4, 0] rfl ?_
                exact ih x3 y12 _ _ _ h
              · replace h := ifF c11 h
                refine b_iload dX4_nearestOf_65 (k := 4) rfl ?_
                refine b_istore_n (lv' := [(3, vI x4), (0, vR d0 0), (1, vI a1), (2, vI a2), (4, vI x4)]) dX4_nearestOf_67 rfl (by decide) rfl ?_
                obtain ⟨y13, ey13, h⟩ := nmE h
                refine b_iinc (v := y13) (lv' := [(4, vI y13), (3, vI x4), (0, vR d0 0), (1, vI a1), (2, vI a2)]) dX4_nearestOf_68 (k := 4) rfl ey13.symm (by decide) rfl ?_
                refine b_goto (tgt := 5) dX4_nearestOf_71 (by decide) ?_
                refine b_sub [2, 3, 4, 1, 0] rfl ?_
                exact ih x4 y13 _ _ _ h
          · replace h := ifF c6 h
            refine b_goto (tgt := 68) dX4_nearestOf_41 (by decide) ?_
            obtain ⟨y14, ey14, h⟩ := nmE h
            refine b_iinc (v := y14) (lv' := [(4, vI y14), (0, vR d0 0), (1, vI a1), (2, vI a2), (3, vI x3)]) dX4_nearestOf_68 (k := 4) rfl ey14.symm (by decide) rfl ?_
            refine b_goto (tgt := 5) dX4_nearestOf_71 (by decide) ?_
            refine b_sub [1, 2, 3, 4, 0] rfl ?_
            exact ih x3 y14 _ _ _ h
def f4_nearestOf  (d0 : Nat) (a1 : Int32) (a2 : Int32)   (w : Mem) : Option (Int32 × Mem) :=
  f4_nearestOf_5  d0 a1 a2  100000 (-1) 0 w
set_option maxRecDepth 100000 in
set_option maxHeartbeats 4000000 in
theorem t4_nearestOf   (d0 : Nat) (a1 : Int32) (a2 : Int32) (hd0 : Ob d0 6)    (w w' : Mem) (r : Int32) (h : f4_nearestOf  d0 a1 a2   w = some (r, w')) : Bk yX4_nearestOf cX4_nearestOf 5 (some .int) 1 0 [(0, vR d0 0), (1, vI a1), (2, vI a2)] [] w (some (vI r)) w' := by
  unfold f4_nearestOf at h
  refine b_iconst (v := (-1)) dX4_nearestOf_0 (by decide) ?_
  refine b_istore_n (lv' := [(3, vI (-1)), (0, vR d0 0), (1, vI a1), (2, vI a2)]) dX4_nearestOf_1 rfl (by decide) rfl ?_
  refine b_iconst (v := 0) dX4_nearestOf_2 (by decide) ?_
  refine b_istore (lv' := [(4, vI 0), (3, vI (-1)), (0, vR d0 0), (1, vI a1), (2, vI a2)]) dX4_nearestOf_3 (by decide) rfl ?_
  refine b_sub [2, 3, 4, 1, 0] rfl ?_
  exact t4_nearestOf_5  d0 a1 a2 hd0   100000 (-1) 0 _ _ _ h
theorem s4_nearestOf (d0 : Nat) (a1 : Int32) (a2 : Int32) (hd0 : Ob d0 6) (w w' : Mem) (r : Int32) (h : f4_nearestOf  d0 a1 a2  w = some (r, w')) : Sp yX4_nearestOf cX4_nearestOf 5 (some .int) 1 [vR d0 0, vI a1, vI a2] w (some (vI r)) w' := sp_of (by decide) (fun _ => rfl) (fun _ => Nat.le_of_ble_eq_true rfl) (t4_nearestOf  d0 a1 a2 hd0  _ _ _ h)
-- X4_leastWith OneADay$Plan
def f4_leastWith (self : Nat → Int32 → Mem → Option (Int32 × Mem)) (d1 : Nat) (a2 : Int32) (a3 : Int32)   (w : Mem) : Option (Int32 × Mem) :=
  if a3 < 0 then (some (1000000, w)) else (if 8 ≤ a3 then (some (1000000, w)) else (if a2 < 0 then (some (1000000, w)) else (if a2 < 10 then (if a2 < 0 ∨ 10 ≤ Int32.toNatClampNeg a2 then none else bnd (sI w 31 0 (Int32.toNatClampNeg a2) a3) fun w6 => if a3 < 0 ∨ 8 ≤ Int32.toNatClampNeg a3 then none else bndO (self d1 (a2 + 1) w6) fun r9 w8 => some (jmin 1000000 ((2 * (w6.1 d1 7 (Int32.toNatClampNeg a3))) + r9), w8)) else (some (1000000, w)))))
set_option maxRecDepth 100000 in
set_option maxHeartbeats 4000000 in
theorem t4_leastWith (self : Nat → Int32 → Mem → Option (Int32 × Mem)) (ds dp : Nat) (hdp : ds + 1 ≤ dp) (hdc : 12 ≤ ds) (hself : ∀ (d1 : Nat) (a2 : Int32) (hd1 : Ob d1 6) (w w' : Mem) (r : Int32), self d1 a2 w = some (r, w') → Sp yX4_leastFrom cX4_leastFrom 7 (some .int) ds [vR 31 0, vR d1 0, vI a2] w (some (vI r)) w') (d1 : Nat) (a2 : Int32) (a3 : Int32) (hd1 : Ob d1 6)    (w w' : Mem) (r : Int32) (h : f4_leastWith self d1 a2 a3   w = some (r, w')) : Bk yX4_leastWith cX4_leastWith 4 (some .int) dp 0 [(0, vR 31 0), (1, vR d1 0), (2, vI a2), (3, vI a3)] [] w (some (vI r)) w' := by
  unfold f4_leastWith at h
  refine b_iload_n dX4_leastWith_0 rfl (k := 3) rfl ?_
  refine b_iflt (tgt := 26) dX4_leastWith_1 (by decide) (fun c1 => ?_) (fun c1 => ?_)
  · replace h := ifT c1 h
    refine b_ldc dX4_leastWith_26 kk4_47 ?_
    obtain ⟨rfl, rfl⟩ := rtE h
    exact b_iret rfl dX4_leastWith_28
  · replace h := ifF c1 h
    refine b_iload_n dX4_leastWith_4 rfl (k := 3) rfl ?_
    refine b_aload_n dX4_leastWith_5 rfl (k := 1) rfl ?_
    refine b_getF fl4_41 hd1 rfl (grC6 hd1 7) dX4_leastWith_6 ?_
    refine b_alen (v := 8) (arC6_7 hd1) (by decide) (by decide) dX4_leastWith_9 ?_
    refine b_icge (tgt := 26) dX4_leastWith_10 (by decide) (fun c2 => ?_) (fun c2 => ?_)
    · replace h := ifT c2 h
      refine b_ldc dX4_leastWith_26 kk4_47 ?_
      obtain ⟨rfl, rfl⟩ := rtE h
      exact b_iret rfl dX4_leastWith_28
    · replace h := ifF c2 h
      refine b_iload_n dX4_leastWith_13 rfl (k := 2) rfl ?_
      refine b_iflt (tgt := 26) dX4_leastWith_14 (by decide) (fun c3 => ?_) (fun c3 => ?_)
      · replace h := ifT c3 h
        refine b_ldc dX4_leastWith_26 kk4_47 ?_
        obtain ⟨rfl, rfl⟩ := rtE h
        exact b_iret rfl dX4_leastWith_28
      · replace h := ifF c3 h
        refine b_iload_n dX4_leastWith_17 rfl (k := 2) rfl ?_
        refine b_aload_n dX4_leastWith_18 rfl (k := 0) rfl ?_
        refine b_getF fl4_9 ob31 rfl rfl dX4_leastWith_19 ?_
        refine b_alen (v := 10) ar31_0 (by decide) (by decide) dX4_leastWith_22 ?_
        refine b_iclt (tgt := 29) dX4_leastWith_23 (by decide) (fun c4 => ?_) (fun c4 => ?_)
        · replace h := ifT c4 h
          refine b_aload_n dX4_leastWith_29 rfl (k := 0) rfl ?_
          refine b_getF fl4_9 ob31 rfl rfl dX4_leastWith_30 ?_
          refine b_iload_n dX4_leastWith_33 rfl (k := 2) rfl ?_
          refine b_iload_n dX4_leastWith_34 rfl (k := 3) rfl ?_
          obtain ⟨g5, h⟩ := gdE h
          obtain ⟨w6, ew6, h⟩ := nmE h
          refine b_iast ar31_0 g5 rfl dX4_leastWith_35 ?_
          refine b_nmW ew6 ?_
          refine b_ldc dX4_leastWith_36 kk4_47 ?_
          refine b_iconst (v := 2) dX4_leastWith_38 (by decide) ?_
          refine b_aload_n dX4_leastWith_39 rfl (k := 1) rfl ?_
          refine b_getF fl4_41 hd1 rfl (grC6 hd1 7) dX4_leastWith_40 ?_
          refine b_iload_n dX4_leastWith_43 rfl (k := 3) rfl ?_
          obtain ⟨g7, h⟩ := gdE h
          refine b_iald (arC6_7 hd1) g7 rfl dX4_leastWith_44 ?_
          refine b_imul dX4_leastWith_45 ?_
          refine b_aload_n dX4_leastWith_46 rfl (k := 0) rfl ?_
          refine b_aload_n dX4_leastWith_47 rfl (k := 1) rfl ?_
          refine b_iload_n dX4_leastWith_48 rfl (k := 2) rfl ?_
          refine b_iconst (v := 1) dX4_leastWith_49 (by decide) ?_
          refine b_iadd dX4_leastWith_50 ?_
          obtain ⟨r9, w8, hw8, h⟩ := bdO h
          refine b_callVi mv4_leastFrom ml4_51 ob31 (hself d1 (a2 + 1) hd1 _ _ _ hw8) rfl (by omega) (by decide) (Nat.le_of_ble_eq_true rfl) rfl dX4_leastWith_51 ?_
          refine b_iadd dX4_leastWith_54 ?_
          refine b_mmin ml4_19 (Nat.le_of_ble_eq_true rfl) (by first | decide | omega) dX4_leastWith_55 ?_
          obtain ⟨rfl, rfl⟩ := rtE h
          exact b_iret rfl dX4_leastWith_58
        · replace h := ifF c4 h
          refine b_ldc dX4_leastWith_26 kk4_47 ?_
          obtain ⟨rfl, rfl⟩ := rtE h
          exact b_iret rfl dX4_leastWith_28
theorem s4_leastWith (self : Nat → Int32 → Mem → Option (Int32 × Mem)) (ds dp : Nat) (hdp : ds + 1 ≤ dp) (hdc : 12 ≤ ds) (hself : ∀ (d1 : Nat) (a2 : Int32) (hd1 : Ob d1 6) (w w' : Mem) (r : Int32), self d1 a2 w = some (r, w') → Sp yX4_leastFrom cX4_leastFrom 7 (some .int) ds [vR 31 0, vR d1 0, vI a2] w (some (vI r)) w') (d1 : Nat) (a2 : Int32) (a3 : Int32) (hd1 : Ob d1 6) (w w' : Mem) (r : Int32) (h : f4_leastWith self d1 a2 a3  w = some (r, w')) : Sp yX4_leastWith cX4_leastWith 4 (some .int) dp [vR 31 0, vR d1 0, vI a2, vI a3] w (some (vI r)) w' := sp_of (by decide) (fun _ => rfl) (fun _ => Nat.le_of_ble_eq_true rfl) (t4_leastWith self ds dp hdp hdc hself d1 a2 a3 hd1  _ _ _ h)
-- X4_leastFrom OneADay$Plan
def f4_leastFromB (self : Nat → Int32 → Mem → Option (Int32 × Mem)) (d1 : Nat) (a2 : Int32)   (w : Mem) : Option (Int32 × Mem) :=
  if a2 < 0 then (some (0, w)) else (if (w.1 31 2 0) ≤ a2 then (some (0, w)) else (if a2 < 10 then (bndO (f4_freeOn d1 a2 w) fun r5 w4 => bndO (f4_nearestOf d1 r5 0 w4) fun r7 w6 => bndO (f4_leastWith self d1 a2 r7 w6) fun r9 w8 => if r7 = (-1) then (some (r9, w8)) else (if r7 < 0 ∨ 8 ≤ Int32.toNatClampNeg r7 then none else if 0 < (w8.1 d1 7 (Int32.toNatClampNeg r7)) then (some (r9, w8)) else (if a2 < (w8.1 31 3 0) then (bndO (f4_nearestOf d1 r5 1 w8) fun r15 w14 => if r15 = (-1) then (some (r9, w14)) else (if r15 < 0 ∨ 8 ≤ Int32.toNatClampNeg r15 then none else if (2 * (w14.1 d1 7 (Int32.toNatClampNeg r15))) < r9 then (bndO (f4_leastWith self d1 a2 r15 w14) fun r20 w19 => some (jmin r9 r20, w19)) else (some (r9, w14)))) else (some (r9, w8))))) else (some (0, w))))
set_option maxRecDepth 100000 in
set_option maxHeartbeats 4000000 in
theorem t4_leastFromB (self : Nat → Int32 → Mem → Option (Int32 × Mem)) (ds dp : Nat) (hdp : ds + 2 ≤ dp) (hdc : 12 ≤ ds) (hself : ∀ (d1 : Nat) (a2 : Int32) (hd1 : Ob d1 6) (w w' : Mem) (r : Int32), self d1 a2 w = some (r, w') → Sp yX4_leastFrom cX4_leastFrom 7 (some .int) ds [vR 31 0, vR d1 0, vI a2] w (some (vI r)) w') (d1 : Nat) (a2 : Int32) (hd1 : Ob d1 6)    (w w' : Mem) (r : Int32) (h : f4_leastFromB self d1 a2   w = some (r, w')) : Bk yX4_leastFrom cX4_leastFrom 7 (some .int) dp 0 [(0, vR 31 0), (1, vR d1 0), (2, vI a2)] [] w (some (vI r)) w' := by
  unfold f4_leastFromB at h
  refine b_iload_n dX4_leastFrom_0 rfl (k := 2) rfl ?_
  refine b_iflt (tgt := 21) dX4_leastFrom_1 (by decide) (fun c1 => ?_) (fun c1 => ?_)
  · replace h := ifT c1 h
    refine b_iconst (v := 0) dX4_leastFrom_21 (by decide) ?_
    obtain ⟨rfl, rfl⟩ := rtE h
    exact b_iret rfl dX4_leastFrom_22
  · replace h := ifF c1 h
    refine b_iload_n dX4_leastFrom_4 rfl (k := 2) rfl ?_
    refine b_aload_n dX4_leastFrom_5 rfl (k := 0) rfl ?_
    refine b_getI fl4_25 ob31 rfl dX4_leastFrom_6 ?_
    refine b_icge (tgt := 21) dX4_leastFrom_9 (by decide) (fun c2 => ?_) (fun c2 => ?_)
    · replace h := ifT c2 h
      refine b_iconst (v := 0) dX4_leastFrom_21 (by decide) ?_
      obtain ⟨rfl, rfl⟩ := rtE h
      exact b_iret rfl dX4_leastFrom_22
    · replace h := ifF c2 h
      refine b_iload_n dX4_leastFrom_12 rfl (k := 2) rfl ?_
      refine b_aload_n dX4_leastFrom_13 rfl (k := 0) rfl ?_
      refine b_getF fl4_9 ob31 rfl rfl dX4_leastFrom_14 ?_
      refine b_alen (v := 10) ar31_0 (by decide) (by decide) dX4_leastFrom_17 ?_
      refine b_iclt (tgt := 23) dX4_leastFrom_18 (by decide) (fun c3 => ?_) (fun c3 => ?_)
      · replace h := ifT c3 h
        refine b_aload_n dX4_leastFrom_23 rfl (k := 0) rfl ?_
        refine b_aload_n dX4_leastFrom_24 rfl (k := 1) rfl ?_
        refine b_iload_n dX4_leastFrom_25 rfl (k := 2) rfl ?_
        obtain ⟨r5, w4, hw4, h⟩ := bdO h
        refine b_callVi mv4_freeOn ml4_44 ob31 (s4_freeOn d1 a2 hd1 _ _ _ hw4) rfl (by omega) (by decide) (Nat.le_of_ble_eq_true rfl) rfl dX4_leastFrom_26 ?_
        refine b_istore_n (lv' := [(3, vI r5), (0, vR 31 0), (1, vR d1 0), (2, vI a2)]) dX4_leastFrom_29 rfl (by decide) rfl ?_
        refine b_aload_n dX4_leastFrom_30 rfl (k := 2) rfl ?_
        refine b_iload_n dX4_leastFrom_31 rfl (k := 0) rfl ?_
        refine b_iconst (v := 0) dX4_leastFrom_32 (by decide) ?_
        obtain ⟨r7, w6, hw6, h⟩ := bdO h
        refine b_callSi ms4_nearestOf ml4_64 (s4_nearestOf d1 r5 0 hd1 _ _ _ hw6) rfl (by omega) (by decide) (Nat.le_of_ble_eq_true rfl) rfl dX4_leastFrom_33 ?_
        refine b_istore (lv' := [(4, vI r7), (3, vI r5), (0, vR 31 0), (1, vR d1 0), (2, vI a2)]) dX4_leastFrom_36 (by decide) rfl ?_
        refine b_aload_n dX4_leastFrom_38 rfl (k := 2) rfl ?_
        refine b_aload_n dX4_leastFrom_39 rfl (k := 3) rfl ?_
        refine b_iload_n dX4_leastFrom_40 rfl (k := 4) rfl ?_
        refine b_iload dX4_leastFrom_41 (k := 0) rfl ?_
        obtain ⟨r9, w8, hw8, h⟩ := bdO h
        refine b_callVi mv4_leastWith ml4_68 ob31 (s4_leastWith self ds (ds + 1) (Nat.le_refl _) hdc hself d1 a2 r7 hd1 _ _ _ hw8) rfl (by omega) (by decide) (Nat.le_of_ble_eq_true rfl) rfl dX4_leastFrom_43 ?_
        refine b_istore (lv' := [(5, vI r9), (4, vI r7), (3, vI r5), (0, vR 31 0), (1, vR d1 0), (2, vI a2)]) dX4_leastFrom_46 (by decide) rfl ?_
        refine b_iload dX4_leastFrom_48 (k := 1) rfl ?_
        refine b_iconst (v := (-1)) dX4_leastFrom_50 (by decide) ?_
        refine b_iceq (tgt := 72) dX4_leastFrom_51 (by decide) (fun c10 => ?_) (fun c10 => ?_)
        · replace h := ifT c10 h
          refine b_iload dX4_leastFrom_72 (k := 0) rfl ?_
          obtain ⟨rfl, rfl⟩ := rtE h
          exact b_iret rfl dX4_leastFrom_74
        · replace h := ifF c10 h
          refine b_aload_n dX4_leastFrom_54 rfl (k := 4) rfl ?_
          refine b_getF fl4_41 hd1 rfl (grC6 hd1 7) dX4_leastFrom_55 ?_
          refine b_iload dX4_leastFrom_58 (k := 1) rfl ?_
          obtain ⟨g11, h⟩ := gdE h
          refine b_iald (arC6_7 hd1) g11 rfl dX4_leastFrom_60 ?_
          refine b_ifgt (tgt := 72) dX4_leastFrom_61 (by decide) (fun c12 => ?_) (fun c12 => ?_)
          · replace h := ifT c12 h
            refine b_iload dX4_leastFrom_72 (k := 0) rfl ?_
            obtain ⟨rfl, rfl⟩ := rtE h
            exact b_iret rfl dX4_leastFrom_74
          · replace h := ifF c12 h
            refine b_iload_n dX4_leastFrom_64 rfl (k := 5) rfl ?_
            refine b_aload_n dX4_leastFrom_65 rfl (k := 3) rfl ?_
            refine b_getI fl4_28 ob31 rfl dX4_leastFrom_66 ?_
            refine b_iclt (tgt := 75) dX4_leastFrom_69 (by decide) (fun c13 => ?_) (fun c13 => ?_)
            · replace h := ifT c13 h
              refine b_aload_n dX4_leastFrom_75 rfl (k := 4) rfl ?_
              refine b_iload_n dX4_leastFrom_76 rfl (k := 2) rfl ?_
              refine b_iconst (v := 1) dX4_leastFrom_77 (by decide) ?_
              obtain ⟨r15, w14, hw14, h⟩ := bdO h
              refine b_callSi ms4_nearestOf ml4_64 (s4_nearestOf d1 r5 1 hd1 _ _ _ hw14) rfl (by omega) (by decide) (Nat.le_of_ble_eq_true rfl) rfl dX4_leastFrom_78 ?_
              refine b_istore (lv' := [(6, vI r15), (5, vI r9), (4, vI r7), (3, vI r5), (0, vR 31 0), (1, vR d1 0), (2, vI a2)]) dX4_leastFrom_81 (by decide) rfl ?_
              refine b_iload dX4_leastFrom_83 (k := 0) rfl ?_
              refine b_iconst (v := (-1)) dX4_leastFrom_85 (by decide) ?_
              refine b_iceq (tgt := 103) dX4_leastFrom_86 (by decide) (fun c16 => ?_) (fun c16 => ?_)
              · replace h := ifT c16 h
                refine b_iload dX4_leastFrom_103 (k := 1) rfl ?_
                obtain ⟨rfl, rfl⟩ := rtE h
                exact b_iret rfl dX4_leastFrom_105
              · replace h := ifF c16 h
                refine b_iconst (v := 2) dX4_leastFrom_89 (by decide) ?_
                refine b_aload_n dX4_leastFrom_90 rfl (k := 5) rfl ?_
                refine b_getF fl4_41 hd1 rfl (grC6 hd1 7) dX4_leastFrom_91 ?_
                refine b_iload dX4_leastFrom_94 (k := 0) rfl ?_
                obtain ⟨g17, h⟩ := gdE h
                refine b_iald (arC6_7 hd1) g17 rfl dX4_leastFrom_96 ?_
                refine b_imul dX4_leastFrom_97 ?_
                refine b_iload dX4_leastFrom_98 (k := 1) rfl ?_
                refine b_iclt (tgt := 106) dX4_leastFrom_100 (by decide) (fun c18 => ?_) (fun c18 => ?_)
                · replace h := ifT c18 h
                  refine b_iload dX4_leastFrom_106 (k := 1) rfl ?_
                  refine b_aload_n dX4_leastFrom_108 rfl (k := 4) rfl ?_
                  refine b_aload_n dX4_leastFrom_109 rfl (k := 5) rfl ?_
                  refine b_iload_n dX4_leastFrom_110 rfl (k := 6) rfl ?_
                  refine b_iload dX4_leastFrom_111 (k := 0) rfl ?_
                  obtain ⟨r20, w19, hw19, h⟩ := bdO h
                  refine b_callVi mv4_leastWith ml4_68 ob31 (s4_leastWith self ds (ds + 1) (Nat.le_refl _) hdc hself d1 a2 r15 hd1 _ _ _ hw19) rfl (by omega) (by decide) (Nat.le_of_ble_eq_true rfl) rfl dX4_leastFrom_113 ?_
                  refine b_mmin ml4_19 (Nat.le_of_ble_eq_true rfl) (by first | decide | omega) dX4_leastFrom_116 ?_
                  obtain ⟨rfl, rfl⟩ := rtE h
                  exact b_iret rfl dX4_leastFrom_119
                · replace h := ifF c18 h
                  refine b_iload dX4_leastFrom_103 (k := 1) rfl ?_
                  obtain ⟨rfl, rfl⟩ := rtE h
                  exact b_iret rfl dX4_leastFrom_105
            · replace h := ifF c13 h
              refine b_iload dX4_leastFrom_72 (k := 0) rfl ?_
              obtain ⟨rfl, rfl⟩ := rtE h
              exact b_iret rfl dX4_leastFrom_74
      · replace h := ifF c3 h
        refine b_iconst (v := 0) dX4_leastFrom_21 (by decide) ?_
        obtain ⟨rfl, rfl⟩ := rtE h
        exact b_iret rfl dX4_leastFrom_22
theorem s4_leastFromB (self : Nat → Int32 → Mem → Option (Int32 × Mem)) (ds dp : Nat) (hdp : ds + 2 ≤ dp) (hdc : 12 ≤ ds) (hself : ∀ (d1 : Nat) (a2 : Int32) (hd1 : Ob d1 6) (w w' : Mem) (r : Int32), self d1 a2 w = some (r, w') → Sp yX4_leastFrom cX4_leastFrom 7 (some .int) ds [vR 31 0, vR d1 0, vI a2] w (some (vI r)) w') (d1 : Nat) (a2 : Int32) (hd1 : Ob d1 6) (w w' : Mem) (r : Int32) (h : f4_leastFromB self d1 a2  w = some (r, w')) : Sp yX4_leastFrom cX4_leastFrom 7 (some .int) dp [vR 31 0, vR d1 0, vI a2] w (some (vI r)) w' := sp_of (by decide) (fun _ => rfl) (fun _ => Nat.le_of_ble_eq_true rfl) (t4_leastFromB self ds dp hdp hdc hself d1 a2 hd1  _ _ _ h)
def f4_leastFrom : Nat → Nat → Int32 → Mem → Option (Int32 × Mem)
  | 0, _, _, _ => none
  | n + 1, d1, a2, w => f4_leastFromB (f4_leastFrom n) d1 a2  w
theorem s4_leastFrom : ∀ (n : Nat) (d1 : Nat) (a2 : Int32) (hd1 : Ob d1 6) (w w' : Mem) (r : Int32), f4_leastFrom n d1 a2 w = some (r, w') → Sp yX4_leastFrom cX4_leastFrom 7 (some .int) (12 + 2 * n) [vR 31 0, vR d1 0, vI a2] w (some (vI r)) w' := by
  intro n
  induction n with
  | zero =>
    intro d1 a2 hd1 w w' r h
    cases (show (none : Option (Int32 × Mem)) = some _ from h)
  | succ n ih =>
    intro d1 a2 hd1 w w' r h
    exact s4_leastFromB (f4_leastFrom n) (12 + 2 * n) (12 + 2 * (n + 1)) (by omega) (by omega) ih d1 a2 hd1 w w' r h
-- X0_commonDivisor OneADay$Cover
def f0_commonDivisor_6  (a0 : Int32) (a1 : Int32)  : Nat → Int32 → Mem → Option (Int32 × Mem)
  | 0, _, _ => none
  | n + 1, x2, w =>
  if x2 ≤ 1 then (some (1, w)) else (if x2 = 0 then none else if (jrem a0 x2) = 0 then (if x2 = 0 then none else if (jrem a1 x2) = 0 then (some (x2, w)) else (bnd (x2 + (-1)) fun y7 => f0_commonDivisor_6  a0 a1  n y7 w)) else (bnd (x2 + (-1)) fun y4 => f0_commonDivisor_6  a0 a1  n y4 w))
set_option maxRecDepth 100000 in
set_option maxHeartbeats 4000000 in
theorem t0_commonDivisor_6   (a0 : Int32) (a1 : Int32)    : ∀ (n : Nat) (x2 : Int32) (w w' : Mem) (r : Int32), f0_commonDivisor_6  a0 a1  n x2 w = some (r, w') → Bk yX0_commonDivisor cX0_commonDivisor 3 (some .int) 2 6 [(0, vI a0), (1, vI a1), (2, vI x2)] [] w (some (vI r)) w' := by
  intro n
  induction n with
  | zero =>
    intro x2 w w' r h
    cases (show (none : Option (Int32 × Mem)) = some _ from h)
  | succ n ih =>
    intro x2 w w' r h
    rw [f0_commonDivisor_6] at h
    refine b_iload_n dX0_commonDivisor_6 rfl (k := 2) rfl ?_
    refine b_iconst (v := 1) dX0_commonDivisor_7 (by decide) ?_
    refine b_icle (tgt := 31) dX0_commonDivisor_8 (by decide) (fun c1 => ?_) (fun c1 => ?_)
    · replace h := ifT c1 h
      refine b_iconst (v := 1) dX0_commonDivisor_31 (by decide) ?_
      obtain ⟨rfl, rfl⟩ := rtE h
      exact b_iret rfl dX0_commonDivisor_32
    · replace h := ifF c1 h
      refine b_iload_n dX0_commonDivisor_11 rfl (k := 0) rfl ?_
      refine b_iload_n dX0_commonDivisor_12 rfl (k := 2) rfl ?_
      obtain ⟨g2, h⟩ := gdE h
      refine b_irem dX0_commonDivisor_13 g2 ?_
      refine b_ifne (tgt := 25) dX0_commonDivisor_14 (by decide) (fun c3 => ?_) (fun c3 => ?_)
      · replace h := ifF c3 h
        obtain ⟨y4, ey4, h⟩ := nmE h
        refine b_iinc (v := y4) (lv' := [(2, vI y4), (0, vI a0), (1, vI a1)]) dX0_commonDivisor_25 (k := 2) rfl ey4.symm (by decide) rfl ?_
        refine b_goto (tgt := 6) dX0_commonDivisor_28 (by decide) ?_
        refine b_sub [1, 2, 0] rfl ?_
        exact ih y4 _ _ _ h
      · replace h := ifT c3 h
        refine b_iload_n dX0_commonDivisor_17 rfl (k := 1) rfl ?_
        refine b_iload_n dX0_commonDivisor_18 rfl (k := 2) rfl ?_
        obtain ⟨g5, h⟩ := gdE h
        refine b_irem dX0_commonDivisor_19 g5 ?_
        refine b_ifne (tgt := 25) dX0_commonDivisor_20 (by decide) (fun c6 => ?_) (fun c6 => ?_)
        · replace h := ifF c6 h
          obtain ⟨y7, ey7, h⟩ := nmE h
          refine b_iinc (v := y7) (lv' := [(2, vI y7), (0, vI a0), (1, vI a1)]) dX0_commonDivisor_25 (k := 2) rfl ey7.symm (by decide) rfl ?_
          refine b_goto (tgt := 6) dX0_commonDivisor_28 (by decide) ?_
          refine b_sub [1, 2, 0] rfl ?_
          exact ih y7 _ _ _ h
        · replace h := ifT c6 h
          refine b_iload_n dX0_commonDivisor_23 rfl (k := 2) rfl ?_
          obtain ⟨rfl, rfl⟩ := rtE h
          exact b_iret rfl dX0_commonDivisor_24
def f0_commonDivisor  (a0 : Int32) (a1 : Int32)   (w : Mem) : Option (Int32 × Mem) :=
  bnd (jmin a0 a1) fun y1 => f0_commonDivisor_6  a0 a1  100000 y1 w
set_option maxRecDepth 100000 in
set_option maxHeartbeats 4000000 in
theorem t0_commonDivisor   (a0 : Int32) (a1 : Int32)     (w w' : Mem) (r : Int32) (h : f0_commonDivisor  a0 a1   w = some (r, w')) : Bk yX0_commonDivisor cX0_commonDivisor 3 (some .int) 2 0 [(0, vI a0), (1, vI a1)] [] w (some (vI r)) w' := by
  unfold f0_commonDivisor at h
  refine b_iload_n dX0_commonDivisor_0 rfl (k := 0) rfl ?_
  refine b_iload_n dX0_commonDivisor_1 rfl (k := 1) rfl ?_
  refine b_mmin ml0_44 (Nat.le_of_ble_eq_true rfl) (by first | decide | omega) dX0_commonDivisor_2 ?_
  obtain ⟨y1, ey1, h⟩ := nmE h
  refine b_nmI ey1 ?_
  refine b_istore_n (lv' := [(2, vI y1), (0, vI a0), (1, vI a1)]) dX0_commonDivisor_5 rfl (by decide) rfl ?_
  refine b_sub [1, 2, 0] rfl ?_
  exact t0_commonDivisor_6  a0 a1    100000 y1 _ _ _ h
theorem s0_commonDivisor (a0 : Int32) (a1 : Int32)  (w w' : Mem) (r : Int32) (h : f0_commonDivisor  a0 a1  w = some (r, w')) : Sp yX0_commonDivisor cX0_commonDivisor 3 (some .int) 2 [vI a0, vI a1] w (some (vI r)) w' := sp_of (by decide) (fun _ => rfl) (fun _ => Nat.le_of_ble_eq_true rfl) (t0_commonDivisor  a0 a1   _ _ _ h)
-- X6_periodOf OneADay$Rock
def f6_periodOf  (d0 : Nat) (a1 : Int32)   (w : Mem) : Option (Int32 × Mem) :=
  if a1 < 0 then (some (1, w)) else (if a1 < 8 then (if a1 < 0 ∨ 8 ≤ Int32.toNatClampNeg a1 then none else some (jmax 1 (w.1 d0 8 (Int32.toNatClampNeg a1)), w)) else (some (1, w)))
set_option maxRecDepth 100000 in
set_option maxHeartbeats 4000000 in
theorem t6_periodOf   (d0 : Nat) (a1 : Int32) (hd0 : Ob d0 6)    (w w' : Mem) (r : Int32) (h : f6_periodOf  d0 a1   w = some (r, w')) : Bk yX6_periodOf cX6_periodOf 2 (some .int) 2 0 [(0, vR d0 0), (1, vI a1)] [] w (some (vI r)) w' := by
  unfold f6_periodOf at h
  refine b_iload_n dX6_periodOf_0 rfl (k := 1) rfl ?_
  refine b_iflt (tgt := 13) dX6_periodOf_1 (by decide) (fun c1 => ?_) (fun c1 => ?_)
  · replace h := ifT c1 h
    refine b_iconst (v := 1) dX6_periodOf_13 (by decide) ?_
    refine b_goto (tgt := 27) dX6_periodOf_14 (by decide) ?_
    obtain ⟨rfl, rfl⟩ := rtE h
    exact b_iret rfl dX6_periodOf_27
  · replace h := ifF c1 h
    refine b_iload_n dX6_periodOf_4 rfl (k := 1) rfl ?_
    refine b_aload_n dX6_periodOf_5 rfl (k := 0) rfl ?_
    refine b_getF fl6_15 hd0 rfl (grC6 hd0 8) dX6_periodOf_6 ?_
    refine b_alen (v := 8) (arC6_8 hd0) (by decide) (by decide) dX6_periodOf_9 ?_
    refine b_iclt (tgt := 17) dX6_periodOf_10 (by decide) (fun c2 => ?_) (fun c2 => ?_)
    · replace h := ifT c2 h
      refine b_iconst (v := 1) dX6_periodOf_17 (by decide) ?_
      refine b_aload_n dX6_periodOf_18 rfl (k := 0) rfl ?_
      refine b_getF fl6_15 hd0 rfl (grC6 hd0 8) dX6_periodOf_19 ?_
      refine b_iload_n dX6_periodOf_22 rfl (k := 1) rfl ?_
      obtain ⟨g3, h⟩ := gdE h
      refine b_iald (arC6_8 hd0) g3 rfl dX6_periodOf_23 ?_
      refine b_mmax ml6_60 (Nat.le_of_ble_eq_true rfl) (by first | decide | omega) dX6_periodOf_24 ?_
      obtain ⟨rfl, rfl⟩ := rtE h
      exact b_iret rfl dX6_periodOf_27
    · replace h := ifF c2 h
      refine b_iconst (v := 1) dX6_periodOf_13 (by decide) ?_
      refine b_goto (tgt := 27) dX6_periodOf_14 (by decide) ?_
      obtain ⟨rfl, rfl⟩ := rtE h
      exact b_iret rfl dX6_periodOf_27
theorem s6_periodOf (d0 : Nat) (a1 : Int32) (hd0 : Ob d0 6) (w w' : Mem) (r : Int32) (h : f6_periodOf  d0 a1  w = some (r, w')) : Sp yX6_periodOf cX6_periodOf 2 (some .int) 2 [vR d0 0, vI a1] w (some (vI r)) w' := sp_of (by decide) (fun _ => rfl) (fun _ => Nat.le_of_ble_eq_true rfl) (t6_periodOf  d0 a1 hd0  _ _ _ h)
-- X0_canPassEachOther OneADay$Cover
def f0_canPassEachOther_44  (d0 : Nat) (a1 : Int32) (rec2 : Int32 → Mem → Option (Int32 × Mem)) (rec18 : Int32 → Int32 → Mem → Option (Int32 × Mem)) (x2 : Int32) (x3 : Int32) (s0 : Int32) (w : Mem) : Option (Int32 × Mem) :=
  if s0 = 0 then (bnd (x3 + 1) fun y2 => rec18 x2 y2 w) else (bndO (f6_periodOf d0 x3 w) fun r4 w3 => bndO (f6_periodOf d0 x2 w3) fun r6 w5 => bndO (f0_commonDivisor r4 r6 w5) fun r8 w7 => if r8 = 1 then (some (0, w7)) else (bnd (x3 + 1) fun y10 => rec18 x2 y10 w7))
set_option maxRecDepth 100000 in
set_option maxHeartbeats 4000000 in
theorem t0_canPassEachOther_44   (d0 : Nat) (a1 : Int32) (hd0 : Ob d0 6) (rec2 : Int32 → Mem → Option (Int32 × Mem)) (rec18 : Int32 → Int32 → Mem → Option (Int32 × Mem)) (hrec2 : ∀ (x2 : Int32) (w w' : Mem) (r : Int32), rec2 x2 w = some (r, w') → Bk yX0_canPassEachOther cX0_canPassEachOther 5 (some .boolean) 3 2 [(0, vR d0 0), (1, vI a1), (2, vI x2)] [] w (some (vI r)) w') (hrec18 : ∀ (x2 : Int32) (x3 : Int32) (w w' : Mem) (r : Int32), rec18 x2 x3 w = some (r, w') → Bk yX0_canPassEachOther cX0_canPassEachOther 5 (some .boolean) 3 18 [(0, vR d0 0), (1, vI a1), (2, vI x2), (3, vI x3)] [] w (some (vI r)) w') (x2 : Int32) (x3 : Int32) (s0 : Int32) (w w' : Mem) (r : Int32) (h : f0_canPassEachOther_44  d0 a1 rec2 rec18 x2 x3 s0 w = some (r, w')) : Bk yX0_canPassEachOther cX0_canPassEachOther 5 (some .boolean) 3 44 [(0, vR d0 0), (1, vI a1), (2, vI x2), (3, vI x3)] [vI s0] w (some (vI r)) w' := by
  unfold f0_canPassEachOther_44 at h
  refine b_istore (lv' := [(4, vI s0), (0, vR d0 0), (1, vI a1), (2, vI x2), (3, vI x3)]) dX0_canPassEachOther_44 (by decide) rfl ?_
  refine b_iload dX0_canPassEachOther_46 (k := 0) rfl ?_
  refine b_ifeq (tgt := 70) dX0_canPassEachOther_48 (by decide) (fun c1 => ?_) (fun c1 => ?_)
  · replace h := ifT c1 h
    obtain ⟨y2, ey2, h⟩ := nmE h
    refine b_iinc (v := y2) (lv' := [(3, vI y2), (4, vI s0), (0, vR d0 0), (1, vI a1), (2, vI x2)]) dX0_canPassEachOther_70 (k := 4) rfl ey2.symm (by decide) rfl ?_
    refine b_goto (tgt := 18) dX0_canPassEachOther_73 (by decide) ?_
    refine b_sub [2, 3, 4, 0] rfl ?_
    exact hrec18 x2 y2 _ _ _ h
  · replace h := ifF c1 h
    refine b_aload_n dX0_canPassEachOther_51 rfl (k := 1) rfl ?_
    refine b_iload_n dX0_canPassEachOther_52 rfl (k := 4) rfl ?_
    obtain ⟨r4, w3, hw3, h⟩ := bdO h
    refine b_callVi mv6_periodOf ml0_32 hd0 (s6_periodOf d0 x3 hd0 _ _ _ hw3) rfl (by decide) (by decide) (Nat.le_of_ble_eq_true rfl) rfl dX0_canPassEachOther_53 ?_
    refine b_aload_n dX0_canPassEachOther_56 rfl (k := 1) rfl ?_
    refine b_iload_n dX0_canPassEachOther_57 rfl (k := 3) rfl ?_
    obtain ⟨r6, w5, hw5, h⟩ := bdO h
    refine b_callVi mv6_periodOf ml0_32 hd0 (s6_periodOf d0 x2 hd0 _ _ _ hw5) rfl (by decide) (by decide) (Nat.le_of_ble_eq_true rfl) rfl dX0_canPassEachOther_58 ?_
    obtain ⟨r8, w7, hw7, h⟩ := bdO h
    refine b_callSi ms0_commonDivisor ml0_36 (s0_commonDivisor r4 r6  _ _ _ hw7) rfl (by decide) (by decide) (Nat.le_of_ble_eq_true rfl) rfl dX0_canPassEachOther_61 ?_
    refine b_iconst (v := 1) dX0_canPassEachOther_64 (by decide) ?_
    refine b_icne (tgt := 70) dX0_canPassEachOther_65 (by decide) (fun c9 => ?_) (fun c9 => ?_)
    · replace h := ifF c9 h
      obtain ⟨y10, ey10, h⟩ := nmE h
      refine b_iinc (v := y10) (lv' := [(3, vI y10), (4, vI s0), (0, vR d0 0), (1, vI a1), (2, vI x2)]) dX0_canPassEachOther_70 (k := 4) rfl ey10.symm (by decide) rfl ?_
      refine b_goto (tgt := 18) dX0_canPassEachOther_73 (by decide) ?_
      refine b_sub [2, 3, 4, 0] rfl ?_
      exact hrec18 x2 y10 _ _ _ h
    · replace h := ifT c9 h
      refine b_iconst (v := 0) dX0_canPassEachOther_68 (by decide) ?_
      obtain ⟨rfl, rfl⟩ := rtE h
      exact b_zret rfl (by decide) dX0_canPassEachOther_69
def f0_canPassEachOther_18  (d0 : Nat) (a1 : Int32) (rec2 : Int32 → Mem → Option (Int32 × Mem)) : Nat → Int32 → Int32 → Mem → Option (Int32 × Mem)
  | 0, _, _, _ => none
  | n + 1, x2, x3, w =>
  if x2 ≤ x3 then (bnd (x2 + 1) fun y2 => rec2 y2 w) else (if ((jshr a1 x3) &&& 1) = 0 then (f0_canPassEachOther_44  d0 a1 rec2 (f0_canPassEachOther_18  d0 a1 rec2 n) x2 x3 0 w) else (if ((jshr a1 x2) &&& 1) = 0 then (f0_canPassEachOther_44  d0 a1 rec2 (f0_canPassEachOther_18  d0 a1 rec2 n) x2 x3 0 w) else (f0_canPassEachOther_44  d0 a1 rec2 (f0_canPassEachOther_18  d0 a1 rec2 n) x2 x3 1 w)))
set_option maxRecDepth 100000 in
set_option maxHeartbeats 4000000 in
theorem t0_canPassEachOther_18   (d0 : Nat) (a1 : Int32) (hd0 : Ob d0 6) (rec2 : Int32 → Mem → Option (Int32 × Mem)) (hrec2 : ∀ (x2 : Int32) (w w' : Mem) (r : Int32), rec2 x2 w = some (r, w') → Bk yX0_canPassEachOther cX0_canPassEachOther 5 (some .boolean) 3 2 [(0, vR d0 0), (1, vI a1), (2, vI x2)] [] w (some (vI r)) w') : ∀ (n : Nat) (x2 : Int32) (x3 : Int32) (w w' : Mem) (r : Int32), f0_canPassEachOther_18  d0 a1 rec2 n x2 x3 w = some (r, w') → Bk yX0_canPassEachOther cX0_canPassEachOther 5 (some .boolean) 3 18 [(0, vR d0 0), (1, vI a1), (2, vI x2), (3, vI x3)] [] w (some (vI r)) w' := by
  intro n
  induction n with
  | zero =>
    intro x2 x3 w w' r h
    cases (show (none : Option (Int32 × Mem)) = some _ from h)
  | succ n ih =>
    intro x2 x3 w w' r h
    rw [f0_canPassEachOther_18] at h
    refine b_iload_n dX0_canPassEachOther_18 rfl (k := 3) rfl ?_
    refine b_iload_n dX0_canPassEachOther_19 rfl (k := 2) rfl ?_
    refine b_icge (tgt := 76) dX0_canPassEachOther_20 (by decide) (fun c1 => ?_) (fun c1 => ?_)
    · replace h := ifT c1 h
      obtain ⟨y2, ey2, h⟩ := nmE h
      refine b_iinc (v := y2) (lv' := [(2, vI y2), (0, vR d0 0), (1, vI a1), (3, vI x3)]) dX0_canPassEachOther_76 (k := 2) rfl ey2.symm (by decide) rfl ?_
      refine b_goto (tgt := 2) dX0_canPassEachOther_79 (by decide) ?_
      refine b_sub [1, 2, 0] rfl ?_
      exact hrec2 y2 _ _ _ h
    · replace h := ifF c1 h
      refine b_iload_n dX0_canPassEachOther_23 rfl (k := 1) rfl ?_
      refine b_iload_n dX0_canPassEachOther_24 rfl (k := 3) rfl ?_
      refine b_ishr dX0_canPassEachOther_25 ?_
      refine b_iconst (v := 1) dX0_canPassEachOther_26 (by decide) ?_
      refine b_iand dX0_canPassEachOther_27 ?_
      refine b_ifeq (tgt := 43) dX0_canPassEachOther_28 (by decide) (fun c3 => ?_) (fun c3 => ?_)
      · replace h := ifT c3 h
        refine b_iconst (v := 0) dX0_canPassEachOther_43 (by decide) ?_
        refine b_sub [0, 1, 2, 3] rfl ?_
        exact t0_canPassEachOther_44  d0 a1 hd0 rec2 (f0_canPassEachOther_18  d0 a1 rec2 n) hrec2 ih x2 x3 0 _ _ _ h
      · replace h := ifF c3 h
        refine b_iload_n dX0_canPassEachOther_31 rfl (k := 1) rfl ?_
        refine b_iload_n dX0_canPassEachOther_32 rfl (k := 2) rfl ?_
        refine b_ishr dX0_canPassEachOther_33 ?_
        refine b_iconst (v := 1) dX0_canPassEachOther_34 (by decide) ?_
        refine b_iand dX0_canPassEachOther_35 ?_
        refine b_ifeq (tgt := 43) dX0_canPassEachOther_36 (by decide) (fun c4 => ?_) (fun c4 => ?_)
        · replace h := ifT c4 h
          refine b_iconst (v := 0) dX0_canPassEachOther_43 (by decide) ?_
          refine b_sub [0, 1, 2, 3] rfl ?_
          exact t0_canPassEachOther_44  d0 a1 hd0 rec2 (f0_canPassEachOther_18  d0 a1 rec2 n) hrec2 ih x2 x3 0 _ _ _ h
        · replace h := ifF c4 h
          refine b_iconst (v := 1) dX0_canPassEachOther_39 (by decide) ?_
          refine b_goto (tgt := 44) dX0_canPassEachOther_40 (by decide) ?_
          refine b_sub [0, 1, 2, 3] rfl ?_
          exact t0_canPassEachOther_44  d0 a1 hd0 rec2 (f0_canPassEachOther_18  d0 a1 rec2 n) hrec2 ih x2 x3 1 _ _ _ h
def f0_canPassEachOther_2  (d0 : Nat) (a1 : Int32)  : Nat → Int32 → Mem → Option (Int32 × Mem)
  | 0, _, _ => none
  | n + 1, x2, w =>
  if (w.1 d0 4 0) ≤ x2 then (some (1, w)) else (if 8 ≤ x2 then (some (1, w)) else (f0_canPassEachOther_18  d0 a1 (f0_canPassEachOther_2  d0 a1  n) 100000 x2 0 w))
set_option maxRecDepth 100000 in
set_option maxHeartbeats 4000000 in
theorem t0_canPassEachOther_2   (d0 : Nat) (a1 : Int32) (hd0 : Ob d0 6)   : ∀ (n : Nat) (x2 : Int32) (w w' : Mem) (r : Int32), f0_canPassEachOther_2  d0 a1  n x2 w = some (r, w') → Bk yX0_canPassEachOther cX0_canPassEachOther 5 (some .boolean) 3 2 [(0, vR d0 0), (1, vI a1), (2, vI x2)] [] w (some (vI r)) w' := by
  intro n
  induction n with
  | zero =>
    intro x2 w w' r h
    cases (show (none : Option (Int32 × Mem)) = some _ from h)
  | succ n ih =>
    intro x2 w w' r h
    rw [f0_canPassEachOther_2] at h
    refine b_iload_n dX0_canPassEachOther_2 rfl (k := 2) rfl ?_
    refine b_aload_n dX0_canPassEachOther_3 rfl (k := 0) rfl ?_
    refine b_getI fl0_26 hd0 rfl dX0_canPassEachOther_4 ?_
    refine b_icge (tgt := 82) dX0_canPassEachOther_7 (by decide) (fun c1 => ?_) (fun c1 => ?_)
    · replace h := ifT c1 h
      refine b_iconst (v := 1) dX0_canPassEachOther_82 (by decide) ?_
      obtain ⟨rfl, rfl⟩ := rtE h
      exact b_zret rfl (by decide) dX0_canPassEachOther_83
    · replace h := ifF c1 h
      refine b_iload_n dX0_canPassEachOther_10 rfl (k := 2) rfl ?_
      refine b_bipush (v := 8) dX0_canPassEachOther_11 (by decide) ?_
      refine b_icge (tgt := 82) dX0_canPassEachOther_13 (by decide) (fun c2 => ?_) (fun c2 => ?_)
      · replace h := ifT c2 h
        refine b_iconst (v := 1) dX0_canPassEachOther_82 (by decide) ?_
        obtain ⟨rfl, rfl⟩ := rtE h
        exact b_zret rfl (by decide) dX0_canPassEachOther_83
      · replace h := ifF c2 h
        refine b_iconst (v := 0) dX0_canPassEachOther_16 (by decide) ?_
        refine b_istore_n (lv' := [(3, vI 0), (0, vR d0 0), (1, vI a1), (2, vI x2)]) dX0_canPassEachOther_17 rfl (by decide) rfl ?_
        refine b_sub [1, 2, 3, 0] rfl ?_
        exact t0_canPassEachOther_18  d0 a1 hd0 (f0_canPassEachOther_2  d0 a1  n) ih 100000 x2 0 _ _ _ h
def f0_canPassEachOther  (d0 : Nat) (a1 : Int32)   (w : Mem) : Option (Int32 × Mem) :=
  f0_canPassEachOther_2  d0 a1  100000 0 w
set_option maxRecDepth 100000 in
set_option maxHeartbeats 4000000 in
theorem t0_canPassEachOther   (d0 : Nat) (a1 : Int32) (hd0 : Ob d0 6)    (w w' : Mem) (r : Int32) (h : f0_canPassEachOther  d0 a1   w = some (r, w')) : Bk yX0_canPassEachOther cX0_canPassEachOther 5 (some .boolean) 3 0 [(0, vR d0 0), (1, vI a1)] [] w (some (vI r)) w' := by
  unfold f0_canPassEachOther at h
  refine b_iconst (v := 0) dX0_canPassEachOther_0 (by decide) ?_
  refine b_istore_n (lv' := [(2, vI 0), (0, vR d0 0), (1, vI a1)]) dX0_canPassEachOther_1 rfl (by decide) rfl ?_
  refine b_sub [1, 2, 0] rfl ?_
  exact t0_canPassEachOther_2  d0 a1 hd0   100000 0 _ _ _ h
theorem s0_canPassEachOther (d0 : Nat) (a1 : Int32) (hd0 : Ob d0 6) (w w' : Mem) (r : Int32) (h : f0_canPassEachOther  d0 a1  w = some (r, w')) : Sp yX0_canPassEachOther cX0_canPassEachOther 5 (some .boolean) 3 [vR d0 0, vI a1] w (some (vI r)) w' := sp_of (by decide) (fun _ => rfl) (fun _ => Nat.le_of_ble_eq_true rfl) (t0_canPassEachOther  d0 a1 hd0  _ _ _ h)
-- X0_comesOften OneADay$Cover
def f0_comesOften_44  (d0 : Nat) (a1 : Int32)  (x2 : Int32) (w : Mem) : Option (Int32 × Mem) :=
  if x2 = 2520 then (some (1, w)) else (some (0, w))
set_option maxRecDepth 100000 in
set_option maxHeartbeats 4000000 in
theorem t0_comesOften_44   (d0 : Nat) (a1 : Int32) (hd0 : Ob d0 6)   (x2 : Int32) (w w' : Mem) (r : Int32) (h : f0_comesOften_44  d0 a1  x2 w = some (r, w')) : Bk yX0_comesOften cX0_comesOften 4 (some .boolean) 3 44 [(2, vI x2)] [] w (some (vI r)) w' := by
  unfold f0_comesOften_44 at h
  refine b_iload_n dX0_comesOften_44 rfl (k := 0) rfl ?_
  refine b_sipush (v := 2520) dX0_comesOften_45 (by decide) ?_
  refine b_icne (tgt := 55) dX0_comesOften_48 (by decide) (fun c1 => ?_) (fun c1 => ?_)
  · replace h := ifF c1 h
    refine b_iconst (v := 0) dX0_comesOften_55 (by decide) ?_
    obtain ⟨rfl, rfl⟩ := rtE h
    exact b_zret rfl (by decide) dX0_comesOften_56
  · replace h := ifT c1 h
    refine b_iconst (v := 1) dX0_comesOften_51 (by decide) ?_
    refine b_goto (tgt := 56) dX0_comesOften_52 (by decide) ?_
    obtain ⟨rfl, rfl⟩ := rtE h
    exact b_zret rfl (by decide) dX0_comesOften_56
def f0_comesOften_4  (d0 : Nat) (a1 : Int32)  : Nat → Int32 → Int32 → Mem → Option (Int32 × Mem)
  | 0, _, _, _ => none
  | n + 1, x2, x3, w =>
  if (w.1 d0 4 0) ≤ x3 then (f0_comesOften_44  d0 a1  x2 w) else (if 8 ≤ x3 then (f0_comesOften_44  d0 a1  x2 w) else (if ((jshr a1 x3) &&& 1) = 0 then (bnd (x3 + 1) fun y4 => f0_comesOften_4  d0 a1  n x2 y4 w) else (bndO (f6_periodOf d0 x3 w) fun r6 w5 => if r6 = 0 then none else bnd (x2 + (2520 / r6)) fun y8 => bnd (x3 + 1) fun y9 => f0_comesOften_4  d0 a1  n y8 y9 w5)))
set_option maxRecDepth 100000 in
set_option maxHeartbeats 4000000 in
theorem t0_comesOften_4   (d0 : Nat) (a1 : Int32) (hd0 : Ob d0 6)   : ∀ (n : Nat) (x2 : Int32) (x3 : Int32) (w w' : Mem) (r : Int32), f0_comesOften_4  d0 a1  n x2 x3 w = some (r, w') → Bk yX0_comesOften cX0_comesOften 4 (some .boolean) 3 4 [(0, vR d0 0), (1, vI a1), (2, vI x2), (3, vI x3)] [] w (some (vI r)) w' := by
  intro n
  induction n with
  | zero =>
    intro x2 x3 w w' r h
    cases (show (none : Option (Int32 × Mem)) = some _ from h)
  | succ n ih =>
    intro x2 x3 w w' r h
    rw [f0_comesOften_4] at h
    refine b_iload_n dX0_comesOften_4 rfl (k := 3) rfl ?_
    refine b_aload_n dX0_comesOften_5 rfl (k := 0) rfl ?_
    refine b_getI fl0_26 hd0 rfl dX0_comesOften_6 ?_
    refine b_icge (tgt := 44) dX0_comesOften_9 (by decide) (fun c1 => ?_) (fun c1 => ?_)
    · replace h := ifT c1 h
      refine b_sub [2] rfl ?_
      exact t0_comesOften_44  d0 a1 hd0   x2 _ _ _ h
    · replace h := ifF c1 h
      refine b_iload_n dX0_comesOften_12 rfl (k := 3) rfl ?_
      refine b_bipush (v := 8) dX0_comesOften_13 (by decide) ?_
      refine b_icge (tgt := 44) dX0_comesOften_15 (by decide) (fun c2 => ?_) (fun c2 => ?_)
      · replace h := ifT c2 h
        refine b_sub [2] rfl ?_
        exact t0_comesOften_44  d0 a1 hd0   x2 _ _ _ h
      · replace h := ifF c2 h
        refine b_iload_n dX0_comesOften_18 rfl (k := 1) rfl ?_
        refine b_iload_n dX0_comesOften_19 rfl (k := 3) rfl ?_
        refine b_ishr dX0_comesOften_20 ?_
        refine b_iconst (v := 1) dX0_comesOften_21 (by decide) ?_
        refine b_iand dX0_comesOften_22 ?_
        refine b_ifeq (tgt := 38) dX0_comesOften_23 (by decide) (fun c3 => ?_) (fun c3 => ?_)
        · replace h := ifT c3 h
          obtain ⟨y4, ey4, h⟩ := nmE h
          refine b_iinc (v := y4) (lv' := [(3, vI y4), (0, vR d0 0), (1, vI a1), (2, vI x2)]) dX0_comesOften_38 (k := 3) rfl ey4.symm (by decide) rfl ?_
          refine b_goto (tgt := 4) dX0_comesOften_41 (by decide) ?_
          refine b_sub [1, 2, 3, 0] rfl ?_
          exact ih x2 y4 _ _ _ h
        · replace h := ifF c3 h
          refine b_iload_n dX0_comesOften_26 rfl (k := 2) rfl ?_
          refine b_sipush (v := 2520) dX0_comesOften_27 (by decide) ?_
          refine b_aload_n dX0_comesOften_30 rfl (k := 0) rfl ?_
          refine b_iload_n dX0_comesOften_31 rfl (k := 3) rfl ?_
          obtain ⟨r6, w5, hw5, h⟩ := bdO h
          refine b_callVi mv6_periodOf ml0_32 hd0 (s6_periodOf d0 x3 hd0 _ _ _ hw5) rfl (by decide) (by decide) (Nat.le_of_ble_eq_true rfl) rfl dX0_comesOften_32 ?_
          obtain ⟨g7, h⟩ := gdE h
          refine b_idiv dX0_comesOften_35 g7 ?_
          refine b_iadd dX0_comesOften_36 ?_
          obtain ⟨y8, ey8, h⟩ := nmE h
          refine b_nmI ey8 ?_
          refine b_istore_n (lv' := [(2, vI y8), (0, vR d0 0), (1, vI a1), (3, vI x3)]) dX0_comesOften_37 rfl (by decide) rfl ?_
          obtain ⟨y9, ey9, h⟩ := nmE h
          refine b_iinc (v := y9) (lv' := [(3, vI y9), (2, vI y8), (0, vR d0 0), (1, vI a1)]) dX0_comesOften_38 (k := 3) rfl ey9.symm (by decide) rfl ?_
          refine b_goto (tgt := 4) dX0_comesOften_41 (by decide) ?_
          refine b_sub [2, 3, 1, 0] rfl ?_
          exact ih y8 y9 _ _ _ h
def f0_comesOften  (d0 : Nat) (a1 : Int32)   (w : Mem) : Option (Int32 × Mem) :=
  f0_comesOften_4  d0 a1  100000 0 0 w
set_option maxRecDepth 100000 in
set_option maxHeartbeats 4000000 in
theorem t0_comesOften   (d0 : Nat) (a1 : Int32) (hd0 : Ob d0 6)    (w w' : Mem) (r : Int32) (h : f0_comesOften  d0 a1   w = some (r, w')) : Bk yX0_comesOften cX0_comesOften 4 (some .boolean) 3 0 [(0, vR d0 0), (1, vI a1)] [] w (some (vI r)) w' := by
  unfold f0_comesOften at h
  refine b_iconst (v := 0) dX0_comesOften_0 (by decide) ?_
  refine b_istore_n (lv' := [(2, vI 0), (0, vR d0 0), (1, vI a1)]) dX0_comesOften_1 rfl (by decide) rfl ?_
  refine b_iconst (v := 0) dX0_comesOften_2 (by decide) ?_
  refine b_istore_n (lv' := [(3, vI 0), (2, vI 0), (0, vR d0 0), (1, vI a1)]) dX0_comesOften_3 rfl (by decide) rfl ?_
  refine b_sub [2, 3, 1, 0] rfl ?_
  exact t0_comesOften_4  d0 a1 hd0   100000 0 0 _ _ _ h
theorem s0_comesOften (d0 : Nat) (a1 : Int32) (hd0 : Ob d0 6) (w w' : Mem) (r : Int32) (h : f0_comesOften  d0 a1  w = some (r, w')) : Sp yX0_comesOften cX0_comesOften 4 (some .boolean) 3 [vR d0 0, vI a1] w (some (vI r)) w' := sp_of (by decide) (fun _ => rfl) (fun _ => Nat.le_of_ble_eq_true rfl) (t0_comesOften  d0 a1 hd0  _ _ _ h)
