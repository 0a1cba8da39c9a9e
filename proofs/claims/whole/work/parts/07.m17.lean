-- X8_keep OneADayModel
def f8_keep_44  (a1 : Int32)   (w : Mem) : Option (Int32 × Mem) :=
  if ((104 * a1) + 103) < 0 ∨ 208 ≤ Int32.toNatClampNeg ((104 * a1) + 103) then none else bnd (sI w 32 43 (Int32.toNatClampNeg ((104 * a1) + 103)) (w.1 32 12 0)) fun w2 => if a1 < 0 ∨ 2 ≤ Int32.toNatClampNeg a1 then none else bnd (sI w2 32 44 (Int32.toNatClampNeg a1) 1) fun w4 => bnd (sI w4 32 29 0 0) fun w5 => some (1, w5)
set_option maxRecDepth 100000 in
set_option maxHeartbeats 4000000 in
theorem t8_keep_44   (a1 : Int32)     (w w' : Mem) (r : Int32) (h : f8_keep_44  a1   w = some (r, w')) : Bk yX8_keep cX8_keep 3 (some .int) 2 44 [(0, vR 32 0), (1, vI a1)] [] w (some (vI r)) w' := by
  unfold f8_keep_44 at h
  refine b_aload_n dX8_keep_44 rfl (k := 0) rfl ?_
  refine b_getF fl8_87 ob32 rfl rfl dX8_keep_45 ?_
  refine b_bipush (v := 104) dX8_keep_48 (by decide) ?_
  refine b_iload_n dX8_keep_50 rfl (k := 1) rfl ?_
  refine b_imul dX8_keep_51 ?_
  refine b_bipush (v := 103) dX8_keep_52 (by decide) ?_
  refine b_iadd dX8_keep_54 ?_
  refine b_aload_n dX8_keep_55 rfl (k := 0) rfl ?_
  refine b_getI fl8_237 ob32 rfl dX8_keep_56 ?_
  obtain ⟨g1, h⟩ := gdE h
  obtain ⟨w2, ew2, h⟩ := nmE h
  refine b_iast ar32_43 g1 rfl dX8_keep_59 ?_
  refine b_nmW ew2 ?_
  refine b_aload_n dX8_keep_60 rfl (k := 0) rfl ?_
  refine b_getF fl8_90 ob32 rfl rfl dX8_keep_61 ?_
  refine b_iload_n dX8_keep_64 rfl (k := 1) rfl ?_
  refine b_iconst (v := 1) dX8_keep_65 (by decide) ?_
  obtain ⟨g3, h⟩ := gdE h
  obtain ⟨w4, ew4, h⟩ := nmE h
  refine b_zast ar32_44 g3 rfl (by decide) dX8_keep_66 ?_
  refine b_nmW ew4 ?_
  refine b_aload_n dX8_keep_67 rfl (k := 0) rfl ?_
  refine b_iconst (v := 0) dX8_keep_68 (by decide) ?_
  obtain ⟨w5, ew5, h⟩ := nmE h
  refine b_putI fw8_182 ob32 rfl dX8_keep_69 ?_
  refine b_nmW ew5 ?_
  refine b_iconst (v := 1) dX8_keep_72 (by decide) ?_
  obtain ⟨rfl, rfl⟩ := rtE h
  exact b_iret rfl dX8_keep_73
def f8_keep_15  (a1 : Int32)  : Nat → Int32 → Mem → Option (Int32 × Mem)
  | 0, _, _ => none
  | n + 1, x2, w =>
  if 103 ≤ x2 then (f8_keep_44  a1   w) else (if x2 < 0 ∨ 103 ≤ Int32.toNatClampNeg x2 then none else if ((104 * a1) + x2) < 0 ∨ 208 ≤ Int32.toNatClampNeg ((104 * a1) + x2) then none else bnd (sI w 32 43 (Int32.toNatClampNeg ((104 * a1) + x2)) (w.1 32 11 (Int32.toNatClampNeg x2))) fun w4 => bnd (x2 + 1) fun y5 => f8_keep_15  a1  n y5 w4)
set_option maxRecDepth 100000 in
set_option maxHeartbeats 4000000 in
theorem t8_keep_15   (a1 : Int32)    : ∀ (n : Nat) (x2 : Int32) (w w' : Mem) (r : Int32), f8_keep_15  a1  n x2 w = some (r, w') → Bk yX8_keep cX8_keep 3 (some .int) 2 15 [(0, vR 32 0), (1, vI a1), (2, vI x2)] [] w (some (vI r)) w' := by
  intro n
  induction n with
  | zero =>
    intro x2 w w' r h
    cases (show (none : Option (Int32 × Mem)) = some _ from h)
  | succ n ih =>
    intro x2 w w' r h
    rw [f8_keep_15] at h
    refine b_iload_n dX8_keep_15 rfl (k := 2) rfl ?_
    refine b_bipush (v := 103) dX8_keep_16 (by decide) ?_
    refine b_icge (tgt := 44) dX8_keep_18 (by decide) (fun c1 => ?_) (fun c1 => ?_)
    · replace h := ifT c1 h
      refine b_sub [0, 1] rfl ?_
      exact t8_keep_44  a1     _ _ _ h
    · replace h := ifF c1 h
      refine b_aload_n dX8_keep_21 rfl (k := 0) rfl ?_
      refine b_getF fl8_87 ob32 rfl rfl dX8_keep_22 ?_
      refine b_bipush (v := 104) dX8_keep_25 (by decide) ?_
      refine b_iload_n dX8_keep_27 rfl (k := 1) rfl ?_
      refine b_imul dX8_keep_28 ?_
      refine b_iload_n dX8_keep_29 rfl (k := 2) rfl ?_
      refine b_iadd dX8_keep_30 ?_
      refine b_aload_n dX8_keep_31 rfl (k := 0) rfl ?_
      refine b_getF fl8_25 ob32 rfl rfl dX8_keep_32 ?_
      refine b_iload_n dX8_keep_35 rfl (k := 2) rfl ?_
      obtain ⟨g2, h⟩ := gdE h
      refine b_iald ar32_11 g2 rfl dX8_keep_36 ?_
      obtain ⟨g3, h⟩ := gdE h
      obtain ⟨w4, ew4, h⟩ := nmE h
      refine b_iast ar32_43 g3 rfl dX8_keep_37 ?_
      refine b_nmW ew4 ?_
      obtain ⟨y5, ey5, h⟩ := nmE h
      refine b_iinc (v := y5) (lv' := [(2, vI y5), (0, vR 32 0), (1, vI a1)]) dX8_keep_38 (k := 2) rfl ey5.symm (by decide) rfl ?_
      refine b_goto (tgt := 15) dX8_keep_41 (by decide) ?_
      refine b_sub [1, 2, 0] rfl ?_
      exact ih y5 _ _ _ h
def f8_keep  (a1 : Int32)   (w : Mem) : Option (Int32 × Mem) :=
  bndO (f8_in (Int32.toInt64 a1) 0 1 w) fun r2 w1 => if r2 = 0 then (some ((-1000000001), w1)) else (f8_keep_15  a1  100000 0 w1)
set_option maxRecDepth 100000 in
set_option maxHeartbeats 4000000 in
theorem t8_keep   (a1 : Int32)     (w w' : Mem) (r : Int32) (h : f8_keep  a1   w = some (r, w')) : Bk yX8_keep cX8_keep 3 (some .int) 2 0 [(0, vR 32 0), (1, vI a1)] [] w (some (vI r)) w' := by
  unfold f8_keep at h
  refine b_iload_n dX8_keep_0 rfl (k := 1) rfl ?_
  refine b_i2l dX8_keep_1 ?_
  refine b_lconst (v := 0) dX8_keep_2 (by decide) ?_
  refine b_lconst (v := 1) dX8_keep_3 (by decide) ?_
  obtain ⟨r2, w1, hw1, h⟩ := bdO h
  refine b_callSi ms8_in ml8_97 (s8_in (Int32.toInt64 a1) 0 1  _ _ _ hw1) rfl (by decide) (by decide) (Nat.le_of_ble_eq_true rfl) rfl dX8_keep_4 ?_
  refine b_ifne (tgt := 13) dX8_keep_7 (by decide) (fun c3 => ?_) (fun c3 => ?_)
  · replace h := ifF c3 h
    refine b_iconst (v := 0) dX8_keep_13 (by decide) ?_
    refine b_istore_n (lv' := [(2, vI 0), (0, vR 32 0), (1, vI a1)]) dX8_keep_14 rfl (by decide) rfl ?_
    refine b_sub [1, 2, 0] rfl ?_
    exact t8_keep_15  a1    100000 0 _ _ _ h
  · replace h := ifT c3 h
    refine b_ldc dX8_keep_10 kk8_189 ?_
    obtain ⟨rfl, rfl⟩ := rtE h
    exact b_iret rfl dX8_keep_12
theorem s8_keep (a1 : Int32)  (w w' : Mem) (r : Int32) (h : f8_keep  a1  w = some (r, w')) : Sp yX8_keep cX8_keep 3 (some .int) 2 [vR 32 0, vI a1] w (some (vI r)) w' := sp_of (by decide) (fun _ => rfl) (fun _ => Nat.le_of_ble_eq_true rfl) (t8_keep  a1   _ _ _ h)
-- X8_goBack OneADayModel
def f8_goBack_56  (a1 : Int32)   (w : Mem) : Option (Int32 × Mem) :=
  if ((104 * a1) + 103) < 0 ∨ 208 ≤ Int32.toNatClampNeg ((104 * a1) + 103) then none else bnd (sI w 32 12 0 (w.1 32 43 (Int32.toNatClampNeg ((104 * a1) + 103)))) fun w2 => bnd (sI w2 32 29 0 0) fun w3 => some (1, w3)
set_option maxRecDepth 100000 in
set_option maxHeartbeats 4000000 in
theorem t8_goBack_56   (a1 : Int32)     (w w' : Mem) (r : Int32) (h : f8_goBack_56  a1   w = some (r, w')) : Bk yX8_goBack cX8_goBack 3 (some .int) 2 56 [(0, vR 32 0), (1, vI a1)] [] w (some (vI r)) w' := by
  unfold f8_goBack_56 at h
  refine b_aload_n dX8_goBack_56 rfl (k := 0) rfl ?_
  refine b_aload_n dX8_goBack_57 rfl (k := 0) rfl ?_
  refine b_getF fl8_87 ob32 rfl rfl dX8_goBack_58 ?_
  refine b_bipush (v := 104) dX8_goBack_61 (by decide) ?_
  refine b_iload_n dX8_goBack_63 rfl (k := 1) rfl ?_
  refine b_imul dX8_goBack_64 ?_
  refine b_bipush (v := 103) dX8_goBack_65 (by decide) ?_
  refine b_iadd dX8_goBack_67 ?_
  obtain ⟨g1, h⟩ := gdE h
  refine b_iald ar32_43 g1 rfl dX8_goBack_68 ?_
  obtain ⟨w2, ew2, h⟩ := nmE h
  refine b_putI fw8_237 ob32 rfl dX8_goBack_69 ?_
  refine b_nmW ew2 ?_
  refine b_aload_n dX8_goBack_72 rfl (k := 0) rfl ?_
  refine b_iconst (v := 0) dX8_goBack_73 (by decide) ?_
  obtain ⟨w3, ew3, h⟩ := nmE h
  refine b_putI fw8_182 ob32 rfl dX8_goBack_74 ?_
  refine b_nmW ew3 ?_
  refine b_iconst (v := 1) dX8_goBack_77 (by decide) ?_
  obtain ⟨rfl, rfl⟩ := rtE h
  exact b_iret rfl dX8_goBack_78
def f8_goBack_27  (a1 : Int32)  : Nat → Int32 → Mem → Option (Int32 × Mem)
  | 0, _, _ => none
  | n + 1, x2, w =>
  if 103 ≤ x2 then (f8_goBack_56  a1   w) else (if ((104 * a1) + x2) < 0 ∨ 208 ≤ Int32.toNatClampNeg ((104 * a1) + x2) then none else if x2 < 0 ∨ 103 ≤ Int32.toNatClampNeg x2 then none else bnd (sI w 32 11 (Int32.toNatClampNeg x2) (w.1 32 43 (Int32.toNatClampNeg ((104 * a1) + x2)))) fun w4 => bnd (x2 + 1) fun y5 => f8_goBack_27  a1  n y5 w4)
set_option maxRecDepth 100000 in
set_option maxHeartbeats 4000000 in
theorem t8_goBack_27   (a1 : Int32)    : ∀ (n : Nat) (x2 : Int32) (w w' : Mem) (r : Int32), f8_goBack_27  a1  n x2 w = some (r, w') → Bk yX8_goBack cX8_goBack 3 (some .int) 2 27 [(0, vR 32 0), (1, vI a1), (2, vI x2)] [] w (some (vI r)) w' := by
  intro n
  induction n with
  | zero =>
    intro x2 w w' r h
    cases (show (none : Option (Int32 × Mem)) = some _ from h)
  | succ n ih =>
    intro x2 w w' r h
    rw [f8_goBack_27] at h
    refine b_iload_n dX8_goBack_27 rfl (k := 2) rfl ?_
    refine b_bipush (v := 103) dX8_goBack_28 (by decide) ?_
    refine b_icge (tgt := 56) dX8_goBack_30 (by decide) (fun c1 => ?_) (fun c1 => ?_)
    · replace h := ifT c1 h
      refine b_sub [0, 1] rfl ?_
      exact t8_goBack_56  a1     _ _ _ h
    · replace h := ifF c1 h
      refine b_aload_n dX8_goBack_33 rfl (k := 0) rfl ?_
      refine b_getF fl8_25 ob32 rfl rfl dX8_goBack_34 ?_
      refine b_iload_n dX8_goBack_37 rfl (k := 2) rfl ?_
      refine b_aload_n dX8_goBack_38 rfl (k := 0) rfl ?_
      refine b_getF fl8_87 ob32 rfl rfl dX8_goBack_39 ?_
      refine b_bipush (v := 104) dX8_goBack_42 (by decide) ?_
      refine b_iload_n dX8_goBack_44 rfl (k := 1) rfl ?_
      refine b_imul dX8_goBack_45 ?_
      refine b_iload_n dX8_goBack_46 rfl (k := 2) rfl ?_
      refine b_iadd dX8_goBack_47 ?_
      obtain ⟨g2, h⟩ := gdE h
      refine b_iald ar32_43 g2 rfl dX8_goBack_48 ?_
      obtain ⟨g3, h⟩ := gdE h
      obtain ⟨w4, ew4, h⟩ := nmE h
      refine b_iast ar32_11 g3 rfl dX8_goBack_49 ?_
      refine b_nmW ew4 ?_
      obtain ⟨y5, ey5, h⟩ := nmE h
      refine b_iinc (v := y5) (lv' := [(2, vI y5), (0, vR 32 0), (1, vI a1)]) dX8_goBack_50 (k := 2) rfl ey5.symm (by decide) rfl ?_
      refine b_goto (tgt := 27) dX8_goBack_53 (by decide) ?_
      refine b_sub [1, 2, 0] rfl ?_
      exact ih y5 _ _ _ h
def f8_goBack  (a1 : Int32)   (w : Mem) : Option (Int32 × Mem) :=
  bndO (f8_in (Int32.toInt64 a1) 0 1 w) fun r2 w1 => if r2 = 0 then (some ((-1000000001), w1)) else (if a1 < 0 ∨ 2 ≤ Int32.toNatClampNeg a1 then none else if (w1.1 32 44 (Int32.toNatClampNeg a1)) = 0 then (some ((-1000000003), w1)) else (f8_goBack_27  a1  100000 0 w1))
set_option maxRecDepth 100000 in
set_option maxHeartbeats 4000000 in
theorem t8_goBack   (a1 : Int32)     (w w' : Mem) (r : Int32) (h : f8_goBack  a1   w = some (r, w')) : Bk yX8_goBack cX8_goBack 3 (some .int) 2 0 [(0, vR 32 0), (1, vI a1)] [] w (some (vI r)) w' := by
  unfold f8_goBack at h
  refine b_iload_n dX8_goBack_0 rfl (k := 1) rfl ?_
  refine b_i2l dX8_goBack_1 ?_
  refine b_lconst (v := 0) dX8_goBack_2 (by decide) ?_
  refine b_lconst (v := 1) dX8_goBack_3 (by decide) ?_
  obtain ⟨r2, w1, hw1, h⟩ := bdO h
  refine b_callSi ms8_in ml8_97 (s8_in (Int32.toInt64 a1) 0 1  _ _ _ hw1) rfl (by decide) (by decide) (Nat.le_of_ble_eq_true rfl) rfl dX8_goBack_4 ?_
  refine b_ifne (tgt := 13) dX8_goBack_7 (by decide) (fun c3 => ?_) (fun c3 => ?_)
  · replace h := ifF c3 h
    refine b_aload_n dX8_goBack_13 rfl (k := 0) rfl ?_
    refine b_getF fl8_90 ob32 rfl rfl dX8_goBack_14 ?_
    refine b_iload_n dX8_goBack_17 rfl (k := 1) rfl ?_
    obtain ⟨g4, h⟩ := gdE h
    refine b_zald ar32_44 g4 rfl dX8_goBack_18 ?_
    refine b_ifne (tgt := 25) dX8_goBack_19 (by decide) (fun c5 => ?_) (fun c5 => ?_)
    · replace h := ifF c5 h
      refine b_iconst (v := 0) dX8_goBack_25 (by decide) ?_
      refine b_istore_n (lv' := [(2, vI 0), (0, vR 32 0), (1, vI a1)]) dX8_goBack_26 rfl (by decide) rfl ?_
      refine b_sub [1, 2, 0] rfl ?_
      exact t8_goBack_27  a1    100000 0 _ _ _ h
    · replace h := ifT c5 h
      refine b_ldc dX8_goBack_22 kk8_224 ?_
      obtain ⟨rfl, rfl⟩ := rtE h
      exact b_iret rfl dX8_goBack_24
  · replace h := ifT c3 h
    refine b_ldc dX8_goBack_10 kk8_189 ?_
    obtain ⟨rfl, rfl⟩ := rtE h
    exact b_iret rfl dX8_goBack_12
theorem s8_goBack (a1 : Int32)  (w w' : Mem) (r : Int32) (h : f8_goBack  a1  w = some (r, w')) : Sp yX8_goBack cX8_goBack 3 (some .int) 2 [vR 32 0, vI a1] w (some (vI r)) w' := sp_of (by decide) (fun _ => rfl) (fun _ => Nat.le_of_ble_eq_true rfl) (t8_goBack  a1   _ _ _ h)
