-- X7_goBack OneADay
def f7_goBack  (a1 : Int32)   (w : Mem) : Option (Int32 × Mem) :=
  if a1 < 0 then (some ((-1000000001), w)) else (if 2 ≤ a1 then (some ((-1000000001), w)) else (if a1 < 2 then (if a1 < 0 ∨ 2 ≤ Int32.toNatClampNeg a1 then none else if ((jshr (w.1 26 11 0) a1) &&& 1) = 0 then (some ((-1000000003), w)) else (bndV (f1_copy 0 (rb 26 + (Int32.toNatClampNeg a1)) w) fun w7 => if a1 < 0 ∨ 2 ≤ Int32.toNatClampNeg a1 then none else bnd (sI w7 26 12 0 (w7.1 26 10 (Int32.toNatClampNeg a1))) fun w9 => bndV (f3_clear  w9) fun w10 => some (1, w10))) else (some ((-1000000001), w))))
set_option maxRecDepth 100000 in
set_option maxHeartbeats 4000000 in
theorem t7_goBack   (a1 : Int32)     (w w' : Mem) (r : Int32) (h : f7_goBack  a1   w = some (r, w')) : Bk yX7_goBack cX7_goBack 3 (some .int) 3 0 [(0, vR 26 0), (1, vI a1)] [] w (some (vI r)) w' := by
  unfold f7_goBack at h
  refine b_iload_n dX7_goBack_0 rfl (k := 1) rfl ?_
  refine b_iflt (tgt := 22) dX7_goBack_1 (by decide) (fun c1 => ?_) (fun c1 => ?_)
  · replace h := ifT c1 h
    refine b_ldc dX7_goBack_22 kk7_162 ?_
    obtain ⟨rfl, rfl⟩ := rtE h
    exact b_iret rfl dX7_goBack_24
  · replace h := ifF c1 h
    refine b_iload_n dX7_goBack_4 rfl (k := 1) rfl ?_
    refine b_aload_n dX7_goBack_5 rfl (k := 0) rfl ?_
    refine b_getF fl7_51 ob26 rfl rfl dX7_goBack_6 ?_
    refine b_alen (v := 2) ar26_9 (by decide) (by decide) dX7_goBack_9 ?_
    refine b_icge (tgt := 22) dX7_goBack_10 (by decide) (fun c2 => ?_) (fun c2 => ?_)
    · replace h := ifT c2 h
      refine b_ldc dX7_goBack_22 kk7_162 ?_
      obtain ⟨rfl, rfl⟩ := rtE h
      exact b_iret rfl dX7_goBack_24
    · replace h := ifF c2 h
      refine b_iload_n dX7_goBack_13 rfl (k := 1) rfl ?_
      refine b_aload_n dX7_goBack_14 rfl (k := 0) rfl ?_
      refine b_getF fl7_55 ob26 rfl rfl dX7_goBack_15 ?_
      refine b_alen (v := 2) ar26_10 (by decide) (by decide) dX7_goBack_18 ?_
      refine b_iclt (tgt := 25) dX7_goBack_19 (by decide) (fun c3 => ?_) (fun c3 => ?_)
      · replace h := ifT c3 h
        refine b_aload_n dX7_goBack_25 rfl (k := 0) rfl ?_
        refine b_getF fl7_51 ob26 rfl rfl dX7_goBack_26 ?_
        refine b_iload_n dX7_goBack_29 rfl (k := 1) rfl ?_
        obtain ⟨g4, h⟩ := gdE h
        refine b_aald ar26_9 g4 dX7_goBack_30 ?_
        refine b_astore_n (lv' := [(2, vR (rb 26 + (Int32.toNatClampNeg a1)) 0), (0, vR 26 0), (1, vI a1)]) dX7_goBack_31 rfl (by decide) rfl ?_
        refine b_aload_n dX7_goBack_32 rfl (k := 0) rfl ?_
        refine b_ifnull dX7_goBack_33 ?_
        refine b_aload_n dX7_goBack_36 rfl (k := 1) rfl ?_
        refine b_getI fl7_100 ob26 rfl dX7_goBack_37 ?_
        refine b_iload_n dX7_goBack_40 rfl (k := 2) rfl ?_
        refine b_ishr dX7_goBack_41 ?_
        refine b_iconst (v := 1) dX7_goBack_42 (by decide) ?_
        refine b_iand dX7_goBack_43 ?_
        refine b_ifne (tgt := 50) dX7_goBack_44 (by decide) (fun c6 => ?_) (fun c6 => ?_)
        · replace h := ifF c6 h
          refine b_aload_n dX7_goBack_50 rfl (k := 1) rfl ?_
          refine b_getF fl7_37 ob26 rfl rfl dX7_goBack_51 ?_
          refine b_aload_n dX7_goBack_54 rfl (k := 0) rfl ?_
          obtain ⟨w7, hw7, h⟩ := bdV h
          refine b_callVv mv1_copy ml7_269 ob0 (s1_copy 0 (rb 26 + (Int32.toNatClampNeg a1)) ob0 (obM g4) _ _  hw7) rfl (by decide) (by decide) (Nat.le_of_ble_eq_true rfl) rfl dX7_goBack_55 ?_
          refine b_aload_n dX7_goBack_58 rfl (k := 1) rfl ?_
          refine b_aload_n dX7_goBack_59 rfl (k := 1) rfl ?_
          refine b_getF fl7_55 ob26 rfl rfl dX7_goBack_60 ?_
          refine b_iload_n dX7_goBack_63 rfl (k := 2) rfl ?_
          obtain ⟨g8, h⟩ := gdE h
          refine b_iald ar26_10 g8 rfl dX7_goBack_64 ?_
          obtain ⟨w9, ew9, h⟩ := nmE h
          refine b_putI fw7_266 ob26 rfl dX7_goBack_65 ?_
          refine b_nmW ew9 ?_
          refine b_aload_n dX7_goBack_68 rfl (k := 1) rfl ?_
          refine b_getF fl7_47 ob26 rfl rfl dX7_goBack_69 ?_
          obtain ⟨w10, hw10, h⟩ := bdV h
          refine b_callVv mv3_clear ml7_99 ob28 (s3_clear   _ _  hw10) rfl (by decide) (by decide) (Nat.le_of_ble_eq_true rfl) rfl dX7_goBack_72 ?_
          refine b_iconst (v := 1) dX7_goBack_75 (by decide) ?_
          obtain ⟨rfl, rfl⟩ := rtE h
          exact b_iret rfl dX7_goBack_76
        · replace h := ifT c6 h
          refine b_ldc dX7_goBack_47 kk7_206 ?_
          obtain ⟨rfl, rfl⟩ := rtE h
          exact b_iret rfl dX7_goBack_49
      · replace h := ifF c3 h
        refine b_ldc dX7_goBack_22 kk7_162 ?_
        obtain ⟨rfl, rfl⟩ := rtE h
        exact b_iret rfl dX7_goBack_24
theorem s7_goBack (a1 : Int32)  (w w' : Mem) (r : Int32) (h : f7_goBack  a1  w = some (r, w')) : Sp yX7_goBack cX7_goBack 3 (some .int) 3 [vR 26 0, vI a1] w (some (vI r)) w' := sp_of (by decide) (fun _ => rfl) (fun _ => Nat.le_of_ble_eq_true rfl) (t7_goBack  a1   _ _ _ h)
-- X8_in OneADayModel
def f8_in  (l0 : Int64) (l2 : Int64) (l4 : Int64)   (w : Mem) : Option (Int32 × Mem) :=
  if (lg_cmp l0 l2) < 0 then (some (0, w)) else (if 0 < (lg_cmp l0 l4) then (some (0, w)) else (some (1, w)))
set_option maxRecDepth 100000 in
set_option maxHeartbeats 4000000 in
theorem t8_in   (l0 : Int64) (l2 : Int64) (l4 : Int64)     (w w' : Mem) (r : Int32) (h : f8_in  l0 l2 l4   w = some (r, w')) : Bk yX8_in cX8_in 6 (some .boolean) 1 0 [(0, vL l0), (2, vL l2), (4, vL l4)] [] w (some (vI r)) w' := by
  unfold f8_in at h
  refine b_lload_n dX8_in_0 rfl (k := 0) rfl ?_
  refine b_lload_n dX8_in_1 rfl (k := 1) rfl ?_
  refine b_lcmp dX8_in_2 ?_
  refine b_iflt (tgt := 17) dX8_in_3 (by decide) (fun c1 => ?_) (fun c1 => ?_)
  · replace h := ifT c1 h
    refine b_iconst (v := 0) dX8_in_17 (by decide) ?_
    obtain ⟨rfl, rfl⟩ := rtE h
    exact b_zret rfl (by decide) dX8_in_18
  · replace h := ifF c1 h
    refine b_lload_n dX8_in_6 rfl (k := 0) rfl ?_
    refine b_lload dX8_in_7 (k := 2) rfl ?_
    refine b_lcmp dX8_in_9 ?_
    refine b_ifgt (tgt := 17) dX8_in_10 (by decide) (fun c2 => ?_) (fun c2 => ?_)
    · replace h := ifT c2 h
      refine b_iconst (v := 0) dX8_in_17 (by decide) ?_
      obtain ⟨rfl, rfl⟩ := rtE h
      exact b_zret rfl (by decide) dX8_in_18
    · replace h := ifF c2 h
      refine b_iconst (v := 1) dX8_in_13 (by decide) ?_
      refine b_goto (tgt := 18) dX8_in_14 (by decide) ?_
      obtain ⟨rfl, rfl⟩ := rtE h
      exact b_zret rfl (by decide) dX8_in_18
theorem s8_in (l0 : Int64) (l2 : Int64) (l4 : Int64)  (w w' : Mem) (r : Int32) (h : f8_in  l0 l2 l4  w = some (r, w')) : Sp yX8_in cX8_in 6 (some .boolean) 1 [vL l0, vL l2, vL l4] w (some (vI r)) w' := sp_of (by decide) (fun _ => rfl) (fun _ => Nat.le_of_ble_eq_true rfl) (t8_in  l0 l2 l4   _ _ _ h)
-- X8_has OneADayModel
def f8_has  (a0 : Int32) (a1 : Int32)   (w : Mem) : Option (Int32 × Mem) :=
  if ((jshr a0 a1) &&& 1) = 1 then (some (1, w)) else (some (0, w))
set_option maxRecDepth 100000 in
set_option maxHeartbeats 4000000 in
theorem t8_has   (a0 : Int32) (a1 : Int32)     (w w' : Mem) (r : Int32) (h : f8_has  a0 a1   w = some (r, w')) : Bk yX8_has cX8_has 2 (some .boolean) 1 0 [(0, vI a0), (1, vI a1)] [] w (some (vI r)) w' := by
  unfold f8_has at h
  refine b_iload_n dX8_has_0 rfl (k := 0) rfl ?_
  refine b_iload_n dX8_has_1 rfl (k := 1) rfl ?_
  refine b_ishr dX8_has_2 ?_
  refine b_iconst (v := 1) dX8_has_3 (by decide) ?_
  refine b_iand dX8_has_4 ?_
  refine b_iconst (v := 1) dX8_has_5 (by decide) ?_
  refine b_icne (tgt := 13) dX8_has_6 (by decide) (fun c1 => ?_) (fun c1 => ?_)
  · replace h := ifF c1 h
    refine b_iconst (v := 0) dX8_has_13 (by decide) ?_
    obtain ⟨rfl, rfl⟩ := rtE h
    exact b_zret rfl (by decide) dX8_has_14
  · replace h := ifT c1 h
    refine b_iconst (v := 1) dX8_has_9 (by decide) ?_
    refine b_goto (tgt := 14) dX8_has_10 (by decide) ?_
    obtain ⟨rfl, rfl⟩ := rtE h
    exact b_zret rfl (by decide) dX8_has_14
theorem s8_has (a0 : Int32) (a1 : Int32)  (w w' : Mem) (r : Int32) (h : f8_has  a0 a1  w = some (r, w')) : Sp yX8_has cX8_has 2 (some .boolean) 1 [vI a0, vI a1] w (some (vI r)) w' := sp_of (by decide) (fun _ => rfl) (fun _ => Nat.le_of_ble_eq_true rfl) (t8_has  a0 a1   _ _ _ h)
-- X8_bits OneADayModel
def f8_bits_4  (a0 : Int32)  : Nat → Int32 → Int32 → Mem → Option (Int32 × Mem)
  | 0, _, _, _ => none
  | n + 1, x1, x2, w =>
  if 9 ≤ x2 then (some (x1, w)) else (bnd (x1 + ((jshr a0 x2) &&& 1)) fun y2 => bnd (x2 + 1) fun y3 => f8_bits_4  a0  n y2 y3 w)
set_option maxRecDepth 100000 in
set_option maxHeartbeats 4000000 in
theorem t8_bits_4   (a0 : Int32)    : ∀ (n : Nat) (x1 : Int32) (x2 : Int32) (w w' : Mem) (r : Int32), f8_bits_4  a0  n x1 x2 w = some (r, w') → Bk yX8_bits cX8_bits 3 (some .int) 1 4 [(0, vI a0), (1, vI x1), (2, vI x2)] [] w (some (vI r)) w' := by
  intro n
  induction n with
  | zero =>
    intro x1 x2 w w' r h
    cases (show (none : Option (Int32 × Mem)) = some _ from h)
  | succ n ih =>
    intro x1 x2 w w' r h
    rw [f8_bits_4] at h
    refine b_iload_n dX8_bits_4 rfl (k := 2) rfl ?_
    refine b_bipush (v := 9) dX8_bits_5 (by decide) ?_
    refine b_icge (tgt := 24) dX8_bits_7 (by decide) (fun c1 => ?_) (fun c1 => ?_)
    · replace h := ifT c1 h
      refine b_iload_n dX8_bits_24 rfl (k := 1) rfl ?_
      obtain ⟨rfl, rfl⟩ := rtE h
      exact b_iret rfl dX8_bits_25
    · replace h := ifF c1 h
      refine b_iload_n dX8_bits_10 rfl (k := 1) rfl ?_
      refine b_iload_n dX8_bits_11 rfl (k := 0) rfl ?_
      refine b_iload_n dX8_bits_12 rfl (k := 2) rfl ?_
      refine b_ishr dX8_bits_13 ?_
      refine b_iconst (v := 1) dX8_bits_14 (by decide) ?_
      refine b_iand dX8_bits_15 ?_
      refine b_iadd dX8_bits_16 ?_
      obtain ⟨y2, ey2, h⟩ := nmE h
      refine b_nmI ey2 ?_
      refine b_istore_n (lv' := [(1, vI y2), (0, vI a0), (2, vI x2)]) dX8_bits_17 rfl (by decide) rfl ?_
      obtain ⟨y3, ey3, h⟩ := nmE h
      refine b_iinc (v := y3) (lv' := [(2, vI y3), (1, vI y2), (0, vI a0)]) dX8_bits_18 (k := 2) rfl ey3.symm (by decide) rfl ?_
      refine b_goto (tgt := 4) dX8_bits_21 (by decide) ?_
      refine b_sub [2, 1, 0] rfl ?_
      exact ih y2 y3 _ _ _ h
def f8_bits  (a0 : Int32)   (w : Mem) : Option (Int32 × Mem) :=
  f8_bits_4  a0  100000 0 0 w
set_option maxRecDepth 100000 in
set_option maxHeartbeats 4000000 in
theorem t8_bits   (a0 : Int32)     (w w' : Mem) (r : Int32) (h : f8_bits  a0   w = some (r, w')) : Bk yX8_bits cX8_bits 3 (some .int) 1 0 [(0, vI a0)] [] w (some (vI r)) w' := by
  unfold f8_bits at h
  refine b_iconst (v := 0) dX8_bits_0 (by decide) ?_
  refine b_istore_n (lv' := [(1, vI 0), (0, vI a0)]) dX8_bits_1 rfl (by decide) rfl ?_
  refine b_iconst (v := 0) dX8_bits_2 (by decide) ?_
  refine b_istore_n (lv' := [(2, vI 0), (1, vI 0), (0, vI a0)]) dX8_bits_3 rfl (by decide) rfl ?_
  refine b_sub [2, 1, 0] rfl ?_
  exact t8_bits_4  a0    100000 0 0 _ _ _ h
theorem s8_bits (a0 : Int32)  (w w' : Mem) (r : Int32) (h : f8_bits  a0  w = some (r, w')) : Sp yX8_bits cX8_bits 3 (some .int) 1 [vI a0] w (some (vI r)) w' := sp_of (by decide) (fun _ => rfl) (fun _ => Nat.le_of_ble_eq_true rfl) (t8_bits  a0   _ _ _ h)
-- X8_isVillage OneADayModel
def f8_isVillage  (a1 : Int32)   (w : Mem) : Option (Int32 × Mem) :=
  bndO (f8_in (Int32.toInt64 a1) 0 (Int32.toInt64 ((w.1 32 3 0) - 1)) w) fun r2 w1 => if ¬ r2 &&& 1 = r2 then none else some (r2, w1)
set_option maxRecDepth 100000 in
set_option maxHeartbeats 4000000 in
theorem t8_isVillage   (a1 : Int32)     (w w' : Mem) (r : Int32) (h : f8_isVillage  a1   w = some (r, w')) : Bk yX8_isVillage cX8_isVillage 2 (some .boolean) 2 0 [(0, vR 32 0), (1, vI a1)] [] w (some (vI r)) w' := by
  unfold f8_isVillage at h
  refine b_iload_n dX8_isVillage_0 rfl (k := 1) rfl ?_
  refine b_i2l dX8_isVillage_1 ?_
  refine b_lconst (v := 0) dX8_isVillage_2 (by decide) ?_
  refine b_aload_n dX8_isVillage_3 rfl (k := 0) rfl ?_
  refine b_getI fl8_94 ob32 rfl dX8_isVillage_4 ?_
  refine b_iconst (v := 1) dX8_isVillage_7 (by decide) ?_
  refine b_isub dX8_isVillage_8 ?_
  refine b_i2l dX8_isVillage_9 ?_
  obtain ⟨r2, w1, hw1, h⟩ := bdO h
  refine b_callSi ms8_in ml8_97 (s8_in (Int32.toInt64 a1) 0 (Int32.toInt64 ((w.1 32 3 0) - 1))  _ _ _ hw1) rfl (by decide) (by decide) (Nat.le_of_ble_eq_true rfl) rfl dX8_isVillage_10 ?_
  obtain ⟨g3, h⟩ := gdE h
  obtain ⟨rfl, rfl⟩ := rtE h
  exact b_zret rfl (Decidable.not_not.mp g3) dX8_isVillage_13
theorem s8_isVillage (a1 : Int32)  (w w' : Mem) (r : Int32) (h : f8_isVillage  a1  w = some (r, w')) : Sp yX8_isVillage cX8_isVillage 2 (some .boolean) 2 [vR 32 0, vI a1] w (some (vI r)) w' := sp_of (by decide) (fun _ => rfl) (fun _ => Nat.le_of_ble_eq_true rfl) (t8_isVillage  a1   _ _ _ h)
-- X8_feed OneADayModel
def f8_feed  (a1 : Int32)   (w : Mem) : Option (Int32 × Mem) :=
  bndO (f8_in (Int32.toInt64 a1) 0 255 w) fun r2 w1 => if r2 = 0 then (some ((-1000000002), w1)) else (if (w1.1 32 14 0) = 240 then (some ((-1000000004), w1)) else (if (w1.1 32 14 0) < 0 ∨ 240 ≤ Int32.toNatClampNeg (w1.1 32 14 0) then none else bnd (sI w1 32 13 (Int32.toNatClampNeg (w1.1 32 14 0)) a1) fun w6 => bnd (sI w6 32 14 0 ((w6.1 32 14 0) + 1)) fun w7 => some (w7.1 32 14 0, w7)))
set_option maxRecDepth 100000 in
set_option maxHeartbeats 4000000 in
theorem t8_feed   (a1 : Int32)     (w w' : Mem) (r : Int32) (h : f8_feed  a1   w = some (r, w')) : Bk yX8_feed cX8_feed 2 (some .int) 2 0 [(0, vR 32 0), (1, vI a1)] [] w (some (vI r)) w' := by
  unfold f8_feed at h
  refine b_iload_n dX8_feed_0 rfl (k := 1) rfl ?_
  refine b_i2l dX8_feed_1 ?_
  refine b_lconst (v := 0) dX8_feed_2 (by decide) ?_
  refine b_ldc2 dX8_feed_3 kl8_101 ?_
  obtain ⟨r2, w1, hw1, h⟩ := bdO h
  refine b_callSi ms8_in ml8_97 (s8_in (Int32.toInt64 a1) 0 255  _ _ _ hw1) rfl (by decide) (by decide) (Nat.le_of_ble_eq_true rfl) rfl dX8_feed_6 ?_
  refine b_ifne (tgt := 15) dX8_feed_9 (by decide) (fun c3 => ?_) (fun c3 => ?_)
  · replace h := ifF c3 h
    refine b_aload_n dX8_feed_15 rfl (k := 0) rfl ?_
    refine b_getI fl8_104 ob32 rfl dX8_feed_16 ?_
    refine b_sipush (v := 240) dX8_feed_19 (by decide) ?_
    refine b_icne (tgt := 28) dX8_feed_22 (by decide) (fun c4 => ?_) (fun c4 => ?_)
    · replace h := ifF c4 h
      refine b_aload_n dX8_feed_28 rfl (k := 0) rfl ?_
      refine b_getF fl8_28 ob32 rfl rfl dX8_feed_29 ?_
      refine b_aload_n dX8_feed_32 rfl (k := 0) rfl ?_
      refine b_getI fl8_104 ob32 rfl dX8_feed_33 ?_
      refine b_iload_n dX8_feed_36 rfl (k := 1) rfl ?_
      obtain ⟨g5, h⟩ := gdE h
      obtain ⟨w6, ew6, h⟩ := nmE h
      refine b_iast ar32_13 g5 rfl dX8_feed_37 ?_
      refine b_nmW ew6 ?_
      refine b_aload_n dX8_feed_38 rfl (k := 0) rfl ?_
      refine b_dup dX8_feed_39 rfl ?_
      refine b_getI fl8_104 ob32 rfl dX8_feed_40 ?_
      refine b_iconst (v := 1) dX8_feed_43 (by decide) ?_
      refine b_iadd dX8_feed_44 ?_
      obtain ⟨w7, ew7, h⟩ := nmE h
      refine b_putI fw8_104 ob32 rfl dX8_feed_45 ?_
      refine b_nmW ew7 ?_
      refine b_aload_n dX8_feed_48 rfl (k := 0) rfl ?_
      refine b_getI fl8_104 ob32 rfl dX8_feed_49 ?_
      obtain ⟨rfl, rfl⟩ := rtE h
      exact b_iret rfl dX8_feed_52
    · replace h := ifT c4 h
      refine b_ldc dX8_feed_25 kk8_107 ?_
      obtain ⟨rfl, rfl⟩ := rtE h
      exact b_iret rfl dX8_feed_27
  · replace h := ifT c3 h
    refine b_ldc dX8_feed_12 kk8_103 ?_
    obtain ⟨rfl, rfl⟩ := rtE h
    exact b_iret rfl dX8_feed_14
theorem s8_feed (a1 : Int32)  (w w' : Mem) (r : Int32) (h : f8_feed  a1  w = some (r, w')) : Sp yX8_feed cX8_feed 2 (some .int) 2 [vR 32 0, vI a1] w (some (vI r)) w' := sp_of (by decide) (fun _ => rfl) (fun _ => Nat.le_of_ble_eq_true rfl) (t8_feed  a1   _ _ _ h)
-- X8_here OneADayModel
def f8_here_38     (w : Mem) : Option (Int32 × Mem) :=
  if (w.1 32 14 0) ≤ (w.1 32 16 0) then (some ((-1), w)) else (if (w.1 32 16 0) < 0 ∨ 240 ≤ Int32.toNatClampNeg (w.1 32 16 0) then none else some (w.1 32 13 (Int32.toNatClampNeg (w.1 32 16 0)), w))
set_option maxRecDepth 100000 in
set_option maxHeartbeats 4000000 in
theorem t8_here_38        (w w' : Mem) (r : Int32) (h : f8_here_38     w = some (r, w')) : Bk yX8_here cX8_here 1 (some .int) 1 38 [(0, vR 32 0)] [] w (some (vI r)) w' := by
  unfold f8_here_38 at h
  refine b_aload_n dX8_here_38 rfl (k := 0) rfl ?_
  refine b_getI fl8_108 ob32 rfl dX8_here_39 ?_
  refine b_aload_n dX8_here_42 rfl (k := 0) rfl ?_
  refine b_getI fl8_104 ob32 rfl dX8_here_43 ?_
  refine b_icge (tgt := 61) dX8_here_46 (by decide) (fun c1 => ?_) (fun c1 => ?_)
  · replace h := ifT c1 h
    refine b_iconst (v := (-1)) dX8_here_61 (by decide) ?_
    obtain ⟨rfl, rfl⟩ := rtE h
    exact b_iret rfl dX8_here_62
  · replace h := ifF c1 h
    refine b_aload_n dX8_here_49 rfl (k := 0) rfl ?_
    refine b_getF fl8_28 ob32 rfl rfl dX8_here_50 ?_
    refine b_aload_n dX8_here_53 rfl (k := 0) rfl ?_
    refine b_getI fl8_108 ob32 rfl dX8_here_54 ?_
    obtain ⟨g2, h⟩ := gdE h
    refine b_iald ar32_13 g2 rfl dX8_here_57 ?_
    refine b_goto (tgt := 62) dX8_here_58 (by decide) ?_
    obtain ⟨rfl, rfl⟩ := rtE h
    exact b_iret rfl dX8_here_62
def f8_here_0    : Nat → Mem → Option (Int32 × Mem)
  | 0, _ => none
  | n + 1, w =>
  if (w.1 32 14 0) ≤ (w.1 32 16 0) then (f8_here_38     w) else (if (w.1 32 16 0) < 0 ∨ 240 ≤ Int32.toNatClampNeg (w.1 32 16 0) then none else if (w.1 32 13 (Int32.toNatClampNeg (w.1 32 16 0))) = 32 then (bnd (sI w 32 16 0 ((w.1 32 16 0) + 1)) fun w4 => f8_here_0    n  w4) else (f8_here_38     w))
set_option maxRecDepth 100000 in
set_option maxHeartbeats 4000000 in
theorem t8_here_0       : ∀ (n : Nat)  (w w' : Mem) (r : Int32), f8_here_0    n  w = some (r, w') → Bk yX8_here cX8_here 1 (some .int) 1 0 [(0, vR 32 0)] [] w (some (vI r)) w' := by
  intro n
  induction n with
  | zero =>
    intro  w w' r h
    cases (show (none : Option (Int32 × Mem)) = some _ from h)
  | succ n ih =>
    intro  w w' r h
    rw [f8_here_0] at h
    refine b_aload_n dX8_here_0 rfl (k := 0) rfl ?_
    refine b_getI fl8_108 ob32 rfl dX8_here_1 ?_
    refine b_aload_n dX8_here_4 rfl (k := 0) rfl ?_
    refine b_getI fl8_104 ob32 rfl dX8_here_5 ?_
    refine b_icge (tgt := 38) dX8_here_8 (by decide) (fun c1 => ?_) (fun c1 => ?_)
    · replace h := ifT c1 h
      refine b_sub [0] rfl ?_
      exact t8_here_38       _ _ _ h
    · replace h := ifF c1 h
      refine b_aload_n dX8_here_11 rfl (k := 0) rfl ?_
      refine b_getF fl8_28 ob32 rfl rfl dX8_here_12 ?_
      refine b_aload_n dX8_here_15 rfl (k := 0) rfl ?_
      refine b_getI fl8_108 ob32 rfl dX8_here_16 ?_
      obtain ⟨g2, h⟩ := gdE h
      refine b_iald ar32_13 g2 rfl dX8_here_19 ?_
      refine b_bipush (v := 32) dX8_here_20 (by decide) ?_
      refine b_icne (tgt := 38) dX8_here_22 (by decide) (fun c3 => ?_) (fun c3 => ?_)
      · replace h := ifF c3 h
        refine b_sub [0] rfl ?_
        exact t8_here_38       _ _ _ h
      · replace h := ifT c3 h
        refine b_aload_n dX8_here_25 rfl (k := 0) rfl ?_
        refine b_dup dX8_here_26 rfl ?_
        refine b_getI fl8_108 ob32 rfl dX8_here_27 ?_
        refine b_iconst (v := 1) dX8_here_30 (by decide) ?_
        refine b_iadd dX8_here_31 ?_
        obtain ⟨w4, ew4, h⟩ := nmE h
        refine b_putI fw8_108 ob32 rfl dX8_here_32 ?_
        refine b_nmW ew4 ?_
        refine b_goto (tgt := 0) dX8_here_35 (by decide) ?_
        refine b_sub [0] rfl ?_
        exact ih  _ _ _ h
def f8_here   (w : Mem) : Option (Int32 × Mem) := f8_here_0   100000  w
theorem s8_here   (w w' : Mem) (r : Int32) (h : f8_here   w = some (r, w')) : Sp yX8_here cX8_here 1 (some .int) 1 [vR 32 0] w (some (vI r)) w' := sp_of (by decide) (fun _ => rfl) (fun _ => Nat.le_of_ble_eq_true rfl) (t8_here_0    100000  _ _ _ h)
-- X8_fails OneADayModel
def f8_fails  (a1 : Int32) (a2 : Int32)   (w : Mem) : Option (Int32 × Mem) :=
  bnd (sI w 32 15 0 a2) fun w1 => some (a1, w1)
set_option maxRecDepth 100000 in
set_option maxHeartbeats 4000000 in
theorem t8_fails   (a1 : Int32) (a2 : Int32)     (w w' : Mem) (r : Int32) (h : f8_fails  a1 a2   w = some (r, w')) : Bk yX8_fails cX8_fails 3 (some .int) 1 0 [(0, vR 32 0), (1, vI a1), (2, vI a2)] [] w (some (vI r)) w' := by
  unfold f8_fails at h
  refine b_aload_n dX8_fails_0 rfl (k := 0) rfl ?_
  refine b_iload_n dX8_fails_1 rfl (k := 2) rfl ?_
  obtain ⟨w1, ew1, h⟩ := nmE h
  refine b_putI fw8_31 ob32 rfl dX8_fails_2 ?_
  refine b_nmW ew1 ?_
  refine b_iload_n dX8_fails_5 rfl (k := 1) rfl ?_
  obtain ⟨rfl, rfl⟩ := rtE h
  exact b_iret rfl dX8_fails_6
theorem s8_fails (a1 : Int32) (a2 : Int32)  (w w' : Mem) (r : Int32) (h : f8_fails  a1 a2  w = some (r, w')) : Sp yX8_fails cX8_fails 3 (some .int) 1 [vR 32 0, vI a1, vI a2] w (some (vI r)) w' := sp_of (by decide) (fun _ => rfl) (fun _ => Nat.le_of_ble_eq_true rfl) (t8_fails  a1 a2   _ _ _ h)
-- X8_takeNumber OneADayModel
def f8_takeNumber_157  (a1 : Int32) (a2 : Int32)   (w : Mem) : Option (Int32 × Mem) :=
  bndO (f8_fails 2 (w.1 32 18 0) w) fun r2 w1 => some (r2, w1)
set_option maxRecDepth 100000 in
set_option maxHeartbeats 4000000 in
theorem t8_takeNumber_157   (a1 : Int32) (a2 : Int32)     (w w' : Mem) (r : Int32) (h : f8_takeNumber_157  a1 a2   w = some (r, w')) : Bk yX8_takeNumber cX8_takeNumber 4 (some .int) 2 157 [(0, vR 32 0)] [] w (some (vI r)) w' := by
  unfold f8_takeNumber_157 at h
  refine b_aload_n dX8_takeNumber_157 rfl (k := 0) rfl ?_
  refine b_iconst (v := 2) dX8_takeNumber_158 (by decide) ?_
  refine b_aload_n dX8_takeNumber_159 rfl (k := 0) rfl ?_
  refine b_getI fl8_123 ob32 rfl dX8_takeNumber_160 ?_
  obtain ⟨r2, w1, hw1, h⟩ := bdO h
  refine b_callVi mv8_fails ml8_119 ob32 (s8_fails 2 (w.1 32 18 0)  _ _ _ hw1) rfl (by decide) (by decide) (Nat.le_of_ble_eq_true rfl) rfl dX8_takeNumber_163 ?_
  refine b_goto (tgt := 170) dX8_takeNumber_166 (by decide) ?_
  obtain ⟨rfl, rfl⟩ := rtE h
  exact b_iret rfl dX8_takeNumber_170
def f8_takeNumber_129  (a1 : Int32) (a2 : Int32)   (w : Mem) : Option (Int32 × Mem) :=
  if 3 < ((w.1 32 16 0) - (w.1 32 18 0)) then (f8_takeNumber_157  a1 a2   w) else (bndO (f8_in (Int32.toInt64 (w.1 32 17 0)) (Int32.toInt64 a1) (Int32.toInt64 a2) w) fun r3 w2 => if r3 = 0 then (f8_takeNumber_157  a1 a2   w2) else (some (0, w2)))
set_option maxRecDepth 100000 in
set_option maxHeartbeats 4000000 in
theorem t8_takeNumber_129   (a1 : Int32) (a2 : Int32)     (w w' : Mem) (r : Int32) (h : f8_takeNumber_129  a1 a2   w = some (r, w')) : Bk yX8_takeNumber cX8_takeNumber 4 (some .int) 2 129 [(0, vR 32 0), (1, vI a1), (2, vI a2)] [] w (some (vI r)) w' := by
  unfold f8_takeNumber_129 at h
  refine b_aload_n dX8_takeNumber_129 rfl (k := 0) rfl ?_
  refine b_getI fl8_108 ob32 rfl dX8_takeNumber_130 ?_
  refine b_aload_n dX8_takeNumber_133 rfl (k := 0) rfl ?_
  refine b_getI fl8_123 ob32 rfl dX8_takeNumber_134 ?_
  refine b_isub dX8_takeNumber_137 ?_
  refine b_iconst (v := 3) dX8_takeNumber_138 (by decide) ?_
  refine b_icgt (tgt := 157) dX8_takeNumber_139 (by decide) (fun c1 => ?_) (fun c1 => ?_)
  · replace h := ifT c1 h
    refine b_sub [0] rfl ?_
    exact t8_takeNumber_157  a1 a2     _ _ _ h
  · replace h := ifF c1 h
    refine b_aload_n dX8_takeNumber_142 rfl (k := 0) rfl ?_
    refine b_getI fl8_126 ob32 rfl dX8_takeNumber_143 ?_
    refine b_i2l dX8_takeNumber_146 ?_
    refine b_iload_n dX8_takeNumber_147 rfl (k := 1) rfl ?_
    refine b_i2l dX8_takeNumber_148 ?_
    refine b_iload_n dX8_takeNumber_149 rfl (k := 2) rfl ?_
    refine b_i2l dX8_takeNumber_150 ?_
    obtain ⟨r3, w2, hw2, h⟩ := bdO h
    refine b_callSi ms8_in ml8_97 (s8_in (Int32.toInt64 (w.1 32 17 0)) (Int32.toInt64 a1) (Int32.toInt64 a2)  _ _ _ hw2) rfl (by decide) (by decide) (Nat.le_of_ble_eq_true rfl) rfl dX8_takeNumber_151 ?_
    refine b_ifne (tgt := 169) dX8_takeNumber_154 (by decide) (fun c4 => ?_) (fun c4 => ?_)
    · replace h := ifF c4 h
      refine b_iconst (v := 0) dX8_takeNumber_169 (by decide) ?_
      obtain ⟨rfl, rfl⟩ := rtE h
      exact b_iret rfl dX8_takeNumber_170
    · replace h := ifT c4 h
      refine b_sub [0] rfl ?_
      exact t8_takeNumber_157  a1 a2     _ _ _ h
def f8_takeNumber_42  (a1 : Int32) (a2 : Int32)  : Nat → Mem → Option (Int32 × Mem)
  | 0, _ => none
  | n + 1, w =>
  if (w.1 32 14 0) ≤ (w.1 32 16 0) then (f8_takeNumber_129  a1 a2   w) else (if (w.1 32 16 0) < 0 ∨ 240 ≤ Int32.toNatClampNeg (w.1 32 16 0) then none else bndO (f8_in (Int32.toInt64 (w.1 32 13 (Int32.toNatClampNeg (w.1 32 16 0)))) 48 57 w) fun r4 w3 => if r4 = 0 then (f8_takeNumber_129  a1 a2   w3) else (if (w3.1 32 17 0) ≤ 10000 then (if (w3.1 32 16 0) < 0 ∨ 240 ≤ Int32.toNatClampNeg (w3.1 32 16 0) then none else bnd (sI w3 32 17 0 (((10 * (w3.1 32 17 0)) + (w3.1 32 13 (Int32.toNatClampNeg (w3.1 32 16 0)))) - 48)) fun w8 => bnd (sI w8 32 16 0 ((w8.1 32 16 0) + 1)) fun w9 => f8_takeNumber_42  a1 a2  n  w9) else (bnd (sI w3 32 17 0 (w3.1 32 17 0)) fun w10 => bnd (sI w10 32 16 0 ((w10.1 32 16 0) + 1)) fun w11 => f8_takeNumber_42  a1 a2  n  w11)))
set_option maxRecDepth 100000 in
set_option maxHeartbeats 4000000 in
theorem t8_takeNumber_42   (a1 : Int32) (a2 : Int32)    : ∀ (n : Nat)  (w w' : Mem) (r : Int32), f8_takeNumber_42  a1 a2  n  w = some (r, w') → Bk yX8_takeNumber cX8_takeNumber 4 (some .int) 2 42 [(0, vR 32 0), (1, vI a1), (2, vI a2)] [] w (some (vI r)) w' := by
  intro n
  induction n with
  | zero =>
    intro  w w' r h
    cases (show (none : Option (Int32 × Mem)) = some _ from h)
  | succ n ih =>
    intro  w w' r h
    rw [f8_takeNumber_42] at h
    refine b_aload_n dX8_takeNumber_42 rfl (k := 0) rfl ?_
    refine b_getI fl8_108 ob32 rfl dX8_takeNumber_43 ?_
    refine b_aload_n dX8_takeNumber_46 rfl (k := 0) rfl ?_
    refine b_getI fl8_104 ob32 rfl dX8_takeNumber_47 ?_
    refine b_icge (tgt := 129) dX8_takeNumber_50 (by decide) (fun c1 => ?_) (fun c1 => ?_)
    · replace h := ifT c1 h
      refine b_sub [0, 1, 2] rfl ?_
      exact t8_takeNumber_129  a1 a2     _ _ _ h
    · replace h := ifF c1 h
      refine b_aload_n dX8_takeNumber_53 rfl (k := 0) rfl ?_
      refine b_getF fl8_28 ob32 rfl rfl dX8_takeNumber_54 ?_
      refine b_aload_n dX8_takeNumber_57 rfl (k := 0) rfl ?_
      refine b_getI fl8_108 ob32 rfl dX8_takeNumber_58 ?_
      obtain ⟨g2, h⟩ := gdE h
      refine b_iald ar32_13 g2 rfl dX8_takeNumber_61 ?_
      refine b_i2l dX8_takeNumber_62 ?_
      refine b_ldc2 dX8_takeNumber_63 kl8_115 ?_
      refine b_ldc2 dX8_takeNumber_66 kl8_117 ?_
      obtain ⟨r4, w3, hw3, h⟩ := bdO h
      refine b_callSi ms8_in ml8_97 (s8_in (Int32.toInt64 (w.1 32 13 (Int32.toNatClampNeg (w.1 32 16 0)))) 48 57  _ _ _ hw3) rfl (by decide) (by decide) (Nat.le_of_ble_eq_true rfl) rfl dX8_takeNumber_69 ?_
      refine b_ifeq (tgt := 129) dX8_takeNumber_72 (by decide) (fun c5 => ?_) (fun c5 => ?_)
      · replace h := ifT c5 h
        refine b_sub [0, 1, 2] rfl ?_
        exact t8_takeNumber_129  a1 a2     _ _ _ h
      · replace h := ifF c5 h
        refine b_aload_n dX8_takeNumber_75 rfl (k := 0) rfl ?_
        refine b_aload_n dX8_takeNumber_76 rfl (k := 0) rfl ?_
        refine b_getI fl8_126 ob32 rfl dX8_takeNumber_77 ?_
        refine b_sipush (v := 10000) dX8_takeNumber_80 (by decide) ?_
        refine b_icle (tgt := 93) dX8_takeNumber_83 (by decide) (fun c6 => ?_) (fun c6 => ?_)
        · replace h := ifT c6 h
          refine b_bipush (v := 10) dX8_takeNumber_93 (by decide) ?_
          refine b_aload_n dX8_takeNumber_95 rfl (k := 0) rfl ?_
          refine b_getI fl8_126 ob32 rfl dX8_takeNumber_96 ?_
          refine b_imul dX8_takeNumber_99 ?_
          refine b_aload_n dX8_takeNumber_100 rfl (k := 0) rfl ?_
          refine b_getF fl8_28 ob32 rfl rfl dX8_takeNumber_101 ?_
          refine b_aload_n dX8_takeNumber_104 rfl (k := 0) rfl ?_
          refine b_getI fl8_108 ob32 rfl dX8_takeNumber_105 ?_
          obtain ⟨g7, h⟩ := gdE h
          refine b_iald ar32_13 g7 rfl dX8_takeNumber_108 ?_
          refine b_iadd dX8_takeNumber_109 ?_
          refine b_bipush (v := 48) dX8_takeNumber_110 (by decide) ?_
          refine b_isub dX8_takeNumber_112 ?_
          obtain ⟨w8, ew8, h⟩ := nmE h
          refine b_putI fw8_126 ob32 rfl dX8_takeNumber_113 ?_
          refine b_nmW ew8 ?_
          refine b_aload_n dX8_takeNumber_116 rfl (k := 0) rfl ?_
          refine b_dup dX8_takeNumber_117 rfl ?_
          refine b_getI fl8_108 ob32 rfl dX8_takeNumber_118 ?_
          refine b_iconst (v := 1) dX8_takeNumber_121 (by decide) ?_
          refine b_iadd dX8_takeNumber_122 ?_
          obtain ⟨w9, ew9, h⟩ := nmE h
          refine b_putI fw8_108 ob32 rfl dX8_takeNumber_123 ?_
          refine b_nmW ew9 ?_
          refine b_goto (tgt := 42) dX8_takeNumber_126 (by decide) ?_
          refine b_sub [0, 1, 2] rfl ?_
          exact ih  _ _ _ h
        · replace h := ifF c6 h
          refine b_aload_n dX8_takeNumber_86 rfl (k := 0) rfl ?_
          refine b_getI fl8_126 ob32 rfl dX8_takeNumber_87 ?_
          refine b_goto (tgt := 113) dX8_takeNumber_90 (by decide) ?_
          obtain ⟨w10, ew10, h⟩ := nmE h
          refine b_putI fw8_126 ob32 rfl dX8_takeNumber_113 ?_
          refine b_nmW ew10 ?_
          refine b_aload_n dX8_takeNumber_116 rfl (k := 0) rfl ?_
          refine b_dup dX8_takeNumber_117 rfl ?_
          refine b_getI fl8_108 ob32 rfl dX8_takeNumber_118 ?_
          refine b_iconst (v := 1) dX8_takeNumber_121 (by decide) ?_
          refine b_iadd dX8_takeNumber_122 ?_
          obtain ⟨w11, ew11, h⟩ := nmE h
          refine b_putI fw8_108 ob32 rfl dX8_takeNumber_123 ?_
          refine b_nmW ew11 ?_
          refine b_goto (tgt := 42) dX8_takeNumber_126 (by decide) ?_
          refine b_sub [0, 1, 2] rfl ?_
          exact ih  _ _ _ h
def f8_takeNumber  (a1 : Int32) (a2 : Int32)   (w : Mem) : Option (Int32 × Mem) :=
  bndO (f8_here  w) fun r2 w1 => bndO (f8_in (Int32.toInt64 r2) 48 57 w1) fun r4 w3 => if r4 = 0 then (bndO (f8_fails 1 (w3.1 32 16 0) w3) fun r9 w8 => some (r9, w8)) else (bnd (sI w3 32 18 0 (w3.1 32 16 0)) fun w6 => bnd (sI w6 32 17 0 0) fun w7 => f8_takeNumber_42  a1 a2  100000  w7)
set_option maxRecDepth 100000 in
set_option maxHeartbeats 4000000 in
theorem t8_takeNumber   (a1 : Int32) (a2 : Int32)     (w w' : Mem) (r : Int32) (h : f8_takeNumber  a1 a2   w = some (r, w')) : Bk yX8_takeNumber cX8_takeNumber 4 (some .int) 2 0 [(0, vR 32 0), (1, vI a1), (2, vI a2)] [] w (some (vI r)) w' := by
  unfold f8_takeNumber at h
  refine b_aload_n dX8_takeNumber_0 rfl (k := 0) rfl ?_
  obtain ⟨r2, w1, hw1, h⟩ := bdO h
  refine b_callVi mv8_here ml8_111 ob32 (s8_here   _ _ _ hw1) rfl (by decide) (by decide) (Nat.le_of_ble_eq_true rfl) rfl dX8_takeNumber_1 ?_
  refine b_istore_n (lv' := [(3, vI r2), (0, vR 32 0), (1, vI a1), (2, vI a2)]) dX8_takeNumber_4 rfl (by decide) rfl ?_
  refine b_iload_n dX8_takeNumber_5 rfl (k := 0) rfl ?_
  refine b_i2l dX8_takeNumber_6 ?_
  refine b_ldc2 dX8_takeNumber_7 kl8_115 ?_
  refine b_ldc2 dX8_takeNumber_10 kl8_117 ?_
  obtain ⟨r4, w3, hw3, h⟩ := bdO h
  refine b_callSi ms8_in ml8_97 (s8_in (Int32.toInt64 r2) 48 57  _ _ _ hw3) rfl (by decide) (by decide) (Nat.le_of_ble_eq_true rfl) rfl dX8_takeNumber_13 ?_
  refine b_ifne (tgt := 29) dX8_takeNumber_16 (by decide) (fun c5 => ?_) (fun c5 => ?_)
  · replace h := ifF c5 h
    refine b_aload_n dX8_takeNumber_29 rfl (k := 1) rfl ?_
    refine b_aload_n dX8_takeNumber_30 rfl (k := 1) rfl ?_
    refine b_getI fl8_108 ob32 rfl dX8_takeNumber_31 ?_
    obtain ⟨w6, ew6, h⟩ := nmE h
    refine b_putI fw8_123 ob32 rfl dX8_takeNumber_34 ?_
    refine b_nmW ew6 ?_
    refine b_aload_n dX8_takeNumber_37 rfl (k := 1) rfl ?_
    refine b_iconst (v := 0) dX8_takeNumber_38 (by decide) ?_
    obtain ⟨w7, ew7, h⟩ := nmE h
    refine b_putI fw8_126 ob32 rfl dX8_takeNumber_39 ?_
    refine b_nmW ew7 ?_
    refine b_sub [1, 2, 3] rfl ?_
    exact t8_takeNumber_42  a1 a2    100000  _ _ _ h
  · replace h := ifT c5 h
    refine b_aload_n dX8_takeNumber_19 rfl (k := 1) rfl ?_
    refine b_iconst (v := 1) dX8_takeNumber_20 (by decide) ?_
    refine b_aload_n dX8_takeNumber_21 rfl (k := 1) rfl ?_
    refine b_getI fl8_108 ob32 rfl dX8_takeNumber_22 ?_
    obtain ⟨r9, w8, hw8, h⟩ := bdO h
    refine b_callVi mv8_fails ml8_119 ob32 (s8_fails 1 (w3.1 32 16 0)  _ _ _ hw8) rfl (by decide) (by decide) (Nat.le_of_ble_eq_true rfl) rfl dX8_takeNumber_25 ?_
    obtain ⟨rfl, rfl⟩ := rtE h
    exact b_iret rfl dX8_takeNumber_28
theorem s8_takeNumber (a1 : Int32) (a2 : Int32)  (w w' : Mem) (r : Int32) (h : f8_takeNumber  a1 a2  w = some (r, w')) : Sp yX8_takeNumber cX8_takeNumber 4 (some .int) 2 [vR 32 0, vI a1, vI a2] w (some (vI r)) w' := sp_of (by decide) (fun _ => rfl) (fun _ => Nat.le_of_ble_eq_true rfl) (t8_takeNumber  a1 a2   _ _ _ h)
-- X8_into OneADayModel
def f8_into  (d1 k1 n1 : Nat) (a2 : Int32) (a3 : Int32) (a4 : Int32)   (w : Mem) : Option (Int32 × Mem) :=
  bndO (f8_takeNumber a3 a4 w) fun r2 w1 => if a2 < 0 ∨ n1 ≤ Int32.toNatClampNeg a2 then none else bnd (sI w1 d1 k1 (Int32.toNatClampNeg a2) (w1.1 32 17 0)) fun w4 => some (r2, w4)
set_option maxRecDepth 100000 in
set_option maxHeartbeats 4000000 in
theorem t8_into   (d1 k1 n1 : Nat) (a2 : Int32) (a3 : Int32) (a4 : Int32) (ha1 : Ar d1 k1 0 n1)    (w w' : Mem) (r : Int32) (h : f8_into  d1 k1 n1 a2 a3 a4   w = some (r, w')) : Bk yX8_into cX8_into 6 (some .int) 3 0 [(0, vR 32 0), (1, vR d1 (k1 + 1)), (2, vI a2), (3, vI a3), (4, vI a4)] [] w (some (vI r)) w' := by
  unfold f8_into at h
  refine b_aload_n dX8_into_0 rfl (k := 0) rfl ?_
  refine b_iload_n dX8_into_1 rfl (k := 3) rfl ?_
  refine b_iload dX8_into_2 (k := 4) rfl ?_
  obtain ⟨r2, w1, hw1, h⟩ := bdO h
  refine b_callVi mv8_takeNumber ml8_129 ob32 (s8_takeNumber a3 a4  _ _ _ hw1) rfl (by decide) (by decide) (Nat.le_of_ble_eq_true rfl) rfl dX8_into_4 ?_
  refine b_istore (lv' := [(5, vI r2), (0, vR 32 0), (1, vR d1 (k1 + 1)), (2, vI a2), (3, vI a3), (4, vI a4)]) dX8_into_7 (by decide) rfl ?_
  refine b_aload_n dX8_into_9 rfl (k := 2) rfl ?_
  refine b_iload_n dX8_into_10 rfl (k := 3) rfl ?_
  refine b_aload_n dX8_into_11 rfl (k := 1) rfl ?_
  refine b_getI fl8_126 ob32 rfl dX8_into_12 ?_
  obtain ⟨g3, h⟩ := gdE h
  obtain ⟨w4, ew4, h⟩ := nmE h
  refine b_iast ha1 g3 rfl dX8_into_15 ?_
  refine b_nmW ew4 ?_
  refine b_iload dX8_into_16 (k := 0) rfl ?_
  obtain ⟨rfl, rfl⟩ := rtE h
  exact b_iret rfl dX8_into_18
theorem s8_into (d1 k1 n1 : Nat) (a2 : Int32) (a3 : Int32) (a4 : Int32) (ha1 : Ar d1 k1 0 n1) (w w' : Mem) (r : Int32) (h : f8_into  d1 k1 n1 a2 a3 a4  w = some (r, w')) : Sp yX8_into cX8_into 6 (some .int) 3 [vR 32 0, vR d1 (k1 + 1), vI a2, vI a3, vI a4] w (some (vI r)) w' := sp_of (by decide) (fun _ => rfl) (fun _ => Nat.le_of_ble_eq_true rfl) (t8_into  d1 k1 n1 a2 a3 a4 ha1  _ _ _ h)
-- X8_takeHermit OneADayModel
def f8_takeHermit_33    (s0 : Int32) (w : Mem) : Option (Int32 × Mem) :=
  if s0 ≤ 0 then (bndO (f8_into 32 19 3 2 0 9 w) fun r3 w2 => some (r3, w2)) else (some (s0, w))
set_option maxRecDepth 100000 in
set_option maxHeartbeats 4000000 in
theorem t8_takeHermit_33       (s0 : Int32) (w w' : Mem) (r : Int32) (h : f8_takeHermit_33    s0 w = some (r, w')) : Bk yX8_takeHermit cX8_takeHermit 2 (some .int) 4 33 [(0, vR 32 0)] [vI s0] w (some (vI r)) w' := by
  unfold f8_takeHermit_33 at h
  refine b_istore_n (lv' := [(1, vI s0), (0, vR 32 0)]) dX8_takeHermit_33 rfl (by decide) rfl ?_
  refine b_iload_n dX8_takeHermit_34 rfl (k := 0) rfl ?_
  refine b_ifle (tgt := 42) dX8_takeHermit_35 (by decide) (fun c1 => ?_) (fun c1 => ?_)
  · replace h := ifT c1 h
    refine b_aload_n dX8_takeHermit_42 rfl (k := 1) rfl ?_
    refine b_aload_n dX8_takeHermit_43 rfl (k := 1) rfl ?_
    refine b_getF fl8_35 ob32 rfl rfl dX8_takeHermit_44 ?_
    refine b_iconst (v := 2) dX8_takeHermit_47 (by decide) ?_
    refine b_iconst (v := 0) dX8_takeHermit_48 (by decide) ?_
    refine b_bipush (v := 9) dX8_takeHermit_49 (by decide) ?_
    obtain ⟨r3, w2, hw2, h⟩ := bdO h
    refine b_callVi mv8_into ml8_132 ob32 (s8_into 32 19 3 2 0 9 ar32_19 _ _ _ hw2) rfl (by decide) (by decide) (Nat.le_of_ble_eq_true rfl) rfl dX8_takeHermit_51 ?_
    obtain ⟨rfl, rfl⟩ := rtE h
    exact b_iret rfl dX8_takeHermit_54
  · replace h := ifF c1 h
    refine b_iload_n dX8_takeHermit_38 rfl (k := 0) rfl ?_
    refine b_goto (tgt := 54) dX8_takeHermit_39 (by decide) ?_
    obtain ⟨rfl, rfl⟩ := rtE h
    exact b_iret rfl dX8_takeHermit_54
def f8_takeHermit     (w : Mem) : Option (Int32 × Mem) :=
  bndO (f8_into 32 19 3 0 1 9 w) fun r2 w1 => if r2 ≤ 0 then (bndO (f8_into 32 19 3 1 0 30 w1) fun r5 w4 => f8_takeHermit_33    r5 w4) else (f8_takeHermit_33    r2 w1)
set_option maxRecDepth 100000 in
set_option maxHeartbeats 4000000 in
theorem t8_takeHermit        (w w' : Mem) (r : Int32) (h : f8_takeHermit     w = some (r, w')) : Bk yX8_takeHermit cX8_takeHermit 2 (some .int) 4 0 [(0, vR 32 0)] [] w (some (vI r)) w' := by
  unfold f8_takeHermit at h
  refine b_aload_n dX8_takeHermit_0 rfl (k := 0) rfl ?_
  refine b_aload_n dX8_takeHermit_1 rfl (k := 0) rfl ?_
  refine b_getF fl8_35 ob32 rfl rfl dX8_takeHermit_2 ?_
  refine b_iconst (v := 0) dX8_takeHermit_5 (by decide) ?_
  refine b_iconst (v := 1) dX8_takeHermit_6 (by decide) ?_
  refine b_bipush (v := 9) dX8_takeHermit_7 (by decide) ?_
  obtain ⟨r2, w1, hw1, h⟩ := bdO h
  refine b_callVi mv8_into ml8_132 ob32 (s8_into 32 19 3 0 1 9 ar32_19 _ _ _ hw1) rfl (by decide) (by decide) (Nat.le_of_ble_eq_true rfl) rfl dX8_takeHermit_9 ?_
  refine b_istore_n (lv' := [(1, vI r2), (0, vR 32 0)]) dX8_takeHermit_12 rfl (by decide) rfl ?_
  refine b_iload_n dX8_takeHermit_13 rfl (k := 0) rfl ?_
  refine b_ifle (tgt := 21) dX8_takeHermit_14 (by decide) (fun c3 => ?_) (fun c3 => ?_)
  · replace h := ifT c3 h
    refine b_aload_n dX8_takeHermit_21 rfl (k := 1) rfl ?_
    refine b_aload_n dX8_takeHermit_22 rfl (k := 1) rfl ?_
    refine b_getF fl8_35 ob32 rfl rfl dX8_takeHermit_23 ?_
    refine b_iconst (v := 1) dX8_takeHermit_26 (by decide) ?_
    refine b_iconst (v := 0) dX8_takeHermit_27 (by decide) ?_
    refine b_bipush (v := 30) dX8_takeHermit_28 (by decide) ?_
    obtain ⟨r5, w4, hw4, h⟩ := bdO h
    refine b_callVi mv8_into ml8_132 ob32 (s8_into 32 19 3 1 0 30 ar32_19 _ _ _ hw4) rfl (by decide) (by decide) (Nat.le_of_ble_eq_true rfl) rfl dX8_takeHermit_30 ?_
    refine b_sub [1] rfl ?_
    exact t8_takeHermit_33      r5 _ _ _ h
  · replace h := ifF c3 h
    refine b_iload_n dX8_takeHermit_17 rfl (k := 0) rfl ?_
    refine b_goto (tgt := 33) dX8_takeHermit_18 (by decide) ?_
    refine b_sub [1] rfl ?_
    exact t8_takeHermit_33      r2 _ _ _ h
theorem s8_takeHermit   (w w' : Mem) (r : Int32) (h : f8_takeHermit    w = some (r, w')) : Sp yX8_takeHermit cX8_takeHermit 2 (some .int) 4 [vR 32 0] w (some (vI r)) w' := sp_of (by decide) (fun _ => rfl) (fun _ => Nat.le_of_ble_eq_true rfl) (t8_takeHermit     _ _ _ h)
-- X8_takeVillage OneADayModel
def f8_takeVillage_75    (x1 : Int32) (s0 : Int32) (w : Mem) : Option (Int32 × Mem) :=
  if s0 ≤ 0 then (bndO (f8_into 32 24 8 x1 0 100 w) fun r3 w2 => some (r3, w2)) else (some (s0, w))
set_option maxRecDepth 100000 in
set_option maxHeartbeats 4000000 in
theorem t8_takeVillage_75       (x1 : Int32) (s0 : Int32) (w w' : Mem) (r : Int32) (h : f8_takeVillage_75    x1 s0 w = some (r, w')) : Bk yX8_takeVillage cX8_takeVillage 3 (some .int) 4 75 [(0, vR 32 0), (1, vI x1)] [vI s0] w (some (vI r)) w' := by
  unfold f8_takeVillage_75 at h
  refine b_istore_n (lv' := [(2, vI s0), (0, vR 32 0), (1, vI x1)]) dX8_takeVillage_75 rfl (by decide) rfl ?_
  refine b_iload_n dX8_takeVillage_76 rfl (k := 0) rfl ?_
  refine b_ifle (tgt := 84) dX8_takeVillage_77 (by decide) (fun c1 => ?_) (fun c1 => ?_)
  · replace h := ifT c1 h
    refine b_aload_n dX8_takeVillage_84 rfl (k := 1) rfl ?_
    refine b_aload_n dX8_takeVillage_85 rfl (k := 1) rfl ?_
    refine b_getF fl8_47 ob32 rfl rfl dX8_takeVillage_86 ?_
    refine b_iload_n dX8_takeVillage_89 rfl (k := 2) rfl ?_
    refine b_iconst (v := 0) dX8_takeVillage_90 (by decide) ?_
    refine b_bipush (v := 100) dX8_takeVillage_91 (by decide) ?_
    obtain ⟨r3, w2, hw2, h⟩ := bdO h
    refine b_callVi mv8_into ml8_132 ob32 (s8_into 32 24 8 x1 0 100 ar32_24 _ _ _ hw2) rfl (by decide) (by decide) (Nat.le_of_ble_eq_true rfl) rfl dX8_takeVillage_93 ?_
    obtain ⟨rfl, rfl⟩ := rtE h
    exact b_iret rfl dX8_takeVillage_96
  · replace h := ifF c1 h
    refine b_iload_n dX8_takeVillage_80 rfl (k := 0) rfl ?_
    refine b_goto (tgt := 96) dX8_takeVillage_81 (by decide) ?_
    obtain ⟨rfl, rfl⟩ := rtE h
    exact b_iret rfl dX8_takeVillage_96
def f8_takeVillage_48    (x1 : Int32) (s0 : Int32) (w : Mem) : Option (Int32 × Mem) :=
  if s0 ≤ 0 then (if x1 < 0 ∨ 8 ≤ Int32.toNatClampNeg x1 then none else bndO (f8_into 32 23 8 x1 0 ((w.1 32 22 (Int32.toNatClampNeg x1)) - 1) w) fun r4 w3 => f8_takeVillage_75    x1 r4 w3) else (f8_takeVillage_75    x1 s0 w)
set_option maxRecDepth 100000 in
set_option maxHeartbeats 4000000 in
theorem t8_takeVillage_48       (x1 : Int32) (s0 : Int32) (w w' : Mem) (r : Int32) (h : f8_takeVillage_48    x1 s0 w = some (r, w')) : Bk yX8_takeVillage cX8_takeVillage 3 (some .int) 4 48 [(0, vR 32 0), (1, vI x1)] [vI s0] w (some (vI r)) w' := by
  unfold f8_takeVillage_48 at h
  refine b_istore_n (lv' := [(2, vI s0), (0, vR 32 0), (1, vI x1)]) dX8_takeVillage_48 rfl (by decide) rfl ?_
  refine b_iload_n dX8_takeVillage_49 rfl (k := 0) rfl ?_
  refine b_ifle (tgt := 57) dX8_takeVillage_50 (by decide) (fun c1 => ?_) (fun c1 => ?_)
  · replace h := ifT c1 h
    refine b_aload_n dX8_takeVillage_57 rfl (k := 1) rfl ?_
    refine b_aload_n dX8_takeVillage_58 rfl (k := 1) rfl ?_
    refine b_getF fl8_44 ob32 rfl rfl dX8_takeVillage_59 ?_
    refine b_iload_n dX8_takeVillage_62 rfl (k := 2) rfl ?_
    refine b_iconst (v := 0) dX8_takeVillage_63 (by decide) ?_
    refine b_aload_n dX8_takeVillage_64 rfl (k := 1) rfl ?_
    refine b_getF fl8_41 ob32 rfl rfl dX8_takeVillage_65 ?_
    refine b_iload_n dX8_takeVillage_68 rfl (k := 2) rfl ?_
    obtain ⟨g2, h⟩ := gdE h
    refine b_iald ar32_22 g2 rfl dX8_takeVillage_69 ?_
    refine b_iconst (v := 1) dX8_takeVillage_70 (by decide) ?_
    refine b_isub dX8_takeVillage_71 ?_
    obtain ⟨r4, w3, hw3, h⟩ := bdO h
    refine b_callVi mv8_into ml8_132 ob32 (s8_into 32 23 8 x1 0 ((w.1 32 22 (Int32.toNatClampNeg x1)) - 1) ar32_23 _ _ _ hw3) rfl (by decide) (by decide) (Nat.le_of_ble_eq_true rfl) rfl dX8_takeVillage_72 ?_
    refine b_sub [1, 2] rfl ?_
    exact t8_takeVillage_75      x1 r4 _ _ _ h
  · replace h := ifF c1 h
    refine b_iload_n dX8_takeVillage_53 rfl (k := 0) rfl ?_
    refine b_goto (tgt := 75) dX8_takeVillage_54 (by decide) ?_
    refine b_sub [1, 2] rfl ?_
    exact t8_takeVillage_75      x1 s0 _ _ _ h
def f8_takeVillage     (w : Mem) : Option (Int32 × Mem) :=
  bnd (w.1 32 20 0) fun y1 => bnd (sI w 32 20 0 ((w.1 32 20 0) + 1)) fun w2 => bndO (f8_into 32 21 8 y1 0 9 w2) fun r4 w3 => if r4 ≤ 0 then (bndO (f8_into 32 22 8 y1 1 9 w3) fun r7 w6 => f8_takeVillage_48    y1 r7 w6) else (f8_takeVillage_48    y1 r4 w3)
set_option maxRecDepth 100000 in
set_option maxHeartbeats 4000000 in
theorem t8_takeVillage        (w w' : Mem) (r : Int32) (h : f8_takeVillage     w = some (r, w')) : Bk yX8_takeVillage cX8_takeVillage 3 (some .int) 4 0 [(0, vR 32 0)] [] w (some (vI r)) w' := by
  unfold f8_takeVillage at h
  refine b_aload_n dX8_takeVillage_0 rfl (k := 0) rfl ?_
  refine b_getI fl8_136 ob32 rfl dX8_takeVillage_1 ?_
  obtain ⟨y1, ey1, h⟩ := nmE h
  refine b_nmI ey1 ?_
  refine b_istore_n (lv' := [(1, vI y1), (0, vR 32 0)]) dX8_takeVillage_4 rfl (by decide) rfl ?_
  refine b_aload_n dX8_takeVillage_5 rfl (k := 1) rfl ?_
  refine b_dup dX8_takeVillage_6 rfl ?_
  refine b_getI fl8_136 ob32 rfl dX8_takeVillage_7 ?_
  refine b_iconst (v := 1) dX8_takeVillage_10 (by decide) ?_
  refine b_iadd dX8_takeVillage_11 ?_
  obtain ⟨w2, ew2, h⟩ := nmE h
  refine b_putI fw8_136 ob32 rfl dX8_takeVillage_12 ?_
  refine b_nmW ew2 ?_
  refine b_aload_n dX8_takeVillage_15 rfl (k := 1) rfl ?_
  refine b_aload_n dX8_takeVillage_16 rfl (k := 1) rfl ?_
  refine b_getF fl8_38 ob32 rfl rfl dX8_takeVillage_17 ?_
  refine b_iload_n dX8_takeVillage_20 rfl (k := 0) rfl ?_
  refine b_iconst (v := 0) dX8_takeVillage_21 (by decide) ?_
  refine b_bipush (v := 9) dX8_takeVillage_22 (by decide) ?_
  obtain ⟨r4, w3, hw3, h⟩ := bdO h
  refine b_callVi mv8_into ml8_132 ob32 (s8_into 32 21 8 y1 0 9 ar32_21 _ _ _ hw3) rfl (by decide) (by decide) (Nat.le_of_ble_eq_true rfl) rfl dX8_takeVillage_24 ?_
  refine b_istore_n (lv' := [(2, vI r4), (1, vI y1), (0, vR 32 0)]) dX8_takeVillage_27 rfl (by decide) rfl ?_
  refine b_iload_n dX8_takeVillage_28 rfl (k := 0) rfl ?_
  refine b_ifle (tgt := 36) dX8_takeVillage_29 (by decide) (fun c5 => ?_) (fun c5 => ?_)
  · replace h := ifT c5 h
    refine b_aload_n dX8_takeVillage_36 rfl (k := 2) rfl ?_
    refine b_aload_n dX8_takeVillage_37 rfl (k := 2) rfl ?_
    refine b_getF fl8_41 ob32 rfl rfl dX8_takeVillage_38 ?_
    refine b_iload_n dX8_takeVillage_41 rfl (k := 1) rfl ?_
    refine b_iconst (v := 1) dX8_takeVillage_42 (by decide) ?_
    refine b_bipush (v := 9) dX8_takeVillage_43 (by decide) ?_
    obtain ⟨r7, w6, hw6, h⟩ := bdO h
    refine b_callVi mv8_into ml8_132 ob32 (s8_into 32 22 8 y1 1 9 ar32_22 _ _ _ hw6) rfl (by decide) (by decide) (Nat.le_of_ble_eq_true rfl) rfl dX8_takeVillage_45 ?_
    refine b_sub [2, 1] rfl ?_
    exact t8_takeVillage_48      y1 r7 _ _ _ h
  · replace h := ifF c5 h
    refine b_iload_n dX8_takeVillage_32 rfl (k := 0) rfl ?_
    refine b_goto (tgt := 48) dX8_takeVillage_33 (by decide) ?_
    refine b_sub [2, 1] rfl ?_
    exact t8_takeVillage_48      y1 r4 _ _ _ h
theorem s8_takeVillage   (w w' : Mem) (r : Int32) (h : f8_takeVillage    w = some (r, w')) : Sp yX8_takeVillage cX8_takeVillage 3 (some .int) 4 [vR 32 0] w (some (vI r)) w' := sp_of (by decide) (fun _ => rfl) (fun _ => Nat.le_of_ble_eq_true rfl) (t8_takeVillage     _ _ _ h)
-- X8_takeDay OneADayModel
def f8_takeDay_14  (d1 k1 n1 : Nat) (a2 : Int32)  : Nat → Int32 → Int32 → Mem → Option (Int32 × Mem)
  | 0, _, _, _ => none
  | n + 1, x3, x4, w =>
  if a2 ≤ x4 then (some (x3, w)) else (if x3 = 0 then (if x4 < 0 ∨ n1 ≤ Int32.toNatClampNeg x4 then none else if (w.1 d1 k1 (Int32.toNatClampNeg x4)) = (w.1 32 17 0) then (bndO (f8_fails 4 (w.1 32 18 0) w) fun r7 w6 => bnd (x4 + 1) fun y8 => f8_takeDay_14  d1 k1 n1 a2  n r7 y8 w6) else (bnd (x4 + 1) fun y5 => f8_takeDay_14  d1 k1 n1 a2  n 0 y5 w)) else (some (x3, w)))
set_option maxRecDepth 100000 in
set_option maxHeartbeats 4000000 in
theorem t8_takeDay_14   (d1 k1 n1 : Nat) (a2 : Int32) (ha1 : Ar d1 k1 0 n1)   : ∀ (n : Nat) (x3 : Int32) (x4 : Int32) (w w' : Mem) (r : Int32), f8_takeDay_14  d1 k1 n1 a2  n x3 x4 w = some (r, w') → Bk yX8_takeDay cX8_takeDay 5 (some .int) 4 14 [(0, vR 32 0), (1, vR d1 (k1 + 1)), (2, vI a2), (3, vI x3), (4, vI x4)] [] w (some (vI r)) w' := by
  intro n
  induction n with
  | zero =>
    intro x3 x4 w w' r h
    cases (show (none : Option (Int32 × Mem)) = some _ from h)
  | succ n ih =>
    intro x3 x4 w w' r h
    rw [f8_takeDay_14] at h
    refine b_iload dX8_takeDay_14 (k := 4) rfl ?_
    refine b_iload_n dX8_takeDay_16 rfl (k := 2) rfl ?_
    refine b_icge (tgt := 55) dX8_takeDay_17 (by decide) (fun c1 => ?_) (fun c1 => ?_)
    · replace h := ifT c1 h
      refine b_iload_n dX8_takeDay_55 rfl (k := 3) rfl ?_
      obtain ⟨rfl, rfl⟩ := rtE h
      exact b_iret rfl dX8_takeDay_56
    · replace h := ifF c1 h
      refine b_iload_n dX8_takeDay_20 rfl (k := 3) rfl ?_
      refine b_ifne (tgt := 55) dX8_takeDay_21 (by decide) (fun c2 => ?_) (fun c2 => ?_)
      · replace h := ifF c2 h
        refine b_iload_n dX8_takeDay_55 rfl (k := 3) rfl ?_
        obtain ⟨rfl, rfl⟩ := rtE h
        exact b_iret rfl dX8_takeDay_56
      · replace h := ifT c2 h
        refine b_aload_n dX8_takeDay_24 rfl (k := 1) rfl ?_
        refine b_iload dX8_takeDay_25 (k := 4) rfl ?_
        obtain ⟨g3, h⟩ := gdE h
        refine b_iald ha1 g3 rfl dX8_takeDay_27 ?_
        refine b_aload_n dX8_takeDay_28 rfl (k := 0) rfl ?_
        refine b_getI fl8_126 ob32 rfl dX8_takeDay_29 ?_
        refine b_icne (tgt := 47) dX8_takeDay_32 (by decide) (fun c4 => ?_) (fun c4 => ?_)
        · replace h := ifF c4 h
          refine b_iconst (v := 0) dX8_takeDay_47 (by decide) ?_
          refine b_istore_n (lv' := [(3, vI 0), (0, vR 32 0), (1, vR d1 (k1 + 1)), (2, vI a2), (4, vI x4)]) dX8_takeDay_48 rfl (by decide) rfl ?_
          obtain ⟨y5, ey5, h⟩ := nmE h
          refine b_iinc (v := y5) (lv' := [(4, vI y5), (3, vI 0), (0, vR 32 0), (1, vR d1 (k1 + 1)), (2, vI a2)]) dX8_takeDay_49 (k := 4) rfl ey5.symm (by decide) rfl ?_
          refine b_goto (tgt := 14) dX8_takeDay_52 (by decide) ?_
          refine b_sub [2, 3, 4, 1, 0] rfl ?_
          exact ih 0 y5 _ _ _ h
        · replace h := ifT c4 h
          refine b_aload_n dX8_takeDay_35 rfl (k := 0) rfl ?_
          refine b_iconst (v := 4) dX8_takeDay_36 (by decide) ?_
          refine b_aload_n dX8_takeDay_37 rfl (k := 0) rfl ?_
          refine b_getI fl8_123 ob32 rfl dX8_takeDay_38 ?_
          obtain ⟨r7, w6, hw6, h⟩ := bdO h
          refine b_callVi mv8_fails ml8_119 ob32 (s8_fails 4 (w.1 32 18 0)  _ _ _ hw6) rfl (by decide) (by decide) (Nat.le_of_ble_eq_true rfl) rfl dX8_takeDay_41 ?_
          refine b_goto (tgt := 48) dX8_takeDay_44 (by decide) ?_
          refine b_istore_n (lv' := [(3, vI r7), (0, vR 32 0), (1, vR d1 (k1 + 1)), (2, vI a2), (4, vI x4)]) dX8_takeDay_48 rfl (by decide) rfl ?_
          obtain ⟨y8, ey8, h⟩ := nmE h
          refine b_iinc (v := y8) (lv' := [(4, vI y8), (3, vI r7), (0, vR 32 0), (1, vR d1 (k1 + 1)), (2, vI a2)]) dX8_takeDay_49 (k := 4) rfl ey8.symm (by decide) rfl ?_
          refine b_goto (tgt := 14) dX8_takeDay_52 (by decide) ?_
          refine b_sub [2, 3, 4, 1, 0] rfl ?_
          exact ih r7 y8 _ _ _ h
def f8_takeDay  (d1 k1 n1 : Nat) (a2 : Int32)   (w : Mem) : Option (Int32 × Mem) :=
  bndO (f8_into d1 k1 n1 a2 0 999 w) fun r2 w1 => f8_takeDay_14  d1 k1 n1 a2  100000 r2 0 w1
set_option maxRecDepth 100000 in
set_option maxHeartbeats 4000000 in
theorem t8_takeDay   (d1 k1 n1 : Nat) (a2 : Int32) (ha1 : Ar d1 k1 0 n1)    (w w' : Mem) (r : Int32) (h : f8_takeDay  d1 k1 n1 a2   w = some (r, w')) : Bk yX8_takeDay cX8_takeDay 5 (some .int) 4 0 [(0, vR 32 0), (1, vR d1 (k1 + 1)), (2, vI a2)] [] w (some (vI r)) w' := by
  unfold f8_takeDay at h
  refine b_aload_n dX8_takeDay_0 rfl (k := 0) rfl ?_
  refine b_aload_n dX8_takeDay_1 rfl (k := 1) rfl ?_
  refine b_iload_n dX8_takeDay_2 rfl (k := 2) rfl ?_
  refine b_iconst (v := 0) dX8_takeDay_3 (by decide) ?_
  refine b_sipush (v := 999) dX8_takeDay_4 (by decide) ?_
  obtain ⟨r2, w1, hw1, h⟩ := bdO h
  refine b_callVi mv8_into ml8_132 ob32 (s8_into d1 k1 n1 a2 0 999 ha1 _ _ _ hw1) rfl (by decide) (by decide) (Nat.le_of_ble_eq_true rfl) rfl dX8_takeDay_7 ?_
  refine b_istore_n (lv' := [(3, vI r2), (0, vR 32 0), (1, vR d1 (k1 + 1)), (2, vI a2)]) dX8_takeDay_10 rfl (by decide) rfl ?_
  refine b_iconst (v := 0) dX8_takeDay_11 (by decide) ?_
  refine b_istore (lv' := [(4, vI 0), (3, vI r2), (0, vR 32 0), (1, vR d1 (k1 + 1)), (2, vI a2)]) dX8_takeDay_12 (by decide) rfl ?_
  refine b_sub [2, 3, 4, 1, 0] rfl ?_
  exact t8_takeDay_14  d1 k1 n1 a2 ha1   100000 r2 0 _ _ _ h
theorem s8_takeDay (d1 k1 n1 : Nat) (a2 : Int32) (ha1 : Ar d1 k1 0 n1) (w w' : Mem) (r : Int32) (h : f8_takeDay  d1 k1 n1 a2  w = some (r, w')) : Sp yX8_takeDay cX8_takeDay 5 (some .int) 4 [vR 32 0, vR d1 (k1 + 1), vI a2] w (some (vI r)) w' := sp_of (by decide) (fun _ => rfl) (fun _ => Nat.le_of_ble_eq_true rfl) (t8_takeDay  d1 k1 n1 a2 ha1  _ _ _ h)
