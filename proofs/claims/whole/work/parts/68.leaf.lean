/-! constructors without calls -/
def lf0 (cy : Nat → ClassId) (h0 : Nat) (a : Nat → Nat) : va_W := [(h0, .inr (0, [.ref (a 1)])), (a 1, .inl (cy 0, 8, .inl (fun _ => 0)))]
set_option maxHeartbeats 4000000 in
set_option maxRecDepth 100000 in
theorem k0_init : Ct yX0_init cX0_init 1 0 [.null] { frames := 1, cells := 1, slots := 8, locals := 12 } (Nat → Nat) lf0 := by
  refine ct_of (by decide) rfl (by decide) dX0_init_0 dX0_init_1 oi0 oi_in oi_co (Nat.le_of_ble_eq_true rfl) (Nat.le_of_ble_eq_true rfl) ?_
  intro p l e s m args below meth c D cy h0 A C hA hP hD ls hl
  have hS : va_S A s.heap s.heap [] := va_S.rf
  refine lv_aload_n C.1 C.2.1 dX0_init_4 rfl (lv_at hl 0 rfl) ?_
  refine lv_bipush (v := 8) C.1 C.2.1 dX0_init_5 (by decide) ?_
  refine c_newa C hA hP hD hS (t := 0) (n := 8) (ty := .int) (atype := .int) (a0 := (8, .inl (fun _ => 0))) rfl rfl ar_int (fun _ => rfl) (by decide) (by decide) (Nat.le_of_ble_eq_true rfl) (Nat.le_of_ble_eq_true rfl) (Nat.le_of_ble_eq_true rfl) dX0_init_7 (fun q1 H hP hD hS => ?_)
  have hP : va_P D vwCl [(h0, .inr (0, [.null])), (q1, .inl (cy 0, 8, .inl (fun _ => 0)))] H := hP
  have hD : va_D A [(h0, .inr (0, [.null])), (q1, .inl (cy 0, 8, .inl (fun _ => 0)))] := hD
  refine c_putF C hP hD hS (k := 0) (v := .ref q1) ff0_9 rfl rfl (Nat.le_of_ble_eq_true rfl) dX0_init_9 (fun H locs hP hD hS => ?_)
  have hP : va_P D vwCl [(h0, .inr (0, [.ref q1])), (q1, .inl (cy 0, 8, .inl (fun _ => 0)))] H := hP
  have hD : va_D A [(h0, .inr (0, [.ref q1])), (q1, .inl (cy 0, 8, .inl (fun _ => 0)))] := hD
  refine W.widen (k := 1) (n := 8) (Nat.le_of_ble_eq_true rfl) (Nat.le_of_ble_eq_true rfl) ?_
  exact W.vret C.1 C.2.1 C.2.2.2.1 (fun t ht _ => ⟨⟨(fun j => [h0, q1].getD j 0), rfl, trivial, by rw [ht]; exact hP, hD⟩, hS.F ht⟩) hS.2.2 dX0_init_12 C.2.2.2.2.1
def lf2 (cy : Nat → ClassId) (h0 : Nat) (a : Nat → Nat) : va_W := [(h0, .inr (2, [.ref (a 1), .ref (a 2), .ref (a 3), .ref (a 4), .int 0, .int 0])), (a 1, .inl (cy 0, 10, .inl (fun _ => 0))), (a 2, .inl (cy 0, 10, .inl (fun _ => 0))), (a 3, .inl (cy 0, 15, .inl (fun _ => 0))), (a 4, .inl (cy 0, 15, .inl (fun _ => 0)))]
set_option maxHeartbeats 4000000 in
set_option maxRecDepth 100000 in
theorem k2_init : Ct yX2_init cX2_init 1 2 [.null, .null, .null, .null, .int 0, .int 0] { frames := 1, cells := 4, slots := 50, locals := 12 } (Nat → Nat) lf2 := by
  refine ct_of (by decide) rfl (by decide) dX2_init_0 dX2_init_1 oi2 oi_in oi_co (Nat.le_of_ble_eq_true rfl) (Nat.le_of_ble_eq_true rfl) ?_
  intro p l e s m args below meth c D cy h0 A C hA hP hD ls hl
  have hS : va_S A s.heap s.heap [] := va_S.rf
  refine lv_aload_n C.1 C.2.1 dX2_init_4 rfl (lv_at hl 0 rfl) ?_
  refine lv_bipush (v := 10) C.1 C.2.1 dX2_init_5 (by decide) ?_
  refine c_newa C hA hP hD hS (t := 0) (n := 10) (ty := .int) (atype := .int) (a0 := (10, .inl (fun _ => 0))) rfl rfl ar_int (fun _ => rfl) (by decide) (by decide) (Nat.le_of_ble_eq_true rfl) (Nat.le_of_ble_eq_true rfl) (Nat.le_of_ble_eq_true rfl) dX2_init_7 (fun q1 H hP hD hS => ?_)
  have hP : va_P D vwCl [(h0, .inr (2, [.null, .null, .null, .null, .int 0, .int 0])), (q1, .inl (cy 0, 10, .inl (fun _ => 0)))] H := hP
  have hD : va_D A [(h0, .inr (2, [.null, .null, .null, .null, .int 0, .int 0])), (q1, .inl (cy 0, 10, .inl (fun _ => 0)))] := hD
  refine c_putF C hP hD hS (k := 0) (v := .ref q1) ff2_9 rfl rfl (Nat.le_of_ble_eq_true rfl) dX2_init_9 (fun H locs hP hD hS => ?_)
  have hP : va_P D vwCl [(h0, .inr (2, [.ref q1, .null, .null, .null, .int 0, .int 0])), (q1, .inl (cy 0, 10, .inl (fun _ => 0)))] H := hP
  have hD : va_D A [(h0, .inr (2, [.ref q1, .null, .null, .null, .int 0, .int 0])), (q1, .inl (cy 0, 10, .inl (fun _ => 0)))] := hD
  refine lv_aload_n C.1 C.2.1 dX2_init_12 rfl (lv_at hl 0 rfl) ?_
  refine lv_bipush (v := 10) C.1 C.2.1 dX2_init_13 (by decide) ?_
  refine c_newa C hA hP hD hS (t := 0) (n := 10) (ty := .int) (atype := .int) (a0 := (10, .inl (fun _ => 0))) rfl rfl ar_int (fun _ => rfl) (by decide) (by decide) (Nat.le_of_ble_eq_true rfl) (Nat.le_of_ble_eq_true rfl) (Nat.le_of_ble_eq_true rfl) dX2_init_15 (fun q2 H hP hD hS => ?_)
  have hP : va_P D vwCl [(h0, .inr (2, [.ref q1, .null, .null, .null, .int 0, .int 0])), (q1, .inl (cy 0, 10, .inl (fun _ => 0))), (q2, .inl (cy 0, 10, .inl (fun _ => 0)))] H := hP
  have hD : va_D A [(h0, .inr (2, [.ref q1, .null, .null, .null, .int 0, .int 0])), (q1, .inl (cy 0, 10, .inl (fun _ => 0))), (q2, .inl (cy 0, 10, .inl (fun _ => 0)))] := hD
  refine c_putF C hP hD hS (k := 1) (v := .ref q2) ff2_15 rfl rfl (Nat.le_of_ble_eq_true rfl) dX2_init_17 (fun H locs hP hD hS => ?_)
  have hP : va_P D vwCl [(h0, .inr (2, [.ref q1, .ref q2, .null, .null, .int 0, .int 0])), (q1, .inl (cy 0, 10, .inl (fun _ => 0))), (q2, .inl (cy 0, 10, .inl (fun _ => 0)))] H := hP
  have hD : va_D A [(h0, .inr (2, [.ref q1, .ref q2, .null, .null, .int 0, .int 0])), (q1, .inl (cy 0, 10, .inl (fun _ => 0))), (q2, .inl (cy 0, 10, .inl (fun _ => 0)))] := hD
  refine lv_aload_n C.1 C.2.1 dX2_init_20 rfl (lv_at hl 0 rfl) ?_
  refine lv_bipush (v := 15) C.1 C.2.1 dX2_init_21 (by decide) ?_
  refine c_newa C hA hP hD hS (t := 0) (n := 15) (ty := .int) (atype := .int) (a0 := (15, .inl (fun _ => 0))) rfl rfl ar_int (fun _ => rfl) (by decide) (by decide) (Nat.le_of_ble_eq_true rfl) (Nat.le_of_ble_eq_true rfl) (Nat.le_of_ble_eq_true rfl) dX2_init_23 (fun q3 H hP hD hS => ?_)
  have hP : va_P D vwCl [(h0, .inr (2, [.ref q1, .ref q2, .null, .null, .int 0, .int 0])), (q1, .inl (cy 0, 10, .inl (fun _ => 0))), (q2, .inl (cy 0, 10, .inl (fun _ => 0))), (q3, .inl (cy 0, 15, .inl (fun _ => 0)))] H := hP
  have hD : va_D A [(h0, .inr (2, [.ref q1, .ref q2, .null, .null, .int 0, .int 0])), (q1, .inl (cy 0, 10, .inl (fun _ => 0))), (q2, .inl (cy 0, 10, .inl (fun _ => 0))), (q3, .inl (cy 0, 15, .inl (fun _ => 0)))] := hD
  refine c_putF C hP hD hS (k := 2) (v := .ref q3) ff2_18 rfl rfl (Nat.le_of_ble_eq_true rfl) dX2_init_25 (fun H locs hP hD hS => ?_)
  have hP : va_P D vwCl [(h0, .inr (2, [.ref q1, .ref q2, .ref q3, .null, .int 0, .int 0])), (q1, .inl (cy 0, 10, .inl (fun _ => 0))), (q2, .inl (cy 0, 10, .inl (fun _ => 0))), (q3, .inl (cy 0, 15, .inl (fun _ => 0)))] H := hP
  have hD : va_D A [(h0, .inr (2, [.ref q1, .ref q2, .ref q3, .null, .int 0, .int 0])), (q1, .inl (cy 0, 10, .inl (fun _ => 0))), (q2, .inl (cy 0, 10, .inl (fun _ => 0))), (q3, .inl (cy 0, 15, .inl (fun _ => 0)))] := hD
  refine lv_aload_n C.1 C.2.1 dX2_init_28 rfl (lv_at hl 0 rfl) ?_
  refine lv_bipush (v := 15) C.1 C.2.1 dX2_init_29 (by decide) ?_
  refine c_newa C hA hP hD hS (t := 0) (n := 15) (ty := .int) (atype := .int) (a0 := (15, .inl (fun _ => 0))) rfl rfl ar_int (fun _ => rfl) (by decide) (by decide) (Nat.le_of_ble_eq_true rfl) (Nat.le_of_ble_eq_true rfl) (Nat.le_of_ble_eq_true rfl) dX2_init_31 (fun q4 H hP hD hS => ?_)
  have hP : va_P D vwCl [(h0, .inr (2, [.ref q1, .ref q2, .ref q3, .null, .int 0, .int 0])), (q1, .inl (cy 0, 10, .inl (fun _ => 0))), (q2, .inl (cy 0, 10, .inl (fun _ => 0))), (q3, .inl (cy 0, 15, .inl (fun _ => 0))), (q4, .inl (cy 0, 15, .inl (fun _ => 0)))] H := hP
  have hD : va_D A [(h0, .inr (2, [.ref q1, .ref q2, .ref q3, .null, .int 0, .int 0])), (q1, .inl (cy 0, 10, .inl (fun _ => 0))), (q2, .inl (cy 0, 10, .inl (fun _ => 0))), (q3, .inl (cy 0, 15, .inl (fun _ => 0))), (q4, .inl (cy 0, 15, .inl (fun _ => 0)))] := hD
  refine c_putF C hP hD hS (k := 3) (v := .ref q4) ff2_21 rfl rfl (Nat.le_of_ble_eq_true rfl) dX2_init_33 (fun H locs hP hD hS => ?_)
  have hP : va_P D vwCl [(h0, .inr (2, [.ref q1, .ref q2, .ref q3, .ref q4, .int 0, .int 0])), (q1, .inl (cy 0, 10, .inl (fun _ => 0))), (q2, .inl (cy 0, 10, .inl (fun _ => 0))), (q3, .inl (cy 0, 15, .inl (fun _ => 0))), (q4, .inl (cy 0, 15, .inl (fun _ => 0)))] H := hP
  have hD : va_D A [(h0, .inr (2, [.ref q1, .ref q2, .ref q3, .ref q4, .int 0, .int 0])), (q1, .inl (cy 0, 10, .inl (fun _ => 0))), (q2, .inl (cy 0, 10, .inl (fun _ => 0))), (q3, .inl (cy 0, 15, .inl (fun _ => 0))), (q4, .inl (cy 0, 15, .inl (fun _ => 0)))] := hD
  refine W.widen (k := 4) (n := 50) (Nat.le_of_ble_eq_true rfl) (Nat.le_of_ble_eq_true rfl) ?_
  exact W.vret C.1 C.2.1 C.2.2.2.1 (fun t ht _ => ⟨⟨(fun j => [h0, q1, q2, q3, q4].getD j 0), rfl, trivial, by rw [ht]; exact hP, hD⟩, hS.F ht⟩) hS.2.2 dX2_init_36 C.2.2.2.2.1
def lf4 (cy : Nat → ClassId) (h0 : Nat) (a : Nat → Nat) : va_W := [(h0, .inr (4, [.ref (a 1), .int 0, .int 0, .int 0])), (a 1, .inl (cy 0, 10, .inl (fun _ => 0)))]
set_option maxHeartbeats 4000000 in
set_option maxRecDepth 100000 in
theorem k4_init : Ct yX4_init cX4_init 1 4 [.null, .int 0, .int 0, .int 0] { frames := 1, cells := 1, slots := 10, locals := 12 } (Nat → Nat) lf4 := by
  refine ct_of (by decide) rfl (by decide) dX4_init_0 dX4_init_1 oi4 oi_in oi_co (Nat.le_of_ble_eq_true rfl) (Nat.le_of_ble_eq_true rfl) ?_
  intro p l e s m args below meth c D cy h0 A C hA hP hD ls hl
  have hS : va_S A s.heap s.heap [] := va_S.rf
  refine lv_aload_n C.1 C.2.1 dX4_init_4 rfl (lv_at hl 0 rfl) ?_
  refine lv_bipush (v := 10) C.1 C.2.1 dX4_init_5 (by decide) ?_
  refine c_newa C hA hP hD hS (t := 0) (n := 10) (ty := .int) (atype := .int) (a0 := (10, .inl (fun _ => 0))) rfl rfl ar_int (fun _ => rfl) (by decide) (by decide) (Nat.le_of_ble_eq_true rfl) (Nat.le_of_ble_eq_true rfl) (Nat.le_of_ble_eq_true rfl) dX4_init_7 (fun q1 H hP hD hS => ?_)
  have hP : va_P D vwCl [(h0, .inr (4, [.null, .int 0, .int 0, .int 0])), (q1, .inl (cy 0, 10, .inl (fun _ => 0)))] H := hP
  have hD : va_D A [(h0, .inr (4, [.null, .int 0, .int 0, .int 0])), (q1, .inl (cy 0, 10, .inl (fun _ => 0)))] := hD
  refine c_putF C hP hD hS (k := 0) (v := .ref q1) ff4_9 rfl rfl (Nat.le_of_ble_eq_true rfl) dX4_init_9 (fun H locs hP hD hS => ?_)
  have hP : va_P D vwCl [(h0, .inr (4, [.ref q1, .int 0, .int 0, .int 0])), (q1, .inl (cy 0, 10, .inl (fun _ => 0)))] H := hP
  have hD : va_D A [(h0, .inr (4, [.ref q1, .int 0, .int 0, .int 0])), (q1, .inl (cy 0, 10, .inl (fun _ => 0)))] := hD
  refine W.widen (k := 1) (n := 10) (Nat.le_of_ble_eq_true rfl) (Nat.le_of_ble_eq_true rfl) ?_
  exact W.vret C.1 C.2.1 C.2.2.2.1 (fun t ht _ => ⟨⟨(fun j => [h0, q1].getD j 0), rfl, trivial, by rw [ht]; exact hP, hD⟩, hS.F ht⟩) hS.2.2 dX4_init_12 C.2.2.2.2.1
def lf5 (cy : Nat → ClassId) (h0 : Nat) (a : Nat → Nat) : va_W := [(h0, .inr (5, [.ref (a 6), .int 0, .int 0, .int 0, .int 0])), (a 6, .inl (cy 2, 0, .inl (fun _ => 0)))]
set_option maxHeartbeats 4000000 in
set_option maxRecDepth 100000 in
theorem k5_init : Ct yX5_init cX5_init 1 5 [.null, .int 0, .int 0, .int 0, .int 0] { frames := 1, cells := 1, slots := 0, locals := 12 } (Nat → Nat) lf5 := by
  refine ct_of (by decide) rfl (by decide) dX5_init_0 dX5_init_1 oi5 oi_in oi_co (Nat.le_of_ble_eq_true rfl) (Nat.le_of_ble_eq_true rfl) ?_
  intro p l e s m args below meth c D cy h0 A C hA hP hD ls hl
  have hS : va_S A s.heap s.heap [] := va_S.rf
  refine lv_aload_n C.1 C.2.1 dX5_init_4 rfl (lv_at hl 0 rfl) ?_
  refine lv_iconst (v := 0) C.1 C.2.1 dX5_init_5 (by decide) ?_
  refine c_newa C hA hP hD hS (t := 2) (n := 0) (ty := .char) (atype := .char) (a0 := (0, .inl (fun _ => 0))) rfl rfl ar_char (fun _ => rfl) (by decide) (by decide) (Nat.le_of_ble_eq_true rfl) (Nat.le_of_ble_eq_true rfl) (Nat.le_of_ble_eq_true rfl) dX5_init_6 (fun q1 H hP hD hS => ?_)
  have hP : va_P D vwCl [(h0, .inr (5, [.null, .int 0, .int 0, .int 0, .int 0])), (q1, .inl (cy 2, 0, .inl (fun _ => 0)))] H := hP
  have hD : va_D A [(h0, .inr (5, [.null, .int 0, .int 0, .int 0, .int 0])), (q1, .inl (cy 2, 0, .inl (fun _ => 0)))] := hD
  refine c_putN C hP hD hS (k := 0) (v := .ref q1) fn5_9 rfl rfl (Nat.le_of_ble_eq_true rfl) dX5_init_8 (fun H locs hP hD hS => ?_)
  have hP : va_P D vwCl [(h0, .inr (5, [.ref q1, .int 0, .int 0, .int 0, .int 0])), (q1, .inl (cy 2, 0, .inl (fun _ => 0)))] H := hP
  have hD : va_D A [(h0, .inr (5, [.ref q1, .int 0, .int 0, .int 0, .int 0])), (q1, .inl (cy 2, 0, .inl (fun _ => 0)))] := hD
  refine W.widen (k := 1) (n := 0) (Nat.le_of_ble_eq_true rfl) (Nat.le_of_ble_eq_true rfl) ?_
  exact W.vret C.1 C.2.1 C.2.2.2.1 (fun t ht _ => ⟨⟨(fun j => [h0, 0, 0, 0, 0, 0, q1].getD j 0), rfl, trivial, by rw [ht]; exact hP, hD⟩, hS.F ht⟩) hS.2.2 dX5_init_11 C.2.2.2.2.1
def lf6 (cy : Nat → ClassId) (h0 : Nat) (a : Nat → Nat) : va_W := [(h0, .inr (6, [.int 0, .int 0, .int 0, .int 0, .int 0, .int 0, .int 0, .ref (a 8), .ref (a 9), .ref (a 10), .ref (a 11), .ref (a 12), .ref (a 13)])), (a 8, .inl (cy 0, 8, .inl (fun _ => 0))), (a 9, .inl (cy 0, 8, .inl (fun _ => 0))), (a 10, .inl (cy 0, 8, .inl (fun _ => 0))), (a 11, .inl (cy 0, 8, .inl (fun _ => 0))), (a 12, .inl (cy 1, 16, .inr (.inl (fun _ => 0)))), (a 13, .inl (cy 1, 16, .inr (.inl (fun _ => 0))))]
set_option maxHeartbeats 4000000 in
set_option maxRecDepth 100000 in
theorem k6_init : Ct yX6_init cX6_init 1 6 [.int 0, .int 0, .int 0, .int 0, .int 0, .int 0, .int 0, .null, .null, .null, .null, .null, .null] { frames := 1, cells := 6, slots := 64, locals := 12 } (Nat → Nat) lf6 := by
  refine ct_of (by decide) rfl (by decide) dX6_init_0 dX6_init_1 oi6 oi_in oi_co (Nat.le_of_ble_eq_true rfl) (Nat.le_of_ble_eq_true rfl) ?_
  intro p l e s m args below meth c D cy h0 A C hA hP hD ls hl
  have hS : va_S A s.heap s.heap [] := va_S.rf
  refine lv_aload_n C.1 C.2.1 dX6_init_4 rfl (lv_at hl 0 rfl) ?_
  refine lv_bipush (v := 8) C.1 C.2.1 dX6_init_5 (by decide) ?_
  refine c_newa C hA hP hD hS (t := 0) (n := 8) (ty := .int) (atype := .int) (a0 := (8, .inl (fun _ => 0))) rfl rfl ar_int (fun _ => rfl) (by decide) (by decide) (Nat.le_of_ble_eq_true rfl) (Nat.le_of_ble_eq_true rfl) (Nat.le_of_ble_eq_true rfl) dX6_init_7 (fun q8 H hP hD hS => ?_)
  have hP : va_P D vwCl [(h0, .inr (6, [.int 0, .int 0, .int 0, .int 0, .int 0, .int 0, .int 0, .null, .null, .null, .null, .null, .null])), (q8, .inl (cy 0, 8, .inl (fun _ => 0)))] H := hP
  have hD : va_D A [(h0, .inr (6, [.int 0, .int 0, .int 0, .int 0, .int 0, .int 0, .int 0, .null, .null, .null, .null, .null, .null])), (q8, .inl (cy 0, 8, .inl (fun _ => 0)))] := hD
  refine c_putF C hP hD hS (k := 7) (v := .ref q8) ff6_9 rfl rfl (Nat.le_of_ble_eq_true rfl) dX6_init_9 (fun H locs hP hD hS => ?_)
  have hP : va_P D vwCl [(h0, .inr (6, [.int 0, .int 0, .int 0, .int 0, .int 0, .int 0, .int 0, .ref q8, .null, .null, .null, .null, .null])), (q8, .inl (cy 0, 8, .inl (fun _ => 0)))] H := hP
  have hD : va_D A [(h0, .inr (6, [.int 0, .int 0, .int 0, .int 0, .int 0, .int 0, .int 0, .ref q8, .null, .null, .null, .null, .null])), (q8, .inl (cy 0, 8, .inl (fun _ => 0)))] := hD
  refine lv_aload_n C.1 C.2.1 dX6_init_12 rfl (lv_at hl 0 rfl) ?_
  refine lv_bipush (v := 8) C.1 C.2.1 dX6_init_13 (by decide) ?_
  refine c_newa C hA hP hD hS (t := 0) (n := 8) (ty := .int) (atype := .int) (a0 := (8, .inl (fun _ => 0))) rfl rfl ar_int (fun _ => rfl) (by decide) (by decide) (Nat.le_of_ble_eq_true rfl) (Nat.le_of_ble_eq_true rfl) (Nat.le_of_ble_eq_true rfl) dX6_init_15 (fun q9 H hP hD hS => ?_)
  have hP : va_P D vwCl [(h0, .inr (6, [.int 0, .int 0, .int 0, .int 0, .int 0, .int 0, .int 0, .ref q8, .null, .null, .null, .null, .null])), (q8, .inl (cy 0, 8, .inl (fun _ => 0))), (q9, .inl (cy 0, 8, .inl (fun _ => 0)))] H := hP
  have hD : va_D A [(h0, .inr (6, [.int 0, .int 0, .int 0, .int 0, .int 0, .int 0, .int 0, .ref q8, .null, .null, .null, .null, .null])), (q8, .inl (cy 0, 8, .inl (fun _ => 0))), (q9, .inl (cy 0, 8, .inl (fun _ => 0)))] := hD
  refine c_putF C hP hD hS (k := 8) (v := .ref q9) ff6_15 rfl rfl (Nat.le_of_ble_eq_true rfl) dX6_init_17 (fun H locs hP hD hS => ?_)
  have hP : va_P D vwCl [(h0, .inr (6, [.int 0, .int 0, .int 0, .int 0, .int 0, .int 0, .int 0, .ref q8, .ref q9, .null, .null, .null, .null])), (q8, .inl (cy 0, 8, .inl (fun _ => 0))), (q9, .inl (cy 0, 8, .inl (fun _ => 0)))] H := hP
  have hD : va_D A [(h0, .inr (6, [.int 0, .int 0, .int 0, .int 0, .int 0, .int 0, .int 0, .ref q8, .ref q9, .null, .null, .null, .null])), (q8, .inl (cy 0, 8, .inl (fun _ => 0))), (q9, .inl (cy 0, 8, .inl (fun _ => 0)))] := hD
  refine lv_aload_n C.1 C.2.1 dX6_init_20 rfl (lv_at hl 0 rfl) ?_
  refine lv_bipush (v := 8) C.1 C.2.1 dX6_init_21 (by decide) ?_
  refine c_newa C hA hP hD hS (t := 0) (n := 8) (ty := .int) (atype := .int) (a0 := (8, .inl (fun _ => 0))) rfl rfl ar_int (fun _ => rfl) (by decide) (by decide) (Nat.le_of_ble_eq_true rfl) (Nat.le_of_ble_eq_true rfl) (Nat.le_of_ble_eq_true rfl) dX6_init_23 (fun q10 H hP hD hS => ?_)
  have hP : va_P D vwCl [(h0, .inr (6, [.int 0, .int 0, .int 0, .int 0, .int 0, .int 0, .int 0, .ref q8, .ref q9, .null, .null, .null, .null])), (q8, .inl (cy 0, 8, .inl (fun _ => 0))), (q9, .inl (cy 0, 8, .inl (fun _ => 0))), (q10, .inl (cy 0, 8, .inl (fun _ => 0)))] H := hP
  have hD : va_D A [(h0, .inr (6, [.int 0, .int 0, .int 0, .int 0, .int 0, .int 0, .int 0, .ref q8, .ref q9, .null, .null, .null, .null])), (q8, .inl (cy 0, 8, .inl (fun _ => 0))), (q9, .inl (cy 0, 8, .inl (fun _ => 0))), (q10, .inl (cy 0, 8, .inl (fun _ => 0)))] := hD
  refine c_putF C hP hD hS (k := 9) (v := .ref q10) ff6_18 rfl rfl (Nat.le_of_ble_eq_true rfl) dX6_init_25 (fun H locs hP hD hS => ?_)
  have hP : va_P D vwCl [(h0, .inr (6, [.int 0, .int 0, .int 0, .int 0, .int 0, .int 0, .int 0, .ref q8, .ref q9, .ref q10, .null, .null, .null])), (q8, .inl (cy 0, 8, .inl (fun _ => 0))), (q9, .inl (cy 0, 8, .inl (fun _ => 0))), (q10, .inl (cy 0, 8, .inl (fun _ => 0)))] H := hP
  have hD : va_D A [(h0, .inr (6, [.int 0, .int 0, .int 0, .int 0, .int 0, .int 0, .int 0, .ref q8, .ref q9, .ref q10, .null, .null, .null])), (q8, .inl (cy 0, 8, .inl (fun _ => 0))), (q9, .inl (cy 0, 8, .inl (fun _ => 0))), (q10, .inl (cy 0, 8, .inl (fun _ => 0)))] := hD
  refine lv_aload_n C.1 C.2.1 dX6_init_28 rfl (lv_at hl 0 rfl) ?_
  refine lv_bipush (v := 8) C.1 C.2.1 dX6_init_29 (by decide) ?_
  refine c_newa C hA hP hD hS (t := 0) (n := 8) (ty := .int) (atype := .int) (a0 := (8, .inl (fun _ => 0))) rfl rfl ar_int (fun _ => rfl) (by decide) (by decide) (Nat.le_of_ble_eq_true rfl) (Nat.le_of_ble_eq_true rfl) (Nat.le_of_ble_eq_true rfl) dX6_init_31 (fun q11 H hP hD hS => ?_)
  have hP : va_P D vwCl [(h0, .inr (6, [.int 0, .int 0, .int 0, .int 0, .int 0, .int 0, .int 0, .ref q8, .ref q9, .ref q10, .null, .null, .null])), (q8, .inl (cy 0, 8, .inl (fun _ => 0))), (q9, .inl (cy 0, 8, .inl (fun _ => 0))), (q10, .inl (cy 0, 8, .inl (fun _ => 0))), (q11, .inl (cy 0, 8, .inl (fun _ => 0)))] H := hP
  have hD : va_D A [(h0, .inr (6, [.int 0, .int 0, .int 0, .int 0, .int 0, .int 0, .int 0, .ref q8, .ref q9, .ref q10, .null, .null, .null])), (q8, .inl (cy 0, 8, .inl (fun _ => 0))), (q9, .inl (cy 0, 8, .inl (fun _ => 0))), (q10, .inl (cy 0, 8, .inl (fun _ => 0))), (q11, .inl (cy 0, 8, .inl (fun _ => 0)))] := hD
  refine c_putF C hP hD hS (k := 10) (v := .ref q11) ff6_21 rfl rfl (Nat.le_of_ble_eq_true rfl) dX6_init_33 (fun H locs hP hD hS => ?_)
  have hP : va_P D vwCl [(h0, .inr (6, [.int 0, .int 0, .int 0, .int 0, .int 0, .int 0, .int 0, .ref q8, .ref q9, .ref q10, .ref q11, .null, .null])), (q8, .inl (cy 0, 8, .inl (fun _ => 0))), (q9, .inl (cy 0, 8, .inl (fun _ => 0))), (q10, .inl (cy 0, 8, .inl (fun _ => 0))), (q11, .inl (cy 0, 8, .inl (fun _ => 0)))] H := hP
  have hD : va_D A [(h0, .inr (6, [.int 0, .int 0, .int 0, .int 0, .int 0, .int 0, .int 0, .ref q8, .ref q9, .ref q10, .ref q11, .null, .null])), (q8, .inl (cy 0, 8, .inl (fun _ => 0))), (q9, .inl (cy 0, 8, .inl (fun _ => 0))), (q10, .inl (cy 0, 8, .inl (fun _ => 0))), (q11, .inl (cy 0, 8, .inl (fun _ => 0)))] := hD
  refine lv_aload_n C.1 C.2.1 dX6_init_36 rfl (lv_at hl 0 rfl) ?_
  refine lv_bipush (v := 16) C.1 C.2.1 dX6_init_37 (by decide) ?_
  refine c_newa C hA hP hD hS (t := 1) (n := 16) (ty := .long) (atype := .long) (a0 := (16, .inr (.inl (fun _ => 0)))) rfl rfl ar_long (fun _ => rfl) (by decide) (by decide) (Nat.le_of_ble_eq_true rfl) (Nat.le_of_ble_eq_true rfl) (Nat.le_of_ble_eq_true rfl) dX6_init_39 (fun q12 H hP hD hS => ?_)
  have hP : va_P D vwCl [(h0, .inr (6, [.int 0, .int 0, .int 0, .int 0, .int 0, .int 0, .int 0, .ref q8, .ref q9, .ref q10, .ref q11, .null, .null])), (q8, .inl (cy 0, 8, .inl (fun _ => 0))), (q9, .inl (cy 0, 8, .inl (fun _ => 0))), (q10, .inl (cy 0, 8, .inl (fun _ => 0))), (q11, .inl (cy 0, 8, .inl (fun _ => 0))), (q12, .inl (cy 1, 16, .inr (.inl (fun _ => 0))))] H := hP
  have hD : va_D A [(h0, .inr (6, [.int 0, .int 0, .int 0, .int 0, .int 0, .int 0, .int 0, .ref q8, .ref q9, .ref q10, .ref q11, .null, .null])), (q8, .inl (cy 0, 8, .inl (fun _ => 0))), (q9, .inl (cy 0, 8, .inl (fun _ => 0))), (q10, .inl (cy 0, 8, .inl (fun _ => 0))), (q11, .inl (cy 0, 8, .inl (fun _ => 0))), (q12, .inl (cy 1, 16, .inr (.inl (fun _ => 0))))] := hD
  refine c_putF C hP hD hS (k := 11) (v := .ref q12) ff6_24 rfl rfl (Nat.le_of_ble_eq_true rfl) dX6_init_41 (fun H locs hP hD hS => ?_)
  have hP : va_P D vwCl [(h0, .inr (6, [.int 0, .int 0, .int 0, .int 0, .int 0, .int 0, .int 0, .ref q8, .ref q9, .ref q10, .ref q11, .ref q12, .null])), (q8, .inl (cy 0, 8, .inl (fun _ => 0))), (q9, .inl (cy 0, 8, .inl (fun _ => 0))), (q10, .inl (cy 0, 8, .inl (fun _ => 0))), (q11, .inl (cy 0, 8, .inl (fun _ => 0))), (q12, .inl (cy 1, 16, .inr (.inl (fun _ => 0))))] H := hP
  have hD : va_D A [(h0, .inr (6, [.int 0, .int 0, .int 0, .int 0, .int 0, .int 0, .int 0, .ref q8, .ref q9, .ref q10, .ref q11, .ref q12, .null])), (q8, .inl (cy 0, 8, .inl (fun _ => 0))), (q9, .inl (cy 0, 8, .inl (fun _ => 0))), (q10, .inl (cy 0, 8, .inl (fun _ => 0))), (q11, .inl (cy 0, 8, .inl (fun _ => 0))), (q12, .inl (cy 1, 16, .inr (.inl (fun _ => 0))))] := hD
  refine lv_aload_n C.1 C.2.1 dX6_init_44 rfl (lv_at hl 0 rfl) ?_
  refine lv_bipush (v := 16) C.1 C.2.1 dX6_init_45 (by decide) ?_
  refine c_newa C hA hP hD hS (t := 1) (n := 16) (ty := .long) (atype := .long) (a0 := (16, .inr (.inl (fun _ => 0)))) rfl rfl ar_long (fun _ => rfl) (by decide) (by decide) (Nat.le_of_ble_eq_true rfl) (Nat.le_of_ble_eq_true rfl) (Nat.le_of_ble_eq_true rfl) dX6_init_47 (fun q13 H hP hD hS => ?_)
  have hP : va_P D vwCl [(h0, .inr (6, [.int 0, .int 0, .int 0, .int 0, .int 0, .int 0, .int 0, .ref q8, .ref q9, .ref q10, .ref q11, .ref q12, .null])), (q8, .inl (cy 0, 8, .inl (fun _ => 0))), (q9, .inl (cy 0, 8, .inl (fun _ => 0))), (q10, .inl (cy 0, 8, .inl (fun _ => 0))), (q11, .inl (cy 0, 8, .inl (fun _ => 0))), (q12, .inl (cy 1, 16, .inr (.inl (fun _ => 0)))), (q13, .inl (cy 1, 16, .inr (.inl (fun _ => 0))))] H := hP
  have hD : va_D A [(h0, .inr (6, [.int 0, .int 0, .int 0, .int 0, .int 0, .int 0, .int 0, .ref q8, .ref q9, .ref q10, .ref q11, .ref q12, .null])), (q8, .inl (cy 0, 8, .inl (fun _ => 0))), (q9, .inl (cy 0, 8, .inl (fun _ => 0))), (q10, .inl (cy 0, 8, .inl (fun _ => 0))), (q11, .inl (cy 0, 8, .inl (fun _ => 0))), (q12, .inl (cy 1, 16, .inr (.inl (fun _ => 0)))), (q13, .inl (cy 1, 16, .inr (.inl (fun _ => 0))))] := hD
  refine c_putF C hP hD hS (k := 12) (v := .ref q13) ff6_28 rfl rfl (Nat.le_of_ble_eq_true rfl) dX6_init_49 (fun H locs hP hD hS => ?_)
  have hP : va_P D vwCl [(h0, .inr (6, [.int 0, .int 0, .int 0, .int 0, .int 0, .int 0, .int 0, .ref q8, .ref q9, .ref q10, .ref q11, .ref q12, .ref q13])), (q8, .inl (cy 0, 8, .inl (fun _ => 0))), (q9, .inl (cy 0, 8, .inl (fun _ => 0))), (q10, .inl (cy 0, 8, .inl (fun _ => 0))), (q11, .inl (cy 0, 8, .inl (fun _ => 0))), (q12, .inl (cy 1, 16, .inr (.inl (fun _ => 0)))), (q13, .inl (cy 1, 16, .inr (.inl (fun _ => 0))))] H := hP
  have hD : va_D A [(h0, .inr (6, [.int 0, .int 0, .int 0, .int 0, .int 0, .int 0, .int 0, .ref q8, .ref q9, .ref q10, .ref q11, .ref q12, .ref q13])), (q8, .inl (cy 0, 8, .inl (fun _ => 0))), (q9, .inl (cy 0, 8, .inl (fun _ => 0))), (q10, .inl (cy 0, 8, .inl (fun _ => 0))), (q11, .inl (cy 0, 8, .inl (fun _ => 0))), (q12, .inl (cy 1, 16, .inr (.inl (fun _ => 0)))), (q13, .inl (cy 1, 16, .inr (.inl (fun _ => 0))))] := hD
  refine W.widen (k := 6) (n := 64) (Nat.le_of_ble_eq_true rfl) (Nat.le_of_ble_eq_true rfl) ?_
  exact W.vret C.1 C.2.1 C.2.2.2.1 (fun t ht _ => ⟨⟨(fun j => [h0, 0, 0, 0, 0, 0, 0, 0, q8, q9, q10, q11, q12, q13].getD j 0), rfl, trivial, by rw [ht]; exact hP, hD⟩, hS.F ht⟩) hS.2.2 dX6_init_52 C.2.2.2.2.1
