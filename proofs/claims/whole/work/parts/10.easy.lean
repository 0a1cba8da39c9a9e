/-! the easy calls -/
theorem q_fault {n : Nat} {w : Mem} (h : Rel n w) : Same n w f7_fault f8_fault := ⟨_, w, w, rfl, by unfold f8_fault; rw [h.2.2.1], h.next (by omega)⟩
theorem q_seed {n : Nat} {w : Mem} (h : Rel n w) (a : Int32) : Same n w (f7_seed a) (f8_seed a) := by
  obtain ⟨⟨g, nv, K, Y, I, F, Fo, ro, pe, fe, fs, fg, hC⟩, hT, hF, hN⟩ := id h
  by_cases ha : 0 ≤ a
  · obtain ⟨h1, h2, h3, h4, h5, h6, h7⟩ := hC
    refine ⟨w.1 26 12 0, sI w 26 12 0 a, sI (sI w 26 12 0 a) 32 12 0 a, ?_, ?_, ?_⟩
    · unfold f7_seed; rw [if_pos ha]; rfl
    · unfold f8_seed; rw [if_pos ha]
      simp (disch := omega) only [bE, bO, bV, bK, ky_sI, h7.1]
    · refine ⟨⟨g, nv, K, Y, I, F, Fo, ro, pe, fe, fs, fg, h1, h2, ?_, ?_, ?_, ?_, ?_⟩, ?_, ?_, ?_⟩
      · have e1 : (sI (sI w 26 12 0 a) 32 12 0 a).1 g = w.1 g := by simp (disch := omega) only [ob_sI, ob_sA, ky_sI, ky_sA, rd_sL1, rd_sR1, rd_sI2, rd_sA2, rd_sR2, rd_sI3, rd_sA3, rd_sL3]
        rw [e1]
        exact h3.c (fun k hk => by simp (disch := omega) only [ob_sI, ob_sA, ky_sI, ky_sA, rd_sL1, rd_sR1, rd_sI2, rd_sA2, rd_sR2, rd_sI3, rd_sA3, rd_sL3])
      · have e1 : (sI (sI w 26 12 0 a) 32 12 0 a).1 0 = w.1 0 := by simp (disch := omega) only [ob_sI, ob_sA, ky_sI, ky_sA, rd_sL1, rd_sR1, rd_sI2, rd_sA2, rd_sR2, rd_sI3, rd_sA3, rd_sL3]
        have e2 : (sI (sI w 26 12 0 a) 32 12 0 a).1 32 11 = w.1 32 11 := by simp (disch := omega) only [ob_sI, ob_sA, ky_sI, ky_sA, rd_sL1, rd_sR1, rd_sI2, rd_sA2, rd_sR2, rd_sI3, rd_sA3, rd_sL3]
        rw [e1, e2]
        exact h4.mono (by omega)
      · exact h5.same (fun d _ _ => by simp (disch := omega) only [ob_sI, ob_sA, ky_sI, ky_sA, rd_sL1, rd_sR1, rd_sI2, rd_sA2, rd_sR2, rd_sI3, rd_sA3, rd_sL3]) (by simp (disch := omega) only [ob_sI, ob_sA, ky_sI, ky_sA, rd_sL1, rd_sR1, rd_sI2, rd_sA2, rd_sR2, rd_sI3, rd_sA3, rd_sL3]) (by simp (disch := omega) only [ob_sI, ob_sA, ky_sI, ky_sA, rd_sL1, rd_sR1, rd_sI2, rd_sA2, rd_sR2, rd_sI3, rd_sA3, rd_sL3]) (by simp (disch := omega) only [ob_sI, ob_sA, ky_sI, ky_sA, rd_sL1, rd_sR1, rd_sI2, rd_sA2, rd_sR2, rd_sI3, rd_sA3, rd_sL3]) (by simp (disch := omega) only [ob_sI, ob_sA, ky_sI, ky_sA, rd_sL1, rd_sR1, rd_sI2, rd_sA2, rd_sR2, rd_sI3, rd_sA3, rd_sL3]) (by omega)
      · exact h6.same (by simp (disch := omega) only [ob_sI, ob_sA, ky_sI, ky_sA, rd_sL1, rd_sR1, rd_sI2, rd_sA2, rd_sR2, rd_sI3, rd_sA3, rd_sL3]) (by simp (disch := omega) only [ob_sI, ob_sA, ky_sI, ky_sA, rd_sL1, rd_sR1, rd_sI2, rd_sA2, rd_sR2, rd_sI3, rd_sA3, rd_sL3]) (by simp (disch := omega) only [ob_sI, ob_sA, ky_sI, ky_sA, rd_sL1, rd_sR1, rd_sI2, rd_sA2, rd_sR2, rd_sI3, rd_sA3, rd_sL3]) (by simp (disch := omega) only [ob_sI, ob_sA, ky_sI, ky_sA, rd_sL1, rd_sR1, rd_sI2, rd_sA2, rd_sR2, rd_sI3, rd_sA3, rd_sL3]) (by simp (disch := omega) only [ob_sI, ob_sA, ky_sI, ky_sA, rd_sL1, rd_sR1, rd_sI2, rd_sA2, rd_sR2, rd_sI3, rd_sA3, rd_sL3]) (by simp (disch := omega) only [ob_sI, ob_sA, ky_sI, ky_sA, rd_sL1, rd_sR1, rd_sI2, rd_sA2, rd_sR2, rd_sI3, rd_sA3, rd_sL3]) (by omega)
      · refine ⟨?_, ?_⟩
        · rw [kx_sI, ky_sI (by omega), kx_sI, upd_s, upd_s]
        · rw [kx_sI, upd_s]; exact Int32.not_lt.mpr ha
      · exact hT.same (by simp (disch := omega) only [ob_sI, ob_sA, ky_sI, ky_sA, rd_sL1, rd_sR1, rd_sI2, rd_sA2, rd_sR2, rd_sI3, rd_sA3, rd_sL3]) (by simp (disch := omega) only [ob_sI, ob_sA, ky_sI, ky_sA, rd_sL1, rd_sR1, rd_sI2, rd_sA2, rd_sR2, rd_sI3, rd_sA3, rd_sL3]) (by simp (disch := omega) only [ob_sI, ob_sA, ky_sI, ky_sA, rd_sL1, rd_sR1, rd_sI2, rd_sA2, rd_sR2, rd_sI3, rd_sA3, rd_sL3]) (by simp (disch := omega) only [ob_sI, ob_sA, ky_sI, ky_sA, rd_sL1, rd_sR1, rd_sI2, rd_sA2, rd_sR2, rd_sI3, rd_sA3, rd_sL3]) (by omega)
      · unfold RFa at hF ⊢
        simp (disch := omega) only [ky_sI]
        exact hF
      · exact hN.same (fun k hk => by simp (disch := omega) only [ob_sI, ob_sA, ky_sI, ky_sA, rd_sL1, rd_sR1, rd_sI2, rd_sA2, rd_sR2, rd_sI3, rd_sA3, rd_sL3]) (fun k h1 h2 => by simp (disch := omega) only [ob_sI, ob_sA, ky_sI, ky_sA, rd_sL1, rd_sR1, rd_sI2, rd_sA2, rd_sR2, rd_sI3, rd_sA3, rd_sL3])
  · refine ⟨_, w, w, by unfold f7_seed; rw [if_neg ha], by unfold f8_seed; rw [if_neg ha], h.next (by omega)⟩
theorem in0_T {j : Nat} {m : Int64} {b : Nat} (w : Mem) (hm : m = lN b) (hj : j ≤ b) (hb : b < 2147483648) : f8_in (nI j).toInt64 0 m w = some (1, w) := by
  subst hm
  rw [in_ok, if_pos]
  rw [nI_l (by omega), lN_lit]
  exact ⟨(lN_le (by omega) (by omega)).mpr (by omega), (lN_le (by omega) (by omega)).mpr hj⟩
theorem in_F1 {x : Int32} {l m : Int64} (w : Mem) (h : x.toInt < l.toInt) : f8_in x.toInt64 l m w = some (0, w) := by
  rw [in_ok, if_neg]
  intro z
  have := Int64.le_iff_toInt_le.mp z.1
  rw [Int32.toInt_toInt64] at this
  omega
theorem in_F2 {x : Int32} {l m : Int64} (w : Mem) (h : m.toInt < x.toInt) : f8_in x.toInt64 l m w = some (0, w) := by
  rw [in_ok, if_neg]
  intro z
  have := Int64.le_iff_toInt_le.mp z.2
  rw [Int32.toInt_toInt64] at this
  omega
/-- f8_in of a number against 0 .. b, in the three cases -/
theorem in_neg {x : Int32} {m : Int64} (w : Mem) (h : x < nI 0) : f8_in x.toInt64 0 m w = some (0, w) := in_F1 w (by
  have := Int32.lt_iff_toInt_lt.mp h
  rw [nI_ti (by omega)] at this
  rw [show (0 : Int64).toInt = 0 from rfl]; omega)
theorem in_big {x : Int32} {l m : Int64} {b : Nat} (w : Mem) (hm : m = lN b) (hb : b < 2147483647) (h : nI (b + 1) ≤ x) : f8_in x.toInt64 l m w = some (0, w) := in_F2 w (by
  have := Int32.le_iff_toInt_le.mp h
  rw [nI_ti (by omega)] at this
  rw [hm, lN_toInt (by omega)]; omega)
theorem ex_if {c : Prop} [Decidable c] {A B : Option (Int32 × Mem)} {w : Mem} (ha : ∃ r, A = some (r, w)) (hb : ∃ r, B = some (r, w)) : ∃ r, (if c then A else B) = some (r, w) := by
  by_cases h : c
  · rw [if_pos h]; exact ha
  · rw [if_neg h]; exact hb
theorem zg1 (w : Mem) : (bndO (some ((1 : Int32), w)) fun r2 w1 => if ¬ r2 &&& 1 = r2 then none else some (r2, w1)) = some (nI 1, w) := by
  simp only [bO]; rw [if_neg (by decide)]; rfl
theorem zg0 (w : Mem) : (bndO (some ((0 : Int32), w)) fun r2 w1 => if ¬ r2 &&& 1 = r2 then none else some (r2, w1)) = some (nI 0, w) := by
  simp only [bO]; rw [if_neg (by decide)]; rfl
/-- villages -/
theorem has_T {g nv v : Nat} {w : Mem} (e : w.1 g 4 0 = nI nv) (hn : nv ≤ 8) (hv : v < nv) : f6_has g (nI v) w = some (nI 1, w) := by
  unfold f6_has
  simp (disch := omega) only [bE, bO, bV, bK, nI_lit, nI_add, lt_T, lt_F, le_T, le_F, eq_T, eq_F, ltm_T, ltm_F, lem_T, lem_F, eqm_F, meq_F, cl_nI, nle_T, nle_F, nlt_T, nlt_F, ↓reduceIte, or_true, true_or, or_false, false_or, and_true, true_and, and_false, false_and, not_true_eq_false, not_false_eq_true, or_self, and_self, true_implies, ite_self, e]
theorem has_F {g nv : Nat} {w : Mem} {a : Int32} (e : w.1 g 4 0 = nI nv) (hn : nv ≤ 8) (h : a < nI 0 ∨ nI nv ≤ a) : f6_has g a w = some (nI 0, w) := by
  unfold f6_has
  rw [e]
  rcases h with h | h
  · rw [if_pos (show a < 0 from h)]; rfl
  · by_cases h2 : a < 0
    · rw [if_pos h2]; rfl
    · rw [if_neg h2, if_pos h]; rfl
theorem vil_T {nv v : Nat} {w : Mem} (e : w.1 32 3 0 = nI nv) (hn : nv ≤ 8) (hv : v < nv) : f8_isVillage (nI v) w = some (nI 1, w) := by
  unfold f8_isVillage
  have e2 : (nI nv - 1).toInt64 = lN (nv - 1) := by
    rw [nI_lit, pk_sub (by omega), nI_l (by omega)]
  rw [e, in0_T w e2 (by omega) (by omega)]
  exact zg1 w
theorem vil_F {nv : Nat} {w : Mem} {a : Int32} (e : w.1 32 3 0 = nI nv) (hn : nv ≤ 8) (h : a < nI 0 ∨ nI nv ≤ a) : f8_isVillage a w = some (nI 0, w) := by
  unfold f8_isVillage
  have h1 : f8_in a.toInt64 0 (w.1 32 3 0 - 1).toInt64 w = some (0, w) := by
    rcases h with h | h
    · exact in_neg w h
    · apply in_F2
      have h2 := Int32.le_iff_toInt_le.mp h
      rw [nI_ti (by omega)] at h2
      rw [Int32.toInt_toInt64, e]
      rcases Nat.eq_zero_or_pos nv with h0 | h0
      · subst h0
        have : (nI 0 - 1).toInt = -1 := by decide
        omega
      · rw [nI_lit, pk_sub (by omega), nI_ti (by omega)]
        omega
  rw [h1]
  exact zg0 w
theorem q_told {n : Nat} {w : Mem} (h : Rel n w) (a : Int32) : Same n w (f7_told a) (f8_told a) := by
  obtain ⟨⟨g, nv, K, Y, I, F, Fo, ro, pe, fe, fs, fg, h1, h2, h3, h4, h5, h6, h7⟩, hT, hF, hN⟩ := id h
  obtain ⟨-, -, a1, a2, a3, a4, a5, a6, -⟩ := h3
  obtain ⟨dy, wt, fa, em, sh, st, -, -, -, -, -, -, b1, b2, b3, b4, b5, b6, ⟨b7, b8, b9, b10, b11⟩, -⟩ := h4
  obtain ⟨nx, c, -, -, -, c1, c2, -⟩ := h5
  obtain ⟨L, -, d1, d2, -⟩ := hT
  obtain ⟨s, b, -, -, e1, e2, e3, e4, -⟩ := hN
  have e : f7_told a w = f8_told a w := by
    unfold f7_told f8_told
    simp only [rk_g h1 h2.1, Option.bind_some, a1, a2, a3, a4, a5, a6, b1, b2, b3, b4, b5, b6, b7, b8, b10, b11, c1, c2, d1, d2, e1, e2, e3, e4]
    have hz : (if w.1 32 11 2 = 0 then some ((0 : Int32), w) else some (1, w)) = some (w.1 32 11 2, w) := by
      rcases b9 with z | z <;> rw [z] <;> rfl
    rw [hz]
  have t : ∃ r, f8_told a w = some (r, w) := by
    unfold f8_told
    repeat (first | refine ex_if ?_ ?_ | exact ⟨_, rfl⟩)
  obtain ⟨r, hr⟩ := t
  exact ⟨r, w, w, by rw [e, hr], hr, h.next (by omega)⟩

theorem q_village {n : Nat} {w : Mem} (h : Rel n w) (a b : Int32) : Same n w (f7_village a b) (f8_village a b) := by
  obtain ⟨⟨g, nv, K, Y, I, F, Fo, ro, pe, fe, fs, fg, h1, h2, h3, h4, h5, h6, h7⟩, hT, hF, hN⟩ := id h
  obtain ⟨⟨hnv, -⟩, -, -, -, -, a4, -, -, a7, -⟩ := h3
  obtain ⟨dy, wt, fa, em, sh, st, -, -, -, -, -, hst, -, -, -, -, -, b6, -, b12, b13, -⟩ := h4
  rcases ix3 a nv (by omega) with ha | ha | ⟨v, hv, rfl⟩
  · refine ⟨_, w, w, ?_, by unfold f8_village; rw [vil_F a4.2 hnv (Or.inl ha)]; rfl, h.next (by omega)⟩
    unfold f7_village
    rw [rk_g h1 h2.1]; simp only [bK]; rw [has_F a4.1 hnv (Or.inl ha)]; rfl
  · refine ⟨_, w, w, ?_, by unfold f8_village; rw [vil_F a4.2 hnv (Or.inr ha)]; rfl, h.next (by omega)⟩
    unfold f7_village
    rw [rk_g h1 h2.1]; simp only [bK]; rw [has_F a4.1 hnv (Or.inr ha)]; rfl
  · have e : f7_village (nI v) b w = f8_village (nI v) b w := by
      unfold f7_village f8_village
      rw [rk_g h1 h2.1]
      simp only [bK]
      rw [has_T a4.1 hnv hv, vil_T a4.2 hnv hv]
      unfold f1_staysAway
      have c1 := (a7 v hv).2
      have c2 := b12 v hv
      have c3 := (b13 v (by omega)).1 hv
      have c4 := bt_sh st hst v (by omega)
      simp (disch := omega) only [bE, bO, bV, bK, nI_lit, nI_add, lt_T, lt_F, le_T, le_F, eq_T, eq_F, ltm_T, ltm_F, lem_T, lem_F, eqm_F, meq_F, cl_nI, nle_T, nle_F, nlt_T, nlt_F, ↓reduceIte, or_true, true_or, or_false, false_or, and_true, true_and, and_false, false_and, not_true_eq_false, not_false_eq_true, or_self, and_self, true_implies, ite_self, rk_g h1 h2.1, c1.1, c1.2.1, c1.2.2, c2, c3, c4, b6]
      cases tb st v <;> rfl
    have t : ∃ r, f8_village (nI v) b w = some (r, w) := by
      unfold f8_village
      rw [vil_T a4.2 hnv hv]
      simp (disch := omega) only [bE, bO, bV, bK, nI_lit, nI_add, lt_T, lt_F, le_T, le_F, eq_T, eq_F, ltm_T, ltm_F, lem_T, lem_F, eqm_F, meq_F, cl_nI, nle_T, nle_F, nlt_T, nlt_F, ↓reduceIte, or_true, true_or, or_false, false_or, and_true, true_and, and_false, false_and, not_true_eq_false, not_false_eq_true, or_self, and_self, true_implies, ite_self, if_true]
      repeat (first | refine ex_if ?_ ?_ | exact ⟨_, rfl⟩)
    obtain ⟨r, hr⟩ := t
    exact ⟨r, w, w, by rw [e, hr], hr, h.next (by omega)⟩

theorem RFa.same {w w' : Mem} (h : RFa w) (e1 : w'.1 26 2 = w.1 26 2) (e2 : w'.1 32 15 = w.1 32 15) : RFa w' := by
  unfold RFa at h ⊢
  rw [e1, e2]; exact h
theorem q_feed {n : Nat} {w : Mem} (hn : n < 100) (h : Rel n w) (a : Int32) : Same n w (f7_feed a) (f8_feed a) := by
  obtain ⟨⟨g, nv, K, Y, I, F, Fo, ro, pe, fe, fs, fg, hC⟩, hT, hF, hN⟩ := id h
  have h1 := hC.1
  obtain ⟨L, hL, d1, d2, d3⟩ := hT
  rcases ix3 a 256 (by omega) with ha | ha | ⟨c, hc, rfl⟩
  · exact ⟨_, w, w, by unfold f7_feed; rw [if_pos (show a < 0 from ha)], by unfold f8_feed; rw [in_neg w ha]; rfl, h.next (by omega)⟩
  · have ha2 : ¬ a < 0 := fun z => absurd (Int32.lt_of_le_of_lt (show nI 256 ≤ a from ha) z) (by decide)
    have ha3 : ¬ a ≤ 255 := fun z => absurd (Int32.le_trans (show nI 256 ≤ a from ha) z) (by decide)
    exact ⟨_, w, w, by unfold f7_feed; rw [if_neg ha2, if_neg ha3], by unfold f8_feed; rw [in_big (m := 255) (b := 255) w rfl (by omega) ha]; rfl, h.next (by omega)⟩
  · refine ⟨nI (L + 1), sI (sI w 26 0 L (nI c)) 26 1 0 (nI (L + 1)), sI (sI (sI (sI w 26 0 L (nI c)) 26 1 0 (nI (L + 1))) 32 13 L (nI c)) 32 14 0 (nI (L + 1)), ?_, ?_, ?_⟩
    · unfold f7_feed
      simp (disch := omega) only [bE, bO, bV, bK, nI_lit, nI_add, lt_T, lt_F, le_T, le_F, eq_T, eq_F, ltm_T, ltm_F, lem_T, lem_F, eqm_F, meq_F, cl_nI, nle_T, nle_F, nlt_T, nlt_F, ↓reduceIte, or_true, true_or, or_false, false_or, and_true, true_and, and_false, false_and, not_true_eq_false, not_false_eq_true, or_self, and_self, true_implies, ite_self, ob_sI, ky_sI, kx_sI, ob_sA, ky_sA, kx_sA, upd_s, upd_n, rd_sI3, rd_sA3, rd_sI2, rd_sA2, rd_sL1, rd_sR1, d1, j2c_ok c hc, jcc_ok c hc]
    · unfold f8_feed
      rw [in0_T (m := 255) (b := 255) _ rfl (by omega) (by omega)]
      simp (disch := omega) only [bE, bO, bV, bK, nI_lit, nI_add, lt_T, lt_F, le_T, le_F, eq_T, eq_F, ltm_T, ltm_F, lem_T, lem_F, eqm_F, meq_F, cl_nI, nle_T, nle_F, nlt_T, nlt_F, ↓reduceIte, or_true, true_or, or_false, false_or, and_true, true_and, and_false, false_and, not_true_eq_false, not_false_eq_true, or_self, and_self, true_implies, ite_self, ob_sI, ky_sI, kx_sI, ob_sA, ky_sA, kx_sA, upd_s, upd_n, rd_sI3, rd_sA3, rd_sI2, rd_sA2, rd_sL1, rd_sR1, d2]
    · refine ⟨⟨g, nv, K, Y, I, F, Fo, ro, pe, fe, fs, fg, hC.same ⟨fun d hd1 hd2 => by simp (disch := omega) only [ob_sI, ob_sA, ky_sI, ky_sA, rd_sL1, rd_sR1, rd_sI2, rd_sA2, rd_sR2, rd_sI3, rd_sA3, rd_sL3], ⟨by simp (disch := omega) only [ob_sI, ob_sA, ky_sI, ky_sA, rd_sL1, rd_sR1, rd_sI2, rd_sA2, rd_sR2, rd_sI3, rd_sA3, rd_sL3], by simp (disch := omega) only [ob_sI, ob_sA, ky_sI, ky_sA, rd_sL1, rd_sR1, rd_sI2, rd_sA2, rd_sR2, rd_sI3, rd_sA3, rd_sL3]⟩, ⟨by simp (disch := omega) only [ob_sI, ob_sA, ky_sI, ky_sA, rd_sL1, rd_sR1, rd_sI2, rd_sA2, rd_sR2, rd_sI3, rd_sA3, rd_sL3], by simp (disch := omega) only [ob_sI, ob_sA, ky_sI, ky_sA, rd_sL1, rd_sR1, rd_sI2, rd_sA2, rd_sR2, rd_sI3, rd_sA3, rd_sL3]⟩, ⟨by simp (disch := omega) only [ob_sI, ob_sA, ky_sI, ky_sA, rd_sL1, rd_sR1, rd_sI2, rd_sA2, rd_sR2, rd_sI3, rd_sA3, rd_sL3], by simp (disch := omega) only [ob_sI, ob_sA, ky_sI, ky_sA, rd_sL1, rd_sR1, rd_sI2, rd_sA2, rd_sR2, rd_sI3, rd_sA3, rd_sL3], by simp (disch := omega) only [ob_sI, ob_sA, ky_sI, ky_sA, rd_sL1, rd_sR1, rd_sI2, rd_sA2, rd_sR2, rd_sI3, rd_sA3, rd_sL3]⟩, ⟨by simp (disch := omega) only [ob_sI, ob_sA, ky_sI, ky_sA, rd_sL1, rd_sR1, rd_sI2, rd_sA2, rd_sR2, rd_sI3, rd_sA3, rd_sL3], by simp (disch := omega) only [ob_sI, ob_sA, ky_sI, ky_sA, rd_sL1, rd_sR1, rd_sI2, rd_sA2, rd_sR2, rd_sI3, rd_sA3, rd_sL3]⟩, fun k hk => by simp (disch := omega) only [ob_sI, ob_sA, ky_sI, ky_sA, rd_sL1, rd_sR1, rd_sI2, rd_sA2, rd_sR2, rd_sI3, rd_sA3, rd_sL3]⟩ (by omega)⟩, ⟨L + 1, by omega, ?_, ?_, ?_⟩, hF.same (by simp (disch := omega) only [ob_sI, ob_sA, ky_sI, ky_sA, rd_sL1, rd_sR1, rd_sI2, rd_sA2, rd_sR2, rd_sI3, rd_sA3, rd_sL3]) (by simp (disch := omega) only [ob_sI, ob_sA, ky_sI, ky_sA, rd_sL1, rd_sR1, rd_sI2, rd_sA2, rd_sR2, rd_sI3, rd_sA3, rd_sL3]), hN.same (fun k hk => by simp (disch := omega) only [ob_sI, ob_sA, ky_sI, ky_sA, rd_sL1, rd_sR1, rd_sI2, rd_sA2, rd_sR2, rd_sI3, rd_sA3, rd_sL3]) (fun k h1 h2 => by simp (disch := omega) only [ob_sI, ob_sA, ky_sI, ky_sA, rd_sL1, rd_sR1, rd_sI2, rd_sA2, rd_sR2, rd_sI3, rd_sA3, rd_sL3])⟩
      · simp (disch := omega) only [bE, bO, bV, bK, nI_lit, nI_add, lt_T, lt_F, le_T, le_F, eq_T, eq_F, ltm_T, ltm_F, lem_T, lem_F, eqm_F, meq_F, cl_nI, nle_T, nle_F, nlt_T, nlt_F, ↓reduceIte, or_true, true_or, or_false, false_or, and_true, true_and, and_false, false_and, not_true_eq_false, not_false_eq_true, or_self, and_self, true_implies, ite_self, ob_sI, ky_sI, kx_sI, ob_sA, ky_sA, kx_sA, upd_s, upd_n, rd_sI3, rd_sA3, rd_sI2, rd_sA2, rd_sL1, rd_sR1]
      · simp (disch := omega) only [bE, bO, bV, bK, nI_lit, nI_add, lt_T, lt_F, le_T, le_F, eq_T, eq_F, ltm_T, ltm_F, lem_T, lem_F, eqm_F, meq_F, cl_nI, nle_T, nle_F, nlt_T, nlt_F, ↓reduceIte, or_true, true_or, or_false, false_or, and_true, true_and, and_false, false_and, not_true_eq_false, not_false_eq_true, or_self, and_self, true_implies, ite_self, ob_sI, ky_sI, kx_sI, ob_sA, ky_sA, kx_sA, upd_s, upd_n, rd_sI3, rd_sA3, rd_sI2, rd_sA2, rd_sL1, rd_sR1]
      · intro i hi
        simp (disch := omega) only [bE, bO, bV, bK, nI_lit, nI_add, lt_T, lt_F, le_T, le_F, eq_T, eq_F, ltm_T, ltm_F, lem_T, lem_F, eqm_F, meq_F, cl_nI, nle_T, nle_F, nlt_T, nlt_F, ↓reduceIte, or_true, true_or, or_false, false_or, and_true, true_and, and_false, false_and, not_true_eq_false, not_false_eq_true, or_self, and_self, true_implies, ite_self, ob_sI, ky_sI, kx_sI, ob_sA, ky_sA, kx_sA, upd_s, upd_n, rd_sI3, rd_sA3, rd_sI2, rd_sA2, rd_sL1, rd_sR1]
        by_cases hiL : i = L
        · subst hiL
          exact ⟨c, hc, upd_s _ _ _, upd_s _ _ _⟩
        · obtain ⟨c', z1, z2, z3⟩ := d3 i (by omega)
          exact ⟨c', z1, by rw [upd_n hiL]; exact z2, by rw [upd_n hiL]; exact z3⟩
theorem q_tear {n : Nat} {w : Mem} (h : Rel n w) : Same n w f7_tear f8_tear := by
  obtain ⟨⟨g, nv, K, Y, I, F, Fo, ro, pe, fe, fs, fg, hC⟩, hT, hF, hN⟩ := id h
  have h1 := hC.1
  obtain ⟨s, b, s1, s2, s3, s4, s5, s6, -, -⟩ := id hN
  refine ⟨nI (s + b), sI (sI w 29 4 0 0) 29 5 0 0, sI (sI (sI (sI w 29 4 0 0) 29 5 0 0) 32 37 0 0) 32 40 0 0, ?_, ?_, ?_⟩
  · unfold f7_tear f2_clear
    simp (disch := omega) only [bE, bO, bV, bK, nI_lit, nI_add, lt_T, lt_F, le_T, le_F, eq_T, eq_F, ltm_T, ltm_F, lem_T, lem_F, eqm_F, meq_F, cl_nI, nle_T, nle_F, nlt_T, nlt_F, ↓reduceIte, or_true, true_or, or_false, false_or, and_true, true_and, and_false, false_and, not_true_eq_false, not_false_eq_true, or_self, and_self, true_implies, ite_self, ob_sI, ky_sI, kx_sI, ob_sA, ky_sA, kx_sA, upd_s, upd_n, rd_sI3, rd_sA3, rd_sI2, rd_sA2, rd_sL1, rd_sR1, s3, s5]
  · unfold f8_tear
    simp (disch := omega) only [bE, bO, bV, bK, nI_lit, nI_add, lt_T, lt_F, le_T, le_F, eq_T, eq_F, ltm_T, ltm_F, lem_T, lem_F, eqm_F, meq_F, cl_nI, nle_T, nle_F, nlt_T, nlt_F, ↓reduceIte, or_true, true_or, or_false, false_or, and_true, true_and, and_false, false_and, not_true_eq_false, not_false_eq_true, or_self, and_self, true_implies, ite_self, ob_sI, ky_sI, kx_sI, ob_sA, ky_sA, kx_sA, upd_s, upd_n, rd_sI3, rd_sA3, rd_sI2, rd_sA2, rd_sL1, rd_sR1, s4, s6]
  · refine ⟨⟨g, nv, K, Y, I, F, Fo, ro, pe, fe, fs, fg, hC.same ⟨fun d hd1 hd2 => by simp (disch := omega) only [ob_sI, ob_sA, ky_sI, ky_sA, rd_sL1, rd_sR1, rd_sI2, rd_sA2, rd_sR2, rd_sI3, rd_sA3, rd_sL3], ⟨by simp (disch := omega) only [ob_sI, ob_sA, ky_sI, ky_sA, rd_sL1, rd_sR1, rd_sI2, rd_sA2, rd_sR2, rd_sI3, rd_sA3, rd_sL3], by simp (disch := omega) only [ob_sI, ob_sA, ky_sI, ky_sA, rd_sL1, rd_sR1, rd_sI2, rd_sA2, rd_sR2, rd_sI3, rd_sA3, rd_sL3]⟩, ⟨by simp (disch := omega) only [ob_sI, ob_sA, ky_sI, ky_sA, rd_sL1, rd_sR1, rd_sI2, rd_sA2, rd_sR2, rd_sI3, rd_sA3, rd_sL3], by simp (disch := omega) only [ob_sI, ob_sA, ky_sI, ky_sA, rd_sL1, rd_sR1, rd_sI2, rd_sA2, rd_sR2, rd_sI3, rd_sA3, rd_sL3]⟩, ⟨by simp (disch := omega) only [ob_sI, ob_sA, ky_sI, ky_sA, rd_sL1, rd_sR1, rd_sI2, rd_sA2, rd_sR2, rd_sI3, rd_sA3, rd_sL3], by simp (disch := omega) only [ob_sI, ob_sA, ky_sI, ky_sA, rd_sL1, rd_sR1, rd_sI2, rd_sA2, rd_sR2, rd_sI3, rd_sA3, rd_sL3], by simp (disch := omega) only [ob_sI, ob_sA, ky_sI, ky_sA, rd_sL1, rd_sR1, rd_sI2, rd_sA2, rd_sR2, rd_sI3, rd_sA3, rd_sL3]⟩, ⟨by simp (disch := omega) only [ob_sI, ob_sA, ky_sI, ky_sA, rd_sL1, rd_sR1, rd_sI2, rd_sA2, rd_sR2, rd_sI3, rd_sA3, rd_sL3], by simp (disch := omega) only [ob_sI, ob_sA, ky_sI, ky_sA, rd_sL1, rd_sR1, rd_sI2, rd_sA2, rd_sR2, rd_sI3, rd_sA3, rd_sL3]⟩, fun k hk => by simp (disch := omega) only [ob_sI, ob_sA, ky_sI, ky_sA, rd_sL1, rd_sR1, rd_sI2, rd_sA2, rd_sR2, rd_sI3, rd_sA3, rd_sL3]⟩ (by omega)⟩, hT.same (by simp (disch := omega) only [ob_sI, ob_sA, ky_sI, ky_sA, rd_sL1, rd_sR1, rd_sI2, rd_sA2, rd_sR2, rd_sI3, rd_sA3, rd_sL3]) (by simp (disch := omega) only [ob_sI, ob_sA, ky_sI, ky_sA, rd_sL1, rd_sR1, rd_sI2, rd_sA2, rd_sR2, rd_sI3, rd_sA3, rd_sL3]) (by simp (disch := omega) only [ob_sI, ob_sA, ky_sI, ky_sA, rd_sL1, rd_sR1, rd_sI2, rd_sA2, rd_sR2, rd_sI3, rd_sA3, rd_sL3]) (by simp (disch := omega) only [ob_sI, ob_sA, ky_sI, ky_sA, rd_sL1, rd_sR1, rd_sI2, rd_sA2, rd_sR2, rd_sI3, rd_sA3, rd_sL3]) (by omega), hF.same (by simp (disch := omega) only [ob_sI, ob_sA, ky_sI, ky_sA, rd_sL1, rd_sR1, rd_sI2, rd_sA2, rd_sR2, rd_sI3, rd_sA3, rd_sL3]) (by simp (disch := omega) only [ob_sI, ob_sA, ky_sI, ky_sA, rd_sL1, rd_sR1, rd_sI2, rd_sA2, rd_sR2, rd_sI3, rd_sA3, rd_sL3]), ⟨0, 0, by omega, by omega, ?_, ?_, ?_, ?_, fun i hi => absurd hi (by omega), fun i hi => absurd hi (by omega)⟩⟩
    · simp (disch := omega) only [bE, bO, bV, bK, nI_lit, nI_add, lt_T, lt_F, le_T, le_F, eq_T, eq_F, ltm_T, ltm_F, lem_T, lem_F, eqm_F, meq_F, cl_nI, nle_T, nle_F, nlt_T, nlt_F, ↓reduceIte, or_true, true_or, or_false, false_or, and_true, true_and, and_false, false_and, not_true_eq_false, not_false_eq_true, or_self, and_self, true_implies, ite_self, ob_sI, ky_sI, kx_sI, ob_sA, ky_sA, kx_sA, upd_s, upd_n, rd_sI3, rd_sA3, rd_sI2, rd_sA2, rd_sL1, rd_sR1]
    · simp (disch := omega) only [bE, bO, bV, bK, nI_lit, nI_add, lt_T, lt_F, le_T, le_F, eq_T, eq_F, ltm_T, ltm_F, lem_T, lem_F, eqm_F, meq_F, cl_nI, nle_T, nle_F, nlt_T, nlt_F, ↓reduceIte, or_true, true_or, or_false, false_or, and_true, true_and, and_false, false_and, not_true_eq_false, not_false_eq_true, or_self, and_self, true_implies, ite_self, ob_sI, ky_sI, kx_sI, ob_sA, ky_sA, kx_sA, upd_s, upd_n, rd_sI3, rd_sA3, rd_sI2, rd_sA2, rd_sL1, rd_sR1]
    · simp (disch := omega) only [bE, bO, bV, bK, nI_lit, nI_add, lt_T, lt_F, le_T, le_F, eq_T, eq_F, ltm_T, ltm_F, lem_T, lem_F, eqm_F, meq_F, cl_nI, nle_T, nle_F, nlt_T, nlt_F, ↓reduceIte, or_true, true_or, or_false, false_or, and_true, true_and, and_false, false_and, not_true_eq_false, not_false_eq_true, or_self, and_self, true_implies, ite_self, ob_sI, ky_sI, kx_sI, ob_sA, ky_sA, kx_sA, upd_s, upd_n, rd_sI3, rd_sA3, rd_sI2, rd_sA2, rd_sL1, rd_sR1]
    · simp (disch := omega) only [bE, bO, bV, bK, nI_lit, nI_add, lt_T, lt_F, le_T, le_F, eq_T, eq_F, ltm_T, ltm_F, lem_T, lem_F, eqm_F, meq_F, cl_nI, nle_T, nle_F, nlt_T, nlt_F, ↓reduceIte, or_true, true_or, or_false, false_or, and_true, true_and, and_false, false_and, not_true_eq_false, not_false_eq_true, or_self, and_self, true_implies, ite_self, ob_sI, ky_sI, kx_sI, ob_sA, ky_sA, kx_sA, upd_s, upd_n, rd_sI3, rd_sA3, rd_sI2, rd_sA2, rd_sL1, rd_sR1]

/-- an argument that is too large -/
theorem big_nlt {a : Int32} {k : Nat} (hk : k < 2147483648) (h : nI k ≤ a) : ¬ a < 0 := fun z => by
  have h1 := Int32.le_iff_toInt_le.mp h
  have h2 := Int32.lt_iff_toInt_lt.mp z
  rw [nI_ti hk] at h1
  rw [Int32.toInt_zero] at h2
  omega
theorem big_le {a : Int32} {k j : Nat} (hk : k < 2147483648) (h : nI k ≤ a) (hj : j ≤ k) : nI j ≤ a := Int32.le_trans (nI_le hj hk) h
theorem big_nle {a : Int32} {k j : Nat} (hk : k < 2147483648) (h : nI k ≤ a) (hj : j < k) : ¬ a ≤ nI j := fun z => absurd (Int32.le_trans h z) (nI_ge hj hk)
theorem neg_nle {a : Int32} {k : Nat} (hk : k < 2147483648) (h : a < nI 0) : ¬ nI k ≤ a := fun z => big_nlt hk z h
theorem q_see {n : Nat} {w : Mem} (h : Rel n w) (a b : Int32) : Same n w (f7_see a b) (f8_see a b) := by
  obtain ⟨⟨g, nv, K, Y, I, F, Fo, ro, pe, fe, fs, fg, hC⟩, hT, hF, hN⟩ := id h
  have h1 := hC.1
  obtain ⟨s, bk, s1, s2, s3, s4, s5, s6, s7, s8⟩ := id hN
  rcases ix3 a 100 (by omega) with ha | ha | ⟨t, ht, rfl⟩
  · exact ⟨_, w, w, by unfold f7_see; rw [if_pos (show a < 0 from ha)], by unfold f8_see; rw [in_neg w ha]; rfl, h.next (by omega)⟩
  · exact ⟨_, w, w, by unfold f7_see; rw [if_neg (big_nlt (by omega) ha), if_pos (show 100 ≤ a from ha)], by unfold f8_see; rw [in_big (m := 99) (b := 99) w rfl (by omega) ha]; rfl, h.next (by omega)⟩
  · rcases ix3 b 3 (by omega) with hb | hb | ⟨q, hq, rfl⟩
    · refine ⟨-1000000002, w, w, ?_, ?_, h.next (by omega)⟩
      · unfold f7_see
        rw [if_neg (nI_pos (by omega)), if_neg (show ¬ (100 : Int32) ≤ nI t from nI_ge (b := 100) ht (by omega)), if_pos (show b < 0 from hb)]
      · unfold f8_see
        rw [in0_T (m := 99) (b := 99) w rfl (by omega) (by omega)]
        simp only [bO]
        rw [if_neg (by decide), in_neg w hb]; rfl
    · refine ⟨-1000000002, w, w, ?_, ?_, h.next (by omega)⟩
      · unfold f7_see
        rw [if_neg (nI_pos (by omega)), if_neg (show ¬ (100 : Int32) ≤ nI t from nI_ge (b := 100) ht (by omega)), if_neg (big_nlt (by omega) hb), if_neg (show ¬ b ≤ 2 from big_nle (j := 2) (by omega) hb (by omega))]
      · unfold f8_see
        rw [in0_T (m := 99) (b := 99) w rfl (by omega) (by omega)]
        simp only [bO]
        rw [if_neg (by decide), in_big (m := 2) (b := 2) w rfl (by omega) hb]; rfl
    · by_cases hs : s = 10
      · refine ⟨-1000000004, w, w, ?_, ?_, h.next (by omega)⟩
        · unfold f7_see f2_addSeen
          simp (disch := omega) only [bE, bO, bV, bK, nI_lit, nI_add, lt_T, lt_F, le_T, le_F, eq_T, eq_F, ltm_T, ltm_F, lem_T, lem_F, eqm_F, meq_F, cl_nI, nle_T, nle_F, nlt_T, nlt_F, ↓reduceIte, or_true, true_or, or_false, false_or, and_true, true_and, and_false, false_and, not_true_eq_false, not_false_eq_true, or_self, and_self, true_implies, ite_self, ob_sI, ky_sI, kx_sI, ob_sA, ky_sA, kx_sA, upd_s, upd_n, rd_sI3, rd_sA3, rd_sI2, rd_sA2, rd_sL1, rd_sR1, s3]
        · unfold f8_see
          rw [in0_T (m := 99) (b := 99) w rfl (by omega) (by omega)]
          simp only [bO]
          rw [if_neg (by decide), in0_T (m := 2) (b := 2) w rfl (by omega) (by omega)]
          simp (disch := omega) only [bE, bO, bV, bK, nI_lit, nI_add, lt_T, lt_F, le_T, le_F, eq_T, eq_F, ltm_T, ltm_F, lem_T, lem_F, eqm_F, meq_F, cl_nI, nle_T, nle_F, nlt_T, nlt_F, ↓reduceIte, or_true, true_or, or_false, false_or, and_true, true_and, and_false, false_and, not_true_eq_false, not_false_eq_true, or_self, and_self, true_implies, ite_self, ob_sI, ky_sI, kx_sI, ob_sA, ky_sA, kx_sA, upd_s, upd_n, rd_sI3, rd_sA3, rd_sI2, rd_sA2, rd_sL1, rd_sR1, s4]
      · have hs2 : s < 10 := by omega
        refine ⟨nI (s + 1), sI (sI (sI w 29 0 s (nI t)) 29 1 s (nI q)) 29 4 0 (nI (s + 1)), sI (sI (sI (sI (sI (sI w 29 0 s (nI t)) 29 1 s (nI q)) 29 4 0 (nI (s + 1))) 32 38 s (nI t)) 32 39 s (nI q)) 32 37 0 (nI (s + 1)), ?_, ?_, ?_⟩
        · unfold f7_see f2_addSeen
          simp (disch := omega) only [bE, bO, bV, bK, nI_lit, nI_add, lt_T, lt_F, le_T, le_F, eq_T, eq_F, ltm_T, ltm_F, lem_T, lem_F, eqm_F, meq_F, cl_nI, nle_T, nle_F, nlt_T, nlt_F, ↓reduceIte, or_true, true_or, or_false, false_or, and_true, true_and, and_false, false_and, not_true_eq_false, not_false_eq_true, or_self, and_self, true_implies, ite_self, ob_sI, ky_sI, kx_sI, ob_sA, ky_sA, kx_sA, upd_s, upd_n, rd_sI3, rd_sA3, rd_sI2, rd_sA2, rd_sL1, rd_sR1, s3]
        · unfold f8_see
          rw [in0_T (m := 99) (b := 99) _ rfl (by omega) (by omega)]
          simp only [bO]
          rw [if_neg (by decide), in0_T (m := 2) (b := 2) _ rfl (by omega) (by omega)]
          simp (disch := omega) only [bE, bO, bV, bK, nI_lit, nI_add, lt_T, lt_F, le_T, le_F, eq_T, eq_F, ltm_T, ltm_F, lem_T, lem_F, eqm_F, meq_F, cl_nI, nle_T, nle_F, nlt_T, nlt_F, ↓reduceIte, or_true, true_or, or_false, false_or, and_true, true_and, and_false, false_and, not_true_eq_false, not_false_eq_true, or_self, and_self, true_implies, ite_self, ob_sI, ky_sI, kx_sI, ob_sA, ky_sA, kx_sA, upd_s, upd_n, rd_sI3, rd_sA3, rd_sI2, rd_sA2, rd_sL1, rd_sR1, s4]
        · refine ⟨⟨g, nv, K, Y, I, F, Fo, ro, pe, fe, fs, fg, hC.same ⟨fun d hd1 hd2 => by simp (disch := omega) only [ob_sI, ob_sA, ky_sI, ky_sA, rd_sL1, rd_sR1, rd_sI2, rd_sA2, rd_sR2, rd_sI3, rd_sA3, rd_sL3], ⟨by simp (disch := omega) only [ob_sI, ob_sA, ky_sI, ky_sA, rd_sL1, rd_sR1, rd_sI2, rd_sA2, rd_sR2, rd_sI3, rd_sA3, rd_sL3], by simp (disch := omega) only [ob_sI, ob_sA, ky_sI, ky_sA, rd_sL1, rd_sR1, rd_sI2, rd_sA2, rd_sR2, rd_sI3, rd_sA3, rd_sL3]⟩, ⟨by simp (disch := omega) only [ob_sI, ob_sA, ky_sI, ky_sA, rd_sL1, rd_sR1, rd_sI2, rd_sA2, rd_sR2, rd_sI3, rd_sA3, rd_sL3], by simp (disch := omega) only [ob_sI, ob_sA, ky_sI, ky_sA, rd_sL1, rd_sR1, rd_sI2, rd_sA2, rd_sR2, rd_sI3, rd_sA3, rd_sL3]⟩, ⟨by simp (disch := omega) only [ob_sI, ob_sA, ky_sI, ky_sA, rd_sL1, rd_sR1, rd_sI2, rd_sA2, rd_sR2, rd_sI3, rd_sA3, rd_sL3], by simp (disch := omega) only [ob_sI, ob_sA, ky_sI, ky_sA, rd_sL1, rd_sR1, rd_sI2, rd_sA2, rd_sR2, rd_sI3, rd_sA3, rd_sL3], by simp (disch := omega) only [ob_sI, ob_sA, ky_sI, ky_sA, rd_sL1, rd_sR1, rd_sI2, rd_sA2, rd_sR2, rd_sI3, rd_sA3, rd_sL3]⟩, ⟨by simp (disch := omega) only [ob_sI, ob_sA, ky_sI, ky_sA, rd_sL1, rd_sR1, rd_sI2, rd_sA2, rd_sR2, rd_sI3, rd_sA3, rd_sL3], by simp (disch := omega) only [ob_sI, ob_sA, ky_sI, ky_sA, rd_sL1, rd_sR1, rd_sI2, rd_sA2, rd_sR2, rd_sI3, rd_sA3, rd_sL3]⟩, fun k hk => by simp (disch := omega) only [ob_sI, ob_sA, ky_sI, ky_sA, rd_sL1, rd_sR1, rd_sI2, rd_sA2, rd_sR2, rd_sI3, rd_sA3, rd_sL3]⟩ (by omega)⟩, hT.same (by simp (disch := omega) only [ob_sI, ob_sA, ky_sI, ky_sA, rd_sL1, rd_sR1, rd_sI2, rd_sA2, rd_sR2, rd_sI3, rd_sA3, rd_sL3]) (by simp (disch := omega) only [ob_sI, ob_sA, ky_sI, ky_sA, rd_sL1, rd_sR1, rd_sI2, rd_sA2, rd_sR2, rd_sI3, rd_sA3, rd_sL3]) (by simp (disch := omega) only [ob_sI, ob_sA, ky_sI, ky_sA, rd_sL1, rd_sR1, rd_sI2, rd_sA2, rd_sR2, rd_sI3, rd_sA3, rd_sL3]) (by simp (disch := omega) only [ob_sI, ob_sA, ky_sI, ky_sA, rd_sL1, rd_sR1, rd_sI2, rd_sA2, rd_sR2, rd_sI3, rd_sA3, rd_sL3]) (by omega), hF.same (by simp (disch := omega) only [ob_sI, ob_sA, ky_sI, ky_sA, rd_sL1, rd_sR1, rd_sI2, rd_sA2, rd_sR2, rd_sI3, rd_sA3, rd_sL3]) (by simp (disch := omega) only [ob_sI, ob_sA, ky_sI, ky_sA, rd_sL1, rd_sR1, rd_sI2, rd_sA2, rd_sR2, rd_sI3, rd_sA3, rd_sL3]), ⟨s + 1, bk, by omega, s2, ?_, ?_, ?_, ?_, ?_, ?_⟩⟩
          · simp (disch := omega) only [bE, bO, bV, bK, nI_lit, nI_add, lt_T, lt_F, le_T, le_F, eq_T, eq_F, ltm_T, ltm_F, lem_T, lem_F, eqm_F, meq_F, cl_nI, nle_T, nle_F, nlt_T, nlt_F, ↓reduceIte, or_true, true_or, or_false, false_or, and_true, true_and, and_false, false_and, not_true_eq_false, not_false_eq_true, or_self, and_self, true_implies, ite_self, ob_sI, ky_sI, kx_sI, ob_sA, ky_sA, kx_sA, upd_s, upd_n, rd_sI3, rd_sA3, rd_sI2, rd_sA2, rd_sL1, rd_sR1]
          · simp (disch := omega) only [bE, bO, bV, bK, nI_lit, nI_add, lt_T, lt_F, le_T, le_F, eq_T, eq_F, ltm_T, ltm_F, lem_T, lem_F, eqm_F, meq_F, cl_nI, nle_T, nle_F, nlt_T, nlt_F, ↓reduceIte, or_true, true_or, or_false, false_or, and_true, true_and, and_false, false_and, not_true_eq_false, not_false_eq_true, or_self, and_self, true_implies, ite_self, ob_sI, ky_sI, kx_sI, ob_sA, ky_sA, kx_sA, upd_s, upd_n, rd_sI3, rd_sA3, rd_sI2, rd_sA2, rd_sL1, rd_sR1]
          · simp (disch := omega) only [bE, bO, bV, bK, nI_lit, nI_add, lt_T, lt_F, le_T, le_F, eq_T, eq_F, ltm_T, ltm_F, lem_T, lem_F, eqm_F, meq_F, cl_nI, nle_T, nle_F, nlt_T, nlt_F, ↓reduceIte, or_true, true_or, or_false, false_or, and_true, true_and, and_false, false_and, not_true_eq_false, not_false_eq_true, or_self, and_self, true_implies, ite_self, ob_sI, ky_sI, kx_sI, ob_sA, ky_sA, kx_sA, upd_s, upd_n, rd_sI3, rd_sA3, rd_sI2, rd_sA2, rd_sL1, rd_sR1]
            exact s5
          · simp (disch := omega) only [bE, bO, bV, bK, nI_lit, nI_add, lt_T, lt_F, le_T, le_F, eq_T, eq_F, ltm_T, ltm_F, lem_T, lem_F, eqm_F, meq_F, cl_nI, nle_T, nle_F, nlt_T, nlt_F, ↓reduceIte, or_true, true_or, or_false, false_or, and_true, true_and, and_false, false_and, not_true_eq_false, not_false_eq_true, or_self, and_self, true_implies, ite_self, ob_sI, ky_sI, kx_sI, ob_sA, ky_sA, kx_sA, upd_s, upd_n, rd_sI3, rd_sA3, rd_sI2, rd_sA2, rd_sL1, rd_sR1]
            exact s6
          · intro i hi
            simp (disch := omega) only [bE, bO, bV, bK, nI_lit, nI_add, lt_T, lt_F, le_T, le_F, eq_T, eq_F, ltm_T, ltm_F, lem_T, lem_F, eqm_F, meq_F, cl_nI, nle_T, nle_F, nlt_T, nlt_F, ↓reduceIte, or_true, true_or, or_false, false_or, and_true, true_and, and_false, false_and, not_true_eq_false, not_false_eq_true, or_self, and_self, true_implies, ite_self, ob_sI, ky_sI, kx_sI, ob_sA, ky_sA, kx_sA, upd_s, upd_n, rd_sI3, rd_sA3, rd_sI2, rd_sA2, rd_sL1, rd_sR1]
            by_cases hiL : i = s
            · subst hiL
              exact ⟨t, q, ht, hq, upd_s _ _ _, upd_s _ _ _, upd_s _ _ _, upd_s _ _ _⟩
            · obtain ⟨t', q', z1, z2, z3, z4, z5, z6⟩ := s7 i (by omega)
              exact ⟨t', q', z1, z2, by rw [upd_n hiL]; exact z3, by rw [upd_n hiL]; exact z4, by rw [upd_n hiL]; exact z5, by rw [upd_n hiL]; exact z6⟩
          · intro i hi
            simp (disch := omega) only [bE, bO, bV, bK, nI_lit, nI_add, lt_T, lt_F, le_T, le_F, eq_T, eq_F, ltm_T, ltm_F, lem_T, lem_F, eqm_F, meq_F, cl_nI, nle_T, nle_F, nlt_T, nlt_F, ↓reduceIte, or_true, true_or, or_false, false_or, and_true, true_and, and_false, false_and, not_true_eq_false, not_false_eq_true, or_self, and_self, true_implies, ite_self, ob_sI, ky_sI, kx_sI, ob_sA, ky_sA, kx_sA, upd_s, upd_n, rd_sI3, rd_sA3, rd_sI2, rd_sA2, rd_sL1, rd_sR1]
            exact s8 i hi

/-- who may be written into the book -/
theorem w_tail {n : Nat} {w : Mem} (h : Rel n w) (a b : Int32) : ∃ r w1 w2, f7_write_19 a b w = some (r, w1) ∧ f8_write_16 a b w1 = some (r, w2) ∧ w1.1 32 = w.1 32 ∧ Rel (n + 1) w2 := by
  obtain ⟨⟨g, nv, K, Y, I, F, Fo, ro, pe, fe, fs, fg, hC⟩, hT, hF, hN⟩ := id h
  have h1 := hC.1
  obtain ⟨s, bk, s1, s2, s3, s4, s5, s6, s7, s8⟩ := id hN
  rcases ix3 a 10000 (by omega) with ha | ha | ⟨t, ht, rfl⟩
  · exact ⟨_, w, w, by unfold f7_write_19; rw [if_pos (show a < 0 from ha)], by unfold f8_write_16; rw [in_neg w ha]; rfl, rfl, h.next (by omega)⟩
  · exact ⟨_, w, w, by unfold f7_write_19; rw [if_neg (big_nlt (by omega) ha), if_neg (show ¬ a ≤ 9999 from big_nle (j := 9999) (by omega) ha (by omega))], by unfold f8_write_16; rw [in_big (m := 9999) (b := 9999) w rfl (by omega) ha]; rfl, rfl, h.next (by omega)⟩
  · by_cases hs : bk = 15
    · refine ⟨-1000000004, w, w, ?_, ?_, rfl, h.next (by omega)⟩
      · unfold f7_write_19 f2_addEntry
        simp (disch := omega) only [bE, bO, bV, bK, nI_lit, nI_add, lt_T, lt_F, le_T, le_F, eq_T, eq_F, ltm_T, ltm_F, lem_T, lem_F, eqm_F, meq_F, cl_nI, nle_T, nle_F, nlt_T, nlt_F, ↓reduceIte, or_true, true_or, or_false, false_or, and_true, true_and, and_false, false_and, not_true_eq_false, not_false_eq_true, or_self, and_self, true_implies, ite_self, ob_sI, ky_sI, kx_sI, ob_sA, ky_sA, kx_sA, upd_s, upd_n, rd_sI3, rd_sA3, rd_sI2, rd_sA2, rd_sL1, rd_sR1, s5]
      · unfold f8_write_16
        rw [in0_T (m := 9999) (b := 9999) w rfl (by omega) (by omega)]
        simp (disch := omega) only [bE, bO, bV, bK, nI_lit, nI_add, lt_T, lt_F, le_T, le_F, eq_T, eq_F, ltm_T, ltm_F, lem_T, lem_F, eqm_F, meq_F, cl_nI, nle_T, nle_F, nlt_T, nlt_F, ↓reduceIte, or_true, true_or, or_false, false_or, and_true, true_and, and_false, false_and, not_true_eq_false, not_false_eq_true, or_self, and_self, true_implies, ite_self, ob_sI, ky_sI, kx_sI, ob_sA, ky_sA, kx_sA, upd_s, upd_n, rd_sI3, rd_sA3, rd_sI2, rd_sA2, rd_sL1, rd_sR1, s6]
    · refine ⟨nI (bk + 1), sI (sI (sI w 29 2 bk (nI t)) 29 3 bk b) 29 5 0 (nI (bk + 1)), sI (sI (sI (sI (sI (sI w 29 2 bk (nI t)) 29 3 bk b) 29 5 0 (nI (bk + 1))) 32 41 bk (nI t)) 32 42 bk b) 32 40 0 (nI (bk + 1)), ?_, ?_, by simp (disch := omega) only [ob_sI, ob_sA, ky_sI, ky_sA, rd_sL1, rd_sR1, rd_sI2, rd_sA2, rd_sR2, rd_sI3, rd_sA3, rd_sL3], ?_⟩
      · unfold f7_write_19 f2_addEntry
        simp (disch := omega) only [bE, bO, bV, bK, nI_lit, nI_add, lt_T, lt_F, le_T, le_F, eq_T, eq_F, ltm_T, ltm_F, lem_T, lem_F, eqm_F, meq_F, cl_nI, nle_T, nle_F, nlt_T, nlt_F, ↓reduceIte, or_true, true_or, or_false, false_or, and_true, true_and, and_false, false_and, not_true_eq_false, not_false_eq_true, or_self, and_self, true_implies, ite_self, ob_sI, ky_sI, kx_sI, ob_sA, ky_sA, kx_sA, upd_s, upd_n, rd_sI3, rd_sA3, rd_sI2, rd_sA2, rd_sL1, rd_sR1, s5]
      · unfold f8_write_16
        rw [in0_T (m := 9999) (b := 9999) _ rfl (by omega) (by omega)]
        simp (disch := omega) only [bE, bO, bV, bK, nI_lit, nI_add, lt_T, lt_F, le_T, le_F, eq_T, eq_F, ltm_T, ltm_F, lem_T, lem_F, eqm_F, meq_F, cl_nI, nle_T, nle_F, nlt_T, nlt_F, ↓reduceIte, or_true, true_or, or_false, false_or, and_true, true_and, and_false, false_and, not_true_eq_false, not_false_eq_true, or_self, and_self, true_implies, ite_self, ob_sI, ky_sI, kx_sI, ob_sA, ky_sA, kx_sA, upd_s, upd_n, rd_sI3, rd_sA3, rd_sI2, rd_sA2, rd_sL1, rd_sR1, s6]
      · refine ⟨⟨g, nv, K, Y, I, F, Fo, ro, pe, fe, fs, fg, hC.same ⟨fun d hd1 hd2 => by simp (disch := omega) only [ob_sI, ob_sA, ky_sI, ky_sA, rd_sL1, rd_sR1, rd_sI2, rd_sA2, rd_sR2, rd_sI3, rd_sA3, rd_sL3], ⟨by simp (disch := omega) only [ob_sI, ob_sA, ky_sI, ky_sA, rd_sL1, rd_sR1, rd_sI2, rd_sA2, rd_sR2, rd_sI3, rd_sA3, rd_sL3], by simp (disch := omega) only [ob_sI, ob_sA, ky_sI, ky_sA, rd_sL1, rd_sR1, rd_sI2, rd_sA2, rd_sR2, rd_sI3, rd_sA3, rd_sL3]⟩, ⟨by simp (disch := omega) only [ob_sI, ob_sA, ky_sI, ky_sA, rd_sL1, rd_sR1, rd_sI2, rd_sA2, rd_sR2, rd_sI3, rd_sA3, rd_sL3], by simp (disch := omega) only [ob_sI, ob_sA, ky_sI, ky_sA, rd_sL1, rd_sR1, rd_sI2, rd_sA2, rd_sR2, rd_sI3, rd_sA3, rd_sL3]⟩, ⟨by simp (disch := omega) only [ob_sI, ob_sA, ky_sI, ky_sA, rd_sL1, rd_sR1, rd_sI2, rd_sA2, rd_sR2, rd_sI3, rd_sA3, rd_sL3], by simp (disch := omega) only [ob_sI, ob_sA, ky_sI, ky_sA, rd_sL1, rd_sR1, rd_sI2, rd_sA2, rd_sR2, rd_sI3, rd_sA3, rd_sL3], by simp (disch := omega) only [ob_sI, ob_sA, ky_sI, ky_sA, rd_sL1, rd_sR1, rd_sI2, rd_sA2, rd_sR2, rd_sI3, rd_sA3, rd_sL3]⟩, ⟨by simp (disch := omega) only [ob_sI, ob_sA, ky_sI, ky_sA, rd_sL1, rd_sR1, rd_sI2, rd_sA2, rd_sR2, rd_sI3, rd_sA3, rd_sL3], by simp (disch := omega) only [ob_sI, ob_sA, ky_sI, ky_sA, rd_sL1, rd_sR1, rd_sI2, rd_sA2, rd_sR2, rd_sI3, rd_sA3, rd_sL3]⟩, fun k hk => by simp (disch := omega) only [ob_sI, ob_sA, ky_sI, ky_sA, rd_sL1, rd_sR1, rd_sI2, rd_sA2, rd_sR2, rd_sI3, rd_sA3, rd_sL3]⟩ (by omega)⟩, hT.same (by simp (disch := omega) only [ob_sI, ob_sA, ky_sI, ky_sA, rd_sL1, rd_sR1, rd_sI2, rd_sA2, rd_sR2, rd_sI3, rd_sA3, rd_sL3]) (by simp (disch := omega) only [ob_sI, ob_sA, ky_sI, ky_sA, rd_sL1, rd_sR1, rd_sI2, rd_sA2, rd_sR2, rd_sI3, rd_sA3, rd_sL3]) (by simp (disch := omega) only [ob_sI, ob_sA, ky_sI, ky_sA, rd_sL1, rd_sR1, rd_sI2, rd_sA2, rd_sR2, rd_sI3, rd_sA3, rd_sL3]) (by simp (disch := omega) only [ob_sI, ob_sA, ky_sI, ky_sA, rd_sL1, rd_sR1, rd_sI2, rd_sA2, rd_sR2, rd_sI3, rd_sA3, rd_sL3]) (by omega), hF.same (by simp (disch := omega) only [ob_sI, ob_sA, ky_sI, ky_sA, rd_sL1, rd_sR1, rd_sI2, rd_sA2, rd_sR2, rd_sI3, rd_sA3, rd_sL3]) (by simp (disch := omega) only [ob_sI, ob_sA, ky_sI, ky_sA, rd_sL1, rd_sR1, rd_sI2, rd_sA2, rd_sR2, rd_sI3, rd_sA3, rd_sL3]), ⟨s, bk + 1, s1, by omega, ?_, ?_, ?_, ?_, ?_, ?_⟩⟩
        · simp (disch := omega) only [bE, bO, bV, bK, nI_lit, nI_add, lt_T, lt_F, le_T, le_F, eq_T, eq_F, ltm_T, ltm_F, lem_T, lem_F, eqm_F, meq_F, cl_nI, nle_T, nle_F, nlt_T, nlt_F, ↓reduceIte, or_true, true_or, or_false, false_or, and_true, true_and, and_false, false_and, not_true_eq_false, not_false_eq_true, or_self, and_self, true_implies, ite_self, ob_sI, ky_sI, kx_sI, ob_sA, ky_sA, kx_sA, upd_s, upd_n, rd_sI3, rd_sA3, rd_sI2, rd_sA2, rd_sL1, rd_sR1]
          exact s3
        · simp (disch := omega) only [bE, bO, bV, bK, nI_lit, nI_add, lt_T, lt_F, le_T, le_F, eq_T, eq_F, ltm_T, ltm_F, lem_T, lem_F, eqm_F, meq_F, cl_nI, nle_T, nle_F, nlt_T, nlt_F, ↓reduceIte, or_true, true_or, or_false, false_or, and_true, true_and, and_false, false_and, not_true_eq_false, not_false_eq_true, or_self, and_self, true_implies, ite_self, ob_sI, ky_sI, kx_sI, ob_sA, ky_sA, kx_sA, upd_s, upd_n, rd_sI3, rd_sA3, rd_sI2, rd_sA2, rd_sL1, rd_sR1]
          exact s4
        · simp (disch := omega) only [bE, bO, bV, bK, nI_lit, nI_add, lt_T, lt_F, le_T, le_F, eq_T, eq_F, ltm_T, ltm_F, lem_T, lem_F, eqm_F, meq_F, cl_nI, nle_T, nle_F, nlt_T, nlt_F, ↓reduceIte, or_true, true_or, or_false, false_or, and_true, true_and, and_false, false_and, not_true_eq_false, not_false_eq_true, or_self, and_self, true_implies, ite_self, ob_sI, ky_sI, kx_sI, ob_sA, ky_sA, kx_sA, upd_s, upd_n, rd_sI3, rd_sA3, rd_sI2, rd_sA2, rd_sL1, rd_sR1]
        · simp (disch := omega) only [bE, bO, bV, bK, nI_lit, nI_add, lt_T, lt_F, le_T, le_F, eq_T, eq_F, ltm_T, ltm_F, lem_T, lem_F, eqm_F, meq_F, cl_nI, nle_T, nle_F, nlt_T, nlt_F, ↓reduceIte, or_true, true_or, or_false, false_or, and_true, true_and, and_false, false_and, not_true_eq_false, not_false_eq_true, or_self, and_self, true_implies, ite_self, ob_sI, ky_sI, kx_sI, ob_sA, ky_sA, kx_sA, upd_s, upd_n, rd_sI3, rd_sA3, rd_sI2, rd_sA2, rd_sL1, rd_sR1]
        · intro i hi
          simp (disch := omega) only [bE, bO, bV, bK, nI_lit, nI_add, lt_T, lt_F, le_T, le_F, eq_T, eq_F, ltm_T, ltm_F, lem_T, lem_F, eqm_F, meq_F, cl_nI, nle_T, nle_F, nlt_T, nlt_F, ↓reduceIte, or_true, true_or, or_false, false_or, and_true, true_and, and_false, false_and, not_true_eq_false, not_false_eq_true, or_self, and_self, true_implies, ite_self, ob_sI, ky_sI, kx_sI, ob_sA, ky_sA, kx_sA, upd_s, upd_n, rd_sI3, rd_sA3, rd_sI2, rd_sA2, rd_sL1, rd_sR1]
          exact s7 i hi
        · intro i hi
          simp (disch := omega) only [bE, bO, bV, bK, nI_lit, nI_add, lt_T, lt_F, le_T, le_F, eq_T, eq_F, ltm_T, ltm_F, lem_T, lem_F, eqm_F, meq_F, cl_nI, nle_T, nle_F, nlt_T, nlt_F, ↓reduceIte, or_true, true_or, or_false, false_or, and_true, true_and, and_false, false_and, not_true_eq_false, not_false_eq_true, or_self, and_self, true_implies, ite_self, ob_sI, ky_sI, kx_sI, ob_sA, ky_sA, kx_sA, upd_s, upd_n, rd_sI3, rd_sA3, rd_sI2, rd_sA2, rd_sL1, rd_sR1]
          by_cases hiL : i = bk
          · subst hiL
            exact ⟨t, ht, upd_s _ _ _, upd_s _ _ _, by rw [upd_s, upd_s]⟩
          · obtain ⟨t', z1, z2, z3, z4⟩ := s8 i (by omega)
            exact ⟨t', z1, by rw [upd_n hiL]; exact z2, by rw [upd_n hiL]; exact z3, by rw [upd_n hiL, upd_n hiL]; exact z4⟩
theorem q_write {n : Nat} {w : Mem} (h : Rel n w) (a b : Int32) : Same n w (f7_write a b) (f8_write a b) := by
  obtain ⟨r, w1, w2, e1, e2, e4, e3⟩ := w_tail h a b
  by_cases hb : b = -1
  · exact ⟨r, w1, w2, by unfold f7_write; rw [if_pos hb]; exact e1, by unfold f8_write; rw [if_pos hb]; exact e2, e3⟩
  · obtain ⟨⟨g, nv, K, Y, I, F, Fo, ro, pe, fe, fs, fg, h1, h2, h3, h4, h5, h6, h7⟩, hT, hF, hN⟩ := id h
    obtain ⟨⟨hnv, -⟩, -, -, -, -, a4, -, -, a7, -⟩ := h3
    have key : (b < nI 0 ∨ nI nv ≤ b) → Same n w (f7_write a b) (f8_write a b) := fun hz => by
      refine ⟨-1000000001, w, w, ?_, ?_, h.next (by omega)⟩
      · unfold f7_write
        rw [if_neg hb, rk_g h1 h2.1]; simp only [bK]; rw [has_F a4.1 hnv hz]; rfl
      · unfold f8_write
        rw [if_neg hb, vil_F a4.2 hnv hz]; rfl
    rcases ix3 b nv (by omega) with hz | hz | ⟨v, hv, rfl⟩
    · exact key (Or.inl hz)
    · exact key (Or.inr hz)
    · refine ⟨r, w1, w2, ?_, ?_, e3⟩
      · unfold f7_write
        rw [if_neg hb, rk_g h1 h2.1]; simp only [bK]; rw [has_T a4.1 hnv hv]
        exact e1
      · have hw : w1.1 32 3 0 = nI nv := by rw [e4]; exact a4.2
        unfold f8_write
        rw [if_neg hb, vil_T hw hnv hv]
        exact e2
