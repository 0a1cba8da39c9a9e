/-! keep, goBack -/
theorem kb_or0 (b0 b1 : Bool) : nI ((if b0 then 1 else 0) + (if b1 then 2 else 0)) ||| jshl (nI 1) (nI 0) = nI ((if true then 1 else 0) + (if b1 then 2 else 0)) := by cases b0 <;> cases b1 <;> decide
theorem kb_or1 (b0 b1 : Bool) : nI ((if b0 then 1 else 0) + (if b1 then 2 else 0)) ||| jshl (nI 1) (nI 1) = nI ((if b0 then 1 else 0) + (if true then 2 else 0)) := by cases b0 <;> cases b1 <;> decide
theorem kb_sh0 (b0 b1 : Bool) : jshr (nI ((if b0 then 1 else 0) + (if b1 then 2 else 0))) (nI 0) &&& nI 1 = if b0 then nI 1 else nI 0 := by cases b0 <;> cases b1 <;> decide
theorem kb_sh1 (b0 b1 : Bool) : jshr (nI ((if b0 then 1 else 0) + (if b1 then 2 else 0))) (nI 1) &&& nI 1 = if b1 then nI 1 else nI 0 := by cases b0 <;> cases b1 <;> decide
theorem RPa.clear {nv B B' : Nat} {w W : Mem} (h : RPa nv B w) (e1 : W.1 28 1 = w.1 28 1) (e2 : W.1 28 2 0 = nI 0) (e3 : W.1 32 29 0 = nI 0) : RPa nv B' W := by
  obtain ⟨nx, c, a1, a2, a3, a4, a5, a6⟩ := h
  exact ⟨nx, 0, a1, by omega, by rw [e1]; exact a3, e2, e3, fun u hu => absurd hu (by omega)⟩

theorem keep0 {n : Nat} {w : Mem} (hn : n < 100) (h : Rel n w) : Same n w (f7_keep (nI 0)) (f8_keep (nI 0)) := by
  obtain ⟨⟨g, nv, K, Y, I, F, Fo, ro, pe, fe, fs, fg, hC⟩, hT, hF, hN⟩ := id h
  obtain ⟨h1, h2, h3, h4, h5, h6, h7⟩ := id hC
  have hnv := h3.1.1
  have d0 := h4.dn
  obtain ⟨b0, b1, m1, m2, m3, m4, m5⟩ := h6
  have z := cp_ok (w := w) (d0 := 2) (d1 := 0) (by omega) (by rw [d0.1]; exact d0.2.1)
  generalize hW : sA (sA (sA (sO w 2 (cpT (w.1 0) (w.1 2))) 26 10 (upd (w.1 26 10) 0 (w.1 26 12 0))) 26 11 (upd (w.1 26 11) 0 (nI ((if true then 1 else 0) + (if b1 then 2 else 0))))) 28 2 (upd (w.1 28 2) 0 (nI 0)) = w1
  have o1 : ∀ d, d ≠ 2 → d ≠ 26 → d ≠ 28 → w1.1 d = w.1 d := fun d x1 x2 x3 => by rw [← hW, ob_sA x3, ob_sA x2, ob_sA x2, sO_n x1]
  have o2 : w1.2 = w.2 := by rw [← hW, sA_2, sA_2, sA_2, sO_2]
  have o3 : w1.1 28 1 = w.1 28 1 := by rw [← hW, ky_sA (by omega), ob_sA (by omega), ob_sA (by omega), sO_n (by omega)]
  have o4 : w1.1 28 2 0 = nI 0 := by rw [← hW, kx_sA, upd_s]
  have o5 : w1.1 2 = cpT (w.1 0) (w.1 2) := by rw [← hW, ob_sA (by omega), ob_sA (by omega), ob_sA (by omega), sO_s]
  have o6 : ∀ k, k ≠ 10 → k ≠ 11 → w1.1 26 k = w.1 26 k := fun k x1 x2 => by rw [← hW, ky_sA (by omega), ky_sA (by omega), ky_sA (by omega), sO_n (by omega)]
  have o7 : w1.1 26 10 = upd (w.1 26 10) 0 (w.1 26 12 0) := by rw [← hW, ky_sA (by omega), ky_sA (by omega), kx_sA]
  have o8 : w1.1 26 11 0 = nI ((if true then 1 else 0) + (if b1 then 2 else 0)) := by rw [← hW, ky_sA (by omega), kx_sA, upd_s]
  have w32 : w1.1 32 = w.1 32 := o1 32 (by omega) (by omega) (by omega)
  have u := k15 (w := w1) (N := w.1 32 11) (P := w.1 32 43) (i := 0) (by omega) (by rw [w32]) 103 0 100000 (by omega) (by omega)
  rw [cpi_0, sA_x (by rw [w32])] at u
  have hcp : ∀ k, k < 103 → upd (cpi (w.1 32 11) (w.1 32 43) 0 103) 103 (w.1 32 12 0) (0 + k) = w.1 32 11 k := fun k hk => by
    rw [upd_n (by omega)]
    unfold cpi
    rw [if_pos ⟨by omega, by omega⟩, show 0 + k - 104 * 0 = k by omega]
  have hco : ∀ k, k < 104 → upd (cpi (w.1 32 11) (w.1 32 43) 0 103) 103 (w.1 32 12 0) (104 + k) = w.1 32 43 (104 + k) := fun k hk => by
    rw [upd_n (by omega)]
    unfold cpi
    rw [if_neg (by omega)]
  refine ⟨1, w1, _, ?_, ?_, Rel.step2 (W := sA (sA (sA w1 32 43 (upd (cpi (w.1 32 11) (w.1 32 43) 0 103) 103 (w.1 32 12 0))) 32 44 (upd (w.1 32 44) 0 1)) 32 29 (upd (w.1 32 29) 0 (nI 0))) hC hT hF hN (fun d d1 d2 d3 d4 => ?_) (fun k hk => ?_) ?_ (fun k hk => ?_) ?_ ?_ ?_ ?_⟩
  · unfold f7_keep f3_clear
    have z' := kb_or0 b0 b1
    rw [show rb 26 = 2 from rfl]
    simp (disch := omega) only [bE, bO, bV, bK, nI_lit, nI_add, lt_T, lt_F, le_T, le_F, eq_T, eq_F, ltm_T, ltm_F, lem_T, lem_F, eqm_F, meq_F, cl_nI, nle_T, nle_F, nlt_T, nlt_F, ↓reduceIte, or_true, true_or, or_false, false_or, and_true, true_and, and_false, false_and, not_true_eq_false, not_false_eq_true, or_self, and_self, true_implies, ite_self, z, sI_sA, ky_sA, kx_sA, sO_n, m1, z']
    rw [← hW]
    rfl
  · unfold f8_keep
    rw [in0_T (m := 1) (b := 1) _ rfl (by omega) (by omega)]
    simp (disch := omega) only [bE, bO, bV, bK, nI_lit, nI_add, lt_T, lt_F, le_T, le_F, eq_T, eq_F, ltm_T, ltm_F, lem_T, lem_F, eqm_F, meq_F, cl_nI, nle_T, nle_F, nlt_T, nlt_F, ↓reduceIte, or_true, true_or, or_false, false_or, and_true, true_and, and_false, false_and, not_true_eq_false, not_false_eq_true, or_self, and_self, true_implies, ite_self]
    refine u.trans ?_
    unfold f8_keep_44
    simp (disch := omega) only [bE, bO, bV, bK, nI_lit, nI_add, lt_T, lt_F, le_T, le_F, eq_T, eq_F, ltm_T, ltm_F, lem_T, lem_F, eqm_F, meq_F, cl_nI, nle_T, nle_F, nlt_T, nlt_F, ↓reduceIte, or_true, true_or, or_false, false_or, and_true, true_and, and_false, false_and, not_true_eq_false, not_false_eq_true, or_self, and_self, true_implies, ite_self, pk_mul, sI_sA, sA_sA, ky_sA, kx_sA, w32]
    try rfl
  · rw [ob_sA d4, ob_sA d4, ob_sA d4, o1 d (by omega) d3 d2]
  · rw [ob_sA (by omega), ob_sA (by omega), ob_sA (by omega), o6 k (by omega) (by omega)]
  · rw [sA_2, sA_2, sA_2, o2]
  · rw [ky_sA (by omega), ky_sA (by omega), ky_sA (by omega), w32]
  · rw [ky_sA (by omega), ky_sA (by omega), ky_sA (by omega), w32, ob_sA (by omega), ob_sA (by omega), ob_sA (by omega), o1 0 (by omega) (by omega) (by omega)]
    exact h4.mono (by omega)
  · refine h5.clear ?_ ?_ ?_
    · rw [ob_sA (by omega), ob_sA (by omega), ob_sA (by omega)]; exact o3
    · rw [ob_sA (by omega), ob_sA (by omega), ob_sA (by omega)]; exact o4
    · rw [kx_sA, upd_s]
  · refine ⟨true, b1, ?_, ?_, ?_, ?_, ?_⟩
    · rw [ob_sA (by omega), ob_sA (by omega), ob_sA (by omega)]; exact o8
    · rw [ky_sA (by omega), kx_sA, upd_s]; rfl
    · rw [ky_sA (by omega), kx_sA, upd_n (by omega)]; exact m3
    · intro _
      refine ⟨?_, ?_, ?_⟩
      · rw [ky_sA (by omega), ky_sA (by omega), kx_sA, ob_sA (by omega), ob_sA (by omega), ob_sA (by omega), o5]
        exact ((h4.cp hnv).cong hnv (fun k hk => (by have y := hcp k hk; rw [Nat.zero_add] at y; exact y))).mono (by omega)
      · simp (disch := omega) only [ky_sA, kx_sA, o7, upd_s]; exact h7.1
      · rw [ky_sA (by omega), ky_sA (by omega), kx_sA, upd_s]; exact h7.2
    · intro hb
      have y := m5 hb
      refine ⟨?_, ?_, ?_⟩
      · rw [ky_sA (by omega), ky_sA (by omega), kx_sA, ob_sA (by omega), ob_sA (by omega), ob_sA (by omega), o1 3 (by omega) (by omega) (by omega)]
        exact (y.1.cong hnv (fun k hk => hco k (by omega))).mono (by omega)
      · have c := hco 103 (by omega)
        simp (disch := omega) only [ky_sA, kx_sA, o7]; exact (upd_n (by omega)).trans (y.2.1.trans c.symm)
      · rw [ky_sA (by omega), ky_sA (by omega), kx_sA, show (207 : Nat) = 104 + 103 from rfl, hco 103 (by omega)]; exact y.2.2
  · unfold RSd
    rw [ob_sA (by omega), ob_sA (by omega), ob_sA (by omega), o6 12 (by omega) (by omega), ky_sA (by omega), ky_sA (by omega), ky_sA (by omega), w32]
    exact h7
theorem back0 {n : Nat} {w : Mem} (hn : n < 100) (h : Rel n w) : Same n w (f7_goBack (nI 0)) (f8_goBack (nI 0)) := by
  obtain ⟨⟨g, nv, K, Y, I, F, Fo, ro, pe, fe, fs, fg, hC⟩, hT, hF, hN⟩ := id h
  obtain ⟨h1, h2, h3, h4, h5, h6, h7⟩ := id hC
  have hnv := h3.1.1
  have h60 := h6
  obtain ⟨b0, b1, m1, m2, m3, m4, m5⟩ := h6
  have ks := kb_sh0 b0 b1
  cases hb : b0 with
  | false =>
    rw [hb, if_neg (by decide)] at m2
    refine ⟨-1000000003, w, w, ?_, ?_, h.next (by omega)⟩
    · unfold f7_goBack
      rw [show (if b0 = true then nI 1 else nI 0) = nI 0 by rw [hb]; rfl] at ks
      simp (disch := omega) only [bE, bO, bV, bK, nI_lit, nI_add, lt_T, lt_F, le_T, le_F, eq_T, eq_F, ltm_T, ltm_F, lem_T, lem_F, eqm_F, meq_F, cl_nI, nle_T, nle_F, nlt_T, nlt_F, ↓reduceIte, or_true, true_or, or_false, false_or, and_true, true_and, and_false, false_and, not_true_eq_false, not_false_eq_true, or_self, and_self, true_implies, ite_self, m1, ks]
    · unfold f8_goBack
      rw [in0_T (m := 1) (b := 1) _ rfl (by omega) (by omega)]
      simp (disch := omega) only [bE, bO, bV, bK, nI_lit, nI_add, lt_T, lt_F, le_T, le_F, eq_T, eq_F, ltm_T, ltm_F, lem_T, lem_F, eqm_F, meq_F, cl_nI, nle_T, nle_F, nlt_T, nlt_F, ↓reduceIte, or_true, true_or, or_false, false_or, and_true, true_and, and_false, false_and, not_true_eq_false, not_false_eq_true, or_self, and_self, true_implies, ite_self, m2]
  | true =>
    rw [hb, if_pos rfl] at m2
    rw [show (if b0 = true then nI 1 else nI 0) = nI 1 by rw [hb]; rfl] at ks
    have y := m4 hb
    have dy := y.1.dn
    have z := cp_ok (w := w) (d0 := 0) (d1 := 2) (by omega) (by rw [dy.1]; exact dy.2.1)
    generalize hW : sA (sA (sO w 0 (cpT (w.1 2) (w.1 0))) 26 12 (upd (w.1 26 12) 0 (w.1 26 10 0))) 28 2 (upd (w.1 28 2) 0 (nI 0)) = w1
    have o1 : ∀ d, d ≠ 0 → d ≠ 26 → d ≠ 28 → w1.1 d = w.1 d := fun d x1 x2 x3 => by rw [← hW, ob_sA x3, ob_sA x2, sO_n x1]
    have o2 : w1.2 = w.2 := by rw [← hW, sA_2, sA_2, sO_2]
    have o3 : w1.1 28 1 = w.1 28 1 := by rw [← hW, ky_sA (by omega), ob_sA (by omega), sO_n (by omega)]
    have o4 : w1.1 28 2 0 = nI 0 := by rw [← hW, kx_sA, upd_s]
    have o5 : w1.1 0 = cpT (w.1 2) (w.1 0) := by rw [← hW, ob_sA (by omega), ob_sA (by omega), sO_s]
    have o6 : ∀ k, k ≠ 12 → w1.1 26 k = w.1 26 k := fun k x1 => by rw [← hW, ky_sA (by omega), ky_sA (by omega), sO_n (by omega)]
    have o7 : w1.1 26 12 0 = w.1 26 10 0 := by rw [← hW, ky_sA (by omega), kx_sA, upd_s]
    have w32 : w1.1 32 = w.1 32 := o1 32 (by omega) (by omega) (by omega)
    have u := g27 (w := w1) (N := w.1 32 11) (P := w.1 32 43) (i := 0) (by omega) (by rw [w32]) 103 0 100000 (by omega) (by omega)
    rw [cpr_0, sA_x (by rw [w32])] at u
    refine ⟨1, w1, _, ?_, ?_, Rel.step2 (W := sA (sA (sA w1 32 11 (cpr (fun k => w.1 32 43 (104 * 0 + k)) (w.1 32 11) 103)) 32 12 (upd (w.1 32 12) 0 (w.1 32 43 103))) 32 29 (upd (w.1 32 29) 0 (nI 0))) hC hT hF hN (fun d d1 d2 d3 d4 => ?_) (fun k hk => ?_) ?_ (fun k hk => ?_) ?_ ?_ ?_ ?_⟩
    · unfold f7_goBack f3_clear
      rw [show rb 26 = 2 from rfl]
      simp (disch := omega) only [bE, bO, bV, bK, nI_lit, nI_add, lt_T, lt_F, le_T, le_F, eq_T, eq_F, ltm_T, ltm_F, lem_T, lem_F, eqm_F, meq_F, cl_nI, nle_T, nle_F, nlt_T, nlt_F, ↓reduceIte, or_true, true_or, or_false, false_or, and_true, true_and, and_false, false_and, not_true_eq_false, not_false_eq_true, or_self, and_self, true_implies, ite_self, m1, ks, z, sI_sA, ky_sA, kx_sA, sO_n]
      rw [← hW]
      try rfl
    · unfold f8_goBack
      rw [in0_T (m := 1) (b := 1) _ rfl (by omega) (by omega)]
      simp (disch := omega) only [bE, bO, bV, bK, nI_lit, nI_add, lt_T, lt_F, le_T, le_F, eq_T, eq_F, ltm_T, ltm_F, lem_T, lem_F, eqm_F, meq_F, cl_nI, nle_T, nle_F, nlt_T, nlt_F, ↓reduceIte, or_true, true_or, or_false, false_or, and_true, true_and, and_false, false_and, not_true_eq_false, not_false_eq_true, or_self, and_self, true_implies, ite_self, w32, m2]
      refine u.trans ?_
      unfold f8_goBack_56
      simp (disch := omega) only [bE, bO, bV, bK, nI_lit, nI_add, lt_T, lt_F, le_T, le_F, eq_T, eq_F, ltm_T, ltm_F, lem_T, lem_F, eqm_F, meq_F, cl_nI, nle_T, nle_F, nlt_T, nlt_F, ↓reduceIte, or_true, true_or, or_false, false_or, and_true, true_and, and_false, false_and, not_true_eq_false, not_false_eq_true, or_self, and_self, true_implies, ite_self, pk_mul, sI_A, sI_sA, ky_sA, kx_sA, w32]
      try rfl
    · rw [ob_sA d4, ob_sA d4, ob_sA d4, o1 d (by omega) d3 d2]
    · rw [ob_sA (by omega), ob_sA (by omega), ob_sA (by omega), o6 k (by omega)]
    · rw [sA_2, sA_2, sA_2, o2]
    · rw [ky_sA (by omega), ky_sA (by omega), ky_sA (by omega), w32]
    · rw [ky_sA (by omega), ky_sA (by omega), kx_sA, ob_sA (by omega), ob_sA (by omega), ob_sA (by omega), o5]
      exact ((y.1.cp hnv).cong hnv (fun k hk => (if_pos hk).trans (by rw [Nat.mul_zero, Nat.zero_add]))).mono (by omega)
    · refine h5.clear ?_ ?_ ?_
      · rw [ob_sA (by omega), ob_sA (by omega), ob_sA (by omega)]; exact o3
      · rw [ob_sA (by omega), ob_sA (by omega), ob_sA (by omega)]; exact o4
      · rw [kx_sA, upd_s]
    · refine h60.same ?_ ?_ ?_ ?_ ?_ ?_ (by omega)
      · rw [ob_sA (by omega), ob_sA (by omega), ob_sA (by omega), o1 2 (by omega) (by omega) (by omega)]
      · rw [ob_sA (by omega), ob_sA (by omega), ob_sA (by omega), o1 3 (by omega) (by omega) (by omega)]
      · rw [ob_sA (by omega), ob_sA (by omega), ob_sA (by omega), o6 10 (by omega)]
      · rw [ob_sA (by omega), ob_sA (by omega), ob_sA (by omega), o6 11 (by omega)]
      · rw [ky_sA (by omega), ky_sA (by omega), ky_sA (by omega), w32]
      · rw [ky_sA (by omega), ky_sA (by omega), ky_sA (by omega), w32]
    · unfold RSd
      rw [ob_sA (by omega), ob_sA (by omega), ob_sA (by omega), o7, ky_sA (by omega), kx_sA, upd_s]
      exact y.2
theorem keep1 {n : Nat} {w : Mem} (hn : n < 100) (h : Rel n w) : Same n w (f7_keep (nI 1)) (f8_keep (nI 1)) := by
  obtain ⟨⟨g, nv, K, Y, I, F, Fo, ro, pe, fe, fs, fg, hC⟩, hT, hF, hN⟩ := id h
  obtain ⟨h1, h2, h3, h4, h5, h6, h7⟩ := id hC
  have hnv := h3.1.1
  have d0 := h4.dn
  obtain ⟨b0, b1, m1, m2, m3, m4, m5⟩ := h6
  have z := cp_ok (w := w) (d0 := 3) (d1 := 0) (by omega) (by rw [d0.1]; exact d0.2.1)
  generalize hW : sA (sA (sA (sO w 3 (cpT (w.1 0) (w.1 3))) 26 10 (upd (w.1 26 10) 1 (w.1 26 12 0))) 26 11 (upd (w.1 26 11) 0 (nI ((if b0 then 1 else 0) + (if true then 2 else 0))))) 28 2 (upd (w.1 28 2) 0 (nI 0)) = w1
  have o1 : ∀ d, d ≠ 3 → d ≠ 26 → d ≠ 28 → w1.1 d = w.1 d := fun d x1 x2 x3 => by rw [← hW, ob_sA x3, ob_sA x2, ob_sA x2, sO_n x1]
  have o2 : w1.2 = w.2 := by rw [← hW, sA_2, sA_2, sA_2, sO_2]
  have o3 : w1.1 28 1 = w.1 28 1 := by rw [← hW, ky_sA (by omega), ob_sA (by omega), ob_sA (by omega), sO_n (by omega)]
  have o4 : w1.1 28 2 0 = nI 0 := by rw [← hW, kx_sA, upd_s]
  have o5 : w1.1 3 = cpT (w.1 0) (w.1 3) := by rw [← hW, ob_sA (by omega), ob_sA (by omega), ob_sA (by omega), sO_s]
  have o6 : ∀ k, k ≠ 10 → k ≠ 11 → w1.1 26 k = w.1 26 k := fun k x1 x2 => by rw [← hW, ky_sA (by omega), ky_sA (by omega), ky_sA (by omega), sO_n (by omega)]
  have o7 : w1.1 26 10 = upd (w.1 26 10) 1 (w.1 26 12 0) := by rw [← hW, ky_sA (by omega), ky_sA (by omega), kx_sA]
  have o8 : w1.1 26 11 0 = nI ((if b0 then 1 else 0) + (if true then 2 else 0)) := by rw [← hW, ky_sA (by omega), kx_sA, upd_s]
  have w32 : w1.1 32 = w.1 32 := o1 32 (by omega) (by omega) (by omega)
  have u := k15 (w := w1) (N := w.1 32 11) (P := w.1 32 43) (i := 1) (by omega) (by rw [w32]) 103 0 100000 (by omega) (by omega)
  rw [cpi_0, sA_x (by rw [w32])] at u
  have hcp : ∀ k, k < 103 → upd (cpi (w.1 32 11) (w.1 32 43) 1 103) 207 (w.1 32 12 0) (104 + k) = w.1 32 11 k := fun k hk => by
    rw [upd_n (by omega)]
    unfold cpi
    rw [if_pos ⟨by omega, by omega⟩, show 104 + k - 104 * 1 = k by omega]
  have hco : ∀ k, k < 104 → upd (cpi (w.1 32 11) (w.1 32 43) 1 103) 207 (w.1 32 12 0) (0 + k) = w.1 32 43 (0 + k) := fun k hk => by
    rw [upd_n (by omega)]
    unfold cpi
    rw [if_neg (by omega)]
  refine ⟨1, w1, _, ?_, ?_, Rel.step2 (W := sA (sA (sA w1 32 43 (upd (cpi (w.1 32 11) (w.1 32 43) 1 103) 207 (w.1 32 12 0))) 32 44 (upd (w.1 32 44) 1 1)) 32 29 (upd (w.1 32 29) 0 (nI 0))) hC hT hF hN (fun d d1 d2 d3 d4 => ?_) (fun k hk => ?_) ?_ (fun k hk => ?_) ?_ ?_ ?_ ?_⟩
  · unfold f7_keep f3_clear
    have z' := kb_or1 b0 b1
    rw [show rb 26 = 2 from rfl]
    simp (disch := omega) only [bE, bO, bV, bK, nI_lit, nI_add, lt_T, lt_F, le_T, le_F, eq_T, eq_F, ltm_T, ltm_F, lem_T, lem_F, eqm_F, meq_F, cl_nI, nle_T, nle_F, nlt_T, nlt_F, ↓reduceIte, or_true, true_or, or_false, false_or, and_true, true_and, and_false, false_and, not_true_eq_false, not_false_eq_true, or_self, and_self, true_implies, ite_self, z, sI_sA, ky_sA, kx_sA, sO_n, m1, z']
    rw [← hW]
    rfl
  · unfold f8_keep
    rw [in0_T (m := 1) (b := 1) _ rfl (by omega) (by omega)]
    simp (disch := omega) only [bE, bO, bV, bK, nI_lit, nI_add, lt_T, lt_F, le_T, le_F, eq_T, eq_F, ltm_T, ltm_F, lem_T, lem_F, eqm_F, meq_F, cl_nI, nle_T, nle_F, nlt_T, nlt_F, ↓reduceIte, or_true, true_or, or_false, false_or, and_true, true_and, and_false, false_and, not_true_eq_false, not_false_eq_true, or_self, and_self, true_implies, ite_self]
    refine u.trans ?_
    unfold f8_keep_44
    simp (disch := omega) only [bE, bO, bV, bK, nI_lit, nI_add, lt_T, lt_F, le_T, le_F, eq_T, eq_F, ltm_T, ltm_F, lem_T, lem_F, eqm_F, meq_F, cl_nI, nle_T, nle_F, nlt_T, nlt_F, ↓reduceIte, or_true, true_or, or_false, false_or, and_true, true_and, and_false, false_and, not_true_eq_false, not_false_eq_true, or_self, and_self, true_implies, ite_self, pk_mul, sI_sA, sA_sA, ky_sA, kx_sA, w32]
    try rfl
  · rw [ob_sA d4, ob_sA d4, ob_sA d4, o1 d (by omega) d3 d2]
  · rw [ob_sA (by omega), ob_sA (by omega), ob_sA (by omega), o6 k (by omega) (by omega)]
  · rw [sA_2, sA_2, sA_2, o2]
  · rw [ky_sA (by omega), ky_sA (by omega), ky_sA (by omega), w32]
  · rw [ky_sA (by omega), ky_sA (by omega), ky_sA (by omega), w32, ob_sA (by omega), ob_sA (by omega), ob_sA (by omega), o1 0 (by omega) (by omega) (by omega)]
    exact h4.mono (by omega)
  · refine h5.clear ?_ ?_ ?_
    · rw [ob_sA (by omega), ob_sA (by omega), ob_sA (by omega)]; exact o3
    · rw [ob_sA (by omega), ob_sA (by omega), ob_sA (by omega)]; exact o4
    · rw [kx_sA, upd_s]
  · refine ⟨b0, true, ?_, ?_, ?_, ?_, ?_⟩
    · rw [ob_sA (by omega), ob_sA (by omega), ob_sA (by omega)]; exact o8
    · rw [ky_sA (by omega), kx_sA, upd_n (by omega)]; exact m2
    · rw [ky_sA (by omega), kx_sA, upd_s]; rfl
    · intro hb
      have y := m4 hb
      refine ⟨?_, ?_, ?_⟩
      · rw [ky_sA (by omega), ky_sA (by omega), kx_sA, ob_sA (by omega), ob_sA (by omega), ob_sA (by omega), o1 2 (by omega) (by omega) (by omega)]
        exact (y.1.cong hnv (fun k hk => (by have y := hco k (by omega); rw [Nat.zero_add] at y; exact y))).mono (by omega)
      · have c := hco 103 (by omega)
        simp (disch := omega) only [ky_sA, kx_sA, o7]; exact (upd_n (by omega)).trans (y.2.1.trans c.symm)
      · rw [ky_sA (by omega), ky_sA (by omega), kx_sA, show (103 : Nat) = 0 + 103 from rfl, hco 103 (by omega)]; exact y.2.2
    · intro _
      refine ⟨?_, ?_, ?_⟩
      · rw [ky_sA (by omega), ky_sA (by omega), kx_sA, ob_sA (by omega), ob_sA (by omega), ob_sA (by omega), o5]
        exact ((h4.cp hnv).cong hnv (fun k hk => hcp k hk)).mono (by omega)
      · simp (disch := omega) only [ky_sA, kx_sA, o7, upd_s]; exact h7.1
      · rw [ky_sA (by omega), ky_sA (by omega), kx_sA, upd_s]; exact h7.2
  · unfold RSd
    rw [ob_sA (by omega), ob_sA (by omega), ob_sA (by omega), o6 12 (by omega) (by omega), ky_sA (by omega), ky_sA (by omega), ky_sA (by omega), w32]
    exact h7
theorem back1 {n : Nat} {w : Mem} (hn : n < 100) (h : Rel n w) : Same n w (f7_goBack (nI 1)) (f8_goBack (nI 1)) := by
  obtain ⟨⟨g, nv, K, Y, I, F, Fo, ro, pe, fe, fs, fg, hC⟩, hT, hF, hN⟩ := id h
  obtain ⟨h1, h2, h3, h4, h5, h6, h7⟩ := id hC
  have hnv := h3.1.1
  have h60 := h6
  obtain ⟨b0, b1, m1, m2, m3, m4, m5⟩ := h6
  have ks := kb_sh1 b0 b1
  cases hb : b1 with
  | false =>
    rw [hb, if_neg (by decide)] at m3
    refine ⟨-1000000003, w, w, ?_, ?_, h.next (by omega)⟩
    · unfold f7_goBack
      rw [show (if b1 = true then nI 1 else nI 0) = nI 0 by rw [hb]; rfl] at ks
      simp (disch := omega) only [bE, bO, bV, bK, nI_lit, nI_add, lt_T, lt_F, le_T, le_F, eq_T, eq_F, ltm_T, ltm_F, lem_T, lem_F, eqm_F, meq_F, cl_nI, nle_T, nle_F, nlt_T, nlt_F, ↓reduceIte, or_true, true_or, or_false, false_or, and_true, true_and, and_false, false_and, not_true_eq_false, not_false_eq_true, or_self, and_self, true_implies, ite_self, m1, ks]
    · unfold f8_goBack
      rw [in0_T (m := 1) (b := 1) _ rfl (by omega) (by omega)]
      simp (disch := omega) only [bE, bO, bV, bK, nI_lit, nI_add, lt_T, lt_F, le_T, le_F, eq_T, eq_F, ltm_T, ltm_F, lem_T, lem_F, eqm_F, meq_F, cl_nI, nle_T, nle_F, nlt_T, nlt_F, ↓reduceIte, or_true, true_or, or_false, false_or, and_true, true_and, and_false, false_and, not_true_eq_false, not_false_eq_true, or_self, and_self, true_implies, ite_self, m3]
  | true =>
    rw [hb, if_pos rfl] at m3
    rw [show (if b1 = true then nI 1 else nI 0) = nI 1 by rw [hb]; rfl] at ks
    have y := m5 hb
    have dy := y.1.dn
    have z := cp_ok (w := w) (d0 := 0) (d1 := 3) (by omega) (by rw [dy.1]; exact dy.2.1)
    generalize hW : sA (sA (sO w 0 (cpT (w.1 3) (w.1 0))) 26 12 (upd (w.1 26 12) 0 (w.1 26 10 1))) 28 2 (upd (w.1 28 2) 0 (nI 0)) = w1
    have o1 : ∀ d, d ≠ 0 → d ≠ 26 → d ≠ 28 → w1.1 d = w.1 d := fun d x1 x2 x3 => by rw [← hW, ob_sA x3, ob_sA x2, sO_n x1]
    have o2 : w1.2 = w.2 := by rw [← hW, sA_2, sA_2, sO_2]
    have o3 : w1.1 28 1 = w.1 28 1 := by rw [← hW, ky_sA (by omega), ob_sA (by omega), sO_n (by omega)]
    have o4 : w1.1 28 2 0 = nI 0 := by rw [← hW, kx_sA, upd_s]
    have o5 : w1.1 0 = cpT (w.1 3) (w.1 0) := by rw [← hW, ob_sA (by omega), ob_sA (by omega), sO_s]
    have o6 : ∀ k, k ≠ 12 → w1.1 26 k = w.1 26 k := fun k x1 => by rw [← hW, ky_sA (by omega), ky_sA (by omega), sO_n (by omega)]
    have o7 : w1.1 26 12 0 = w.1 26 10 1 := by rw [← hW, ky_sA (by omega), kx_sA, upd_s]
    have w32 : w1.1 32 = w.1 32 := o1 32 (by omega) (by omega) (by omega)
    have u := g27 (w := w1) (N := w.1 32 11) (P := w.1 32 43) (i := 1) (by omega) (by rw [w32]) 103 0 100000 (by omega) (by omega)
    rw [cpr_0, sA_x (by rw [w32])] at u
    refine ⟨1, w1, _, ?_, ?_, Rel.step2 (W := sA (sA (sA w1 32 11 (cpr (fun k => w.1 32 43 (104 * 1 + k)) (w.1 32 11) 103)) 32 12 (upd (w.1 32 12) 0 (w.1 32 43 207))) 32 29 (upd (w.1 32 29) 0 (nI 0))) hC hT hF hN (fun d d1 d2 d3 d4 => ?_) (fun k hk => ?_) ?_ (fun k hk => ?_) ?_ ?_ ?_ ?_⟩
    · unfold f7_goBack f3_clear
      rw [show rb 26 = 2 from rfl]
      simp (disch := omega) only [bE, bO, bV, bK, nI_lit, nI_add, lt_T, lt_F, le_T, le_F, eq_T, eq_F, ltm_T, ltm_F, lem_T, lem_F, eqm_F, meq_F, cl_nI, nle_T, nle_F, nlt_T, nlt_F, ↓reduceIte, or_true, true_or, or_false, false_or, and_true, true_and, and_false, false_and, not_true_eq_false, not_false_eq_true, or_self, and_self, true_implies, ite_self, m1, ks, z, sI_sA, ky_sA, kx_sA, sO_n]
      rw [← hW]
      try rfl
    · unfold f8_goBack
      rw [in0_T (m := 1) (b := 1) _ rfl (by omega) (by omega)]
      simp (disch := omega) only [bE, bO, bV, bK, nI_lit, nI_add, lt_T, lt_F, le_T, le_F, eq_T, eq_F, ltm_T, ltm_F, lem_T, lem_F, eqm_F, meq_F, cl_nI, nle_T, nle_F, nlt_T, nlt_F, ↓reduceIte, or_true, true_or, or_false, false_or, and_true, true_and, and_false, false_and, not_true_eq_false, not_false_eq_true, or_self, and_self, true_implies, ite_self, w32, m3]
      refine u.trans ?_
      unfold f8_goBack_56
      simp (disch := omega) only [bE, bO, bV, bK, nI_lit, nI_add, lt_T, lt_F, le_T, le_F, eq_T, eq_F, ltm_T, ltm_F, lem_T, lem_F, eqm_F, meq_F, cl_nI, nle_T, nle_F, nlt_T, nlt_F, ↓reduceIte, or_true, true_or, or_false, false_or, and_true, true_and, and_false, false_and, not_true_eq_false, not_false_eq_true, or_self, and_self, true_implies, ite_self, pk_mul, sI_A, sI_sA, ky_sA, kx_sA, w32]
      try rfl
    · rw [ob_sA d4, ob_sA d4, ob_sA d4, o1 d (by omega) d3 d2]
    · rw [ob_sA (by omega), ob_sA (by omega), ob_sA (by omega), o6 k (by omega)]
    · rw [sA_2, sA_2, sA_2, o2]
    · rw [ky_sA (by omega), ky_sA (by omega), ky_sA (by omega), w32]
    · rw [ky_sA (by omega), ky_sA (by omega), kx_sA, ob_sA (by omega), ob_sA (by omega), ob_sA (by omega), o5]
      exact ((y.1.cp hnv).cong hnv (fun k hk => (if_pos hk).trans (by rfl))).mono (by omega)
    · refine h5.clear ?_ ?_ ?_
      · rw [ob_sA (by omega), ob_sA (by omega), ob_sA (by omega)]; exact o3
      · rw [ob_sA (by omega), ob_sA (by omega), ob_sA (by omega)]; exact o4
      · rw [kx_sA, upd_s]
    · refine h60.same ?_ ?_ ?_ ?_ ?_ ?_ (by omega)
      · rw [ob_sA (by omega), ob_sA (by omega), ob_sA (by omega), o1 2 (by omega) (by omega) (by omega)]
      · rw [ob_sA (by omega), ob_sA (by omega), ob_sA (by omega), o1 3 (by omega) (by omega) (by omega)]
      · rw [ob_sA (by omega), ob_sA (by omega), ob_sA (by omega), o6 10 (by omega)]
      · rw [ob_sA (by omega), ob_sA (by omega), ob_sA (by omega), o6 11 (by omega)]
      · rw [ky_sA (by omega), ky_sA (by omega), ky_sA (by omega), w32]
      · rw [ky_sA (by omega), ky_sA (by omega), ky_sA (by omega), w32]
    · unfold RSd
      rw [ob_sA (by omega), ob_sA (by omega), ob_sA (by omega), o7, ky_sA (by omega), kx_sA, upd_s]
      exact y.2
theorem q_keep {n : Nat} {w : Mem} (hn : n < 100) (h : Rel n w) (a : Int32) : Same n w (f7_keep a) (f8_keep a) := by
  rcases ix3 a 2 (by omega) with ha | ha | ⟨t, ht, rfl⟩
  · exact ⟨_, w, w, by unfold f7_keep; rw [if_pos (show a < 0 from ha)], by unfold f8_keep; rw [in_neg w ha]; rfl, h.next (by omega)⟩
  · refine ⟨-1000000001, w, w, ?_, by unfold f8_keep; rw [in_big (m := 1) (b := 1) w rfl (by omega) ha]; rfl, h.next (by omega)⟩
    unfold f7_keep
    rw [if_neg (big_nlt (by omega) ha), if_pos (show 2 ≤ a from ha)]
  · rcases (show t = 0 ∨ t = 1 by omega) with rfl | rfl
    · exact keep0 hn h
    · exact keep1 hn h
theorem q_goBack {n : Nat} {w : Mem} (hn : n < 100) (h : Rel n w) (a : Int32) : Same n w (f7_goBack a) (f8_goBack a) := by
  rcases ix3 a 2 (by omega) with ha | ha | ⟨t, ht, rfl⟩
  · exact ⟨_, w, w, by unfold f7_goBack; rw [if_pos (show a < 0 from ha)], by unfold f8_goBack; rw [in_neg w ha]; rfl, h.next (by omega)⟩
  · refine ⟨-1000000001, w, w, ?_, by unfold f8_goBack; rw [in_big (m := 1) (b := 1) w rfl (by omega) ha]; rfl, h.next (by omega)⟩
    unfold f7_goBack
    rw [if_neg (big_nlt (by omega) ha), if_pos (show 2 ≤ a from ha)]
  · rcases (show t = 0 ∨ t = 1 by omega) with rfl | rfl
    · exact back0 hn h
    · exact back1 hn h
