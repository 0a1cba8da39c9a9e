/-! judge, odds -/
theorem lt60 {dy t : Nat} (hd : dy < 1000000000) (ht : t < 1000000000) : (nI t < nI dy - nI 60) ↔ t + 60 < dy := by
  rw [Int32.lt_iff_toInt_lt, pk_sub_toInt (by omega) (by omega), nI_ti (by omega)]
  omega
theorem q_judge {n : Nat} {w : Mem} (hn : n < 100) (h : Rel n w) : Same n w f7_judge f8_judge := by
  obtain ⟨⟨g, nv, K, Y, I, F, Fo, ro, pe, fe, fs, fg, h1, h2, h3, h4, h5, h6, h7⟩, hT, hF, hN⟩ := id h
  obtain ⟨dy, wt, fa, em, sh, st, k1, -, -, -, -, hst, b1, -, -, -, -, b6, -, b12, -, -, b15⟩ := h4
  obtain ⟨s, b, s1, s2, s3, s4, s5, s6, s7, s8⟩ := hN
  have hl : ∀ k i m, i + k = b → k < m → ∃ r, f2_firstWrong_2 0 m (nI i) w = some (r, w) ∧ f8_judge_2 m (nI i) w = some (r, w) := by
    intro k
    induction k with
    | zero =>
      intro i m hi hm
      obtain ⟨m, rfl⟩ : ∃ x, m = x + 1 := ⟨m - 1, by omega⟩
      obtain rfl : i = b := by omega
      refine ⟨-1, ?_, ?_⟩
      · rw [f2_firstWrong_2]
        simp (disch := omega) only [bE, bO, bV, bK, nI_lit, nI_add, lt_T, lt_F, le_T, le_F, eq_T, eq_F, ltm_T, ltm_F, lem_T, lem_F, eqm_F, meq_F, cl_nI, nle_T, nle_F, nlt_T, nlt_F, ↓reduceIte, or_true, true_or, or_false, false_or, and_true, true_and, and_false, false_and, not_true_eq_false, not_false_eq_true, or_self, and_self, true_implies, ite_self, s5]
      · rw [f8_judge_2]
        simp (disch := omega) only [bE, bO, bV, bK, nI_lit, nI_add, lt_T, lt_F, le_T, le_F, eq_T, eq_F, ltm_T, ltm_F, lem_T, lem_F, eqm_F, meq_F, cl_nI, nle_T, nle_F, nlt_T, nlt_F, ↓reduceIte, or_true, true_or, or_false, false_or, and_true, true_and, and_false, false_and, not_true_eq_false, not_false_eq_true, or_self, and_self, true_implies, ite_self, s6]
    | succ k ih =>
      intro i m hi hm
      obtain ⟨m, rfl⟩ : ∃ x, m = x + 1 := ⟨m - 1, by omega⟩
      obtain ⟨t, t1, t2, t3, t4⟩ := s8 i (by omega)
      have l6 := lt60 (dy := dy) (t := t) (by omega) (by omega)
      by_cases hla : late dy t
      · have hl2 := hla
        unfold late at hl2
        have c1 := lat_T b1.1 (by omega) hla
        have c2 := bon_T b1.1 (by omega) hla
        have c3 := mbl_T b1.2 (by omega) hla
        have c4 := b15 (t % 60) (by omega) (by omega) (by omega)
        have l7 : (nI t < nI dy - nI 60) = False := eq_false (fun z => absurd (l6.mp z) (by omega))
        by_cases he : w.1 32 11 (43 + t % 60) = w.1 32 42 i
        · obtain ⟨r, r1, r2⟩ := ih (i + 1) m (by omega) (by omega)
          refine ⟨r, ?_, ?_⟩
          · rw [f2_firstWrong_2]
            simp (disch := omega) only [bE, bO, bV, bK, nI_lit, nI_add, lt_T, lt_F, le_T, le_F, eq_T, eq_F, ltm_T, ltm_F, lem_T, lem_F, eqm_F, meq_F, cl_nI, nle_T, nle_F, nlt_T, nlt_F, ↓reduceIte, or_true, true_or, or_false, false_or, and_true, true_and, and_false, false_and, not_true_eq_false, not_false_eq_true, or_self, and_self, true_implies, ite_self, s5, t2, c1, c2, c4, t4, he]
            exact r1
          · rw [f8_judge_2]
            unfold f8_judge_48
            simp (disch := omega) only [bE, bO, bV, bK, nI_lit, nI_add, lt_T, lt_F, le_T, le_F, eq_T, eq_F, ltm_T, ltm_F, lem_T, lem_F, eqm_F, meq_F, cl_nI, nle_T, nle_F, nlt_T, nlt_F, ↓reduceIte, or_true, true_or, or_false, false_or, and_true, true_and, and_false, false_and, not_true_eq_false, not_false_eq_true, or_self, and_self, true_implies, ite_self, s6, b1.2, t3, l7, c3, he]
            exact r2
        · have he2 := eq_false he
          refine ⟨nI i, ?_, ?_⟩
          · rw [f2_firstWrong_2]
            simp (disch := omega) only [bE, bO, bV, bK, nI_lit, nI_add, lt_T, lt_F, le_T, le_F, eq_T, eq_F, ltm_T, ltm_F, lem_T, lem_F, eqm_F, meq_F, cl_nI, nle_T, nle_F, nlt_T, nlt_F, ↓reduceIte, or_true, true_or, or_false, false_or, and_true, true_and, and_false, false_and, not_true_eq_false, not_false_eq_true, or_self, and_self, true_implies, ite_self, s5, t2, c1, c2, c4, t4, he2]
          · rw [f8_judge_2]
            unfold f8_judge_48
            simp (disch := omega) only [bE, bO, bV, bK, nI_lit, nI_add, lt_T, lt_F, le_T, le_F, eq_T, eq_F, ltm_T, ltm_F, lem_T, lem_F, eqm_F, meq_F, cl_nI, nle_T, nle_F, nlt_T, nlt_F, ↓reduceIte, or_true, true_or, or_false, false_or, and_true, true_and, and_false, false_and, not_true_eq_false, not_false_eq_true, or_self, and_self, true_implies, ite_self, s6, b1.2, t3, l7, c3, he2]
      · have c1 := lat_F b1.1 (a := nI t) (by omega) (fun u z1 z2 => by rw [← (nI_eq (by omega) (by omega)).mp z1]; exact hla)
        have hl2 := hla
        unfold late at hl2
        refine ⟨nI i, ?_, ?_⟩
        · rw [f2_firstWrong_2]
          simp (disch := omega) only [bE, bO, bV, bK, nI_lit, nI_add, lt_T, lt_F, le_T, le_F, eq_T, eq_F, ltm_T, ltm_F, lem_T, lem_F, eqm_F, meq_F, cl_nI, nle_T, nle_F, nlt_T, nlt_F, ↓reduceIte, or_true, true_or, or_false, false_or, and_true, true_and, and_false, false_and, not_true_eq_false, not_false_eq_true, or_self, and_self, true_implies, ite_self, s5, t2, c1]
        · rw [f8_judge_2]
          unfold f8_judge_48
          by_cases hz : dy ≤ t
          · simp (disch := omega) only [bE, bO, bV, bK, nI_lit, nI_add, lt_T, lt_F, le_T, le_F, eq_T, eq_F, ltm_T, ltm_F, lem_T, lem_F, eqm_F, meq_F, cl_nI, nle_T, nle_F, nlt_T, nlt_F, ↓reduceIte, or_true, true_or, or_false, false_or, and_true, true_and, and_false, false_and, not_true_eq_false, not_false_eq_true, or_self, and_self, true_implies, ite_self, s6, b1.2, t3]
          · have l7 : (nI t < nI dy - nI 60) = True := eq_true (l6.mpr (by omega))
            simp (disch := omega) only [bE, bO, bV, bK, nI_lit, nI_add, lt_T, lt_F, le_T, le_F, eq_T, eq_F, ltm_T, ltm_F, lem_T, lem_F, eqm_F, meq_F, cl_nI, nle_T, nle_F, nlt_T, nlt_F, ↓reduceIte, or_true, true_or, or_false, false_or, and_true, true_and, and_false, false_and, not_true_eq_false, not_false_eq_true, or_self, and_self, true_implies, ite_self, s6, b1.2, t3, l7]
  obtain ⟨r, r1, r2⟩ := hl b 0 100000 (by omega) (by omega)
  refine ⟨r, w, w, ?_, r2, h.next (by omega)⟩
  unfold f7_judge f2_firstWrong
  rw [show f2_firstWrong_2 0 100000 0 w = some (r, w) from r1]
  rfl
