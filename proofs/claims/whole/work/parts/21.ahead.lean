/-! ahead -/
section Rock
variable {nv K Y I F Fo : Nat} {ro pe fe fs fg : Nat → Nat} {G : Nat → Nat → Int32} {GL : Nat → Nat → Int64} {M : Nat → Nat → Int32}
theorem ah_loop {g B a : Nat} {b : Int32} {Ds : Nat → Nat → Nat → Int32} {Ns : Nat → Nat → Int32} (ha : a ≤ 60) (h3 : ∀ k, k ≤ a → RD 0 nv (B + k) (Ds k) (Ns k)) (h4 : ∀ k, k < a → Day1 I G GL M (Ds k) (Ns k) (Ds (k + 1)) (Ns (k + 1))) (hI : G 3 0 = nI I) (hJ : M 2 0 = nI I) {w : Mem} (hw : CL g G GL w) :
    ∀ (j k n : Nat), k + j = a → j < n → ∃ m, m ≤ a ∧ f7_ahead_48 (nI a) b n (nI k) (sO w 1 (Ds k)) = f7_ahead_87 (nI a) b (sO w 1 (Ds m)) ∧ ∀ n' w', ML g G GL M w' → j < n' → f8_ahead_41 (nI a) b n' (nI k) (sA w' 32 11 (Ns k)) = f8_ahead_69 (nI a) b (sA w' 32 11 (Ns m)) := by
  obtain ⟨g1, g2, g3, g4⟩ := hw
  intro j
  induction j with
  | zero =>
    intro k n hk hn
    obtain ⟨n, rfl⟩ : ∃ m, n = m + 1 := ⟨n - 1, by omega⟩
    obtain rfl : k = a := by omega
    refine ⟨k, by omega, ?_, fun n' w' hw' hn' => ?_⟩
    · rw [f7_ahead_48]
      simp (disch := omega) only [bE, bO, bV, bK, nI_lit, nI_add, lt_T, lt_F, le_T, le_F, eq_T, eq_F, ltm_T, ltm_F, lem_T, lem_F, eqm_F, meq_F, cl_nI, nle_T, nle_F, nlt_T, nlt_F, ↓reduceIte, or_true, true_or, or_false, false_or, and_true, true_and, and_false, false_and, not_true_eq_false, not_false_eq_true, or_self, and_self, true_implies, ite_self]
    · obtain ⟨n', rfl⟩ : ∃ m, n' = m + 1 := ⟨n' - 1, by omega⟩
      rw [f8_ahead_41]
      simp (disch := omega) only [bE, bO, bV, bK, nI_lit, nI_add, lt_T, lt_F, le_T, le_F, eq_T, eq_F, ltm_T, ltm_F, lem_T, lem_F, eqm_F, meq_F, cl_nI, nle_T, nle_F, nlt_T, nlt_F, ↓reduceIte, or_true, true_or, or_false, false_or, and_true, true_and, and_false, false_and, not_true_eq_false, not_false_eq_true, or_self, and_self, true_implies, ite_self]
  | succ j ih =>
    intro k n hk hn
    obtain ⟨n, rfl⟩ : ∃ m, n = m + 1 := ⟨n - 1, by omega⟩
    obtain ⟨s1, s2, s3⟩ := h4 k (by omega)
    have d1 := (h3 k (by omega)).dn
    have z2 := s2 w 1 g (by omega) g3 g4
    have gg : (sO w 1 (Ds k)).1 g 3 0 = nI I := by rw [sO_n (by omega), g3]; exact hI
    rcases d1.2.1 with e0 | e0
    · obtain ⟨m, m1, m2, m3⟩ := ih (k + 1) n (by omega) (by omega)
      have e1 := d1.1.trans e0
      refine ⟨m, m1, ?_, fun n' w' hw' hn' => ?_⟩
      · rw [f7_ahead_48]
        simp (disch := omega) only [bE, bO, bV, bK, nI_lit, nI_add, lt_T, lt_F, le_T, le_F, eq_T, eq_F, ltm_T, ltm_F, lem_T, lem_F, eqm_F, meq_F, cl_nI, nle_T, nle_F, nlt_T, nlt_F, ↓reduceIte, or_true, true_or, or_false, false_or, and_true, true_and, and_false, false_and, not_true_eq_false, not_false_eq_true, or_self, and_self, true_implies, ite_self, sO_2, rk_g g1 g2, gg, z2, sO_s, e1]
        exact m2
      · obtain ⟨n', rfl⟩ : ∃ m, n' = m + 1 := ⟨n' - 1, by omega⟩
        have z4 := m3 n' w' hw' (by omega)
        obtain ⟨x1, x2, x3, x4⟩ := hw'
        have z3 := s3 w' g (by omega) x2 x3 x4
        have gg2 : w'.1 32 2 0 = nI I := by rw [x4 2 (by omega)]; exact hJ
        rw [f8_ahead_41]
        simp (disch := omega) only [bE, bO, bV, bK, nI_lit, nI_add, lt_T, lt_F, le_T, le_F, eq_T, eq_F, ltm_T, ltm_F, lem_T, lem_F, eqm_F, meq_F, cl_nI, nle_T, nle_F, nlt_T, nlt_F, ↓reduceIte, or_true, true_or, or_false, false_or, and_true, true_and, and_false, false_and, not_true_eq_false, not_false_eq_true, or_self, and_self, true_implies, ite_self, kx_sA, ky_sA, gg2, e0, z3]
        exact z4
    · have e1 := d1.1.trans e0
      refine ⟨k, by omega, ?_, fun n' w' hw' hn' => ?_⟩
      · rw [f7_ahead_48]
        simp (disch := omega) only [bE, bO, bV, bK, nI_lit, nI_add, lt_T, lt_F, le_T, le_F, eq_T, eq_F, ltm_T, ltm_F, lem_T, lem_F, eqm_F, meq_F, cl_nI, nle_T, nle_F, nlt_T, nlt_F, ↓reduceIte, or_true, true_or, or_false, false_or, and_true, true_and, and_false, false_and, not_true_eq_false, not_false_eq_true, or_self, and_self, true_implies, ite_self, sO_s, e1]
      · obtain ⟨n', rfl⟩ : ∃ m, n' = m + 1 := ⟨n' - 1, by omega⟩
        rw [f8_ahead_41]
        simp (disch := omega) only [bE, bO, bV, bK, nI_lit, nI_add, lt_T, lt_F, le_T, le_F, eq_T, eq_F, ltm_T, ltm_F, lem_T, lem_F, eqm_F, meq_F, cl_nI, nle_T, nle_F, nlt_T, nlt_F, ↓reduceIte, or_true, true_or, or_false, false_or, and_true, true_and, and_false, false_and, not_true_eq_false, not_false_eq_true, or_self, and_self, true_implies, ite_self, kx_sA, e0]
end Rock
theorem q_ahead {n : Nat} {w : Mem} (hn : n < 100) (h : Rel n w) (a b : Int32) : Same n w (f7_ahead a b) (f8_ahead a b) := by
  obtain ⟨⟨g, nv, K, Y, I, F, Fo, ro, pe, fe, fs, fg, h1, h2, h3, h4, h5, h6, h7⟩, hT, hF, hN⟩ := id h
  rcases ix3 a 61 (by omega) with ha | ha | ⟨t, ht, rfl⟩
  · exact ⟨_, w, w, by unfold f7_ahead; rw [if_pos (show a < 0 from ha)], by unfold f8_ahead; rw [in_neg w ha]; rfl, h.next (by omega)⟩
  · refine ⟨-1000000002, w, w, ?_, by unfold f8_ahead; rw [in_big (m := 60) (b := 60) w rfl (by omega) ha]; rfl, h.next (by omega)⟩
    unfold f7_ahead
    rw [if_neg (big_nlt (by omega) ha), if_pos (show 60 < a from Int32.not_le.mp (big_nle (j := 60) (by omega) ha (by omega)))]
  · rcases ix3 b 2 (by omega) with hb | hb | ⟨u, hu, rfl⟩
    · refine ⟨-1000000002, w, w, ?_, ?_, h.next (by omega)⟩
      · unfold f7_ahead
        simp (disch := omega) only [bE, bO, bV, bK, nI_lit, nI_add, lt_T, lt_F, le_T, le_F, eq_T, eq_F, ltm_T, ltm_F, lem_T, lem_F, eqm_F, meq_F, cl_nI, nle_T, nle_F, nlt_T, nlt_F, ↓reduceIte, or_true, true_or, or_false, false_or, and_true, true_and, and_false, false_and, not_true_eq_false, not_false_eq_true, or_self, and_self, true_implies, ite_self]
        exact if_pos hb
      · unfold f8_ahead
        rw [in0_T (m := 60) (b := 60) w rfl (by omega) (by omega)]
        simp only [bO]
        rw [in_neg w hb]; rfl
    · refine ⟨-1000000002, w, w, ?_, ?_, h.next (by omega)⟩
      · unfold f7_ahead
        simp (disch := omega) only [bE, bO, bV, bK, nI_lit, nI_add, lt_T, lt_F, le_T, le_F, eq_T, eq_F, ltm_T, ltm_F, lem_T, lem_F, eqm_F, meq_F, cl_nI, nle_T, nle_F, nlt_T, nlt_F, ↓reduceIte, or_true, true_or, or_false, false_or, and_true, true_and, and_false, false_and, not_true_eq_false, not_false_eq_true, or_self, and_self, true_implies, ite_self]
        exact (if_neg (show ¬ b < nI 0 from big_nlt (by omega) hb)).trans (if_neg (show ¬ b ≤ nI 1 from big_nle (j := 1) (by omega) hb (by omega)))
      · unfold f8_ahead
        rw [in0_T (m := 60) (b := 60) w rfl (by omega) (by omega)]
        simp only [bO]
        rw [in_big (m := 1) (b := 1) w rfl (by omega) hb]; rfl
    · have h30 := h3
      obtain ⟨⟨q1, q2, q3, q4, q5, q6, q7⟩, r0, ⟨r1, s1⟩, ⟨r2, s2⟩, ⟨r3, s3⟩, -⟩ := h3
      have d0 := h4.dn
      rcases Nat.eq_zero_or_pos K with rfl | hK
      · refine ⟨-1000000003, w, w, ?_, ?_, h.next (by omega)⟩
        · unfold f7_ahead
          rw [if_pos rfl] at r0
          simp (disch := omega) only [bE, bO, bV, bK, nI_lit, nI_add, lt_T, lt_F, le_T, le_F, eq_T, eq_F, ltm_T, ltm_F, lem_T, lem_F, eqm_F, meq_F, cl_nI, nle_T, nle_F, nlt_T, nlt_F, ↓reduceIte, or_true, true_or, or_false, false_or, and_true, true_and, and_false, false_and, not_true_eq_false, not_false_eq_true, or_self, and_self, true_implies, ite_self, rk_g h1 h2.1, r0]
        · unfold f8_ahead
          rw [in0_T (m := 60) (b := 60) w rfl (by omega) (by omega)]
          simp only [bO]
          rw [in0_T (m := 1) (b := 1) w rfl (by omega) (by omega)]
          simp (disch := omega) only [bE, bO, bV, bK, nI_lit, nI_add, lt_T, lt_F, le_T, le_F, eq_T, eq_F, ltm_T, ltm_F, lem_T, lem_F, eqm_F, meq_F, cl_nI, nle_T, nle_F, nlt_T, nlt_F, ↓reduceIte, or_true, true_or, or_false, false_or, and_true, true_and, and_false, false_and, not_true_eq_false, not_false_eq_true, or_self, and_self, true_implies, ite_self, s1]
      · rw [if_neg (by omega)] at r0
        obtain ⟨Ds, Ns, t1, t2, t3, t4⟩ := traj (h4.go q1 (E := w.1 1)) h30 q4 t (by omega)
        obtain ⟨m, m1, m2, m3⟩ := ah_loop (b := nI u) (by omega) t3 t4 r3 s3 (w := w) ⟨h1, h2.1, rfl, rfl⟩ t 0 100000 (by omega) (by omega)
        have m4 := m3 100000 (sA (sO w 1 (Ds m)) 32 31 (cpr (w.1 32 11) (w.1 32 31) 103)) ⟨h1, by rw [ob_sA (by omega), sO_n (by omega)], by rw [sA_2, sO_2], fun k hk => by rw [ky_sA (by omega), sO_n (by omega)]⟩ (by omega)
        have dm := (t3 m m1).dn
        refine ⟨(if u = 0 then Ns m 5 - w.1 32 11 5 else Ns m 4 - w.1 32 11 4), sO w 1 (Ds m), _, ?_, ?_, fin_rel h (Ds m) (Ns m)⟩
        · unfold f7_ahead
          have z := go_ok (w := w) (d0 := 1) (d1 := 0) (by omega) (by rw [d0.1]; exact d0.2.1)
          rw [← t1] at z
          simp (disch := omega) only [bE, bO, bV, bK, nI_lit, nI_add, lt_T, lt_F, le_T, le_F, eq_T, eq_F, ltm_T, ltm_F, lem_T, lem_F, eqm_F, meq_F, cl_nI, nle_T, nle_F, nlt_T, nlt_F, ↓reduceIte, or_true, true_or, or_false, false_or, and_true, true_and, and_false, false_and, not_true_eq_false, not_false_eq_true, or_self, and_self, true_implies, ite_self, rk_g h1 h2.1, r0, z]
          refine m2.trans ?_
          unfold f7_ahead_87
          rcases (show u = 0 ∨ u = 1 by omega) with rfl | rfl
          · simp (disch := omega) only [bE, bO, bV, bK, nI_lit, nI_add, lt_T, lt_F, le_T, le_F, eq_T, eq_F, ltm_T, ltm_F, lem_T, lem_F, eqm_F, meq_F, cl_nI, nle_T, nle_F, nlt_T, nlt_F, ↓reduceIte, or_true, true_or, or_false, false_or, and_true, true_and, and_false, false_and, not_true_eq_false, not_false_eq_true, or_self, and_self, true_implies, ite_self, sO_s, sO_n, dm.2.2.2.2.1, d0.2.2.2.2.1]
          · simp (disch := omega) only [bE, bO, bV, bK, nI_lit, nI_add, lt_T, lt_F, le_T, le_F, eq_T, eq_F, ltm_T, ltm_F, lem_T, lem_F, eqm_F, meq_F, cl_nI, nle_T, nle_F, nlt_T, nlt_F, ↓reduceIte, or_true, true_or, or_false, false_or, and_true, true_and, and_false, false_and, not_true_eq_false, not_false_eq_true, or_self, and_self, true_implies, ite_self, sO_s, sO_n, dm.2.2.2.1, d0.2.2.2.1]
            rfl
        · unfold f8_ahead
          have z := save_T w (Ds m)
          rw [in0_T (m := 60) (b := 60) _ rfl (by omega) (by omega)]
          simp only [bO]
          rw [in0_T (m := 1) (b := 1) _ rfl (by omega) (by omega)]
          rw [t2] at m4
          simp (disch := omega) only [bE, bO, bV, bK, nI_lit, nI_add, lt_T, lt_F, le_T, le_F, eq_T, eq_F, ltm_T, ltm_F, lem_T, lem_F, eqm_F, meq_F, cl_nI, nle_T, nle_F, nlt_T, nlt_F, ↓reduceIte, or_true, true_or, or_false, false_or, and_true, true_and, and_false, false_and, not_true_eq_false, not_false_eq_true, or_self, and_self, true_implies, ite_self, sO_n, s1, z]
          refine m4.trans ?_
          unfold f8_ahead_69 f8_ahead_102
          have z3 := put_ok (w := sA (sA (sO w 1 (Ds m)) 32 31 (cpr (w.1 32 11) (w.1 32 31) 103)) 32 11 (Ns m))
          rw [z3, kx_sA, ky_sA (by omega), kx_sA]
          have c5 : cpr (w.1 32 11) (w.1 32 31) 103 5 = w.1 32 11 5 := if_pos (by omega)
          have c4 : cpr (w.1 32 11) (w.1 32 31) 103 4 = w.1 32 11 4 := if_pos (by omega)
          rcases (show u = 0 ∨ u = 1 by omega) with rfl | rfl
          · simp (disch := omega) only [bE, bO, bV, bK, nI_lit, nI_add, lt_T, lt_F, le_T, le_F, eq_T, eq_F, ltm_T, ltm_F, lem_T, lem_F, eqm_F, meq_F, cl_nI, nle_T, nle_F, nlt_T, nlt_F, ↓reduceIte, or_true, true_or, or_false, false_or, and_true, true_and, and_false, false_and, not_true_eq_false, not_false_eq_true, or_self, and_self, true_implies, ite_self, c5]
          · simp (disch := omega) only [bE, bO, bV, bK, nI_lit, nI_add, lt_T, lt_F, le_T, le_F, eq_T, eq_F, ltm_T, ltm_F, lem_T, lem_F, eqm_F, meq_F, cl_nI, nle_T, nle_F, nlt_T, nlt_F, ↓reduceIte, or_true, true_or, or_false, false_or, and_true, true_and, and_false, false_and, not_true_eq_false, not_false_eq_true, or_self, and_self, true_implies, ite_self, c4]
            rfl
