/-! the text: any clause -/
section Txt
variable {e nv K Y I F Fo : Nat} {ro pe ob fe fs fg : Nat → Nat} {w w1 u u1 : Mem} {tx : Nat → Nat} {L p q : Nat}
theorem FT.pre {A : Option Mem} {B : Option (Int32 × Mem)} (h1 : EC e w w1) (h2 : EN 16 u u1) (h : FT L e w1 u1 A B) : FT L e w u A B := by
  obtain ⟨c, z, w', u', c1, c2, c3, c4, c5, c6, c7⟩ := h
  exact ⟨c, z, w', u', c1, c2, h1.tr c3, c4, c5, (h2.lo (by omega)).tr c6, c7⟩
theorem CO.pre {A : Option Mem} {B : Option (Int32 × Mem)} (h1 : EC e w w1) (h2 : EN 16 u u1) (h : CO tx L e p w1 u1 A B) : CO tx L e p w u A B := by
  obtain ⟨nv, K, Y, I, F, Fo, ro, pe, ob, fe, fs, fg, q, w', u', c1, c2, c3, c4, c5, c6, c7, c8, c9⟩ := h
  exact ⟨nv, K, Y, I, F, Fo, ro, pe, ob, fe, fs, fg, q, w', u', c1, c2, c3, h1.tr c4, c5, c6, c7, h2.tr c8, c9⟩
theorem cl2 (he : e = 24 ∨ e = 25) (hp : p < L) (hb : tx p ≠ 32) (h : RS tx L p w) (m : MP tx L p u) (D : DS e nv K Y I F Fo ro pe ob fe fs fg w) (M : MRd nv K Y I F Fo ro pe ob fe fs fg u) :
    FT L e w u (f5_readClause e w) (f8_takeClause u) ∨ CO tx L e p w u (f5_readClause e w) (f8_takeClause u) := by
  have hL := h.1
  have en : n1 tx L p = p := by
    unfold n1
    rw [show L - p = (L - p - 1) + 1 by omega, sb, if_neg hb]
  have l1 := lh_ok h
  rw [ltr, if_pos hp] at l1
  have l2 := he_ok m
  rw [en, m.id, mlt, if_pos hp] at l2
  have hc := (h.2.2.2.2.2 p hp).1
  have t0 := h.2.2.2.2.1
  have t4 := h.2.2.2.1
  have t16 := m.2.2.1
  have bl : ∀ k : Nat, f5_blame (nI k) (nI p) w = some (sI (sI w 27 2 0 (nI k)) 27 4 0 (nI p)) := by
    intro k
    unfold f5_blame
    rw [if_pos (show w.1 27 2 0 = 0 from t0)]
    simp only [bE]
  have ff : ∀ k : Nat, f8_fails (nI k) (nI p) u = some (nI k, sI u 32 15 0 (nI p)) := by
    intro k
    unfold f8_fails
    simp only [bE]
  have ft : ∀ k : Nat, 0 < k → k < 5 → ∀ A B, A = some (sI (sI w 27 2 0 (nI k)) 27 4 0 (nI p)) → B = some (nI k, sI u 32 15 0 (nI p)) → FT L e w u A B := by
    intro k k1 k2 A B eA eB
    exact ⟨k, p, _, _, ⟨k1, k2, by omega⟩, eA, EC.s27.tr EC.s27, ⟨by rw [ky_sI (by omega), kx_sI, upd_s], by rw [kx_sI, upd_s]⟩, eB, EN.s (by omega) (by omega), by rw [kx_sI, upd_s]⟩
  have h1 := h.at (q := p + 1) (by omega)
  have m1 := m.at (q := p + 1) (by omega)
  have ew : EC e w (sI w 27 4 0 (nI (p + 1))) := EC.s27
  have eu : EN 16 u (sI u 32 16 0 (nI (p + 1))) := EN.s (by omega) (by omega)
  have D1 := D.o he (w' := sI w 27 4 0 (nI (p + 1))) ⟨fun d hd => ob_sI hd, rfl⟩
  have M1 := M.o (u' := sI u 32 16 0 (nI (p + 1))) (EM.sI (by omega) (by omega))
  obtain ⟨⟨x1, x2, x3, x4, x5, x6, x7⟩, ⟨y0, y1, y2, y3, y4, y5, y6⟩, -⟩ := D
  obtain ⟨⟨v01, v02, v03⟩, v1, v2, v3, v4, v5, v6⟩ := M
  have k5 := D1.2.1.2.2.2.2.2.1
  have k6 := D1.2.1.2.2.2.2.2.2
  have k25 := M1.2.2.2.1
  have k27 := M1.2.2.2.2.2.1
  by_cases h104 : tx p = 104
  · by_cases hK : K = 0
    · subst hK
      rw [if_pos rfl] at y0
      have eA : f5_readClause e w = bndV (f5_readHermit e (sI w 27 4 0 (nI (p + 1)))) fun w15 => f5_readClause_138 e w15 := by
        unfold f5_readClause f5_isWord f5_readClause_37 f5_isTooMany
        simp (disch := omega) only [bE, bO, bV, bK, nI_lit, nI_add, lt_T, lt_F, le_T, le_F, eq_T, eq_F, ltm_T, ltm_F, lem_T, lem_F, eqm_F, meq_F, cl_nI, nle_T, nle_F, nlt_T, nlt_F, ↓reduceIte, or_true, true_or, or_false, false_or, and_true, true_and, and_false, false_and, not_true_eq_false, not_false_eq_true, or_self, and_self, true_implies, ite_self, l1, h104, y0, t4, show nI 0 &&& nI 1 = nI 0 from rfl]
      have eB : f8_takeClause u = bndO (f8_takeHermit (sI u 32 16 0 (nI (p + 1)))) fun r13 w12 => f8_takeClause_233 0 r13 w12 := by
        unfold f8_takeClause f8_takeClause_46 f8_takeClause_74 f8_takeClause_153
        simp (disch := omega) only [bE, bO, bV, bK, nI_lit, nI_add, lt_T, lt_F, le_T, le_F, eq_T, eq_F, ltm_T, ltm_F, lem_T, lem_F, eqm_F, meq_F, cl_nI, nle_T, nle_F, nlt_T, nlt_F, ↓reduceIte, or_true, true_or, or_false, false_or, and_true, true_and, and_false, false_and, not_true_eq_false, not_false_eq_true, or_self, and_self, true_implies, ite_self, l2, h104, v01, t16]
      rw [eA, eB]
      exact (clH he h1 m1 D1 M1).imp (FT.pre ew eu) (CO.pre ew eu)
    · rw [if_neg hK] at y0
      left
      refine ft 3 (by omega) (by omega) _ _ ?_ ?_
      · unfold f5_readClause f5_isWord f5_readClause_37 f5_isTooMany
        simp (disch := omega) only [bE, bO, bV, bK, nI_lit, nI_add, lt_T, lt_F, le_T, le_F, eq_T, eq_F, ltm_T, ltm_F, lem_T, lem_F, eqm_F, meq_F, cl_nI, nle_T, nle_F, nlt_T, nlt_F, ↓reduceIte, or_true, true_or, or_false, false_or, and_true, true_and, and_false, false_and, not_true_eq_false, not_false_eq_true, or_self, and_self, true_implies, ite_self, l1, h104, y0, t4, show nI 1 &&& nI 1 = nI 1 from rfl, bl]
      · unfold f8_takeClause f8_takeClause_46 f8_takeClause_74 f8_takeClause_153
        simp (disch := omega) only [bE, bO, bV, bK, nI_lit, nI_add, lt_T, lt_F, le_T, le_F, eq_T, eq_F, ltm_T, ltm_F, lem_T, lem_F, eqm_F, meq_F, cl_nI, nle_T, nle_F, nlt_T, nlt_F, ↓reduceIte, or_true, true_or, or_false, false_or, and_true, true_and, and_false, false_and, not_true_eq_false, not_false_eq_true, or_self, and_self, true_implies, ite_self, l2, h104, v01, t16, ff]
  · by_cases hw : tx p = 118 ∨ tx p = 102 ∨ tx p = 103
    · by_cases hK : K = 0
      · subst hK
        rw [if_pos rfl] at y0
        left
        refine ft 1 (by omega) (by omega) _ _ ?_ ?_
        · unfold f5_readClause f5_isWord f5_readClause_25
          rcases hw with z | z | z
          · simp (disch := omega) only [bE, bO, bV, bK, nI_lit, nI_add, lt_T, lt_F, le_T, le_F, eq_T, eq_F, ltm_T, ltm_F, lem_T, lem_F, eqm_F, meq_F, cl_nI, nle_T, nle_F, nlt_T, nlt_F, ↓reduceIte, or_true, true_or, or_false, false_or, and_true, true_and, and_false, false_and, not_true_eq_false, not_false_eq_true, or_self, and_self, true_implies, ite_self, l1, z, y0, t4, bl]
          · simp (disch := omega) only [bE, bO, bV, bK, nI_lit, nI_add, lt_T, lt_F, le_T, le_F, eq_T, eq_F, ltm_T, ltm_F, lem_T, lem_F, eqm_F, meq_F, cl_nI, nle_T, nle_F, nlt_T, nlt_F, ↓reduceIte, or_true, true_or, or_false, false_or, and_true, true_and, and_false, false_and, not_true_eq_false, not_false_eq_true, or_self, and_self, true_implies, ite_self, l1, z, y0, t4, bl]
          · simp (disch := omega) only [bE, bO, bV, bK, nI_lit, nI_add, lt_T, lt_F, le_T, le_F, eq_T, eq_F, ltm_T, ltm_F, lem_T, lem_F, eqm_F, meq_F, cl_nI, nle_T, nle_F, nlt_T, nlt_F, ↓reduceIte, or_true, true_or, or_false, false_or, and_true, true_and, and_false, false_and, not_true_eq_false, not_false_eq_true, or_self, and_self, true_implies, ite_self, l1, z, y0, t4, bl]
        · unfold f8_takeClause f8_takeClause_46 f8_takeClause_64
          rcases hw with z | z | z
          · simp (disch := omega) only [bE, bO, bV, bK, nI_lit, nI_add, lt_T, lt_F, le_T, le_F, eq_T, eq_F, ltm_T, ltm_F, lem_T, lem_F, eqm_F, meq_F, cl_nI, nle_T, nle_F, nlt_T, nlt_F, ↓reduceIte, or_true, true_or, or_false, false_or, and_true, true_and, and_false, false_and, not_true_eq_false, not_false_eq_true, or_self, and_self, true_implies, ite_self, l2, z, v01, t16, ff]
          · simp (disch := omega) only [bE, bO, bV, bK, nI_lit, nI_add, lt_T, lt_F, le_T, le_F, eq_T, eq_F, ltm_T, ltm_F, lem_T, lem_F, eqm_F, meq_F, cl_nI, nle_T, nle_F, nlt_T, nlt_F, ↓reduceIte, or_true, true_or, or_false, false_or, and_true, true_and, and_false, false_and, not_true_eq_false, not_false_eq_true, or_self, and_self, true_implies, ite_self, l2, z, v01, t16, ff]
          · simp (disch := omega) only [bE, bO, bV, bK, nI_lit, nI_add, lt_T, lt_F, le_T, le_F, eq_T, eq_F, ltm_T, ltm_F, lem_T, lem_F, eqm_F, meq_F, cl_nI, nle_T, nle_F, nlt_T, nlt_F, ↓reduceIte, or_true, true_or, or_false, false_or, and_true, true_and, and_false, false_and, not_true_eq_false, not_false_eq_true, or_self, and_self, true_implies, ite_self, l2, z, v01, t16, ff]
      · rw [if_neg hK] at y0
        rcases hw with z | z | z
        · by_cases hq : nv = 8
          · left
            refine ft 3 (by omega) (by omega) _ _ ?_ ?_
            · unfold f5_readClause f5_isWord f5_readClause_37 f5_isTooMany
              simp (disch := omega) only [bE, bO, bV, bK, nI_lit, nI_add, lt_T, lt_F, le_T, le_F, eq_T, eq_F, ltm_T, ltm_F, lem_T, lem_F, eqm_F, meq_F, cl_nI, nle_T, nle_F, nlt_T, nlt_F, ↓reduceIte, or_true, true_or, or_false, false_or, and_true, true_and, and_false, false_and, not_true_eq_false, not_false_eq_true, or_self, and_self, true_implies, ite_self, l1, z, y0, y4, t4, bl]
            · unfold f8_takeClause f8_takeClause_46 f8_takeClause_74 f8_takeClause_153
              simp (disch := omega) only [bE, bO, bV, bK, nI_lit, nI_add, lt_T, lt_F, le_T, le_F, eq_T, eq_F, ltm_T, ltm_F, lem_T, lem_F, eqm_F, meq_F, cl_nI, nle_T, nle_F, nlt_T, nlt_F, ↓reduceIte, or_true, true_or, or_false, false_or, and_true, true_and, and_false, false_and, not_true_eq_false, not_false_eq_true, or_self, and_self, true_implies, ite_self, l2, z, v01, v1, t16, ff]
          · have eA : f5_readClause e w = bndV (f5_readVillage e (sI w 27 4 0 (nI (p + 1)))) fun w15 => f5_readClause_138 e w15 := by
              unfold f5_readClause f5_isWord f5_readClause_37 f5_isTooMany
              simp (disch := omega) only [bE, bO, bV, bK, nI_lit, nI_add, lt_T, lt_F, le_T, le_F, eq_T, eq_F, ltm_T, ltm_F, lem_T, lem_F, eqm_F, meq_F, cl_nI, nle_T, nle_F, nlt_T, nlt_F, ↓reduceIte, or_true, true_or, or_false, false_or, and_true, true_and, and_false, false_and, not_true_eq_false, not_false_eq_true, or_self, and_self, true_implies, ite_self, l1, z, y0, y4, t4]
            have eB : f8_takeClause u = bndO (f8_takeVillage (sI u 32 16 0 (nI (p + 1)))) fun r13 w12 => f8_takeClause_233 1 r13 w12 := by
              unfold f8_takeClause f8_takeClause_46 f8_takeClause_74 f8_takeClause_153
              simp (disch := omega) only [bE, bO, bV, bK, nI_lit, nI_add, lt_T, lt_F, le_T, le_F, eq_T, eq_F, ltm_T, ltm_F, lem_T, lem_F, eqm_F, meq_F, cl_nI, nle_T, nle_F, nlt_T, nlt_F, ↓reduceIte, or_true, true_or, or_false, false_or, and_true, true_and, and_false, false_and, not_true_eq_false, not_false_eq_true, or_self, and_self, true_implies, ite_self, l2, z, v01, v1, t16]
            rw [eA, eB]
            exact (clV he (by omega) (by omega) h1 m1 D1 M1).imp (FT.pre ew eu) (CO.pre ew eu)
        · by_cases hq : F = 8
          · left
            refine ft 3 (by omega) (by omega) _ _ ?_ ?_
            · unfold f5_readClause f5_isWord f5_readClause_37 f5_isTooMany f5_isTooMany_49
              simp (disch := omega) only [bE, bO, bV, bK, nI_lit, nI_add, lt_T, lt_F, le_T, le_F, eq_T, eq_F, ltm_T, ltm_F, lem_T, lem_F, eqm_F, meq_F, cl_nI, nle_T, nle_F, nlt_T, nlt_F, ↓reduceIte, or_true, true_or, or_false, false_or, and_true, true_and, and_false, false_and, not_true_eq_false, not_false_eq_true, or_self, and_self, true_implies, ite_self, l1, z, y0, y5, t4, bl]
            · unfold f8_takeClause f8_takeClause_46 f8_takeClause_74 f8_takeClause_153
              simp (disch := omega) only [bE, bO, bV, bK, nI_lit, nI_add, lt_T, lt_F, le_T, le_F, eq_T, eq_F, ltm_T, ltm_F, lem_T, lem_F, eqm_F, meq_F, cl_nI, nle_T, nle_F, nlt_T, nlt_F, ↓reduceIte, or_true, true_or, or_false, false_or, and_true, true_and, and_false, false_and, not_true_eq_false, not_false_eq_true, or_self, and_self, true_implies, ite_self, l2, z, v01, v3, t16, ff]
          · have eA : f5_readClause e w = bndO (f5_readMarkedDay e 11 16 (sI w 27 4 0 (nI (p + 1)))) fun r12 w11 => f5_readClause_138 e (sI w11 e 5 0 (nI F + r12)) := by
              unfold f5_readClause f5_isWord f5_readClause_37 f5_isTooMany f5_isTooMany_49
              simp (disch := omega) only [bE, bO, bV, bK, nI_lit, nI_add, lt_T, lt_F, le_T, le_F, eq_T, eq_F, ltm_T, ltm_F, lem_T, lem_F, eqm_F, meq_F, cl_nI, nle_T, nle_F, nlt_T, nlt_F, ↓reduceIte, or_true, true_or, or_false, false_or, and_true, true_and, and_false, false_and, not_true_eq_false, not_false_eq_true, or_self, and_self, true_implies, ite_self, l1, z, y0, y5, t4, k5]
            have eB : f8_takeClause u = bndO (f8_takeDay 32 26 8 (nI F) (sI u 32 16 0 (nI (p + 1)))) fun r13 w12 => f8_takeClause_233 2 r13 w12 := by
              unfold f8_takeClause f8_takeClause_46 f8_takeClause_74 f8_takeClause_153
              simp (disch := omega) only [bE, bO, bV, bK, nI_lit, nI_add, lt_T, lt_F, le_T, le_F, eq_T, eq_F, ltm_T, ltm_F, lem_T, lem_F, eqm_F, meq_F, cl_nI, nle_T, nle_F, nlt_T, nlt_F, ↓reduceIte, or_true, true_or, or_false, false_or, and_true, true_and, and_false, false_and, not_true_eq_false, not_false_eq_true, or_self, and_self, true_implies, ite_self, l2, z, v01, v3, t16, k25]
            rw [eA, eB]
            exact (clF he (by omega) (by omega) h1 m1 D1 M1).imp (FT.pre ew eu) (CO.pre ew eu)
        · by_cases hq : Fo = 8
          · left
            refine ft 3 (by omega) (by omega) _ _ ?_ ?_
            · unfold f5_readClause f5_isWord f5_readClause_37 f5_isTooMany f5_isTooMany_49
              simp (disch := omega) only [bE, bO, bV, bK, nI_lit, nI_add, lt_T, lt_F, le_T, le_F, eq_T, eq_F, ltm_T, ltm_F, lem_T, lem_F, eqm_F, meq_F, cl_nI, nle_T, nle_F, nlt_T, nlt_F, ↓reduceIte, or_true, true_or, or_false, false_or, and_true, true_and, and_false, false_and, not_true_eq_false, not_false_eq_true, or_self, and_self, true_implies, ite_self, l1, z, y0, y6, t4, bl]
            · unfold f8_takeClause f8_takeClause_46 f8_takeClause_74 f8_takeClause_153
              simp (disch := omega) only [bE, bO, bV, bK, nI_lit, nI_add, lt_T, lt_F, le_T, le_F, eq_T, eq_F, ltm_T, ltm_F, lem_T, lem_F, eqm_F, meq_F, cl_nI, nle_T, nle_F, nlt_T, nlt_F, ↓reduceIte, or_true, true_or, or_false, false_or, and_true, true_and, and_false, false_and, not_true_eq_false, not_false_eq_true, or_self, and_self, true_implies, ite_self, l2, z, v01, v5, t16, ff]
          · have eA : f5_readClause e w = bndO (f5_readMarkedDay e 12 16 (sI w 27 4 0 (nI (p + 1)))) fun r12 w11 => f5_readClause_138 e (sI w11 e 6 0 (nI Fo + r12)) := by
              unfold f5_readClause f5_isWord f5_readClause_37 f5_isTooMany f5_isTooMany_49
              simp (disch := omega) only [bE, bO, bV, bK, nI_lit, nI_add, lt_T, lt_F, le_T, le_F, eq_T, eq_F, ltm_T, ltm_F, lem_T, lem_F, eqm_F, meq_F, cl_nI, nle_T, nle_F, nlt_T, nlt_F, ↓reduceIte, or_true, true_or, or_false, false_or, and_true, true_and, and_false, false_and, not_true_eq_false, not_false_eq_true, or_self, and_self, true_implies, ite_self, l1, z, y0, y6, t4, k6]
            have eB : f8_takeClause u = bndO (f8_takeDay 32 28 8 (nI Fo) (sI u 32 16 0 (nI (p + 1)))) fun r13 w12 => f8_takeClause_233 3 r13 w12 := by
              unfold f8_takeClause f8_takeClause_46 f8_takeClause_74 f8_takeClause_153
              simp (disch := omega) only [bE, bO, bV, bK, nI_lit, nI_add, lt_T, lt_F, le_T, le_F, eq_T, eq_F, ltm_T, ltm_F, lem_T, lem_F, eqm_F, meq_F, cl_nI, nle_T, nle_F, nlt_T, nlt_F, ↓reduceIte, or_true, true_or, or_false, false_or, and_true, true_and, and_false, false_and, not_true_eq_false, not_false_eq_true, or_self, and_self, true_implies, ite_self, l2, z, v01, v5, t16, k27]
            rw [eA, eB]
            exact (clG he (by omega) (by omega) h1 m1 D1 M1).imp (FT.pre ew eu) (CO.pre ew eu)
    · left
      refine ft 1 (by omega) (by omega) _ _ ?_ ?_
      · unfold f5_readClause f5_isWord f5_readClause_25
        simp (disch := omega) only [bE, bO, bV, bK, nI_lit, nI_add, lt_T, lt_F, le_T, le_F, eq_T, eq_F, ltm_T, ltm_F, lem_T, lem_F, eqm_F, meq_F, cl_nI, nle_T, nle_F, nlt_T, nlt_F, ↓reduceIte, or_true, true_or, or_false, false_or, and_true, true_and, and_false, false_and, not_true_eq_false, not_false_eq_true, or_self, and_self, true_implies, ite_self, l1, t4, bl]
      · unfold f8_takeClause f8_takeClause_46 f8_takeClause_64
        simp (disch := omega) only [bE, bO, bV, bK, nI_lit, nI_add, lt_T, lt_F, le_T, le_F, eq_T, eq_F, ltm_T, ltm_F, lem_T, lem_F, eqm_F, meq_F, cl_nI, nle_T, nle_F, nlt_T, nlt_F, ↓reduceIte, or_true, true_or, or_false, false_or, and_true, true_and, and_false, false_and, not_true_eq_false, not_false_eq_true, or_self, and_self, true_implies, ite_self, l2, t16, ff]
end Txt
