/-! calendar, undo -/
theorem push_rel {g nv K Y I F Fo : Nat} {ro pe fe fs fg : Nat → Nat} {n : Nat} {w w1 : Mem} {f hh : Nat → Int32} (hC : RCo g nv K Y I F Fo ro pe fe fs fg n w) (hT : RTx n w) (hF : RFa w) (hN : RNo w) (p2 : ∀ d, d < 4 ∨ 24 ≤ d → d ≠ 28 → w1.1 d = w.1 d) (p3 : w1.2 = w.2) (p5 : ∀ W B', 99 * n ≤ B' → (∀ d, 4 ≤ d → d < 24 → W.1 d = w1.1 d) → W.1 28 = w1.1 28 → W.1 32 30 = f → W.1 32 29 = hh → RPa nv B' W) {D' : Nat → Nat → Int32} {N' : Nat → Int32} (hR : RD 60 nv (99 * (n + 1)) D' N') : Rel (n + 1) (sA (sA (sA (sO w1 0 D') 32 30 f) 32 29 hh) 32 11 N') := by
  obtain ⟨h1, h2, h3, h4, h5, h6, h7⟩ := id hC
  have w32 : (sO w1 0 D').1 32 = w.1 32 := by rw [sO_n (by omega), p2 32 (by omega) (by omega)]
  refine Rel.step hC hT hF hN (fun d d1 d2 d3 d4 => ?_) (fun k hk => ?_) ?_ (fun k k1 k2 k3 k4 => ?_) ⟨?_, ?_⟩ ?_ ?_ ?_
  · rw [ob_sA d4, ob_sA d4, ob_sA d4, sO_n (by omega), p2 d (by omega) d2]
  · rw [ob_sA (by omega), ob_sA (by omega), ob_sA (by omega), sO_n (by omega), p2 26 (by omega) (by omega)]
  · rw [sA_2, sA_2, sA_2, sO_2, p3]
  · rw [ky_sA (by omega), ky_sA (by omega), ky_sA (by omega), w32]
  · rw [ob_sA (by omega), ob_sA (by omega), ob_sA (by omega), sO_n (by omega), p2 2 (by omega) (by omega)]
  · rw [ob_sA (by omega), ob_sA (by omega), ob_sA (by omega), sO_n (by omega), p2 3 (by omega) (by omega)]
  · rw [kx_sA, ob_sA (by omega), ob_sA (by omega), ob_sA (by omega), sO_s]
    exact hR
  · refine p5 _ _ (by omega) (fun d d1 d2 => ?_) ?_ ?_ ?_
    · rw [ob_sA (by omega), ob_sA (by omega), ob_sA (by omega), sO_n (by omega)]
    · rw [ob_sA (by omega), ob_sA (by omega), ob_sA (by omega), sO_n (by omega)]
    · rw [ky_sA (by omega), ky_sA (by omega), kx_sA]
    · rw [ky_sA (by omega), kx_sA]
  · unfold RSd
    rw [ob_sA (by omega), ob_sA (by omega), ob_sA (by omega), sO_n (by omega), p2 26 (by omega) (by omega), ky_sA (by omega), ky_sA (by omega), ky_sA (by omega), w32]
    exact h7
theorem RD.off {qh nv B v : Nat} {D : Nat → Nat → Int32} {N : Nat → Int32} (hnv : nv ≤ 8) (h : RD qh nv B D N) (hv : v < nv) (o : Int32) : RD qh nv B (uK D 0 (upd (D 0) v o)) (upd N (10 + v) o) := by
  obtain ⟨dy, wt, fa, em, sh0, st, k1, k2, k3, k4, k5, k6, ⟨b1, c1⟩, ⟨b2, c2⟩, ⟨b3, c3⟩, ⟨b4, c4⟩, ⟨b5, c5⟩, ⟨b6, c6⟩, ⟨b7, b8, b9, b10, b11⟩, b12, b13, b14, b15⟩ := h
  refine ⟨dy, wt, fa, em, sh0, st, k1, k2, k3, k4, k5, k6, ?_, ?_, ?_, ?_, ?_, ?_, ?_, ?_, ?_, ?_, ?_⟩
  · simp (disch := omega) only [uK_n, upd_n, b1, c1, and_self]
  · simp (disch := omega) only [uK_n, upd_n, b2, c2, and_self]
  · simp (disch := omega) only [uK_n, upd_n, b3, c3, and_self]
  · simp (disch := omega) only [uK_n, upd_n, b4, c4, and_self]
  · simp (disch := omega) only [uK_n, upd_n, b5, c5, and_self]
  · simp (disch := omega) only [uK_n, upd_n, b6, c6, and_self]
  · simp (disch := omega) only [uK_n, upd_n]
    exact ⟨b7, b8, b9, b10, b11⟩
  · intro u hu
    rw [uK_s]
    by_cases hz : u = v
    · subst hz; rw [upd_s, upd_s]
    · rw [upd_n hz, upd_n (by omega)]; exact b12 u hu
  · intro u hu
    simp (disch := omega) only [uK_n, upd_n]
    exact b13 u hu
  · intro k hk
    simp (disch := omega) only [uK_n, upd_n]
    exact b14 k hk
  · intro q hq hq2
    simp (disch := omega) only [uK_n, upd_n]
    exact b15 q hq hq2
theorem upd_x {f : Nat → Int32} {i : Nat} {x : Int32} (h : f i = x) : upd f i x = f := by rw [← h]; exact upd_id f i
theorem m1_64 : (-1 : Int64) = (-1 : Int32).toInt64 := by decide
theorem m1_only {a : Int32} (h1 : ¬ a < -1) (h2 : a < nI 0) : a = -1 := by
  rw [← Int32.toInt_inj]
  have y1 : (-1 : Int32).toInt = -1 := by decide
  have y2 : (nI 0).toInt = 0 := by decide
  rw [Int32.lt_iff_toInt_lt] at h1 h2
  omega
theorem q_calendar {n : Nat} {w : Mem} (hn : n < 100) (h : Rel n w) (a b : Int32) : Same n w (f7_calendar a b) (f8_calendar a b) := by
  obtain ⟨⟨g, nv, K, Y, I, F, Fo, ro, pe, fe, fs, fg, hC⟩, hT, hF, hN⟩ := id h
  obtain ⟨h1, h2, h3, h4, h5, h6, h7⟩ := id hC
  obtain ⟨⟨hnv, -⟩, -, -, -, -, a4, -, -, a7, -⟩ := h3
  rcases ix3 a nv (by omega) with ha | ha | ⟨v, hv, rfl⟩
  · refine ⟨_, w, w, ?_, by unfold f8_calendar; rw [vil_F a4.2 hnv (Or.inl ha)]; rfl, h.next (by omega)⟩
    unfold f7_calendar
    rw [rk_g h1 h2.1]; simp only [bK]; rw [has_F a4.1 hnv (Or.inl ha)]; rfl
  · refine ⟨_, w, w, ?_, by unfold f8_calendar; rw [vil_F a4.2 hnv (Or.inr ha)]; rfl, h.next (by omega)⟩
    unfold f7_calendar
    rw [rk_g h1 h2.1]; simp only [bK]; rw [has_F a4.1 hnv (Or.inr ha)]; rfl
  · obtain ⟨⟨x1, x2, x3, x4⟩, -, ⟨y1, y2⟩, -⟩ := a7 v hv
    have inm : ∀ W : Mem, f8_in b.toInt64 (-1) (nI (pe v - 1)).toInt64 W = some (if -1 ≤ b ∧ b ≤ nI (pe v - 1) then 1 else 0, W) := fun W => by rw [m1_64]; exact in_i b (-1) (nI (pe v - 1)) W
    by_cases hb : -1 ≤ b ∧ b ≤ nI (pe v - 1)
    · obtain ⟨dy, wt, fa, em, sh0, st, -, -, -, -, -, hst, -, -, -, -, -, ⟨b6, c6⟩, -, b12, -⟩ := id h4
      obtain ⟨w1, f, hh, p1, p2, p3, p4, p5⟩ := RPa.push hnv h4 h5
      have bs := bt_sh st hst v (by omega)
      have bo := bt_or st hst v (by omega)
      have bc := bt_clr st hst v (by omega)
      have bl := bt_lt st hst v (by omega)
      have hm : ∀ W : Mem, f8_has (nI st) (nI v) W = some (if tb st v then nI 1 else nI 0, W) := fun W => hasm_ok (w := W) hst (by omega)
      have off := b12 v hv
      have w10 := p2 0 (by omega) (by omega)
      have nb1 : ¬ b < -1 := Int32.not_lt.mpr hb.1
      have lb : b < nI (pe v) := by
        have := hb.2
        rw [Int32.le_iff_toInt_le, nI_ti (by omega)] at this
        rw [Int32.lt_iff_toInt_lt, nI_ti (by omega)]
        omega
      have cas : b = -1 ∨ ∃ o, o < pe v ∧ b = nI o := by
        rcases ix3 b (pe v) (by omega) with z | z | ⟨o, ho, rfl⟩
        · exact Or.inl (m1_only nb1 z)
        · exact absurd (Int32.lt_of_le_of_lt z lb) (by rw [Int32.lt_iff_toInt_lt]; omega)
        · exact Or.inr ⟨o, ho, rfl⟩
      rcases cas with rfl | ⟨o, ho, rfl⟩
      · have hR := (h4.stay hnv bl.1).mono (show 99 * n ≤ 99 * (n + 1) by omega)
        refine ⟨if tb st v then -1 else w.1 32 11 (10 + v), sO w1 0 (uK (w.1 0) 4 (upd (w.1 0 4) 0 (nI (ins st v)))), _, ?_, ?_, push_rel hC hT hF hN p2 p3 p5 hR⟩
        · unfold f7_calendar f7_calendar_70 f1_staysAway
          rw [rk_g h1 h2.1]; simp only [bK]; rw [has_T a4.1 hnv hv]
          have e : w1 = sO w1 0 (w.1 0) := by rw [← w10, sO_id]
          simp (disch := omega) only [bE, bO, bV, bK, nI_lit, nI_add, lt_T, lt_F, le_T, le_F, eq_T, eq_F, ltm_T, ltm_F, lem_T, lem_F, eqm_F, meq_F, cl_nI, nle_T, nle_F, nlt_T, nlt_F, ↓reduceIte, or_true, true_or, or_false, false_or, and_true, true_and, and_false, false_and, not_true_eq_false, not_false_eq_true, or_self, and_self, true_implies, ite_self, rk_g h1 h2.1, y1, p1]
          rw [e]
          cases htb : tb st v with
          | true =>
            rw [htb, if_pos rfl] at bs
            simp (disch := omega) only [bE, bO, bV, bK, nI_lit, nI_add, lt_T, lt_F, le_T, le_F, eq_T, eq_F, ltm_T, ltm_F, lem_T, lem_F, eqm_F, meq_F, cl_nI, nle_T, nle_F, nlt_T, nlt_F, ↓reduceIte, or_true, true_or, or_false, false_or, and_true, true_and, and_false, false_and, not_true_eq_false, not_false_eq_true, or_self, and_self, true_implies, ite_self, sO_s, sO_sO, sI_sO, b6, bs, bo, Int32.lt_irrefl]
          | false =>
            rw [htb, if_neg (by decide)] at bs
            simp (disch := omega) only [bE, bO, bV, bK, nI_lit, nI_add, lt_T, lt_F, le_T, le_F, eq_T, eq_F, ltm_T, ltm_F, lem_T, lem_F, eqm_F, meq_F, cl_nI, nle_T, nle_F, nlt_T, nlt_F, ↓reduceIte, or_true, true_or, or_false, false_or, and_true, true_and, and_false, false_and, not_true_eq_false, not_false_eq_true, or_self, and_self, true_implies, ite_self, sO_s, sO_sO, sI_sO, b6, bs, bo, off, if_false, Bool.false_eq_true, Int32.lt_irrefl]
        · unfold f8_calendar f8_calendar_65 f8_calendar_103
          have w32 : (sO w1 0 (uK (w.1 0) 4 (upd (w.1 0 4) 0 (nI (ins st v))))).1 32 = w.1 32 := by rw [sO_n (by omega), p2 32 (by omega) (by omega)]
          have pp := p4 (sO w1 0 (uK (w.1 0) 4 (upd (w.1 0 4) 0 (nI (ins st v))))) (by rw [w32]) (by rw [w32]) (by rw [w32])
          have z1 := vil_T (w := sO w1 0 (uK (w.1 0) 4 (upd (w.1 0 4) 0 (nI (ins st v))))) (v := v) (by rw [w32]; exact a4.2) hnv hv
          have z5 : (sO w1 0 (uK (w.1 0) 4 (upd (w.1 0 4) 0 (nI (ins st v))))).1 32 5 v = nI (pe v) := by rw [w32]; exact y2
          have z11 : (sA (sA (sO w1 0 (uK (w.1 0) 4 (upd (w.1 0 4) 0 (nI (ins st v))))) 32 30 f) 32 29 hh).1 32 11 = w.1 32 11 := by rw [ky_sA (by omega), ky_sA (by omega), w32]
          generalize sA (sA (sO w1 0 (uK (w.1 0) 4 (upd (w.1 0 4) 0 (nI (ins st v))))) 32 30 f) 32 29 hh = W2 at pp z11 ⊢
          have z12 : ∀ x, sI W2 32 11 8 x = sA W2 32 11 (upd (w.1 32 11) 8 x) := fun x => by rw [sI_sA, z11]
          have inm2 : f8_in (-nI 1).toInt64 (-1) (nI (pe v - 1)).toInt64 (sO w1 0 (uK (w.1 0) 4 (upd (w.1 0 4) 0 (nI (ins st v))))) = some (nI 1, sO w1 0 (uK (w.1 0) 4 (upd (w.1 0 4) 0 (nI (ins st v))))) := by
            have y := inm (sO w1 0 (uK (w.1 0) 4 (upd (w.1 0 4) 0 (nI (ins st v)))))
            rw [if_pos hb] at y; exact y
          have hm2 := hm W2
          rw [z1]
          cases htb : tb st v with
          | true =>
            rw [htb, if_pos rfl] at hm2
            simp (disch := omega) only [bE, bO, bV, bK, nI_lit, nI_add, lt_T, lt_F, le_T, le_F, eq_T, eq_F, ltm_T, ltm_F, lem_T, lem_F, eqm_F, meq_F, cl_nI, nle_T, nle_F, nlt_T, nlt_F, ↓reduceIte, or_true, true_or, or_false, false_or, and_true, true_and, and_false, false_and, not_true_eq_false, not_false_eq_true, or_self, and_self, true_implies, ite_self, z5, pk_sub, pp, z11, c6, z12, kx_sA, sI_A, bo, bc, if_true, upd_n, inm2, hm2]
            try rw [upd_x (by rw [upd_n (by omega)])]
          | false =>
            rw [htb, if_neg (by decide)] at hm2
            simp (disch := omega) only [bE, bO, bV, bK, nI_lit, nI_add, lt_T, lt_F, le_T, le_F, eq_T, eq_F, ltm_T, ltm_F, lem_T, lem_F, eqm_F, meq_F, cl_nI, nle_T, nle_F, nlt_T, nlt_F, ↓reduceIte, or_true, true_or, or_false, false_or, and_true, true_and, and_false, false_and, not_true_eq_false, not_false_eq_true, or_self, and_self, true_implies, ite_self, z5, pk_sub, pp, z11, c6, z12, kx_sA, sI_A, bo, bc, if_true, if_false, Bool.false_eq_true, upd_n, inm2, hm2]
            try rw [upd_x (by rw [upd_n (by omega)])]
      · have hR := ((h4.stay hnv bl.2).off hnv hv (nI o)).mono (show 99 * n ≤ 99 * (n + 1) by omega)
        refine ⟨if tb st v then -1 else w.1 32 11 (10 + v), sO w1 0 (uK (uK (w.1 0) 4 (upd (w.1 0 4) 0 (nI (clr st v)))) 0 (upd (uK (w.1 0) 4 (upd (w.1 0 4) 0 (nI (clr st v))) 0) v (nI o))), _, ?_, ?_, push_rel hC hT hF hN p2 p3 p5 hR⟩
        · unfold f7_calendar f7_calendar_70 f1_staysAway
          rw [rk_g h1 h2.1]; simp only [bK]; rw [has_T a4.1 hnv hv]
          have e : w1 = sO w1 0 (w.1 0) := by rw [← w10, sO_id]
          simp (disch := omega) only [bE, bO, bV, bK, nI_lit, nI_add, lt_T, lt_F, le_T, le_F, eq_T, eq_F, ltm_T, ltm_F, lem_T, lem_F, eqm_F, meq_F, cl_nI, nle_T, nle_F, nlt_T, nlt_F, ↓reduceIte, or_true, true_or, or_false, false_or, and_true, true_and, and_false, false_and, not_true_eq_false, not_false_eq_true, or_self, and_self, true_implies, ite_self, rk_g h1 h2.1, y1, p1]
          rw [e]
          cases htb : tb st v with
          | true =>
            rw [htb, if_pos rfl] at bs
            simp (disch := omega) only [bE, bO, bV, bK, nI_lit, nI_add, lt_T, lt_F, le_T, le_F, eq_T, eq_F, ltm_T, ltm_F, lem_T, lem_F, eqm_F, meq_F, cl_nI, nle_T, nle_F, nlt_T, nlt_F, ↓reduceIte, or_true, true_or, or_false, false_or, and_true, true_and, and_false, false_and, not_true_eq_false, not_false_eq_true, or_self, and_self, true_implies, ite_self, sO_s, sO_sO, sI_sO, b6, bs, bc, uK_n, Int32.lt_irrefl]
          | false =>
            rw [htb, if_neg (by decide)] at bs
            simp (disch := omega) only [bE, bO, bV, bK, nI_lit, nI_add, lt_T, lt_F, le_T, le_F, eq_T, eq_F, ltm_T, ltm_F, lem_T, lem_F, eqm_F, meq_F, cl_nI, nle_T, nle_F, nlt_T, nlt_F, ↓reduceIte, or_true, true_or, or_false, false_or, and_true, true_and, and_false, false_and, not_true_eq_false, not_false_eq_true, or_self, and_self, true_implies, ite_self, sO_s, sO_sO, sI_sO, b6, bs, bc, off, uK_n, if_false, Bool.false_eq_true, Int32.lt_irrefl]
        · unfold f8_calendar f8_calendar_65 f8_calendar_103
          have w32 : (sO w1 0 (uK (uK (w.1 0) 4 (upd (w.1 0 4) 0 (nI (clr st v)))) 0 (upd (uK (w.1 0) 4 (upd (w.1 0 4) 0 (nI (clr st v))) 0) v (nI o)))).1 32 = w.1 32 := by rw [sO_n (by omega), p2 32 (by omega) (by omega)]
          have pp := p4 (sO w1 0 (uK (uK (w.1 0) 4 (upd (w.1 0 4) 0 (nI (clr st v)))) 0 (upd (uK (w.1 0) 4 (upd (w.1 0 4) 0 (nI (clr st v))) 0) v (nI o)))) (by rw [w32]) (by rw [w32]) (by rw [w32])
          have z1 := vil_T (w := sO w1 0 (uK (uK (w.1 0) 4 (upd (w.1 0 4) 0 (nI (clr st v)))) 0 (upd (uK (w.1 0) 4 (upd (w.1 0 4) 0 (nI (clr st v))) 0) v (nI o)))) (v := v) (by rw [w32]; exact a4.2) hnv hv
          have z5 : (sO w1 0 (uK (uK (w.1 0) 4 (upd (w.1 0 4) 0 (nI (clr st v)))) 0 (upd (uK (w.1 0) 4 (upd (w.1 0 4) 0 (nI (clr st v))) 0) v (nI o)))).1 32 5 v = nI (pe v) := by rw [w32]; exact y2
          have z11 : (sA (sA (sO w1 0 (uK (uK (w.1 0) 4 (upd (w.1 0 4) 0 (nI (clr st v)))) 0 (upd (uK (w.1 0) 4 (upd (w.1 0 4) 0 (nI (clr st v))) 0) v (nI o)))) 32 30 f) 32 29 hh).1 32 11 = w.1 32 11 := by rw [ky_sA (by omega), ky_sA (by omega), w32]
          generalize sA (sA (sO w1 0 (uK (uK (w.1 0) 4 (upd (w.1 0 4) 0 (nI (clr st v)))) 0 (upd (uK (w.1 0) 4 (upd (w.1 0 4) 0 (nI (clr st v))) 0) v (nI o)))) 32 30 f) 32 29 hh = W2 at pp z11 ⊢
          have z12 : ∀ x, sI W2 32 11 8 x = sA W2 32 11 (upd (w.1 32 11) 8 x) := fun x => by rw [sI_sA, z11]
          have inm2 : f8_in (nI o).toInt64 (-1) (nI (pe v - 1)).toInt64 (sO w1 0 (uK (uK (w.1 0) 4 (upd (w.1 0 4) 0 (nI (clr st v)))) 0 (upd (uK (w.1 0) 4 (upd (w.1 0 4) 0 (nI (clr st v))) 0) v (nI o)))) = some (nI 1, sO w1 0 (uK (uK (w.1 0) 4 (upd (w.1 0 4) 0 (nI (clr st v)))) 0 (upd (uK (w.1 0) 4 (upd (w.1 0 4) 0 (nI (clr st v))) 0) v (nI o)))) := by
            have y := inm (sO w1 0 (uK (uK (w.1 0) 4 (upd (w.1 0 4) 0 (nI (clr st v)))) 0 (upd (uK (w.1 0) 4 (upd (w.1 0 4) 0 (nI (clr st v))) 0) v (nI o))))
            rw [if_pos hb] at y; exact y
          have hm2 := hm W2
          rw [z1]
          cases htb : tb st v with
          | true =>
            rw [htb, if_pos rfl] at hm2
            simp (disch := omega) only [bE, bO, bV, bK, nI_lit, nI_add, lt_T, lt_F, le_T, le_F, eq_T, eq_F, ltm_T, ltm_F, lem_T, lem_F, eqm_F, meq_F, cl_nI, nle_T, nle_F, nlt_T, nlt_F, ↓reduceIte, or_true, true_or, or_false, false_or, and_true, true_and, and_false, false_and, not_true_eq_false, not_false_eq_true, or_self, and_self, true_implies, ite_self, z5, pk_sub, pp, z11, c6, z12, kx_sA, sI_A, bo, bc, if_true, upd_n, inm2, hm2]
            try rw [upd_x (by rw [upd_n (by omega)])]
          | false =>
            rw [htb, if_neg (by decide)] at hm2
            simp (disch := omega) only [bE, bO, bV, bK, nI_lit, nI_add, lt_T, lt_F, le_T, le_F, eq_T, eq_F, ltm_T, ltm_F, lem_T, lem_F, eqm_F, meq_F, cl_nI, nle_T, nle_F, nlt_T, nlt_F, ↓reduceIte, or_true, true_or, or_false, false_or, and_true, true_and, and_false, false_and, not_true_eq_false, not_false_eq_true, or_self, and_self, true_implies, ite_self, z5, pk_sub, pp, z11, c6, z12, kx_sA, sI_A, bo, bc, if_true, if_false, Bool.false_eq_true, upd_n, inm2, hm2]
            try rw [upd_x (by rw [upd_n (by omega)])]
    · refine ⟨-1000000002, w, w, ?_, ?_, h.next (by omega)⟩
      · unfold f7_calendar
        rw [rk_g h1 h2.1]; simp only [bK]; rw [has_T a4.1 hnv hv]
        by_cases hz : b < -1
        · simp only [bO]
          rw [if_neg (by decide), if_pos hz]
        · have lb : ¬ b < nI (pe v) := fun z => hb ⟨Int32.not_lt.mp hz, by
            rw [Int32.lt_iff_toInt_lt, nI_ti (by omega)] at z
            rw [Int32.le_iff_toInt_le, nI_ti (by omega)]
            omega⟩
          simp only [bO]
          rw [if_neg (by decide), if_neg hz, rk_g h1 h2.1, bK]
          simp (disch := omega) only [bE, bO, bV, bK, nI_lit, nI_add, lt_T, lt_F, le_T, le_F, eq_T, eq_F, ltm_T, ltm_F, lem_T, lem_F, eqm_F, meq_F, cl_nI, nle_T, nle_F, nlt_T, nlt_F, ↓reduceIte, or_true, true_or, or_false, false_or, and_true, true_and, and_false, false_and, not_true_eq_false, not_false_eq_true, or_self, and_self, true_implies, ite_self, y1]
          exact if_neg lb
      · unfold f8_calendar
        rw [vil_T a4.2 hnv hv]
        have inm3 : f8_in b.toInt64 (-1) (nI (pe v - 1)).toInt64 w = some (nI 0, w) := by rw [inm, if_neg hb]; rfl
        simp (disch := omega) only [bE, bO, bV, bK, nI_lit, nI_add, lt_T, lt_F, le_T, le_F, eq_T, eq_F, ltm_T, ltm_F, lem_T, lem_F, eqm_F, meq_F, cl_nI, nle_T, nle_F, nlt_T, nlt_F, ↓reduceIte, or_true, true_or, or_false, false_or, and_true, true_and, and_false, false_and, not_true_eq_false, not_false_eq_true, or_self, and_self, true_implies, ite_self, y2, pk_sub, inm3]
