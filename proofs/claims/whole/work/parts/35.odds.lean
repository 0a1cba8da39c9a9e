theorem tb_hi {m nv v : Nat} (h : m < 2 ^ nv) (hv : nv ≤ v) : tb m v = false := by
  unfold tb
  rw [Nat.div_eq_of_lt (Nat.lt_of_lt_of_le h (Nat.pow_le_pow_right (by omega) hv))]
  rfl
section Rock
variable {nv K Y I F Fo : Nat} {ro pe fe fs fg : Nat → Nat} {G : Nat → Nat → Int32} {GL : Nat → Nat → Int64} {M : Nat → Nat → Int32} {w : Mem} {g : Nat}
theorem od_tail {m : Nat} {a no on : Int32} (hm : m < 256) (hm2 : m < 2 ^ nv) : ∀ k v n, v + k = 8 → nv ≤ v → k < n → f7_odds_36 a n (nI m) no on (nI v) w = some (on, w) := by
  intro k
  induction k with
  | zero =>
    intro v n hv hv2 hn
    obtain ⟨n, rfl⟩ : ∃ x, n = x + 1 := ⟨n - 1, by omega⟩
    obtain rfl : v = 8 := by omega
    rw [f7_odds_36]
    simp (disch := omega) only [bE, bO, bV, bK, nI_lit, nI_add, lt_T, lt_F, le_T, le_F, eq_T, eq_F, ltm_T, ltm_F, lem_T, lem_F, eqm_F, meq_F, cl_nI, nle_T, nle_F, nlt_T, nlt_F, ↓reduceIte, or_true, true_or, or_false, false_or, and_true, true_and, and_false, false_and, not_true_eq_false, not_false_eq_true, or_self, and_self, true_implies, ite_self]
  | succ k ih =>
    intro v n hv hv2 hn
    obtain ⟨n, rfl⟩ : ∃ x, n = x + 1 := ⟨n - 1, by omega⟩
    have b := bt_sh m hm v (by omega)
    rw [tb_hi hm2 hv2, if_neg (by decide)] at b
    rw [f7_odds_36]
    simp (disch := omega) only [bE, bO, bV, bK, nI_lit, nI_add, lt_T, lt_F, le_T, le_F, eq_T, eq_F, ltm_T, ltm_F, lem_T, lem_F, eqm_F, meq_F, cl_nI, nle_T, nle_F, nlt_T, nlt_F, ↓reduceIte, or_true, true_or, or_false, false_or, and_true, true_and, and_false, false_and, not_true_eq_false, not_false_eq_true, or_self, and_self, true_implies, ite_self, b]
    exact ih (v + 1) n (by omega) (by omega) (by omega)
theorem od_loop {m : Nat} {a : Int32} (h1 : g = 24 ∨ g = 25) (h2 : w.2.2 26 4 = (g, 0)) (hnv : nv ≤ 8) (h3 : w.1 32 3 0 = nI nv) (hf : ∀ v, v < nv → fe v ≤ 100 ∧ w.1 g 10 v = nI (fe v) ∧ w.1 32 6 v = nI (fe v)) (hm : m < 256) (hm2 : m < 2 ^ nv) : ∀ k v n n' no on, v + k = nv → 8 - v < n → k < n' → ∃ r, f7_odds_36 a n (nI m) no on (nI v) w = some (r, w) ∧ f8_odds_31 a n' no on (nI m) (nI v) w = some (r, w) := by
  intro k
  induction k with
  | zero =>
    intro v n n' no on hv hn hn'
    obtain ⟨n', rfl⟩ : ∃ x, n' = x + 1 := ⟨n' - 1, by omega⟩
    obtain rfl : v = nv := by omega
    refine ⟨on, od_tail hm hm2 (8 - v) v n (by omega) (by omega) (by omega), ?_⟩
    rw [f8_odds_31]
    simp (disch := omega) only [bE, bO, bV, bK, nI_lit, nI_add, lt_T, lt_F, le_T, le_F, eq_T, eq_F, ltm_T, ltm_F, lem_T, lem_F, eqm_F, meq_F, cl_nI, nle_T, nle_F, nlt_T, nlt_F, ↓reduceIte, or_true, true_or, or_false, false_or, and_true, true_and, and_false, false_and, not_true_eq_false, not_false_eq_true, or_self, and_self, true_implies, ite_self, h3]
  | succ k ih =>
    intro v n n' no on hv hn hn'
    obtain ⟨n, rfl⟩ : ∃ x, n = x + 1 := ⟨n - 1, by omega⟩
    obtain ⟨n', rfl⟩ : ∃ x, n' = x + 1 := ⟨n' - 1, by omega⟩
    have b := bt_sh m hm v (by omega)
    have c := hasm_ok (w := w) (v := v) hm (by omega)
    obtain ⟨f1, f2, f3⟩ := hf v (by omega)
    cases h5 : tb m v with
    | true =>
      rw [h5, if_pos rfl] at b c
      obtain ⟨r, r1, r2⟩ := ih (v + 1) n n' (no * nI (fe v) / nI 100) (on * nI (fe v) / nI 100 + no * (nI 100 - nI (fe v)) / nI 100) (by omega) (by omega) (by omega)
      refine ⟨r, ?_, ?_⟩
      · rw [f7_odds_36]
        simp (disch := omega) only [bE, bO, bV, bK, nI_lit, nI_add, lt_T, lt_F, le_T, le_F, eq_T, eq_F, ltm_T, ltm_F, lem_T, lem_F, eqm_F, meq_F, cl_nI, nle_T, nle_F, nlt_T, nlt_F, ↓reduceIte, or_true, true_or, or_false, false_or, and_true, true_and, and_false, false_and, not_true_eq_false, not_false_eq_true, or_self, and_self, true_implies, ite_self, b, rk_g h1 h2, f2]
        exact r1
      · rw [f8_odds_31]
        simp (disch := omega) only [bE, bO, bV, bK, nI_lit, nI_add, lt_T, lt_F, le_T, le_F, eq_T, eq_F, ltm_T, ltm_F, lem_T, lem_F, eqm_F, meq_F, cl_nI, nle_T, nle_F, nlt_T, nlt_F, ↓reduceIte, or_true, true_or, or_false, false_or, and_true, true_and, and_false, false_and, not_true_eq_false, not_false_eq_true, or_self, and_self, true_implies, ite_self, h3, c, f3]
        exact r2
    | false =>
      rw [h5, if_neg (by decide)] at b c
      obtain ⟨r, r1, r2⟩ := ih (v + 1) n n' no on (by omega) (by omega) (by omega)
      refine ⟨r, ?_, ?_⟩
      · rw [f7_odds_36]
        simp (disch := omega) only [bE, bO, bV, bK, nI_lit, nI_add, lt_T, lt_F, le_T, le_F, eq_T, eq_F, ltm_T, ltm_F, lem_T, lem_F, eqm_F, meq_F, cl_nI, nle_T, nle_F, nlt_T, nlt_F, ↓reduceIte, or_true, true_or, or_false, false_or, and_true, true_and, and_false, false_and, not_true_eq_false, not_false_eq_true, or_self, and_self, true_implies, ite_self, b]
        exact r1
      · rw [f8_odds_31]
        simp (disch := omega) only [bE, bO, bV, bK, nI_lit, nI_add, lt_T, lt_F, le_T, le_F, eq_T, eq_F, ltm_T, ltm_F, lem_T, lem_F, eqm_F, meq_F, cl_nI, nle_T, nle_F, nlt_T, nlt_F, ↓reduceIte, or_true, true_or, or_false, false_or, and_true, true_and, and_false, false_and, not_true_eq_false, not_false_eq_true, or_self, and_self, true_implies, ite_self, h3, c]
        exact r2
end Rock
theorem q_odds {n : Nat} {w : Mem} (hn : n < 100) (h : Rel n w) (a : Int32) : Same n w (f7_odds a) (f8_odds a) := by
  obtain ⟨⟨g, nv, K, Y, I, F, Fo, ro, pe, fe, fs, fg, h1, h2, h3, h4, h5, h6, h7⟩, hT, hF, hN⟩ := id h
  rcases ix3 a 1000 (by omega) with ha | ha | ⟨t, ht, rfl⟩
  · exact ⟨_, w, w, by unfold f7_odds; rw [if_pos (show a < 0 from ha)], by unfold f8_odds; rw [in_neg w ha]; rfl, h.next (by omega)⟩
  · exact ⟨_, w, w, by unfold f7_odds; rw [if_neg (big_nlt (by omega) ha), if_neg (show ¬ a ≤ 999 from big_nle (j := 999) (by omega) ha (by omega))], by unfold f8_odds; rw [in_big (m := 999) (b := 999) w rfl (by omega) ha]; rfl, h.next (by omega)⟩
  · obtain ⟨dy, wt, fa, em, sh, st, -, -, -, -, -, hst, -, -, -, -, -, b6, -, b12, -, -⟩ := h4
    have h30 := h3
    obtain ⟨⟨q1, -⟩, -, -, -, -, ⟨r4, s4⟩, -, -, r7, -⟩ := h3
    have c1 := cal_ok h30 (d := 0) (t := t) b6.1 hst (by omega)
    have c2 := mgo_ok h30 (t := t) b6.2 hst (by omega) b12
    have c3 := gm_lt (ro := ro) (pe := pe) (F := F) (Fo := Fo) (fs := fs) (fg := fg) q1 (w.1 0 0) st t
    obtain ⟨r, r1, r2⟩ := od_loop (a := nI t) h1 h2.1 q1 s4 (fun v hv => ⟨(r7 v hv).1.2.2.2, (r7 v hv).2.2.2.1, (r7 v hv).2.2.2.2⟩) c3.1 c3.2 nv 0 100000 100000 1000000 0 (by omega) (by omega) (by omega)
    refine ⟨r, w, w, ?_, ?_, h.next (by omega)⟩
    · unfold f7_odds
      rw [if_neg (nI_pos (by omega)), if_pos (show nI t ≤ 999 from nI_le (b := 999) (by omega) (by omega)), rk_g h1 h2.1, bK, c1, bO]
      exact r1
    · unfold f8_odds
      rw [in0_T (m := 999) (b := 999) w rfl (by omega) (by omega)]
      simp only [bO]
      rw [if_neg (by decide), c2, bO]
      exact r2
