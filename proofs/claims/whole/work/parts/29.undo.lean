/-! undo, keep, goBack -/
theorem Rel.step2 {g nv K Y I F Fo : Nat} {ro pe fe fs fg : Nat → Nat} {n : Nat} {w W : Mem} (h : RCo g nv K Y I F Fo ro pe fe fs fg n w) (hT : RTx n w) (hF : RFa w) (hN : RNo w) (e1 : ∀ d, 24 ≤ d → d ≠ 28 → d ≠ 26 → d ≠ 32 → W.1 d = w.1 d) (e26 : ∀ k, k < 10 → W.1 26 k = w.1 26 k) (e2 : W.2 = w.2) (e3 : ∀ k, k ≤ 10 ∨ (13 ≤ k ∧ k < 29) ∨ (31 ≤ k ∧ k < 43) → W.1 32 k = w.1 32 k) (hD : RD 60 nv (99 * (n + 1)) (W.1 0) (W.1 32 11)) (hP : RPa nv (99 * (n + 1)) W) (hI : RIm nv (99 * (n + 1)) W) (hS : RSd W) : Rel (n + 1) W := by
  obtain ⟨h1, h2, h3, h4, h5, h6, h7⟩ := h
  refine ⟨⟨g, nv, K, Y, I, F, Fo, ro, pe, fe, fs, fg, h1, ?_, ?_, hD, hP, hI, hS⟩, ?_, ?_, ?_⟩
  · rw [e2]; exact h2
  · rw [e1 g (by omega) (by omega) (by omega) (by omega), e2]
    exact h3.c (fun k hk => e3 k (by omega))
  · exact hT.same (e26 0 (by omega)) (e26 1 (by omega)) (e3 13 (by omega)) (e3 14 (by omega)) (by omega)
  · exact hF.same (e26 2 (by omega)) (e3 15 (by omega))
  · exact hN.same (fun k hk => by rw [e1 29 (by omega) (by omega) (by omega) (by omega)]) (fun k hk hk2 => e3 k (by omega))
theorem pop_ok {w : Mem} {nx c : Nat} (hn : nx < 20) (hc : c ≤ 20) (hc1 : 1 ≤ c) (e1 : w.1 28 1 0 = nI nx) (e2 : w.1 28 2 0 = nI c) (hb : w.1 (4 + (nx + 19) % 20) 13 0 = 0 ∨ w.1 (4 + (nx + 19) % 20) 13 0 = 1) : f3_pop 0 w = some (sA (sA (sO w 0 (cpT (w.1 (4 + (nx + 19) % 20)) (w.1 0))) 28 1 (upd (w.1 28 1) 0 (nI ((nx + 19) % 20)))) 28 2 (upd (w.1 28 2) 0 (nI (c - 1)))) := by
  have z := cp_ok (w := w) (d0 := 0) (d1 := 4 + (nx + 19) % 20) (by omega) hb
  have r := jr (a := nx + 19) (d := 20) (by omega) (by omega) (by omega)
  have y : nI nx + 20 - 1 = nI (nx + 19) := by
    rw [nI_lit, nI_lit, nI_add, pk_sub (by omega)]; rfl
  unfold f3_pop
  rw [e1, y]
  simp (disch := omega) only [bE, bO, bV, bK, nI_lit, nI_add, lt_T, lt_F, le_T, le_F, eq_T, eq_F, ltm_T, ltm_F, lem_T, lem_F, eqm_F, meq_F, cl_nI, nle_T, nle_F, nlt_T, nlt_F, ↓reduceIte, or_true, true_or, or_false, false_or, and_true, true_and, and_false, false_and, not_true_eq_false, not_false_eq_true, or_self, and_self, true_implies, ite_self, r, e2, show rb 28 = 4 from rfl, z, sI_sA, ky_sA, sO_n, pk_sub]
theorem u22 {w : Mem} {P N : Nat → Int32} {c : Nat} (hc : c < 20) (h29 : w.1 32 29 0 = nI c) (hP : w.1 32 30 = P) : ∀ k v n, v + k = 103 → k < n → f8_undo_22 n (nI v) (sA w 32 11 (cpr (fun k => P (103 * c + k)) N v)) = some (nI c, sA w 32 11 (cpr (fun k => P (103 * c + k)) N 103)) := by
  intro k
  induction k with
  | zero =>
    intro v n hv hn
    obtain ⟨n, rfl⟩ : ∃ m, n = m + 1 := ⟨n - 1, by omega⟩
    obtain rfl : v = 103 := by omega
    rw [f8_undo_22]
    simp (disch := omega) only [bE, bO, bV, bK, nI_lit, nI_add, lt_T, lt_F, le_T, le_F, eq_T, eq_F, ltm_T, ltm_F, lem_T, lem_F, eqm_F, meq_F, cl_nI, nle_T, nle_F, nlt_T, nlt_F, ↓reduceIte, or_true, true_or, or_false, false_or, and_true, true_and, and_false, false_and, not_true_eq_false, not_false_eq_true, or_self, and_self, true_implies, ite_self, ky_sA, h29]
  | succ k ih =>
    intro v n hv hn
    obtain ⟨n, rfl⟩ : ∃ m, n = m + 1 := ⟨n - 1, by omega⟩
    have i1 := ih (v + 1) n (by omega) (by omega)
    rw [← cpr_s] at i1
    rw [f8_undo_22]
    simp (disch := omega) only [bE, bO, bV, bK, nI_lit, nI_add, lt_T, lt_F, le_T, le_F, eq_T, eq_F, ltm_T, ltm_F, lem_T, lem_F, eqm_F, meq_F, cl_nI, nle_T, nle_F, nlt_T, nlt_F, ↓reduceIte, or_true, true_or, or_false, false_or, and_true, true_and, and_false, false_and, not_true_eq_false, not_false_eq_true, or_self, and_self, true_implies, ite_self, ky_sA, h29, pk_mul, sI_A, hP]
    exact i1
theorem q_undo {n : Nat} {w : Mem} (hn : n < 100) (h : Rel n w) : Same n w f7_undo f8_undo := by
  obtain ⟨⟨g, nv, K, Y, I, F, Fo, ro, pe, fe, fs, fg, hC⟩, hT, hF, hN⟩ := id h
  obtain ⟨h1, h2, h3, h4, h5, h6, h7⟩ := id hC
  have hnv := h3.1.1
  obtain ⟨nx, c, a1, a2, a3, a4, a5, a6⟩ := h5
  rcases Nat.eq_zero_or_pos c with rfl | hc
  · refine ⟨-1000000003, w, w, ?_, ?_, h.next (by omega)⟩
    · unfold f7_undo
      simp (disch := omega) only [bE, bO, bV, bK, nI_lit, nI_add, lt_T, lt_F, le_T, le_F, eq_T, eq_F, ltm_T, ltm_F, lem_T, lem_F, eqm_F, meq_F, cl_nI, nle_T, nle_F, nlt_T, nlt_F, ↓reduceIte, or_true, true_or, or_false, false_or, and_true, true_and, and_false, false_and, not_true_eq_false, not_false_eq_true, or_self, and_self, true_implies, ite_self, a4]
    · unfold f8_undo
      simp (disch := omega) only [bE, bO, bV, bK, nI_lit, nI_add, lt_T, lt_F, le_T, le_F, eq_T, eq_F, ltm_T, ltm_F, lem_T, lem_F, eqm_F, meq_F, cl_nI, nle_T, nle_F, nlt_T, nlt_F, ↓reduceIte, or_true, true_or, or_false, false_or, and_true, true_and, and_false, false_and, not_true_eq_false, not_false_eq_true, or_self, and_self, true_implies, ite_self, a5]
  · have y := a6 (c - 1) (by omega)
    rw [show (nx + 20 - c + (c - 1)) % 20 = (nx + 19) % 20 by omega] at y
    have dy := y.dn
    have z := pop_ok a1 a2 hc a3 a4 (by rw [dy.1]; exact dy.2.1)
    generalize hW : sA (sA (sO w 0 (cpT (w.1 (4 + (nx + 19) % 20)) (w.1 0))) 28 1 (upd (w.1 28 1) 0 (nI ((nx + 19) % 20)))) 28 2 (upd (w.1 28 2) 0 (nI (c - 1))) = w1 at z
    have o1 : ∀ d, d ≠ 0 → d ≠ 28 → w1.1 d = w.1 d := fun d x1 x2 => by rw [← hW, ob_sA x2, ob_sA x2, sO_n x1]
    have o2 : w1.2 = w.2 := by rw [← hW, sA_2, sA_2, sO_2]
    have o3 : w1.1 28 1 0 = nI ((nx + 19) % 20) := by rw [← hW, ky_sA (by omega), kx_sA, upd_s]
    have o4 : w1.1 28 2 0 = nI (c - 1) := by rw [← hW, kx_sA, upd_s]
    have o5 : w1.1 0 = cpT (w.1 (4 + (nx + 19) % 20)) (w.1 0) := by rw [← hW, ob_sA (by omega), ob_sA (by omega), sO_s]
    have u := u22 (w := sA w1 32 29 (upd (w.1 32 29) 0 (nI (c - 1)))) (P := w.1 32 30) (N := w.1 32 11) (c := c - 1) (by omega) (by rw [kx_sA, upd_s]) (by rw [ky_sA (by omega), o1 32 (by omega) (by omega)]) 103 0 100000 (by omega) (by omega)
    rw [cpr_0, sA_x (w := sA w1 32 29 _) (by rw [ky_sA (by omega), o1 32 (by omega) (by omega)])] at u
    refine ⟨nI (c - 1), w1, _, ?_, ?_, Rel.step (W := sA (sA w1 32 29 (upd (w.1 32 29) 0 (nI (c - 1)))) 32 11 (cpr (fun k => w.1 32 30 (103 * (c - 1) + k)) (w.1 32 11) 103)) hC hT hF hN (fun d d1 d2 d3 d4 => ?_) (fun k hk => ?_) ?_ (fun k k1 k2 k3 k4 => ?_) ⟨?_, ?_⟩ ?_ ?_ ?_⟩
    · unfold f7_undo
      simp (disch := omega) only [bE, bO, bV, bK, nI_lit, nI_add, lt_T, lt_F, le_T, le_F, eq_T, eq_F, ltm_T, ltm_F, lem_T, lem_F, eqm_F, meq_F, cl_nI, nle_T, nle_F, nlt_T, nlt_F, ↓reduceIte, or_true, true_or, or_false, false_or, and_true, true_and, and_false, false_and, not_true_eq_false, not_false_eq_true, or_self, and_self, true_implies, ite_self, a4, z, o4]
    · unfold f8_undo
      simp (disch := omega) only [bE, bO, bV, bK, nI_lit, nI_add, lt_T, lt_F, le_T, le_F, eq_T, eq_F, ltm_T, ltm_F, lem_T, lem_F, eqm_F, meq_F, cl_nI, nle_T, nle_F, nlt_T, nlt_F, ↓reduceIte, or_true, true_or, or_false, false_or, and_true, true_and, and_false, false_and, not_true_eq_false, not_false_eq_true, or_self, and_self, true_implies, ite_self, o1, a5, pk_sub, sI_sA]
      exact u
    · rw [ob_sA d4, ob_sA d4, o1 d (by omega) d2]
    · rw [ob_sA (by omega), ob_sA (by omega), o1 26 (by omega) (by omega)]
    · rw [sA_2, sA_2, o2]
    · rw [ky_sA (by omega), ky_sA (by omega), o1 32 (by omega) (by omega)]
    · rw [ob_sA (by omega), ob_sA (by omega), o1 2 (by omega) (by omega)]
    · rw [ob_sA (by omega), ob_sA (by omega), o1 3 (by omega) (by omega)]
    · rw [kx_sA, ob_sA (by omega), ob_sA (by omega), o5]
      exact ((y.cp hnv).cong hnv (fun k hk => if_pos hk)).mono (by omega)
    · refine ⟨(nx + 19) % 20, c - 1, by omega, by omega, ?_, ?_, ?_, fun v hv => ?_⟩
      · rw [ob_sA (by omega), ob_sA (by omega)]; exact o3
      · rw [ob_sA (by omega), ob_sA (by omega)]; exact o4
      · rw [ky_sA (by omega), kx_sA, upd_s]
      · rw [ky_sA (by omega), ky_sA (by omega), ob_sA (by omega), ob_sA (by omega), o1 32 (by omega) (by omega), o1 _ (by omega) (by omega), show ((nx + 19) % 20 + 20 - (c - 1) + v) % 20 = (nx + 20 - c + v) % 20 by omega]
        exact (a6 v (by omega)).mono (by omega)
    · unfold RSd
      rw [ob_sA (by omega), ob_sA (by omega), o1 26 (by omega) (by omega), ky_sA (by omega), ky_sA (by omega), o1 32 (by omega) (by omega)]
      exact h7
/-- the reference's images -/
def cpi (f g : Nat → Int32) (c v : Nat) : Nat → Int32 := fun j => if 104 * c ≤ j ∧ j < 104 * c + v then f (j - 104 * c) else g j
theorem cpi_s (f g : Nat → Int32) (c v : Nat) : upd (cpi f g c v) (104 * c + v) (f v) = cpi f g c (v + 1) := by
  funext j
  unfold cpi
  by_cases h : j = 104 * c + v
  · subst h; rw [upd_s, if_pos ⟨by omega, by omega⟩, show 104 * c + v - 104 * c = v by omega]
  · rw [upd_n h]
    by_cases h2 : 104 * c ≤ j ∧ j < 104 * c + v
    · rw [if_pos h2, if_pos ⟨h2.1, by omega⟩]
    · rw [if_neg h2, if_neg (by omega)]
theorem cpi_0 (f g : Nat → Int32) (c : Nat) : cpi f g c 0 = g := by
  funext j; exact if_neg (by omega)
theorem k15 {w : Mem} {N P : Nat → Int32} {i : Nat} (hi : i < 2) (hN : w.1 32 11 = N) : ∀ k v n, v + k = 103 → k < n → f8_keep_15 (nI i) n (nI v) (sA w 32 43 (cpi N P i v)) = f8_keep_44 (nI i) (sA w 32 43 (cpi N P i 103)) := by
  intro k
  induction k with
  | zero =>
    intro v n hv hn
    obtain ⟨n, rfl⟩ : ∃ m, n = m + 1 := ⟨n - 1, by omega⟩
    obtain rfl : v = 103 := by omega
    rw [f8_keep_15]
    simp (disch := omega) only [bE, bO, bV, bK, nI_lit, nI_add, lt_T, lt_F, le_T, le_F, eq_T, eq_F, ltm_T, ltm_F, lem_T, lem_F, eqm_F, meq_F, cl_nI, nle_T, nle_F, nlt_T, nlt_F, ↓reduceIte, or_true, true_or, or_false, false_or, and_true, true_and, and_false, false_and, not_true_eq_false, not_false_eq_true, or_self, and_self, true_implies, ite_self]
  | succ k ih =>
    intro v n hv hn
    obtain ⟨n, rfl⟩ : ∃ m, n = m + 1 := ⟨n - 1, by omega⟩
    have i1 := ih (v + 1) n (by omega) (by omega)
    rw [← cpi_s] at i1
    rw [f8_keep_15]
    simp (disch := omega) only [bE, bO, bV, bK, nI_lit, nI_add, lt_T, lt_F, le_T, le_F, eq_T, eq_F, ltm_T, ltm_F, lem_T, lem_F, eqm_F, meq_F, cl_nI, nle_T, nle_F, nlt_T, nlt_F, ↓reduceIte, or_true, true_or, or_false, false_or, and_true, true_and, and_false, false_and, not_true_eq_false, not_false_eq_true, or_self, and_self, true_implies, ite_self, ky_sA, pk_mul, sI_A, hN]
    exact i1
theorem g27 {w : Mem} {N P : Nat → Int32} {i : Nat} (hi : i < 2) (hP : w.1 32 43 = P) : ∀ k v n, v + k = 103 → k < n → f8_goBack_27 (nI i) n (nI v) (sA w 32 11 (cpr (fun k => P (104 * i + k)) N v)) = f8_goBack_56 (nI i) (sA w 32 11 (cpr (fun k => P (104 * i + k)) N 103)) := by
  intro k
  induction k with
  | zero =>
    intro v n hv hn
    obtain ⟨n, rfl⟩ : ∃ m, n = m + 1 := ⟨n - 1, by omega⟩
    obtain rfl : v = 103 := by omega
    rw [f8_goBack_27]
    simp (disch := omega) only [bE, bO, bV, bK, nI_lit, nI_add, lt_T, lt_F, le_T, le_F, eq_T, eq_F, ltm_T, ltm_F, lem_T, lem_F, eqm_F, meq_F, cl_nI, nle_T, nle_F, nlt_T, nlt_F, ↓reduceIte, or_true, true_or, or_false, false_or, and_true, true_and, and_false, false_and, not_true_eq_false, not_false_eq_true, or_self, and_self, true_implies, ite_self]
  | succ k ih =>
    intro v n hv hn
    obtain ⟨n, rfl⟩ : ∃ m, n = m + 1 := ⟨n - 1, by omega⟩
    have i1 := ih (v + 1) n (by omega) (by omega)
    rw [← cpr_s] at i1
    rw [f8_goBack_27]
    simp (disch := omega) only [bE, bO, bV, bK, nI_lit, nI_add, lt_T, lt_F, le_T, le_F, eq_T, eq_F, ltm_T, ltm_F, lem_T, lem_F, eqm_F, meq_F, cl_nI, nle_T, nle_F, nlt_T, nlt_F, ↓reduceIte, or_true, true_or, or_false, false_or, and_true, true_and, and_false, false_and, not_true_eq_false, not_false_eq_true, or_self, and_self, true_implies, ite_self, ky_sA, pk_mul, sI_A, hP]
    exact i1
