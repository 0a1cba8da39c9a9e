/-! inn, whole -/
theorem fin_rel2 {n : Nat} {w : Mem} (h : Rel n w) (T : Nat → Nat → Int32) : Rel (n + 1) (sA (sA (sO w 1 T) 32 31 (cpr (w.1 32 11) (w.1 32 31) 103)) 32 11 (w.1 32 11)) := by
  refine h.put (by omega) (fun d h1 h2 => ?_) ?_ (fun k h1 h2 => ?_) (fun k hk => ?_)
  · rw [ob_sA h2, ob_sA h2, sO_n h1]
  · rw [sA_2, sA_2, sO_2]
  · rw [ky_sA (by omega), ky_sA (by omega), sO_n (by omega)]
  · rw [kx_sA]
theorem in1_ok (x : Int32) {m : Nat} {b : Int64} (hb : b = (nI m).toInt64) (w : Mem) : f8_in x.toInt64 1 b w = some (if nI 1 ≤ x ∧ x ≤ nI m then 1 else 0, w) := by
  have := in_i x (nI 1) (nI m) w
  rw [hb]
  exact this
theorem W31 {w : Mem} {T : Nat → Nat → Int32} : ∀ k, k < 103 → (sA (sO w 1 T) 32 31 (cpr (w.1 32 11) (w.1 32 31) 103)).1 32 31 k = w.1 32 11 k := by
  intro k hk
  rw [kx_sA]
  exact if_pos hk
theorem lp_s (P : Nat → Bool) (i k : Nat) : lp P i (k + 1) = if P i then nI i else lp P (i + 1) k := rfl
theorem nI_pm (h : Nat) : nI (h + 1) + (-1) = nI h := by
  rw [← nI_add]
  rw [Int32.add_assoc, show nI 1 + (-1) = 0 from rfl, Int32.add_zero]
theorem inn_cl {a : Nat} {P : Nat → Bool} {w : Mem} (hP : ∀ i, i < 10 → ∀ T, ∃ T', f7_isLargeEnough (nI i) (nI a) (sO w 1 T) = some (if P i then 1 else 0, sO w 1 T')) :
    ∀ (k i n : Nat) T, i + k = 10 → k < n → ∃ T', f7_inn_29 (nI a) n (nI i) (sO w 1 T) = some (lp P i k, sO w 1 T') := by
  intro k
  induction k with
  | zero =>
    intro i n T hi hn
    obtain ⟨n, rfl⟩ : ∃ m, n = m + 1 := ⟨n - 1, by omega⟩
    obtain rfl : i = 10 := by omega
    refine ⟨T, ?_⟩
    rw [f7_inn_29]
    simp (disch := omega) only [bE, bO, bV, bK, nI_lit, nI_add, lt_T, lt_F, le_T, le_F, eq_T, eq_F, ltm_T, ltm_F, lem_T, lem_F, eqm_F, meq_F, cl_nI, nle_T, nle_F, nlt_T, nlt_F, ↓reduceIte, or_true, true_or, or_false, false_or, and_true, true_and, and_false, false_and, not_true_eq_false, not_false_eq_true, or_self, and_self, true_implies, ite_self]
    rfl
  | succ k ih =>
    intro i n T hi hn
    obtain ⟨n, rfl⟩ : ∃ m, n = m + 1 := ⟨n - 1, by omega⟩
    obtain ⟨T1, h1⟩ := hP i (by omega) T
    rw [f7_inn_29, lp_s]
    cases hp : P i with
    | true =>
      rw [hp, if_pos rfl] at h1
      refine ⟨T1, ?_⟩
      simp (disch := omega) only [bE, bO, bV, bK, nI_lit, nI_add, lt_T, lt_F, le_T, le_F, eq_T, eq_F, ltm_T, ltm_F, lem_T, lem_F, eqm_F, meq_F, cl_nI, nle_T, nle_F, nlt_T, nlt_F, ↓reduceIte, or_true, true_or, or_false, false_or, and_true, true_and, and_false, false_and, not_true_eq_false, not_false_eq_true, or_self, and_self, true_implies, ite_self, h1]
    | false =>
      rw [hp, if_neg (by decide)] at h1
      obtain ⟨T2, h2⟩ := ih (i + 1) n T1 (by omega) (by omega)
      refine ⟨T2, ?_⟩
      simp (disch := omega) only [bE, bO, bV, bK, nI_lit, nI_add, lt_T, lt_F, le_T, le_F, eq_T, eq_F, ltm_T, ltm_F, lem_T, lem_F, eqm_F, meq_F, cl_nI, nle_T, nle_F, nlt_T, nlt_F, ↓reduceIte, or_true, true_or, or_false, false_or, and_true, true_and, and_false, false_and, not_true_eq_false, not_false_eq_true, or_self, and_self, true_implies, ite_self, h1]
      exact h2
theorem inn_md {a : Nat} {P : Nat → Bool} {W : Mem} {N0 : Nat → Int32} (hP : ∀ i, i < 10 → ∀ b rec, f8_inn_41 (nI a) rec 100000 b (nI i) (nI 0) (sA W 32 11 N0) = rec (if P i then nI i else b) (nI i + (-1)) (sA W 32 11 N0)) :
    ∀ (h n : Nat), h ≤ 10 → h < n → f8_inn_34 (nI a) n (lp P h (10 - h)) (nI h + (-1)) (sA W 32 11 N0) = some (lp P 0 10, sA W 32 11 N0) := by
  intro h
  induction h with
  | zero =>
    intro n hh hn
    obtain ⟨n, rfl⟩ : ∃ m, n = m + 1 := ⟨n - 1, by omega⟩
    rw [f8_inn_34, if_pos (by decide)]
  | succ h ih =>
    intro n hh hn
    obtain ⟨n, rfl⟩ : ∃ m, n = m + 1 := ⟨n - 1, by omega⟩
    have y := hP h (by omega) (lp P (h + 1) (10 - (h + 1))) (f8_inn_34 (nI a) n)
    rw [← lp_s, show 10 - (h + 1) + 1 = 10 - h by omega, ih n (by omega) (by omega)] at y
    rw [f8_inn_34, nI_pm, if_neg (nI_pos (by omega))]
    exact y
theorem q_inn {n : Nat} {w : Mem} (hn : n < 100) (h : Rel n w) (a : Int32) : Same n w (f7_inn a) (f8_inn a) := by
  obtain ⟨⟨g, nv, K, Y, I, F, Fo, ro, pe, fe, fs, fg, h1, h2, h3, h4, h5, h6, h7⟩, hT, hF, hN⟩ := id h
  by_cases ha : nI 1 ≤ a ∧ a ≤ nI 60
  · obtain ⟨t, ht, ht2, rfl⟩ : ∃ t : Nat, 1 ≤ t ∧ t ≤ 60 ∧ a = nI t := by
      rcases ix3 a 61 (by omega) with z | z | ⟨t, ht, rfl⟩
      · exact absurd (Int32.lt_of_le_of_lt ha.1 z) (by decide)
      · exact absurd (Int32.le_trans z ha.2) (by decide)
      · exact ⟨t, (nI_leI (by omega) (by omega)).mp ha.1, by omega, rfl⟩
    have d0 := h4.dn
    have h30 := h3
    obtain ⟨⟨q1, q2, q3, q4, q5, q6, q7⟩, r0, ⟨r1, s1⟩, ⟨r2, s2⟩, ⟨r3, s3⟩, -⟩ := h3
    rcases Nat.eq_zero_or_pos K with rfl | hK
    · refine ⟨-1000000003, w, w, ?_, ?_, h.next (by omega)⟩
      · unfold f7_inn
        rw [if_pos rfl] at r0
        simp (disch := omega) only [bE, bO, bV, bK, nI_lit, nI_add, lt_T, lt_F, le_T, le_F, eq_T, eq_F, ltm_T, ltm_F, lem_T, lem_F, eqm_F, meq_F, cl_nI, nle_T, nle_F, nlt_T, nlt_F, ↓reduceIte, or_true, true_or, or_false, false_or, and_true, true_and, and_false, false_and, not_true_eq_false, not_false_eq_true, or_self, and_self, true_implies, ite_self, rk_g h1 h2.1, r0]
      · unfold f8_inn
        rw [in1_ok (m := 60) (b := 60) _ rfl, if_pos ha]
        simp (disch := omega) only [bE, bO, bV, bK, nI_lit, nI_add, lt_T, lt_F, le_T, le_F, eq_T, eq_F, ltm_T, ltm_F, lem_T, lem_F, eqm_F, meq_F, cl_nI, nle_T, nle_F, nlt_T, nlt_F, ↓reduceIte, or_true, true_or, or_false, false_or, and_true, true_and, and_false, false_and, not_true_eq_false, not_false_eq_true, or_self, and_self, true_implies, ite_self, s1]
    · rw [if_neg (by omega)] at r0
      obtain ⟨P, hP⟩ := fin_ch (Q := fun i p => (∀ T, ∃ T', f7_isLargeEnough (nI i) (nI t) (sO w 1 T) = some (if p then 1 else 0, sO w 1 T')) ∧ ∀ W b rec, ML g (w.1 g) (w.2.1 g) (w.1 32) W → (∀ k, k < 103 → W.1 32 31 k = w.1 32 11 k) → f8_inn_41 (nI t) rec 100000 b (nI i) (nI 0) (sA W 32 11 (w.1 32 11)) = rec (if p then nI i else b) (nI i + (-1)) (sA W 32 11 (w.1 32 11))) true 10 (fun i hi => one_inn (B := 99 * n) (by omega) (by omega) (by omega) h4 h30 ⟨h1, h2.1, rfl, rfl⟩ ⟨h1, rfl, rfl, fun _ _ => rfl⟩)
      obtain ⟨T', z1⟩ := inn_cl (fun i hi => (hP i hi).1) 10 0 100000 (w.1 1) (by omega) (by omega)
      rw [sO_id] at z1
      have z2 := inn_md (a := t) (P := P) (W := sA (sO w 1 T') 32 31 (cpr (w.1 32 11) (w.1 32 31) 103)) (N0 := w.1 32 11) (fun i hi b rec => (hP i hi).2 _ b rec ⟨h1, by rw [ob_sA (by omega), sO_n (by omega)], by rw [sA_2, sO_2], fun k hk => by rw [ky_sA (by omega), sO_n (by omega)]⟩ W31) 10 100000 (by omega) (by omega)
      refine ⟨lp P 0 10, sO w 1 T', _, ?_, ?_, fin_rel2 h T'⟩
      · unfold f7_inn
        simp (disch := omega) only [bE, bO, bV, bK, nI_lit, nI_add, lt_T, lt_F, le_T, le_F, eq_T, eq_F, ltm_T, ltm_F, lem_T, lem_F, eqm_F, meq_F, cl_nI, nle_T, nle_F, nlt_T, nlt_F, ↓reduceIte, or_true, true_or, or_false, false_or, and_true, true_and, and_false, false_and, not_true_eq_false, not_false_eq_true, or_self, and_self, true_implies, ite_self, rk_g h1 h2.1, r0]
        exact z1
      · unfold f8_inn
        rw [in1_ok (m := 60) (b := 60) _ rfl, if_pos ha]
        have z := save_T w T'
        simp (disch := omega) only [bE, bO, bV, bK, nI_lit, nI_add, lt_T, lt_F, le_T, le_F, eq_T, eq_F, ltm_T, ltm_F, lem_T, lem_F, eqm_F, meq_F, cl_nI, nle_T, nle_F, nlt_T, nlt_F, ↓reduceIte, or_true, true_or, or_false, false_or, and_true, true_and, and_false, false_and, not_true_eq_false, not_false_eq_true, or_self, and_self, true_implies, ite_self, sO_n, s1, z]
        exact z2
  · refine ⟨-1000000002, w, w, ?_, ?_, h.next (by omega)⟩
    · unfold f7_inn
      by_cases hb : a < 1
      · rw [if_pos hb]
      · rw [if_neg hb, if_neg (show ¬ a ≤ 60 from fun z => ha ⟨Int32.not_lt.mp hb, z⟩)]
    · unfold f8_inn
      rw [in1_ok (m := 60) (b := 60) _ rfl, if_neg ha]
      rfl
