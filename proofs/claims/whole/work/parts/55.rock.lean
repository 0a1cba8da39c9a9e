/-! the rock: what was read becomes it, on the reference's side -/
theorem t154 : ∀ j i n u, i + j = 8 → j < n → ∃ u', f8_takeRead_154 n (nI i) u = some u' ∧ (∀ d, d ≠ 32 → u'.1 d = u.1 d) ∧ u'.2 = u.2 ∧ (∀ k, k ≠ 8 → k ≠ 10 → u'.1 32 k = u.1 32 k) ∧ (∀ x, i ≤ x → x < 8 → u'.1 32 8 x = u.1 32 26 x ∧ u'.1 32 10 x = u.1 32 28 x) ∧ (∀ x, x < i → u'.1 32 8 x = u.1 32 8 x ∧ u'.1 32 10 x = u.1 32 10 x) := by
  intro j
  induction j with
  | zero =>
    intro i n u hi hn
    obtain ⟨n, rfl⟩ : ∃ z, n = z + 1 := ⟨n - 1, by omega⟩
    refine ⟨u, ?_, fun _ _ => rfl, rfl, fun _ _ _ => rfl, fun x _ _ => by omega, fun _ _ => ⟨rfl, rfl⟩⟩
    rw [f8_takeRead_154]
    simp (disch := omega) only [bE, bO, bV, bK, nI_lit, nI_add, lt_T, lt_F, le_T, le_F, eq_T, eq_F, ltm_T, ltm_F, lem_T, lem_F, eqm_F, meq_F, cl_nI, nle_T, nle_F, nlt_T, nlt_F, ↓reduceIte, or_true, true_or, or_false, false_or, and_true, true_and, and_false, false_and, not_true_eq_false, not_false_eq_true, or_self, and_self, true_implies, ite_self]
  | succ j ih =>
    intro i n u hi hn
    obtain ⟨n, rfl⟩ : ∃ z, n = z + 1 := ⟨n - 1, by omega⟩
    obtain ⟨u', a1, a2, a3, a4, a5, a6⟩ := ih (i + 1) n (sI (sI u 32 8 i (u.1 32 26 i)) 32 10 i (u.1 32 28 i)) (by omega) (by omega)
    refine ⟨u', ?_, fun d hd => ?_, a3, fun k h1 h2 => ?_, fun x h1 h2 => ?_, fun x hx => ?_⟩
    · rw [f8_takeRead_154]
      simp (disch := omega) only [bE, bO, bV, bK, nI_lit, nI_add, lt_T, lt_F, le_T, le_F, eq_T, eq_F, ltm_T, ltm_F, lem_T, lem_F, eqm_F, meq_F, cl_nI, nle_T, nle_F, nlt_T, nlt_F, ↓reduceIte, or_true, true_or, or_false, false_or, and_true, true_and, and_false, false_and, not_true_eq_false, not_false_eq_true, or_self, and_self, true_implies, ite_self, ky_sI]
      exact a1
    · rw [a2 d hd, ob_sI hd, ob_sI hd]
    · rw [a4 k h1 h2, ky_sI (by omega), ky_sI (by omega)]
    · by_cases hz : x = i
      · subst hz
        obtain ⟨b1, b2⟩ := a6 x (by omega)
        rw [b1, b2]
        simp (disch := omega) only [ky_sI, kx_sI, upd_s, and_self]
      · obtain ⟨b1, b2⟩ := a5 x (by omega) h2
        rw [b1, b2]
        simp (disch := omega) only [ky_sI, and_self]
    · obtain ⟨b1, b2⟩ := a6 x (by omega)
      rw [b1, b2]
      simp (disch := omega) only [ky_sI, kx_sI, upd_n, and_self]
theorem t87 {nv : Nat} (hnv : nv ≤ 8) : ∀ j v n u, v + j = nv → j < n → u.1 32 3 0 = nI nv → ∃ u', f8_takeRead_87 n (nI v) u = f8_takeRead_154 100000 0 u' ∧ (∀ d, d ≠ 32 → u'.1 d = u.1 d) ∧ u'.2 = u.2 ∧ (∀ k, k ≠ 4 → k ≠ 5 → k ≠ 6 → k ≠ 11 → u'.1 32 k = u.1 32 k) ∧ (∀ x, v ≤ x → x < nv → u'.1 32 4 x = u.1 32 21 x ∧ u'.1 32 5 x = u.1 32 22 x ∧ u'.1 32 6 x = u.1 32 24 x ∧ u'.1 32 11 (10 + x) = u.1 32 23 x) ∧ (∀ x, x < v → u'.1 32 4 x = u.1 32 4 x ∧ u'.1 32 5 x = u.1 32 5 x ∧ u'.1 32 6 x = u.1 32 6 x ∧ u'.1 32 11 (10 + x) = u.1 32 11 (10 + x)) ∧ (∀ c, c < 10 ∨ 18 ≤ c → u'.1 32 11 c = u.1 32 11 c) := by
  intro j
  induction j with
  | zero =>
    intro v n u hv hn e3
    obtain ⟨n, rfl⟩ : ∃ z, n = z + 1 := ⟨n - 1, by omega⟩
    refine ⟨u, ?_, fun _ _ => rfl, rfl, fun _ _ _ _ _ => rfl, fun x _ _ => by omega, fun _ _ => ⟨rfl, rfl, rfl, rfl⟩, fun _ _ => rfl⟩
    rw [f8_takeRead_87, e3, if_pos (nI_le (by omega) (by omega))]
  | succ j ih =>
    intro v n u hv hn e3
    obtain ⟨n, rfl⟩ : ∃ z, n = z + 1 := ⟨n - 1, by omega⟩
    obtain ⟨u', a1, a2, a3, a4, a5, a6, a7⟩ := ih (v + 1) n (sI (sI (sI (sI u 32 4 v (u.1 32 21 v)) 32 5 v (u.1 32 22 v)) 32 6 v (u.1 32 24 v)) 32 11 (10 + v) (u.1 32 23 v)) (by omega) (by omega) (by simp (disch := omega) only [ky_sI]; exact e3)
    refine ⟨u', ?_, fun d hd => ?_, a3, fun k h1 h2 h3 h4 => ?_, fun x h1 h2 => ?_, fun x hx => ?_, fun c hc => ?_⟩
    · rw [f8_takeRead_87]
      simp (disch := omega) only [bE, bO, bV, bK, nI_lit, nI_add, lt_T, lt_F, le_T, le_F, eq_T, eq_F, ltm_T, ltm_F, lem_T, lem_F, eqm_F, meq_F, cl_nI, nle_T, nle_F, nlt_T, nlt_F, ↓reduceIte, or_true, true_or, or_false, false_or, and_true, true_and, and_false, false_and, not_true_eq_false, not_false_eq_true, or_self, and_self, true_implies, ite_self, e3, ky_sI]
      exact a1
    · rw [a2 d hd, ob_sI hd, ob_sI hd, ob_sI hd, ob_sI hd]
    · rw [a4 k h1 h2 h3 h4, ky_sI (by omega), ky_sI (by omega), ky_sI (by omega), ky_sI (by omega)]
    · by_cases hz : x = v
      · subst hz
        obtain ⟨b1, b2, b3, b4⟩ := a6 x (by omega)
        rw [b1, b2, b3, b4]
        simp (disch := omega) only [ky_sI, kx_sI, upd_s, and_self]
      · obtain ⟨b1, b2, b3, b4⟩ := a5 x (by omega) h2
        rw [b1, b2, b3, b4]
        simp (disch := omega) only [ky_sI, and_self]
    · obtain ⟨b1, b2, b3, b4⟩ := a6 x (by omega)
      rw [b1, b2, b3, b4]
      simp (disch := omega) only [ky_sI, kx_sI, upd_n, and_self]
    · rw [a7 c hc]
      simp (disch := omega) only [ky_sI, kx_sI, upd_n]
theorem t56 {u : Mem} : ∀ j i n N, i + j = 103 → j < n → ∃ N', f8_takeRead_56 n (nI i) (sA u 32 11 N) = f8_takeRead_87 100000 0 (sA u 32 11 N') ∧ (∀ c, i ≤ c → c < 103 → N' c = if c < 18 then nI 0 else -1) ∧ (∀ c, c < i → N' c = N c) := by
  intro j
  induction j with
  | zero =>
    intro i n N hi hn
    obtain ⟨n, rfl⟩ : ∃ z, n = z + 1 := ⟨n - 1, by omega⟩
    refine ⟨N, ?_, fun c _ _ => by omega, fun _ _ => rfl⟩
    rw [f8_takeRead_56, if_pos (show (103 : Int32) ≤ nI i from nI_le (a := 103) (by omega) (by omega))]
  | succ j ih =>
    intro i n N hi hn
    obtain ⟨n, rfl⟩ : ∃ z, n = z + 1 := ⟨n - 1, by omega⟩
    obtain ⟨N', a1, a2, a3⟩ := ih (i + 1) n (upd N i (if i < 18 then nI 0 else -1)) (by omega) (by omega)
    refine ⟨N', ?_, fun c h1 h2 => ?_, fun c hc => ?_⟩
    · rw [f8_takeRead_56]
      by_cases hz : i < 18
      · rw [if_pos hz] at a1
        simp (disch := omega) only [bE, bO, bV, bK, nI_lit, nI_add, lt_T, lt_F, le_T, le_F, eq_T, eq_F, ltm_T, ltm_F, lem_T, lem_F, eqm_F, meq_F, cl_nI, nle_T, nle_F, nlt_T, nlt_F, ↓reduceIte, or_true, true_or, or_false, false_or, and_true, true_and, and_false, false_and, not_true_eq_false, not_false_eq_true, or_self, and_self, true_implies, ite_self, sI_A]
        exact a1
      · rw [if_neg hz] at a1
        simp (disch := omega) only [bE, bO, bV, bK, nI_lit, nI_add, lt_T, lt_F, le_T, le_F, eq_T, eq_F, ltm_T, ltm_F, lem_T, lem_F, eqm_F, meq_F, cl_nI, nle_T, nle_F, nlt_T, nlt_F, ↓reduceIte, or_true, true_or, or_false, false_or, and_true, true_and, and_false, false_and, not_true_eq_false, not_false_eq_true, or_self, and_self, true_implies, ite_self, sI_A]
        exact a1
    · by_cases hz : c = i
      · subst hz; rw [a3 c (by omega), upd_s]
      · exact a2 c (by omega) h2
    · rw [a3 c (by omega), upd_n (by omega)]
theorem tr_ok {nv K Y I F Fo : Nat} {ro pe ob fe fs fg : Nat → Nat} {u : Mem} (hb : nv ≤ 8 ∧ F ≤ 8 ∧ Fo ≤ 8) (M : MRd nv K Y I F Fo ro pe ob fe fs fg u) : ∃ u', f8_takeRead u = some u' ∧ (∀ d, d ≠ 32 → u'.1 d = u.1 d) ∧ u'.2 = u.2 ∧ (∀ k, 12 ≤ k → u'.1 32 k = u.1 32 k) ∧ (u'.1 32 0 0 = nI K ∧ u'.1 32 1 0 = nI Y ∧ u'.1 32 2 0 = nI I ∧ u'.1 32 3 0 = nI nv ∧ u'.1 32 7 0 = nI F ∧ u'.1 32 9 0 = nI Fo) ∧ (∀ v, v < nv → u'.1 32 4 v = nI (ro v) ∧ u'.1 32 5 v = nI (pe v) ∧ u'.1 32 6 v = nI (fe v) ∧ u'.1 32 11 (10 + v) = nI (ob v)) ∧ (∀ c, c < 10 → u'.1 32 11 c = nI 0) ∧ (∀ c, 18 ≤ c → c < 103 → u'.1 32 11 c = -1) ∧ (∀ i, i < F → u'.1 32 8 i = nI (fs i)) ∧ (∀ i, i < Fo → u'.1 32 10 i = nI (fg i)) := by
  obtain ⟨⟨v01, v02, v03⟩, v1, v2, v3, v4, v5, v6⟩ := M
  obtain ⟨W, hW⟩ : ∃ W, W = sI (sI (sI (sI (sI (sI u 32 0 0 (nI K)) 32 1 0 (nI Y)) 32 2 0 (nI I)) 32 3 0 (nI nv)) 32 7 0 (nI F)) 32 9 0 (nI Fo) := ⟨_, rfl⟩
  have w0 : ∀ d, d ≠ 32 → W.1 d = u.1 d := fun d hd => by rw [hW]; simp only [ob_sI hd]
  have w1 : ∀ k, 10 ≤ k → W.1 32 k = u.1 32 k := fun k hk => by rw [hW]; simp (disch := omega) only [ky_sI]
  have w2 : W.2 = u.2 := by rw [hW]; rfl
  obtain ⟨N', a1, a2, a3⟩ := t56 (u := W) 103 0 100000 (W.1 32 11) (by omega) (by omega)
  rw [sA_id] at a1
  obtain ⟨u2, b1, b2, b3, b4, b5, b6, b7⟩ := t87 hb.1 nv 0 100000 (sA W 32 11 N') (by omega) (by omega) (by rw [ky_sA (by omega), hW]; simp (disch := omega) only [ky_sI, kx_sI, upd_s])
  obtain ⟨u3, c1, c2, c3, c4, c5, c6⟩ := t154 8 0 100000 u2 (by omega) (by omega)
  have hk : ∀ k, k ≠ 8 → k ≠ 10 → k ≠ 4 → k ≠ 5 → k ≠ 6 → k ≠ 11 → u3.1 32 k = W.1 32 k := fun k h1 h2 h3 h4 h5 h6 => by rw [c4 k h1 h2, b4 k h3 h4 h5 h6, ky_sA (by omega)]
  refine ⟨u3, ?_, fun d hd => ?_, ?_, fun k hk2 => ?_, ⟨?_, ?_, ?_, ?_, ?_, ?_⟩, fun v hv => ?_, fun c hc => ?_, fun c h1 h2 => ?_, fun i hi => ?_, fun i hi => ?_⟩
  · unfold f8_takeRead
    simp only [bE]
    simp (disch := omega) only [ky_sI, v01, v02, v03, v1, v3, v5]
    rw [← hW]
    exact a1.trans (b1.trans c1)
  · rw [c2 d hd, b2 d hd, ob_sA hd, w0 d hd]
  · rw [c3, b3, sA_2, w2]
  · rw [hk k (by omega) (by omega) (by omega) (by omega) (by omega) (by omega), w1 k (by omega)]
  · rw [hk 0 (by omega) (by omega) (by omega) (by omega) (by omega) (by omega), hW]; simp (disch := omega) only [ky_sI, kx_sI, upd_s]
  · rw [hk 1 (by omega) (by omega) (by omega) (by omega) (by omega) (by omega), hW]; simp (disch := omega) only [ky_sI, kx_sI, upd_s]
  · rw [hk 2 (by omega) (by omega) (by omega) (by omega) (by omega) (by omega), hW]; simp (disch := omega) only [ky_sI, kx_sI, upd_s]
  · rw [hk 3 (by omega) (by omega) (by omega) (by omega) (by omega) (by omega), hW]; simp (disch := omega) only [ky_sI, kx_sI, upd_s]
  · rw [hk 7 (by omega) (by omega) (by omega) (by omega) (by omega) (by omega), hW]; simp (disch := omega) only [ky_sI, kx_sI, upd_s]
  · rw [hk 9 (by omega) (by omega) (by omega) (by omega) (by omega) (by omega), hW]; simp (disch := omega) only [ky_sI, kx_sI, upd_s]
  · obtain ⟨d1, d2, d3, d4⟩ := b5 v (by omega) hv
    rw [c4 4 (by omega) (by omega), c4 5 (by omega) (by omega), c4 6 (by omega) (by omega), c4 11 (by omega) (by omega), d1, d2, d3, d4, ky_sA (by omega), ky_sA (by omega), ky_sA (by omega), ky_sA (by omega), w1 21 (by omega), w1 22 (by omega), w1 23 (by omega), w1 24 (by omega)]
    obtain ⟨x1, x2, x3, x4⟩ := v2 v hv
    exact ⟨x1, x2, x4, x3⟩
  · rw [c4 11 (by omega) (by omega), b7 c (by omega), kx_sA, a2 c (by omega) (by omega), if_pos (by omega)]
  · rw [c4 11 (by omega) (by omega), b7 c (by omega), kx_sA, a2 c (by omega) (by omega), if_neg (by omega)]
  · rw [(c5 i (by omega) (by omega)).1, b4 26 (by omega) (by omega) (by omega) (by omega), ky_sA (by omega), w1 26 (by omega)]
    exact v4 i hi
  · rw [(c5 i (by omega) (by omega)).2, b4 28 (by omega) (by omega) (by omega) (by omega), ky_sA (by omega), w1 28 (by omega)]
    exact v6 i hi
theorem t12 {u : Mem} : ∀ j i n T, i + j = 3 → j < n → ∃ T', f8_rock_12 n (nI i) (sA u 32 19 T) = f8_rock_30 (sA u 32 19 T') ∧ (∀ c, i ≤ c → c < 3 → T' c = nI 0) ∧ (∀ c, c < i → T' c = T c) := by
  intro j
  induction j with
  | zero =>
    intro i n T hi hn
    obtain ⟨n, rfl⟩ : ∃ z, n = z + 1 := ⟨n - 1, by omega⟩
    refine ⟨T, ?_, fun c _ _ => by omega, fun _ _ => rfl⟩
    rw [f8_rock_12, if_pos (show (3 : Int32) ≤ nI i from nI_le (a := 3) (by omega) (by omega))]
  | succ j ih =>
    intro i n T hi hn
    obtain ⟨n, rfl⟩ : ∃ z, n = z + 1 := ⟨n - 1, by omega⟩
    obtain ⟨T', a1, a2, a3⟩ := ih (i + 1) n (upd T i (nI 0)) (by omega) (by omega)
    refine ⟨T', ?_, fun c h1 h2 => ?_, fun c hc => ?_⟩
    · rw [f8_rock_12]
      simp (disch := omega) only [bE, bO, bV, bK, nI_lit, nI_add, lt_T, lt_F, le_T, le_F, eq_T, eq_F, ltm_T, ltm_F, lem_T, lem_F, eqm_F, meq_F, cl_nI, nle_T, nle_F, nlt_T, nlt_F, ↓reduceIte, or_true, true_or, or_false, false_or, and_true, true_and, and_false, false_and, not_true_eq_false, not_false_eq_true, or_self, and_self, true_implies, ite_self, sI_A]
      exact a1
    · by_cases hz : c = i
      · subst hz; rw [a3 c (by omega), upd_s]
      · exact a2 c (by omega) h2
    · rw [a3 c (by omega), upd_n (by omega)]
theorem mrock0 {tx : Nat → Nat} {L : Nat} {u : Mem} (hL : L ≤ 200) (e14 : u.1 32 14 0 = nI L) (ht : ∀ i, i < L → tx i < 256 ∧ u.1 32 13 i = nI (tx i)) : ∃ u0, f8_rock u = f8_rock_47 100000 (nI 0) u0 ∧ EN 15 u u0 ∧ MP tx L 0 u0 ∧ MRd 0 0 0 0 0 0 (fun _ => 0) (fun _ => 0) (fun _ => 0) (fun _ => 0) (fun _ => 0) (fun _ => 0) u0 ∧ u0.1 32 15 0 = -1 := by
  obtain ⟨T', a1, a2, a3⟩ := t12 (u := sI (sI u 32 15 0 (-1)) 32 16 0 (nI 0)) 3 0 100000 ((sI (sI u 32 15 0 (-1)) 32 16 0 (nI 0)).1 32 19) (by omega) (by omega)
  rw [sA_id] at a1
  refine ⟨sI (sI (sI (sA (sI (sI u 32 15 0 (-1)) 32 16 0 (nI 0)) 32 19 T') 32 20 0 (nI 0)) 32 25 0 (nI 0)) 32 27 0 (nI 0), ?_, ⟨fun d hd => ?_, fun k hk => ?_, rfl⟩, ⟨⟨hL, by omega⟩, ?_, ?_, fun i hi => ⟨(ht i hi).1, ?_⟩⟩, ⟨⟨?_, ?_, ?_⟩, ?_, fun v hv => by omega, ?_, fun i hi => by omega, ?_, fun i hi => by omega⟩, ?_⟩
  · unfold f8_rock
    simp only [bE]
    refine Eq.trans a1 ?_
    unfold f8_rock_30
    simp only [bE]
    rfl
  · simp only [ob_sI hd, ob_sA hd]
  · simp (disch := omega) only [ky_sI, ky_sA]
  · simp (disch := omega) only [ky_sI, ky_sA]; exact e14
  · simp (disch := omega) only [ky_sI, ky_sA, kx_sI, upd_s]
  · simp (disch := omega) only [ky_sI, ky_sA]; exact (ht i hi).2
  · simp (disch := omega) only [ky_sI, kx_sA]; exact a2 0 (by omega) (by omega)
  · simp (disch := omega) only [ky_sI, kx_sA]; exact a2 1 (by omega) (by omega)
  · simp (disch := omega) only [ky_sI, kx_sA]; exact a2 2 (by omega) (by omega)
  · simp (disch := omega) only [ky_sI, kx_sI, upd_s]
  · simp (disch := omega) only [ky_sI, kx_sI, upd_s]
  · simp (disch := omega) only [kx_sI, upd_s]
  · simp (disch := omega) only [ky_sI, ky_sA, kx_sI, upd_s]
