/-! the text: the whole of it -/
theorem sb_nb {tx : Nat → Nat} : ∀ k p, sb tx k p < p + k → tx (sb tx k p) ≠ 32 := by
  intro k
  induction k with
  | zero => intro p h; rw [sb] at h; omega
  | succ k ih =>
    intro p h
    rw [sb] at h ⊢
    by_cases hz : tx p = 32
    · rw [if_pos hz] at h ⊢
      exact ih (p + 1) (by omega)
    · rw [if_neg hz]; exact hz
section Txt
variable {e : Nat} {tx : Nat → Nat} {L : Nat}
theorem loop2 {a : Int32} (he : e = 24 ∨ e = 25) : ∀ k p p0 x n m nv K Y I F Fo ro pe ob fe fs fg w u, RS tx L p w → MP tx L p0 u → p = n1 tx L p0 → DS e nv K Y I F Fo ro pe ob fe fs fg w → MRd nv K Y I F Fo ro pe ob fe fs fg u → L - p ≤ k → x + k < 240 → k + 1 < n → k + 1 < m →
    (∃ c q w' u', (0 < c ∧ c < 5 ∧ q ≤ L) ∧ f5_read_36 a e n (nI x) w = some (nI c, w') ∧ EC e w w' ∧ RF c q w' ∧ f8_rock_47 m (nI 0) u = f8_rock_66 (nI c) u' ∧ EN 15 u u' ∧ u'.1 32 15 0 = nI q) ∨
    (∃ nv K Y I F Fo ro pe ob fe fs fg w' u', f5_read_36 a e n (nI x) w = some (nI 0, w') ∧ EC e w w' ∧ DS e nv K Y I F Fo ro pe ob fe fs fg w' ∧ f8_rock_47 m (nI 0) u = f8_rock_66 (nI 0) u' ∧ EN 16 u u' ∧ MRd nv K Y I F Fo ro pe ob fe fs fg u') := by
  intro k
  induction k with
  | zero =>
    intro p p0 x n m nv K Y I F Fo ro pe ob fe fs fg w u h hm hp D M hk hx hn hm2
    obtain ⟨n, rfl⟩ : ∃ z, n = z + 1 := ⟨n - 1, by omega⟩
    obtain ⟨m, rfl⟩ : ∃ z, m = z + 1 := ⟨m - 1, by omega⟩
    have hL := h.1
    have t0 := h.2.2.2.2.1
    have t1 := h.2.2.1
    have t4 := h.2.2.2.1
    have l2 := he_ok hm
    rw [← hp, mlt, if_neg (by omega)] at l2
    right
    refine ⟨nv, K, Y, I, F, Fo, ro, pe, ob, fe, fs, fg, w, sI u 32 16 0 (nI p), ?_, EC.r w, D, ?_, EN.s (by omega) (by omega), M.o (EM.sI (by omega) (by omega))⟩
    · rw [f5_read_36]
      simp (disch := omega) only [bE, bO, bV, bK, nI_lit, nI_add, lt_T, lt_F, le_T, le_F, eq_T, eq_F, ltm_T, ltm_F, lem_T, lem_F, eqm_F, meq_F, cl_nI, nle_T, nle_F, nlt_T, nlt_F, ↓reduceIte, or_true, true_or, or_false, false_or, and_true, true_and, and_false, false_and, not_true_eq_false, not_false_eq_true, or_self, and_self, true_implies, ite_self, t0, t1, t4]
    · rw [f8_rock_47]
      simp (disch := omega) only [bE, bO, bV, bK, nI_lit, nI_add, lt_T, lt_F, le_T, le_F, eq_T, eq_F, ltm_T, ltm_F, lem_T, lem_F, eqm_F, meq_F, cl_nI, nle_T, nle_F, nlt_T, nlt_F, ↓reduceIte, or_true, true_or, or_false, false_or, and_true, true_and, and_false, false_and, not_true_eq_false, not_false_eq_true, or_self, and_self, true_implies, ite_self, l2]
  | succ k ih =>
    intro p p0 x n m nv K Y I F Fo ro pe ob fe fs fg w u h hm hp D M hk hx hn hm2
    obtain ⟨n, rfl⟩ : ∃ z, n = z + 1 + 1 := ⟨n - 2, by omega⟩
    obtain ⟨m, rfl⟩ : ∃ z, m = z + 1 + 1 := ⟨m - 2, by omega⟩
    have hL := h.1
    have hL0 := hm.1
    have t0 := h.2.2.2.2.1
    have t1 := h.2.2.1
    have t4 := h.2.2.2.1
    have l2 := he_ok hm
    rw [← hp] at l2
    by_cases hpL : p < L
    · rw [mlt, if_pos hpL] at l2
      have hc := (h.2.2.2.2.2 p hpL).1
      have hb : tx p ≠ 32 := by
        have q := sb_nb (tx := tx) (L - p0) p0 (by have : sb tx (L - p0) p0 = p := hp.symm; omega)
        rw [show sb tx (L - p0) p0 = p from hp.symm] at q
        exact q
      have m1 := hm.at (q := p) (by omega)
      have M1 := M.o (u' := sI u 32 16 0 (nI p)) (EM.sI (by omega) (by omega))
      have e0 : EN 16 u (sI u 32 16 0 (nI p)) := EN.s (by omega) (by omega)
      have eA : f5_read_36 a e (n + 1 + 1) (nI x) w = bndV (f5_readClause e w) fun w4 => bndV (f5_skipBlanks w4) fun w5 => f5_read_36 a e (n + 1) (nI (x + 1)) w5 := by
        rw [f5_read_36]
        simp (disch := omega) only [bE, bO, bV, bK, nI_lit, nI_add, lt_T, lt_F, le_T, le_F, eq_T, eq_F, ltm_T, ltm_F, lem_T, lem_F, eqm_F, meq_F, cl_nI, nle_T, nle_F, nlt_T, nlt_F, ↓reduceIte, or_true, true_or, or_false, false_or, and_true, true_and, and_false, false_and, not_true_eq_false, not_false_eq_true, or_self, and_self, true_implies, ite_self, t0, t1, t4]
      have eB : f8_rock_47 (m + 1 + 1) (nI 0) u = bndO (f8_takeClause (sI u 32 16 0 (nI p))) fun r6 w5 => f8_rock_47 (m + 1) r6 w5 := by
        rw [f8_rock_47]
        simp (disch := omega) only [bE, bO, bV, bK, nI_lit, nI_add, lt_T, lt_F, le_T, le_F, eq_T, eq_F, ltm_T, ltm_F, lem_T, lem_F, eqm_F, meq_F, cl_nI, nle_T, nle_F, nlt_T, nlt_F, ↓reduceIte, or_true, true_or, or_false, false_or, and_true, true_and, and_false, false_and, not_true_eq_false, not_false_eq_true, or_self, and_self, true_implies, ite_self, l2]
      rw [eA, eB]
      rcases cl2 he hpL hb h m1 D M1 with ⟨c, q, w', u', c1, c2, c3, c4, c5, c6, c7⟩ | ⟨nv', K', Y', I', F', Fo', ro', pe', ob', fe', fs', fg', q, w', u', c1, c2, c3, c4, c5, c6, c7, c8, c9⟩
      · left
        have hz := c4.n c1.1 c1.2.1
        refine ⟨c, q, w', u', c1, ?_, c3, c4, ?_, (e0.lo (by omega)).tr c6, c7⟩
        · have sk : f5_skipBlanks w' = some w' := by
            unfold f5_skipBlanks
            rw [if_neg hz]
          rw [c2, bV, sk, bV, f5_read_36, if_neg (show ¬ 240 < nI (x + 1) from fun z => absurd ((nI_ltI (a := 240) (by omega) (by omega)).mp z) (by omega)), if_neg hz, c4.1]
        · rw [c5, bO, f8_rock_47, if_neg (nI_nz c1.1 c1.2.1)]
      · have sk := sk_ok c3
        have hq := n_le (tx := tx) c3.1.2
        have c3' := c3.at (q := n1 tx L q) (by omega)
        have ew : E27 w' (sI w' 27 4 0 (nI (n1 tx L q))) := ⟨fun d hd => ob_sI hd, rfl⟩
        rw [c2, bV, sk, bV, c6, bO, show sb tx (L - q) q = n1 tx L q from rfl]
        rcases ih (n1 tx L q) q (x + 1) (n + 1) (m + 1) nv' K' Y' I' F' Fo' ro' pe' ob' fe' fs' fg' _ u' c3' c7 rfl (c5.o he ew) c9 (by omega) (by omega) (by omega) (by omega) with ⟨c, q', w2, u2, d1, d2, d3, d4, d5, d6, d7⟩ | ⟨nv2, K2, Y2, I2, F2, Fo2, ro2, pe2, ob2, fe2, fs2, fg2, w2, u2, d1, d2, d3, d4, d5, d6⟩
        · left
          exact ⟨c, q', w2, u2, d1, d2, (c4.tr (EC.o ew)).tr d3, d4, d5, ((e0.tr c8).lo (by omega)).tr d6, d7⟩
        · right
          exact ⟨nv2, K2, Y2, I2, F2, Fo2, ro2, pe2, ob2, fe2, fs2, fg2, w2, u2, d1, (c4.tr (EC.o ew)).tr d2, d3, d4, (e0.tr c8).tr d5, d6⟩
    · rw [mlt, if_neg (by omega)] at l2
      right
      refine ⟨nv, K, Y, I, F, Fo, ro, pe, ob, fe, fs, fg, w, sI u 32 16 0 (nI p), ?_, EC.r w, D, ?_, EN.s (by omega) (by omega), M.o (EM.sI (by omega) (by omega))⟩
      · rw [f5_read_36]
        simp (disch := omega) only [bE, bO, bV, bK, nI_lit, nI_add, lt_T, lt_F, le_T, le_F, eq_T, eq_F, ltm_T, ltm_F, lem_T, lem_F, eqm_F, meq_F, cl_nI, nle_T, nle_F, nlt_T, nlt_F, ↓reduceIte, or_true, true_or, or_false, false_or, and_true, true_and, and_false, false_and, not_true_eq_false, not_false_eq_true, or_self, and_self, true_implies, ite_self, t0, t1, t4]
      · rw [f8_rock_47]
        simp (disch := omega) only [bE, bO, bV, bK, nI_lit, nI_add, lt_T, lt_F, le_T, le_F, eq_T, eq_F, ltm_T, ltm_F, lem_T, lem_F, eqm_F, meq_F, cl_nI, nle_T, nle_F, nlt_T, nlt_F, ↓reduceIte, or_true, true_or, or_false, false_or, and_true, true_and, and_false, false_and, not_true_eq_false, not_false_eq_true, or_self, and_self, true_implies, ite_self, l2]
end Txt
/-- rows filled -/
theorem lfill {e k : Nat} : ∀ j i n w, i + j = 16 → j < n → ∃ w', f7_fill_d0a16_6 e k 16 0 n (nI i) (nI 16) w = some w' ∧ w'.1 = w.1 ∧ w'.2.2 = w.2.2 ∧ (∀ d k', ¬ (d = e ∧ k' = k) → w'.2.1 d k' = w.2.1 d k') ∧ (∀ c, c < 16 → i ≤ c → w'.2.1 e k c = 0) ∧ (∀ c, c < i → w'.2.1 e k c = w.2.1 e k c) := by
  intro j
  induction j with
  | zero =>
    intro i n w hi hn
    obtain ⟨n, rfl⟩ : ∃ z, n = z + 1 := ⟨n - 1, by omega⟩
    refine ⟨w, ?_, rfl, rfl, fun _ _ _ => rfl, fun c _ _ => by omega, fun _ _ => rfl⟩
    rw [f7_fill_d0a16_6]
    simp (disch := omega) only [bE, bO, bV, bK, nI_lit, nI_add, lt_T, lt_F, le_T, le_F, eq_T, eq_F, ltm_T, ltm_F, lem_T, lem_F, eqm_F, meq_F, cl_nI, nle_T, nle_F, nlt_T, nlt_F, ↓reduceIte, or_true, true_or, or_false, false_or, and_true, true_and, and_false, false_and, not_true_eq_false, not_false_eq_true, or_self, and_self, true_implies, ite_self]
  | succ j ih =>
    intro i n w hi hn
    obtain ⟨n, rfl⟩ : ∃ z, n = z + 1 := ⟨n - 1, by omega⟩
    obtain ⟨w', a1, a2, a3, a4, a5, a6⟩ := ih (i + 1) n (sL w e k i 0) (by omega) (by omega)
    refine ⟨w', ?_, a2, a3, fun d k' hd => ?_, fun c hc hi2 => ?_, fun c hc => ?_⟩
    · rw [f7_fill_d0a16_6]
      simp (disch := omega) only [bE, bO, bV, bK, nI_lit, nI_add, lt_T, lt_F, le_T, le_F, eq_T, eq_F, ltm_T, ltm_F, lem_T, lem_F, eqm_F, meq_F, cl_nI, nle_T, nle_F, nlt_T, nlt_F, ↓reduceIte, or_true, true_or, or_false, false_or, and_true, true_and, and_false, false_and, not_true_eq_false, not_false_eq_true, or_self, and_self, true_implies, ite_self]
      exact a1
    · rw [a4 d k' hd, rd_sL2, if_neg hd]
    · by_cases hz : c = i
      · subst hz
        rw [a6 c (by omega), rd_sL2, if_pos ⟨rfl, rfl⟩]
        unfold vp_updL
        rw [if_pos rfl]
      · exact a5 c hc (by omega)
    · rw [a6 c (by omega), rd_sL2, if_pos ⟨rfl, rfl⟩]
      unfold vp_updL
      rw [if_neg (by omega)]
theorem clear_ok {e : Nat} (w : Mem) : ∃ w', f6_clear e w = some w' ∧ (∀ d, d ≠ e → w'.1 d = w.1 d) ∧ (∀ d, d ≠ e → w'.2.1 d = w.2.1 d) ∧ w'.2.2 = w.2.2 ∧ (∀ k, k ≤ 6 → w'.1 e k 0 = nI 0) ∧ (∀ c, c < 16 → w'.2.1 e 11 c = 0) ∧ (∀ c, c < 16 → w'.2.1 e 12 c = 0) := by
  obtain ⟨w1, a1, a2, a3, a4, a5, a6⟩ := lfill (e := e) (k := 11) 16 0 100000 (sI (sI (sI (sI (sI (sI (sI w e 0 0 0) e 1 0 0) e 2 0 0) e 3 0 0) e 4 0 0) e 5 0 0) e 6 0 0) (by omega) (by omega)
  obtain ⟨w2, b1, b2, b3, b4, b5, b6⟩ := lfill (e := e) (k := 12) 16 0 100000 w1 (by omega) (by omega)
  refine ⟨w2, ?_, fun d hd => ?_, fun d hd => ?_, ?_, fun k hk => ?_, fun c hc => ?_, fun c hc => b5 c hc (by omega)⟩
  · unfold f6_clear f7_fill_d0a16
    simp only [bE]
    rw [show f7_fill_d0a16_6 e 11 16 0 100000 0 (Int32.ofNat 16) _ = _ from a1, bV, show f7_fill_d0a16_6 e 12 16 0 100000 0 (Int32.ofNat 16) _ = _ from b1, bV]
  · rw [b2, a2]
    simp only [ob_sI hd]
  · funext k'
    rw [b4 d k' (fun z => hd z.1), a4 d k' (fun z => hd z.1)]
    rfl
  · rw [b3, a3]; rfl
  · rw [b2, a2]
    rcases (show k = 0 ∨ k = 1 ∨ k = 2 ∨ k = 3 ∨ k = 4 ∨ k = 5 ∨ k = 6 by omega) with rfl | rfl | rfl | rfl | rfl | rfl | rfl <;> (simp (disch := omega) only [ky_sI, kx_sI, upd_s]; rfl)
  · rw [b4 e 11 (by omega)]
    exact a5 c hc (by omega)
theorem ifill {d k : Nat} {a : Int32} {w : Mem} : ∀ j i n f, i + j = 8 → j < n → ∃ f', f7_fill_53178_5 d k 8 a n (nI i) (nI 8) (sA w d k f) = some (sA w d k f') ∧ (∀ c, c < 8 → i ≤ c → f' c = a) ∧ (∀ c, c < i → f' c = f c) := by
  intro j
  induction j with
  | zero =>
    intro i n f hi hn
    obtain ⟨n, rfl⟩ : ∃ z, n = z + 1 := ⟨n - 1, by omega⟩
    refine ⟨f, ?_, fun c _ _ => by omega, fun _ _ => rfl⟩
    rw [f7_fill_53178_5]
    simp (disch := omega) only [bE, bO, bV, bK, nI_lit, nI_add, lt_T, lt_F, le_T, le_F, eq_T, eq_F, ltm_T, ltm_F, lem_T, lem_F, eqm_F, meq_F, cl_nI, nle_T, nle_F, nlt_T, nlt_F, ↓reduceIte, or_true, true_or, or_false, false_or, and_true, true_and, and_false, false_and, not_true_eq_false, not_false_eq_true, or_self, and_self, true_implies, ite_self]
  | succ j ih =>
    intro i n f hi hn
    obtain ⟨n, rfl⟩ : ∃ z, n = z + 1 := ⟨n - 1, by omega⟩
    obtain ⟨f', a1, a2, a3⟩ := ih (i + 1) n (upd f i a) (by omega) (by omega)
    refine ⟨f', ?_, fun c hc hi2 => ?_, fun c hc => ?_⟩
    · rw [f7_fill_53178_5]
      simp (disch := omega) only [bE, bO, bV, bK, nI_lit, nI_add, lt_T, lt_F, le_T, le_F, eq_T, eq_F, ltm_T, ltm_F, lem_T, lem_F, eqm_F, meq_F, cl_nI, nle_T, nle_F, nlt_T, nlt_F, ↓reduceIte, or_true, true_or, or_false, false_or, and_true, true_and, and_false, false_and, not_true_eq_false, not_false_eq_true, or_self, and_self, true_implies, ite_self, sI_A]
      exact a1
    · by_cases hz : c = i
      · subst hz; rw [a3 c (by omega), upd_s]
      · exact a2 c hc (by omega)
    · rw [a3 c (by omega), upd_n (by omega)]
theorem begin_ok {e : Nat} (he : e = 24 ∨ e = 25) (w : Mem) : ∃ w', f1_begin 0 e w = some w' ∧ (∀ d, d ≠ 0 → w'.1 d = w.1 d) ∧ w'.2 = w.2 ∧ (∀ v, v < 8 → w'.1 0 0 v = w.1 e 9 v) ∧ (∀ v, v < 8 → w'.1 0 1 v = -1) ∧ (∀ k, 4 ≤ k → k ≤ 13 → w'.1 0 k 0 = nI 0) := by
  obtain ⟨f, a1, a2, a3⟩ := ifill (d := 0) (k := 1) (a := -1) (w := sA w 0 0 (va_cpy (w.1 e 9) (w.1 0 0) 0 0 8)) 8 0 100000 ((sA w 0 0 (va_cpy (w.1 e 9) (w.1 0 0) 0 0 8)).1 0 1) (by omega) (by omega)
  rw [sA_id] at a1
  refine ⟨sI (sI (sI (sI (sI (sI (sI (sI (sI (sI (sA (sA w 0 0 (va_cpy (w.1 e 9) (w.1 0 0) 0 0 8)) 0 1 f) 0 4 0 0) 0 5 0 0) 0 6 0 0) 0 7 0 0) 0 8 0 0) 0 9 0 0) 0 10 0 0) 0 11 0 0) 0 12 0 0) 0 13 0 0, ?_, fun d hd => ?_, ?_, fun v hv => ?_, fun v hv => ?_, fun k h1 h2 => ?_⟩
  · unfold f1_begin f7_fill_53178
    simp only [bE]
    rw [show f7_fill_53178_5 0 1 8 (-1) 100000 0 (Int32.ofNat 8) _ = _ from a1, bV]
  · simp only [ob_sI hd, ob_sA hd]
  · rfl
  · simp (disch := omega) only [ky_sI, ky_sA, kx_sA]
    unfold va_cpy
    rw [if_pos (by omega)]
    simp
  · simp (disch := omega) only [ky_sI, kx_sA]
    exact a2 v hv (by omega)
  · rcases (show k = 4 ∨ k = 5 ∨ k = 6 ∨ k = 7 ∨ k = 8 ∨ k = 9 ∨ k = 10 ∨ k = 11 ∨ k = 12 ∨ k = 13 by omega) with rfl | rfl | rfl | rfl | rfl | rfl | rfl | rfl | rfl | rfl <;> (simp (disch := omega) only [ky_sI, kx_sI, upd_s]; rfl)
