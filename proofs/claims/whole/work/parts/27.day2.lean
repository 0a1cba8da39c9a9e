/-! day -/
theorem Rel.step {g nv K Y I F Fo : Nat} {ro pe fe fs fg : Nat → Nat} {n : Nat} {w W : Mem} (h : RCo g nv K Y I F Fo ro pe fe fs fg n w) (hT : RTx n w) (hF : RFa w) (hN : RNo w) (e1 : ∀ d, 24 ≤ d → d ≠ 28 → d ≠ 26 → d ≠ 32 → W.1 d = w.1 d) (e26 : ∀ k, k ≠ 12 → W.1 26 k = w.1 26 k) (e2 : W.2 = w.2) (e3 : ∀ k, k ≠ 11 → k ≠ 12 → k ≠ 29 → k ≠ 30 → W.1 32 k = w.1 32 k) (e4 : W.1 2 = w.1 2 ∧ W.1 3 = w.1 3) (hD : RD 60 nv (99 * (n + 1)) (W.1 0) (W.1 32 11)) (hP : RPa nv (99 * (n + 1)) W) (hS : RSd W) : Rel (n + 1) W := by
  obtain ⟨h1, h2, h3, h4, h5, h6, h7⟩ := h
  refine ⟨⟨g, nv, K, Y, I, F, Fo, ro, pe, fe, fs, fg, h1, ?_, ?_, hD, hP, ?_, hS⟩, ?_, ?_, ?_⟩
  · rw [e2]; exact h2
  · rw [e1 g (by omega) (by omega) (by omega) (by omega), e2]
    exact h3.c (fun k hk => e3 k (by omega) (by omega) (by omega) (by omega))
  · exact h6.same e4.1 e4.2 (e26 10 (by omega)) (e26 11 (by omega)) (e3 43 (by omega) (by omega) (by omega) (by omega)) (e3 44 (by omega) (by omega) (by omega) (by omega)) (by omega)
  · exact hT.same (e26 0 (by omega)) (e26 1 (by omega)) (e3 13 (by omega) (by omega) (by omega) (by omega)) (e3 14 (by omega) (by omega) (by omega) (by omega)) (by omega)
  · exact hF.same (e26 2 (by omega)) (e3 15 (by omega) (by omega) (by omega) (by omega))
  · exact hN.same (fun k hk => by rw [e1 29 (by omega) (by omega) (by omega) (by omega)]) (fun k hk hk2 => e3 k (by omega) (by omega) (by omega) (by omega))
section Rock
variable {nv K Y I F Fo : Nat} {ro pe fe fs fg : Nat → Nat} {G : Nat → Nat → Int32} {GL : Nat → Nat → Int64} {M : Nat → Nat → Int32}
theorem ref_ok {g B : Nat} {w : Mem} (h1 : g = 24 ∨ g = 25) (h2 : w.2.2 26 4 = (g, 0)) (h3 : RG nv K Y I F Fo ro pe fe fs fg (w.1 g) (w.2.1 g) (w.1 32)) (h4 : RD 60 nv B (w.1 0) (w.1 32 11)) (a : Int32) :
    ∃ r, f7_refusalOfDays a w = some (r, w) ∧ (∀ W : Mem, W.1 32 0 = w.1 32 0 → W.1 32 11 = w.1 32 11 → f8_daysRefused a W = some (r, W)) ∧ (r = 0 → ∃ t : Nat, 1 ≤ t ∧ t ≤ 99 ∧ a = nI t) := by
  obtain ⟨⟨q1, q2, q3, q4, q5, q6, q7⟩, r0, ⟨r1, s1⟩, -⟩ := h3
  have d0 := h4.dn
  by_cases ha : nI 1 ≤ a ∧ a ≤ nI 99
  · obtain ⟨t, ht, ht2, rfl⟩ : ∃ t : Nat, 1 ≤ t ∧ t ≤ 99 ∧ a = nI t := by
      rcases ix3 a 100 (by omega) with z | z | ⟨t, ht, rfl⟩
      · exact absurd (Int32.lt_of_le_of_lt ha.1 z) (by decide)
      · exact absurd (Int32.le_trans z ha.2) (by decide)
      · exact ⟨t, (nI_leI (by omega) (by omega)).mp ha.1, by omega, rfl⟩
    have a1 : ¬ nI t < 1 := Int32.not_lt.mpr ha.1
    have a2 : nI t ≤ 99 := nI_le (b := 99) (by omega) (by omega)
    rcases Nat.eq_zero_or_pos K with rfl | hK
    · refine ⟨-1000000003, ?_, fun W e1 e2 => ?_, fun z => absurd z (by decide)⟩
      · unfold f7_refusalOfDays
        rw [if_neg a1, if_pos a2, rk_g h1 h2]; simp only [bK]
        rw [r0]; rfl
      · unfold f8_daysRefused
        rw [in1_ok (m := 99) (b := 99) _ rfl, if_pos ha]; simp only [bO]
        rw [e1, s1]; rfl
    · rw [if_neg (by omega)] at r0
      have s1' : ¬ nI K = 0 := fun z => absurd ((nI_eq (b := 0) (by omega) (by omega)).mp z) (by omega)
      rcases d0.2.1 with e0 | e0
      · refine ⟨if w.1 32 11 0 ≤ 9000 then 0 else -1000000004, ?_, fun W e1 e2 => ?_, fun _ => ⟨t, ht, ht2, rfl⟩⟩
        · unfold f7_refusalOfDays
          rw [if_neg a1, if_pos a2, rk_g h1 h2]; simp only [bK]
          rw [r0, if_neg (by decide), d0.1, e0, if_pos rfl, d0.2.2.1]
          by_cases hz : w.1 32 11 0 ≤ 9000
          · rw [if_pos hz, if_pos hz]
          · rw [if_neg hz, if_neg hz]
        · unfold f8_daysRefused
          rw [in1_ok (m := 99) (b := 99) _ rfl, if_pos ha]; simp only [bO]
          rw [e1, e2, s1, if_neg (by decide), if_neg s1', e0, if_neg (by decide)]
          by_cases hz : w.1 32 11 0 ≤ 9000
          · rw [if_pos hz, if_pos hz]
          · rw [if_neg hz, if_neg hz]
      · refine ⟨-1000000003, ?_, fun W e1 e2 => ?_, fun z => absurd z (by decide)⟩
        · unfold f7_refusalOfDays
          rw [if_neg a1, if_pos a2, rk_g h1 h2]; simp only [bK]
          rw [r0, if_neg (by decide), d0.1, e0, if_neg (by decide)]
        · unfold f8_daysRefused
          rw [in1_ok (m := 99) (b := 99) _ rfl, if_pos ha]; simp only [bO]
          rw [e1, e2, s1, if_neg (by decide), if_neg s1', e0, if_pos rfl]
  · refine ⟨-1000000002, ?_, fun W e1 e2 => ?_, fun z => absurd z (by decide)⟩
    · unfold f7_refusalOfDays
      by_cases hb : a < 1
      · rw [if_pos hb]
      · rw [if_neg hb, if_neg (show ¬ a ≤ 99 from fun z => ha ⟨Int32.not_lt.mp hb, z⟩)]
    · unfold f8_daysRefused
      rw [in1_ok (m := 99) (b := 99) _ rfl, if_neg ha]; rfl
theorem dc_loop {g B a m : Nat} {Ds : Nat → Nat → Nat → Int32} {Ns : Nat → Nat → Int32} (ha : a ≤ 99) (h3 : ∀ k, k ≤ a → RD 60 nv (B + k) (Ds k) (Ns k)) (h4 : ∀ k, k < a → Day1 I G GL M (Ds k) (Ns k) (Ds (k + 1)) (Ns (k + 1))) (hI : G 3 0 = nI I) (hm : End a Ns m) {w : Mem} (hw : CL g G GL w) :
    ∀ (j k n : Nat), k + j = m → j < n → f7_day_25 (nI a) n (nI k) (sO w 0 (Ds k)) = some (Ns m 0, sO w 0 (Ds m)) := by
  obtain ⟨g1, g2, g3, g4⟩ := hw
  obtain ⟨m1, m2, m3⟩ := hm
  intro j
  induction j with
  | zero =>
    intro k n hk hn
    obtain ⟨n, rfl⟩ : ∃ m, n = m + 1 := ⟨n - 1, by omega⟩
    obtain rfl : k = m := by omega
    have d1 := (h3 k (by omega)).dn
    rw [f7_day_25]
    rcases Nat.lt_or_ge k a with hz | hz
    · have e1 := d1.1.trans (m2 hz)
      simp (disch := omega) only [bE, bO, bV, bK, nI_lit, nI_add, lt_T, lt_F, le_T, le_F, eq_T, eq_F, ltm_T, ltm_F, lem_T, lem_F, eqm_F, meq_F, cl_nI, nle_T, nle_F, nlt_T, nlt_F, ↓reduceIte, or_true, true_or, or_false, false_or, and_true, true_and, and_false, false_and, not_true_eq_false, not_false_eq_true, or_self, and_self, true_implies, ite_self, sO_s, e1, d1.2.2.1]
    · simp (disch := omega) only [bE, bO, bV, bK, nI_lit, nI_add, lt_T, lt_F, le_T, le_F, eq_T, eq_F, ltm_T, ltm_F, lem_T, lem_F, eqm_F, meq_F, cl_nI, nle_T, nle_F, nlt_T, nlt_F, ↓reduceIte, or_true, true_or, or_false, false_or, and_true, true_and, and_false, false_and, not_true_eq_false, not_false_eq_true, or_self, and_self, true_implies, ite_self, sO_s, d1.2.2.1]
  | succ j ih =>
    intro k n hk hn
    obtain ⟨n, rfl⟩ : ∃ m, n = m + 1 := ⟨n - 1, by omega⟩
    have d1 := (h3 k (by omega)).dn
    have z2 := (h4 k (by omega)).2.1 w 0 g (by omega) g3 g4
    have e1 := d1.1.trans (m3 k (by omega))
    have gg : (sO w 0 (Ds k)).1 g 3 0 = nI I := by rw [sO_n (by omega), g3]; exact hI
    rw [f7_day_25]
    simp (disch := omega) only [bE, bO, bV, bK, nI_lit, nI_add, lt_T, lt_F, le_T, le_F, eq_T, eq_F, ltm_T, ltm_F, lem_T, lem_F, eqm_F, meq_F, cl_nI, nle_T, nle_F, nlt_T, nlt_F, ↓reduceIte, or_true, true_or, or_false, false_or, and_true, true_and, and_false, false_and, not_true_eq_false, not_false_eq_true, or_self, and_self, true_implies, ite_self, sO_2, rk_g g1 g2, gg, z2, sO_s, e1]
    exact ih (k + 1) n (by omega) (by omega)
theorem dm_loop {g a m : Nat} {Ds : Nat → Nat → Nat → Int32} {Ns : Nat → Nat → Int32} (ha : a ≤ 99) (h4 : ∀ k, k < a → Day1 I G GL M (Ds k) (Ns k) (Ds (k + 1)) (Ns (k + 1))) (hJ : M 2 0 = nI I) (hm : End a Ns m) {w : Mem} (hw : ML g G GL M w) :
    ∀ (j k n : Nat), k + j = m → j < n → f8_day_18 (nI a) n (nI k) (sA w 32 11 (Ns k)) = some (Ns m 0, sA w 32 11 (Ns m)) := by
  obtain ⟨x1, x2, x3, x4⟩ := hw
  obtain ⟨m1, m2, m3⟩ := hm
  have gg2 : w.1 32 2 0 = nI I := by rw [x4 2 (by omega)]; exact hJ
  intro j
  induction j with
  | zero =>
    intro k n hk hn
    obtain ⟨n, rfl⟩ : ∃ m, n = m + 1 := ⟨n - 1, by omega⟩
    obtain rfl : k = m := by omega
    rw [f8_day_18]
    rcases Nat.lt_or_ge k a with hz | hz
    · have e1 := m2 hz
      simp (disch := omega) only [bE, bO, bV, bK, nI_lit, nI_add, lt_T, lt_F, le_T, le_F, eq_T, eq_F, ltm_T, ltm_F, lem_T, lem_F, eqm_F, meq_F, cl_nI, nle_T, nle_F, nlt_T, nlt_F, ↓reduceIte, or_true, true_or, or_false, false_or, and_true, true_and, and_false, false_and, not_true_eq_false, not_false_eq_true, or_self, and_self, true_implies, ite_self, kx_sA, e1]
    · simp (disch := omega) only [bE, bO, bV, bK, nI_lit, nI_add, lt_T, lt_F, le_T, le_F, eq_T, eq_F, ltm_T, ltm_F, lem_T, lem_F, eqm_F, meq_F, cl_nI, nle_T, nle_F, nlt_T, nlt_F, ↓reduceIte, or_true, true_or, or_false, false_or, and_true, true_and, and_false, false_and, not_true_eq_false, not_false_eq_true, or_self, and_self, true_implies, ite_self, kx_sA]
  | succ j ih =>
    intro k n hk hn
    obtain ⟨n, rfl⟩ : ∃ m, n = m + 1 := ⟨n - 1, by omega⟩
    have z3 := (h4 k (by omega)).2.2 w g (by omega) x2 x3 x4
    have e1 := m3 k (by omega)
    rw [f8_day_18]
    simp (disch := omega) only [bE, bO, bV, bK, nI_lit, nI_add, lt_T, lt_F, le_T, le_F, eq_T, eq_F, ltm_T, ltm_F, lem_T, lem_F, eqm_F, meq_F, cl_nI, nle_T, nle_F, nlt_T, nlt_F, ↓reduceIte, or_true, true_or, or_false, false_or, and_true, true_and, and_false, false_and, not_true_eq_false, not_false_eq_true, or_self, and_self, true_implies, ite_self, kx_sA, ky_sA, gg2, e1, z3]
    exact ih (k + 1) n (by omega) (by omega)
end Rock
theorem sA_x {w : Mem} {d k : Nat} {f : Nat → Int32} (h : w.1 d k = f) : sA w d k f = w := by rw [← h]; exact sA_id w d k
theorem q_day {n : Nat} {w : Mem} (hn : n < 100) (h : Rel n w) (a : Int32) : Same n w (f7_day a) (f8_day a) := by
  obtain ⟨⟨g, nv, K, Y, I, F, Fo, ro, pe, fe, fs, fg, hC⟩, hT, hF, hN⟩ := id h
  obtain ⟨h1, h2, h3, h4, h5, h6, h7⟩ := id hC
  obtain ⟨r, f1, f2, f3⟩ := ref_ok h1 h2.1 h3 h4 a
  by_cases hr : r = 0
  · subst hr
    obtain ⟨t, ht, ht2, rfl⟩ := f3 rfl
    have h30 := h3
    obtain ⟨⟨q1, q2, q3, q4, q5, q6, q7⟩, r0, ⟨r1, s1⟩, ⟨r2, s2⟩, ⟨r3, s3⟩, -⟩ := h3
    obtain ⟨w1, f, hh, p1, p2, p3, p4, p5⟩ := RPa.push q1 h4 h5
    obtain ⟨Ds, Ns, t1, t2, t3, t4⟩ := traj h4 h30 q4 t (by omega)
    obtain ⟨m, hm⟩ := end_ex t3
    have hm1 := hm.1
    have z1 := dc_loop (by omega) t3 t4 r3 hm (w := w1) ⟨h1, by rw [p3]; exact h2.1, p2 g (by omega) (by omega), by rw [p3]⟩ m 0 100000 (by omega) (by omega)
    rw [t1, ← p2 0 (by omega) (by omega), sO_id] at z1
    have w32 : (sO w1 0 (Ds m)).1 32 = w.1 32 := by rw [sO_n (by omega), p2 32 (by omega) (by omega)]
    have z2 := dm_loop (by omega) t4 s3 hm (w := sA (sA (sO w1 0 (Ds m)) 32 30 f) 32 29 hh) ⟨h1, by rw [ob_sA (by omega), ob_sA (by omega), sO_n (by omega), p2 g (by omega) (by omega)], by rw [sA_2, sA_2, sO_2, p3], fun k hk => by rw [ky_sA (by omega), ky_sA (by omega), w32]⟩ m 0 100000 (by omega) (by omega)
    rw [t2, sA_x (by rw [ky_sA (by omega), ky_sA (by omega), w32])] at z2
    refine ⟨Ns m 0, sO w1 0 (Ds m), _, ?_, ?_, Rel.step (W := sA (sA (sA (sO w1 0 (Ds m)) 32 30 f) 32 29 hh) 32 11 (Ns m)) hC hT hF hN (fun d d1 d2 d3 d4 => ?_) (fun k hk => ?_) ?_ (fun k k1 k2 k3 k4 => ?_) ⟨?_, ?_⟩ ?_ ?_ ?_⟩
    · unfold f7_day
      rw [f1, bO, if_pos rfl, p1, bV]; exact z1
    · unfold f8_day
      rw [f2 _ (by rw [w32]) (by rw [w32]), bO, if_pos rfl, p4 _ (by rw [w32]) (by rw [w32]) (by rw [w32]), bV]; exact z2
    · rw [ob_sA d4, ob_sA d4, ob_sA d4, sO_n (by omega), p2 d (by omega) d2]
    · rw [ob_sA (by omega), ob_sA (by omega), ob_sA (by omega), sO_n (by omega), p2 26 (by omega) (by omega)]
    · rw [sA_2, sA_2, sA_2, sO_2, p3]
    · rw [ky_sA (by omega), ky_sA (by omega), ky_sA (by omega), w32]
    · rw [ob_sA (by omega), ob_sA (by omega), ob_sA (by omega), sO_n (by omega), p2 2 (by omega) (by omega)]
    · rw [ob_sA (by omega), ob_sA (by omega), ob_sA (by omega), sO_n (by omega), p2 3 (by omega) (by omega)]
    · rw [kx_sA, ob_sA (by omega), ob_sA (by omega), ob_sA (by omega), sO_s]
      exact (t3 m hm1).mono (by omega)
    · refine p5 _ _ (by omega) (fun d d1 d2 => ?_) ?_ ?_ ?_
      · rw [ob_sA (by omega), ob_sA (by omega), ob_sA (by omega), sO_n (by omega)]
      · rw [ob_sA (by omega), ob_sA (by omega), ob_sA (by omega), sO_n (by omega)]
      · rw [ky_sA (by omega), ky_sA (by omega), kx_sA]
      · rw [ky_sA (by omega), kx_sA]
    · unfold RSd
      rw [ob_sA (by omega), ob_sA (by omega), ob_sA (by omega), sO_n (by omega), p2 26 (by omega) (by omega), ky_sA (by omega), ky_sA (by omega), ky_sA (by omega), w32]
      exact h7
  · refine ⟨r, w, w, ?_, ?_, h.next (by omega)⟩
    · unfold f7_day
      rw [f1, bO, if_neg hr]
    · unfold f8_day
      rw [f2 w rfl rfl, bO, if_neg hr]
