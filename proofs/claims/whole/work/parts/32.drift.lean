/-! drift -/
def cS (w : Mem) (s : Nat) (D : Nat → Nat → Int32) : Mem := sO (sA w 26 12 (upd (w.1 26 12) 0 (nI s))) 0 D
def mS (w : Mem) (s : Nat) (N : Nat → Int32) : Mem := sA (sA w 32 12 (upd (w.1 32 12) 0 (nI s))) 32 11 N
theorem sI_sOc {w : Mem} {d d' k i : Nat} {D : Nat → Nat → Int32} {x : Int32} (h : d' ≠ d) : sI (sO w d D) d' k i x = sO (sI w d' k i x) d D := by
  rw [sI_sA, sI_sA, sO_n h]
  unfold sA sO
  refine Prod.ext ?_ rfl
  funext a b
  dsimp only
  by_cases h1 : a = d
  · rw [if_neg (show ¬ (a = d' ∧ b = k) from fun z => h (by omega)), if_pos h1, if_pos h1]
  · rw [if_neg h1, if_neg h1]
theorem cS_dr {w : Mem} {s a : Nat} {D : Nat → Nat → Int32} (hs : s < 2147483648) (ha : 1 ≤ a) (ha2 : a < 2147483648) : f7_draw (nI a) (cS w s D) = some (nI (dr s / 65536 % a), cS w (dr s) D) := by
  have hd := dr_lt s
  have hq : dr s / 65536 < 2147483648 := by omega
  have e1 : (cS w s D).1 26 12 0 = nI s := by unfold cS; rw [sO_n (by omega), kx_sA, upd_s]
  have e2 : sI (cS w s D) 26 12 0 (nI (dr s)) = cS w (dr s) D := by unfold cS; rw [sI_sOc (by omega), sI_A, upd_upd]
  have e3 : (cS w (dr s) D).1 26 12 0 = nI (dr s) := by unfold cS; rw [sO_n (by omega), kx_sA, upd_s]
  unfold f7_draw
  rw [e1, dr_c hs, e2, bE, e3, if_pos (show 1 ≤ nI a from nI_le (a := 1) ha ha2), if_neg (show ¬ nI a = 0 from fun z => absurd ((nI_eq (b := 0) (by omega) (by omega)).mp z) (by omega)), show (65536 : Int32) = nI 65536 from rfl, pk_div (by omega) (by omega) (by omega), jr hq (by omega) ha2]
theorem mS_dr {w : Mem} {s a : Nat} {N : Nat → Int32} (hs : s < 2147483648) (ha : 1 ≤ a) (ha2 : a < 2147483648) : f8_draw (nI a) (mS w s N) = some (nI (dr s / 65536 % a), mS w (dr s) N) := by
  have hd := dr_lt s
  have hq : dr s / 65536 < 2147483648 := by omega
  have e1 : (mS w s N).1 32 12 0 = nI s := by unfold mS; rw [ky_sA (by omega), kx_sA, upd_s]
  have e2 : sI (mS w s N) 32 12 0 (nI (dr s)) = mS w (dr s) N := by unfold mS; rw [sI_sA, ky_sA (by omega), kx_sA, upd_upd, sA_c (k := 11) (k' := 12) (by omega), sA_sA]
  have e3 : (mS w (dr s) N).1 32 12 0 = nI (dr s) := by unfold mS; rw [ky_sA (by omega), kx_sA, upd_s]
  unfold f8_draw
  rw [e1, dr_m hs, e2, bE, e3, if_neg (show ¬ nI a = 0 from fun z => absurd ((nI_eq (b := 0) (by omega) (by omega)).mp z) (by omega)), show (65536 : Int32) = nI 65536 from rfl, pk_div (by omega) (by omega) (by omega), jr hq (by omega) ha2]
section Rock
variable {nv K Y I F Fo : Nat} {ro pe fe fs fg : Nat → Nat} {G : Nat → Nat → Int32} {GL : Nat → Nat → Int64} {M : Nat → Nat → Int32}
theorem cS_g {g s : Nat} {w : Mem} {D : Nat → Nat → Int32} (hw : CL g G GL w) : (cS w s D).1 g = G ∧ (cS w s D).2.1 g = GL ∧ rk ((cS w s D).2.2 26 4) = some g ∧ (cS w s D).1 0 = D := by
  obtain ⟨g1, g2, g3, g4⟩ := hw
  unfold cS
  refine ⟨by rw [sO_n (by omega), ob_sA (by omega), g3], by rw [sO_2, sA_2, g4], ?_, sO_s ..⟩
  rw [sO_2, sA_2]; exact rk_g g1 g2
theorem mS_g {s : Nat} {w : Mem} {N : Nat → Int32} {k : Nat} (hk : k ≤ 10) : (mS w s N).1 32 k = w.1 32 k ∧ (mS w s N).1 32 11 = N := by
  unfold mS
  exact ⟨by rw [ky_sA (by omega), ky_sA (by omega)], kx_sA⟩
theorem sh_ok {B s : Nat} {D : Nat → Nat → Int32} {N : Nat → Int32} (h : RD 60 nv B D N) (hG : RG nv K Y I F Fo ro pe fe fs fg G GL M) (hs : s < 2147483648) :
    ∃ D' N' s', RD 60 nv B D' N' ∧ s' < 2147483648 ∧ (∀ w g, CL g G GL w → f7_shiftByDraws (cS w s D) = some (cS w s' D')) ∧ (∀ w g n x t, ML g G GL M w → N 2 = 0 → ¬ nI t ≤ x → f8_drift_18 (nI t) (n + 1) x (mS w s N) = f8_drift_78 (nI t) (f8_drift_18 (nI t) n) x (mS w s' N')) := by
  obtain ⟨⟨q1, q2, q3, q4, q5, q6, q7⟩, r0, ⟨r1, s1⟩, ⟨r2, s2⟩, ⟨r3, s3⟩, ⟨r4, s4⟩, ⟨r5, s5⟩, ⟨r6, s6⟩, r7, r8⟩ := hG
  have b1 : dr s / 65536 % 4 < 4 := Nat.mod_lt _ (by omega)
  have hd1 := dr_lt s
  by_cases h1 : dr s / 65536 % 4 = 0
  · rcases Nat.eq_zero_or_pos nv with rfl | hnv
    · refine ⟨D, N, dr s, h, hd1, fun w g hw => ?_, fun w g n x t hw e0 hx => ?_⟩
      · have c1 := cS_g (s := dr s) (D := D) hw
        have z1 := cS_dr (w := w) (D := D) hs (show 1 ≤ 4 by omega) (by omega)
        rw [h1] at z1
        unfold f7_shiftByDraws
        simp (disch := omega) only [bE, bO, bV, bK, nI_lit, nI_add, lt_T, lt_F, le_T, le_F, eq_T, eq_F, ltm_T, ltm_F, lem_T, lem_F, eqm_F, meq_F, cl_nI, nle_T, nle_F, nlt_T, nlt_F, ↓reduceIte, or_true, true_or, or_false, false_or, and_true, true_and, and_false, false_and, not_true_eq_false, not_false_eq_true, or_self, and_self, true_implies, ite_self, z1, c1.2.2.1, c1.1, r4]
      · obtain ⟨x1, x2, x3, x4⟩ := hw
        have z1 := mS_dr (w := w) (N := N) hs (show 1 ≤ 4 by omega) (by omega)
        rw [h1] at z1
        have c3 : (mS w (dr s) N).1 32 3 0 = nI 0 := by rw [(mS_g (by omega)).1, x4 3 (by omega)]; exact s4
        rw [f8_drift_18, if_neg hx, (mS_g (k := 0) (by omega)).2, e0, if_pos rfl]
        simp (disch := omega) only [bE, bO, bV, bK, nI_lit, nI_add, lt_T, lt_F, le_T, le_F, eq_T, eq_F, ltm_T, ltm_F, lem_T, lem_F, eqm_F, meq_F, cl_nI, nle_T, nle_F, nlt_T, nlt_F, ↓reduceIte, or_true, true_or, or_false, false_or, and_true, true_and, and_false, false_and, not_true_eq_false, not_false_eq_true, or_self, and_self, true_implies, ite_self, z1, c3]
    · have hd2 := dr_lt (dr s)
      have hd3 := dr_lt (dr (dr s))
      obtain ⟨v, hv⟩ : ∃ v, v = dr (dr s) / 65536 % nv := ⟨_, rfl⟩
      have hv2 : v < nv := by rw [hv]; exact Nat.mod_lt _ hnv
      obtain ⟨⟨y1, y2, y3, y4⟩, -, ⟨y5, y6⟩, -⟩ := r7 v hv2
      obtain ⟨o, ho⟩ : ∃ o, o = dr (dr (dr s)) / 65536 % pe v := ⟨_, rfl⟩
      refine ⟨_, _, dr (dr (dr s)), h.off q1 hv2 (nI o), hd3, fun w g hw => ?_, fun w g n x t hw e0 hx => ?_⟩
      · have c1 := cS_g (s := dr s) (D := D) hw
        have c2 := cS_g (s := dr (dr s)) (D := D) hw
        have z1 := cS_dr (w := w) (D := D) hs (show 1 ≤ 4 by omega) (by omega)
        have z2 := cS_dr (w := w) (D := D) hd1 (show 1 ≤ nv by omega) (by omega)
        have z3 := cS_dr (w := w) (D := D) hd2 (show 1 ≤ pe v by omega) (by omega)
        have z4 := has_T (w := cS w (dr (dr s)) D) (g := g) (v := v) (by rw [c2.1]; exact r4) q1 hv2
        have z5 : sI (cS w (dr (dr (dr s))) D) 0 0 v (nI o) = cS w (dr (dr (dr s))) (uK D 0 (upd (D 0) v (nI o))) := by unfold cS; rw [sI_sO]
        rw [h1] at z1
        rw [← hv] at z2
        rw [← ho] at z3
        unfold f7_shiftByDraws
        simp (disch := omega) only [bE, bO, bV, bK, nI_lit, nI_add, lt_T, lt_F, le_T, le_F, eq_T, eq_F, ltm_T, ltm_F, lem_T, lem_F, eqm_F, meq_F, cl_nI, nle_T, nle_F, nlt_T, nlt_F, ↓reduceIte, or_true, true_or, or_false, false_or, and_true, true_and, and_false, false_and, not_true_eq_false, not_false_eq_true, or_self, and_self, true_implies, ite_self, z1, z2, z3, z4, z5, c1.2.2.1, c1.1, c2.2.2.1, c2.1, r4, y5]
      · obtain ⟨x1, x2, x3, x4⟩ := hw
        have z1 := mS_dr (w := w) (N := N) hs (show 1 ≤ 4 by omega) (by omega)
        have z2 := mS_dr (w := w) (N := N) hd1 (show 1 ≤ nv by omega) (by omega)
        have z3 := mS_dr (w := w) (N := N) hd2 (show 1 ≤ pe v by omega) (by omega)
        have z5 : sI (mS w (dr (dr (dr s))) N) 32 11 (10 + v) (nI o) = mS w (dr (dr (dr s))) (upd N (10 + v) (nI o)) := by unfold mS; rw [sI_A]
        rw [h1] at z1
        rw [← hv] at z2
        rw [← ho] at z3
        have c3 : (mS w (dr s) N).1 32 3 0 = nI nv := by rw [(mS_g (by omega)).1, x4 3 (by omega)]; exact s4
        have c5 : (mS w (dr (dr s)) N).1 32 5 v = nI (pe v) := by rw [(mS_g (by omega)).1, x4 5 (by omega)]; exact y6
        rw [f8_drift_18, if_neg hx, (mS_g (k := 0) (by omega)).2, e0, if_pos rfl]
        simp (disch := omega) only [bE, bO, bV, bK, nI_lit, nI_add, lt_T, lt_F, le_T, le_F, eq_T, eq_F, ltm_T, ltm_F, lem_T, lem_F, eqm_F, meq_F, cl_nI, nle_T, nle_F, nlt_T, nlt_F, ↓reduceIte, or_true, true_or, or_false, false_or, and_true, true_and, and_false, false_and, not_true_eq_false, not_false_eq_true, or_self, and_self, true_implies, ite_self, z1, z2, z3, z5, c3, c5]
  · refine ⟨D, N, dr s, h, hd1, fun w g hw => ?_, fun w g n x t hw e0 hx => ?_⟩
    · have z1 := cS_dr (w := w) (D := D) hs (show 1 ≤ 4 by omega) (by omega)
      unfold f7_shiftByDraws
      simp (disch := omega) only [bE, bO, bV, bK, nI_lit, nI_add, lt_T, lt_F, le_T, le_F, eq_T, eq_F, ltm_T, ltm_F, lem_T, lem_F, eqm_F, meq_F, cl_nI, nle_T, nle_F, nlt_T, nlt_F, ↓reduceIte, or_true, true_or, or_false, false_or, and_true, true_and, and_false, false_and, not_true_eq_false, not_false_eq_true, or_self, and_self, true_implies, ite_self, z1]
    · have z1 := mS_dr (w := w) (N := N) hs (show 1 ≤ 4 by omega) (by omega)
      rw [f8_drift_18, if_neg hx, (mS_g (k := 0) (by omega)).2, e0, if_pos rfl]
      simp (disch := omega) only [bE, bO, bV, bK, nI_lit, nI_add, lt_T, lt_F, le_T, le_F, eq_T, eq_F, ltm_T, ltm_F, lem_T, lem_F, eqm_F, meq_F, cl_nI, nle_T, nle_F, nlt_T, nlt_F, ↓reduceIte, or_true, true_or, or_false, false_or, and_true, true_and, and_false, false_and, not_true_eq_false, not_false_eq_true, or_self, and_self, true_implies, ite_self, z1]
theorem dr_loop {t : Nat} (ht : t ≤ 99) (hG : RG nv K Y I F Fo ro pe fe fs fg G GL M) : ∀ (j k B s : Nat) (D : Nat → Nat → Int32) (N : Nat → Int32), k + j = t → B + j < 900000 → RD 60 nv B D N → s < 2147483648 →
    ∃ D' N' s' r, RD 60 nv (B + j) D' N' ∧ s' < 2147483648 ∧ (∀ w g n, CL g G GL w → j < n → f7_drift_25 (nI t) n (nI k) (cS w s D) = some (r, cS w s' D')) ∧ (∀ w g n, ML g G GL M w → j < n → f8_drift_18 (nI t) n (nI k) (mS w s N) = some (r, mS w s' N')) := by
  have hi := hG.1.2.2.2.1
  have hI := hG.2.2.2.2.1
  intro j
  induction j with
  | zero =>
    intro k B s D N hk hB hR hs
    obtain rfl : k = t := by omega
    have d1 := hR.dn
    refine ⟨D, N, s, N 0, hR, hs, fun w g n hw hn => ?_, fun w g n hw hn => ?_⟩
    · obtain ⟨n, rfl⟩ : ∃ m, n = m + 1 := ⟨n - 1, by omega⟩
      have c1 := cS_g (s := s) (D := D) hw
      rw [f7_drift_25]
      simp (disch := omega) only [bE, bO, bV, bK, nI_lit, nI_add, lt_T, lt_F, le_T, le_F, eq_T, eq_F, ltm_T, ltm_F, lem_T, lem_F, eqm_F, meq_F, cl_nI, nle_T, nle_F, nlt_T, nlt_F, ↓reduceIte, or_true, true_or, or_false, false_or, and_true, true_and, and_false, false_and, not_true_eq_false, not_false_eq_true, or_self, and_self, true_implies, ite_self, c1.2.2.2, d1.2.2.1]
    · obtain ⟨n, rfl⟩ : ∃ m, n = m + 1 := ⟨n - 1, by omega⟩
      rw [f8_drift_18, (mS_g (k := 0) (by omega)).2]
      simp (disch := omega) only [bE, bO, bV, bK, nI_lit, nI_add, lt_T, lt_F, le_T, le_F, eq_T, eq_F, ltm_T, ltm_F, lem_T, lem_F, eqm_F, meq_F, cl_nI, nle_T, nle_F, nlt_T, nlt_F, ↓reduceIte, or_true, true_or, or_false, false_or, and_true, true_and, and_false, false_and, not_true_eq_false, not_false_eq_true, or_self, and_self, true_implies, ite_self]
  | succ j ih =>
    intro k B s D N hk hB hR hs
    have d1 := hR.dn
    rcases d1.2.1 with e0 | e0
    · obtain ⟨D1, N1, s1, p1, p2, p3, p4⟩ := sh_ok hR hG hs
      obtain ⟨D2, N2, t1, t2, t3, t4⟩ := day_ok p1 hG (by omega) hi
      obtain ⟨D3, N3, s3, r, u1, u2, u3, u4⟩ := ih (k + 1) (B + 1) s1 D2 N2 (by omega) (by omega) t1 p2
      refine ⟨D3, N3, s3, r, u1.mono (by omega), u2, fun w g n hw hn => ?_, fun w g n hw hn => ?_⟩
      · obtain ⟨n, rfl⟩ : ∃ m, n = m + 1 := ⟨n - 1, by omega⟩
        have c0 := cS_g (s := s) (D := D) hw
        have c1 := cS_g (s := s1) (D := D1) hw
        have z1 := p3 w g hw
        have e1 := d1.1.trans e0
        have g1 := hw.1
        have z2 : f1_live 0 g (nI I) (cS w s1 D1) = some (cS w s1 D2) := t3 (sA w 26 12 (upd (w.1 26 12) 0 (nI s1))) 0 g (by omega) (by rw [ob_sA (by omega)]; exact hw.2.2.1) (by rw [sA_2]; exact hw.2.2.2)
        rw [f7_drift_25]
        simp (disch := omega) only [bE, bO, bV, bK, nI_lit, nI_add, lt_T, lt_F, le_T, le_F, eq_T, eq_F, ltm_T, ltm_F, lem_T, lem_F, eqm_F, meq_F, cl_nI, nle_T, nle_F, nlt_T, nlt_F, ↓reduceIte, or_true, true_or, or_false, false_or, and_true, true_and, and_false, false_and, not_true_eq_false, not_false_eq_true, or_self, and_self, true_implies, ite_self, c0.2.2.2, e1, z1, c1.2.2.1, c1.1, hI.1, z2]
        exact u3 w g n hw (by omega)
      · obtain ⟨n, rfl⟩ : ∃ m, n = m + 1 := ⟨n - 1, by omega⟩
        have z1 := p4 w g n (nI k) t hw e0 (nI_ge (by omega) (by omega))
        have z2 : f8_pass (nI I) (mS w s1 N1) = some (mS w s1 N2) := t4 (sA w 32 12 (upd (w.1 32 12) 0 (nI s1))) g (by have := hw.1; omega) (by have := hw.1; rw [ob_sA (by omega)]; exact hw.2.1) (by rw [sA_2]; exact hw.2.2.1) (fun k hk => by rw [ky_sA (by omega)]; exact hw.2.2.2 k hk)
        rw [z1]
        unfold f8_drift_78
        rw [(mS_g (k := 2) (by omega)).1, hw.2.2.2 2 (by omega), hI.2, z2, bV]
        simp (disch := omega) only [bE, bO, bV, bK, nI_lit, nI_add, lt_T, lt_F, le_T, le_F, eq_T, eq_F, ltm_T, ltm_F, lem_T, lem_F, eqm_F, meq_F, cl_nI, nle_T, nle_F, nlt_T, nlt_F, ↓reduceIte, or_true, true_or, or_false, false_or, and_true, true_and, and_false, false_and, not_true_eq_false, not_false_eq_true, or_self, and_self, true_implies, ite_self]
        exact u4 w g n hw (by omega)
    · have e1 := d1.1.trans e0
      refine ⟨D, N, s, N 0, hR.mono (by omega), hs, fun w g n hw hn => ?_, fun w g n hw hn => ?_⟩
      · obtain ⟨n, rfl⟩ : ∃ m, n = m + 1 := ⟨n - 1, by omega⟩
        have c1 := cS_g (s := s) (D := D) hw
        rw [f7_drift_25]
        simp (disch := omega) only [bE, bO, bV, bK, nI_lit, nI_add, lt_T, lt_F, le_T, le_F, eq_T, eq_F, ltm_T, ltm_F, lem_T, lem_F, eqm_F, meq_F, cl_nI, nle_T, nle_F, nlt_T, nlt_F, ↓reduceIte, or_true, true_or, or_false, false_or, and_true, true_and, and_false, false_and, not_true_eq_false, not_false_eq_true, or_self, and_self, true_implies, ite_self, c1.2.2.2, e1, d1.2.2.1]
      · obtain ⟨n, rfl⟩ : ∃ m, n = m + 1 := ⟨n - 1, by omega⟩
        rw [f8_drift_18, (mS_g (k := 0) (by omega)).2]
        simp (disch := omega) only [bE, bO, bV, bK, nI_lit, nI_add, lt_T, lt_F, le_T, le_F, eq_T, eq_F, ltm_T, ltm_F, lem_T, lem_F, eqm_F, meq_F, cl_nI, nle_T, nle_F, nlt_T, nlt_F, ↓reduceIte, or_true, true_or, or_false, false_or, and_true, true_and, and_false, false_and, not_true_eq_false, not_false_eq_true, or_self, and_self, true_implies, ite_self, e0]
end Rock
