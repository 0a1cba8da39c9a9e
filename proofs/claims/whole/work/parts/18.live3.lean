/-! a day, whole -/
theorem Mon.trans {N N' N'' : Nat → Int32} (h : Mon N N') (h' : Mon N' N'') : Mon N N'' := by
  obtain ⟨u1, a, b, c, a', b', c', ⟨h1, h2, h3⟩, ⟨h4, h5, h6⟩, ⟨h7, h8, h9⟩, ⟨h10, h11, h12⟩⟩ := h
  obtain ⟨u2, p, q, r, p', q', r', ⟨g1, g2, g3⟩, ⟨g4, g5, g6⟩, ⟨g7, g8, g9⟩, ⟨g10, g11, g12⟩⟩ := h'
  obtain rfl : a' = p := (nI_eq (by omega) (by omega)).mp (h10.symm.trans g7)
  obtain rfl : b' = q := (nI_eq (by omega) (by omega)).mp (h11.symm.trans g8)
  obtain rfl : c' = r := (nI_eq (by omega) (by omega)).mp (h12.symm.trans g9)
  exact ⟨fun k hk => (u2 k hk).trans (u1 k hk), a, b, c, p', q', r', ⟨by omega, by omega, by omega⟩, ⟨g4, g5, g6⟩, ⟨h7, h8, h9⟩, ⟨g10, g11, g12⟩⟩
theorem RD.mon0 {qh nv B : Nat} {D D' : Nat → Nat → Int32} {N N' : Nat → Int32} (h : RD qh nv B D N) (hB : B < 1000001) {c' : Nat} (h4 : N' 4 = N 4) (h5 : N' 5 = N 5) (h7 : N' 7 = nI c') (hc : ∀ c, N 7 = nI c → c ≤ 16 * B → c ≤ c') (hc2 : c' < 100000000) (h9 : ∀ k, 103 ≤ k → N' k = N k) : Mon N N' := by
  obtain ⟨dy, wt, fa, em, sh, st, k1, k2, k3, k4, k5, k6, ⟨b1, c1⟩, ⟨b2, c2⟩, ⟨b3, c3⟩, ⟨b4, c4⟩, ⟨b5, c5⟩, b6⟩ := h
  exact ⟨h9, fa, em, sh, fa, em, c', ⟨by omega, by omega, hc sh c5 k5⟩, ⟨by omega, by omega, hc2⟩, ⟨c3, c4, c5⟩, ⟨h4.trans c3, h5.trans c4, h7⟩⟩
section Rock
variable {nv K Y I F Fo : Nat} {ro pe fe fs fg : Nat → Nat} {G : Nat → Nat → Int32} {GL : Nat → Nat → Int64} {M : Nat → Nat → Int32}
theorem day_ok {qh B i : Nat} {D : Nat → Nat → Int32} {N : Nat → Int32} (h : RD qh nv B D N) (hG : RG nv K Y I F Fo ro pe fe fs fg G GL M) (hB : B < 900000) (hi : i ≤ 9) :
    ∃ D' N', RD qh nv (B + 1) D' N' ∧ Mon N N' ∧ (∀ w d g, g ≠ d → w.1 g = G → w.2.1 g = GL → f1_live d g (nI i) (sO w d D) = some (sO w d D')) ∧ (∀ w g, g ≠ 32 → w.1 g = G → w.2.1 g = GL → (∀ k, k ≤ 10 → w.1 32 k = M k) → f8_pass (nI i) (sA w 32 11 N) = some (sA w 32 11 N')) := by
  have h0 := h
  have hla := h.la (by omega)
  obtain ⟨dy, wt, fa, em, sh, st, k1, k2, k3, k4, k5, k6, ⟨b1, c1⟩, ⟨b2, c2⟩, ⟨b3, c3⟩, ⟨b4, c4⟩, ⟨b5, c5⟩, ⟨b6, c6⟩, ⟨b7, b8, b9, b10, b11⟩, b12, b13, b14, b15⟩ := h
  have hG0 := hG
  obtain ⟨⟨q1, q2, q3, q4, q5, q6, q7⟩, r0, ⟨r1, s1⟩, ⟨r2, s2⟩, ⟨r3, s3⟩, ⟨r4, s4⟩, ⟨r5, s5⟩, ⟨r6, s6⟩, r7, r8⟩ := hG
  obtain ⟨S, hS⟩ : ∃ S, S = cm nv Y ro pe (D 0) (D 1) st F Fo fs fg dy := ⟨_, rfl⟩
  have hS1 := cm_lt (Y := Y) (ro := ro) (pe := pe) (F := F) (Fo := Fo) (fs := fs) (fg := fg) q1 (D 0) (D 1) st dy
  rw [← hS] at hS1
  have hR := RD.feet q1 h0 (nI (ftn ro S nv))
  have hC : ∀ w d g, g ≠ d → w.1 g = G → w.2.1 g = GL → f1_comers d g (D 6 0) (sO w d D) = some (nI S, sO w d D) ∧ f6_feetOf g (nI S) (sO w d D) = some (nI (ftn ro S nv), sO w d D) := by
    intro w d g hg e1 e2
    have x1 : RG nv K Y I F Fo ro pe fe fs fg ((sO w d D).1 g) ((sO w d D).2.1 g) M := by
      rw [sO_n hg, sO_2, e1, e2]; exact hG0
    have y1 := com_ok (d := d) (st := st) (t := dy) x1 (by rw [sO_s]; exact b6) k6 (by rw [sO_s]; intro v hv; exact (hla v hv).2.1) (by omega)
    rw [sO_s, ← hS] at y1
    rw [b1]
    exact ⟨y1, feet_ok x1 hS1.1⟩
  have hM : ∀ w g, g ≠ 32 → w.1 g = G → w.2.1 g = GL → (∀ k, k ≤ 10 → w.1 32 k = M k) → f8_pass (nI i) (sA w 32 11 N) = f8_pass_63 (nI i) (nI dy) (nI S) (sA w 32 11 (upd N 6 (N 6 + nI (ftn ro S nv)))) := by
    intro w g hg e1 e2 e3
    have x1 : RG nv K Y I F Fo ro pe fe fs fg ((sA w 32 11 N).1 g) ((sA w 32 11 N).2.1 g) ((sA w 32 11 N).1 32) := by
      rw [ob_sA hg, sA_2, e1, e2]; exact hG0.c (fun k hk => by rw [ky_sA (by omega)]; exact e3 k hk)
    have y1 := mcom_ok (st := st) (t := dy) (o := D 0) (la := D 1) x1 (by rw [kx_sA]; exact c6) k6 (by rw [kx_sA]; intro v hv; exact (hla v hv).2.2) (by omega) (by rw [kx_sA]; exact b12) (by rw [kx_sA]; exact fun v hv => (hla v (by omega)).1 hv)
    rw [← hS] at y1
    have z1 := p16_loop (ro := ro) (i := i) (S := S) (dy := dy) (N := N) (w := w) q1 (by rw [e3 3 (by omega)]; exact s4) (fun v hv => ⟨(r7 v hv).1.1, by rw [e3 4 (by omega)]; exact (r7 v hv).2.1.2⟩) hS1.1 nv 0 100000 (by omega) (by omega)
    rw [show ftn ro S 0 = 0 from rfl, show N 6 + nI 0 = N 6 from Int32.add_zero _, upd_id] at z1
    unfold f8_pass
    simp only [bE, bO, kx_sA, c1, y1]
    exact z1
  have hdy1 : (upd N 6 (N 6 + nI (ftn ro S nv))) 0 = nI dy := by rw [upd_n (by omega)]; exact c1
  have hMon : Mon N (upd N 6 (N 6 + nI (ftn ro S nv))) := h0.mon0 (D' := D) (c' := sh) (by omega) (upd_n (by omega)) (upd_n (by omega)) (by rw [upd_n (by omega)]; exact c5) (fun c hc hc2 => by rw [c5] at hc; have := (nI_eq (by omega) (by omega)).mp hc; omega) (by omega) (fun k hk => upd_n (by omega))
  rcases Nat.eq_zero_or_pos i with rfl | hi0
  · have hpc : pc S = 0 ∨ pc S = 1 ∨ (pc S ≠ 0 ∧ pc S ≠ 1) := by omega
    rcases hpc with hpc | hpc | ⟨hpc, hpc'⟩
    · obtain ⟨D', N', t1, t2, t3, t4⟩ := tailE (K := K) (B' := B + 1) q1 hR hdy1 (by omega) (by omega) (by omega) (by omega)
      refine ⟨D', N', t1, hMon.trans t2, fun w d g hg e1 e2 => ?_, fun w g hg e1 e2 e3 => ?_⟩
      · have z := hC w d g hg e1 e2
        have z2 := outc_ok hS1.1 (sO w d (uK D 11 (upd (D 11) 0 (D 11 0 + nI (ftn ro S nv)))))
        rw [if_pos hpc] at z2
        have z3 := t3 w d g (nI 0) hg (by rw [e1]; exact r1)
        unfold f1_live
        simp (disch := omega) only [bE, bO, bV, bK, nI_lit, nI_add, lt_T, lt_F, le_T, le_F, eq_T, eq_F, ltm_T, ltm_F, lem_T, lem_F, eqm_F, meq_F, cl_nI, nle_T, nle_F, nlt_T, nlt_F, ↓reduceIte, or_true, true_or, or_false, false_or, and_true, true_and, and_false, false_and, not_true_eq_false, not_false_eq_true, or_self, and_self, true_implies, ite_self, sI_sO, sA_sO, sO_s, sO_n, sO_2, uK_s, uK_n, upd_s, upd_n, upd_upd, z.1, z.2, z2]
        unfold f1_live_77
        exact z3
      · rw [hM w g hg e1 e2 e3]
        have z2 := bits_ok hS1.1 (sA w 32 11 (upd N 6 (N 6 + nI (ftn ro S nv))))
        rw [hpc] at z2
        have z3 := t4 w (nI 0) (by rw [e3 0 (by omega)]; exact s1)
        unfold f8_pass_63 f8_pass_93
        simp (disch := omega) only [bE, bO, bV, bK, nI_lit, nI_add, lt_T, lt_F, le_T, le_F, eq_T, eq_F, ltm_T, ltm_F, lem_T, lem_F, eqm_F, meq_F, cl_nI, nle_T, nle_F, nlt_T, nlt_F, ↓reduceIte, or_true, true_or, or_false, false_or, and_true, true_and, and_false, false_and, not_true_eq_false, not_false_eq_true, or_self, and_self, true_implies, ite_self, z2]
        exact z3
    · obtain ⟨v, v1, v2, v3⟩ := first_ex S hS1.1 hpc
      obtain ⟨D', N', t1, t2, t3, t4⟩ := tailB (K := K) (B' := B + 1) q1 hR hdy1 (by omega) (by omega) (by omega) (by omega) v1
      refine ⟨D', N', t1, hMon.trans t2, fun w d g hg e1 e2 => ?_, fun w g hg e1 e2 e3 => ?_⟩
      · have z := hC w d g hg e1 e2
        have z2 := outc_ok hS1.1 (sO w d (uK D 11 (upd (D 11) 0 (D 11 0 + nI (ftn ro S nv)))))
        rw [if_neg (by omega), if_pos hpc] at z2
        have z3 := t3 w d g (nI 0) hg (by rw [e1]; exact r1)
        have z4 := first_loop hS1.1 v1 v2 v3 (sO w d (uK D 11 (upd (D 11) 0 (D 11 0 + nI (ftn ro S nv))))) v 0 100000 (by omega) (by omega)
        unfold f1_live f7_firstOf
        simp (disch := omega) only [bE, bO, bV, bK, nI_lit, nI_add, lt_T, lt_F, le_T, le_F, eq_T, eq_F, ltm_T, ltm_F, lem_T, lem_F, eqm_F, meq_F, cl_nI, nle_T, nle_F, nlt_T, nlt_F, ↓reduceIte, or_true, true_or, or_false, false_or, and_true, true_and, and_false, false_and, not_true_eq_false, not_false_eq_true, or_self, and_self, true_implies, ite_self, sI_sO, sA_sO, sO_s, sO_n, sO_2, uK_s, uK_n, upd_s, upd_n, upd_upd, z.1, z.2, z2, z4]
        unfold f1_live_77
        exact z3
      · rw [hM w g hg e1 e2 e3]
        have z2 := bits_ok hS1.1 (sA w 32 11 (upd N 6 (N 6 + nI (ftn ro S nv))))
        rw [hpc] at z2
        have z3 := t4 w (nI 0) (by rw [e3 0 (by omega)]; exact s1)
        have z4 := least_loop hS1.1 v1 v2 v3 (sA w 32 11 (upd N 6 (N 6 + nI (ftn ro S nv)))) v 0 100000 (by omega) (by omega)
        unfold f8_pass_63 f8_pass_93 f8_least
        simp (disch := omega) only [bE, bO, bV, bK, nI_lit, nI_add, lt_T, lt_F, le_T, le_F, eq_T, eq_F, ltm_T, ltm_F, lem_T, lem_F, eqm_F, meq_F, cl_nI, nle_T, nle_F, nlt_T, nlt_F, ↓reduceIte, or_true, true_or, or_false, false_or, and_true, true_and, and_false, false_and, not_true_eq_false, not_false_eq_true, or_self, and_self, true_implies, ite_self, z2, z4]
        exact z3
    · obtain ⟨D', N', t1, t2, t3, t4⟩ := tailF (K := K) (B' := B + 1) q1 hR hdy1 (by omega) (by omega) (by omega) (by omega)
      have hp9 := pc_le S hS1.1
      refine ⟨D', N', t1, hMon.trans t2, fun w d g hg e1 e2 => ?_, fun w g hg e1 e2 e3 => ?_⟩
      · have z := hC w d g hg e1 e2
        have z2 := outc_ok hS1.1 (sO w d (uK D 11 (upd (D 11) 0 (D 11 0 + nI (ftn ro S nv)))))
        rw [if_neg hpc, if_neg hpc'] at z2
        have z3 := t3 w d g (nI 0) hg (by rw [e1]; exact r1)
        unfold f1_live
        simp (disch := omega) only [bE, bO, bV, bK, nI_lit, nI_add, lt_T, lt_F, le_T, le_F, eq_T, eq_F, ltm_T, ltm_F, lem_T, lem_F, eqm_F, meq_F, cl_nI, nle_T, nle_F, nlt_T, nlt_F, ↓reduceIte, or_true, true_or, or_false, false_or, and_true, true_and, and_false, false_and, not_true_eq_false, not_false_eq_true, or_self, and_self, true_implies, ite_self, sI_sO, sA_sO, sO_s, sO_n, sO_2, uK_s, uK_n, upd_s, upd_n, upd_upd, z.1, z.2, z2]
        unfold f1_live_77
        exact z3
      · rw [hM w g hg e1 e2 e3]
        have z2 := bits_ok hS1.1 (sA w 32 11 (upd N 6 (N 6 + nI (ftn ro S nv))))
        have z3 := t4 w (nI 0) (by rw [e3 0 (by omega)]; exact s1)
        unfold f8_pass_63 f8_pass_93
        simp (disch := omega) only [bE, bO, bV, bK, nI_lit, nI_add, lt_T, lt_F, le_T, le_F, eq_T, eq_F, ltm_T, ltm_F, lem_T, lem_F, eqm_F, meq_F, cl_nI, nle_T, nle_F, nlt_T, nlt_F, ↓reduceIte, or_true, true_or, or_false, false_or, and_true, true_and, and_false, false_and, not_true_eq_false, not_false_eq_true, or_self, and_self, true_implies, ite_self, z2]
        exact z3
  · have hx := raf_ext (f := D 2) (c := wt) hS1.1 hS1.2 (8 - nv) (by omega)
    rw [show nv + (8 - nv) = 8 by omega] at hx
    have hr := raf_rel (S := S) b14 nv (by omega)
    have hle := raf_le (D 2) wt S nv
    obtain ⟨fc, hfc⟩ : ∃ fc, fc = (raf (D 2) wt S nv).1 := ⟨_, rfl⟩
    obtain ⟨fm, hfm⟩ : ∃ fm, fm = (raf (fun k => N (26 + k)) wt S nv).1 := ⟨_, rfl⟩
    obtain ⟨c, hc⟩ : ∃ c, c = (raf (D 2) wt S nv).2 := ⟨_, rfl⟩
    have hr1 := hr.1
    replace hr := hr.2
    rw [← hc] at hr1
    rw [← hc, ← hfc, ← hfm] at hr
    rw [← hc] at hle
    have kC : ∀ w d, f1_firstThroughInn d (nI S) (nI i) (sO w d (uK D 11 (upd (D 11) 0 (D 11 0 + nI (ftn ro S nv))))) = f1_firstThroughInn_64 d (nI S) (nI i) (sO w d (rD (uK D 11 (upd (D 11) 0 (D 11 0 + nI (ftn ro S nv)))) fc c)) := by
      intro w d
      have y := ci_loop (w := w) (d := d) (i := i) (D := uK D 11 (upd (D 11) 0 (D 11 0 + nI (ftn ro S nv)))) (f := D 2) (c := wt) hS1.1 k2 8 0 100000 (by omega) (by omega)
      rw [hx, ← hc, ← hfc, show (raf (D 2) wt S 0).1 = (uK D 11 (upd (D 11) 0 (D 11 0 + nI (ftn ro S nv)))) 2 from (uK_n (by omega)).symm, show (raf (D 2) wt S 0).2 = wt from rfl, rD_0 (by rw [uK_n (by omega)]; exact b2)] at y
      exact y
    have kM : ∀ w, w.1 32 3 0 = nI nv → f8_fromRow (nI S) (nI i) (sA w 32 11 (upd N 6 (N 6 + nI (ftn ro S nv)))) = f8_fromRow_51 (nI S) (nI i) (sA w 32 11 (rN (upd N 6 (N 6 + nI (ftn ro S nv))) fm c)) := by
      intro w hw
      have y := mi_loop (w := w) (i := i) (S := S) (N := upd N 6 (N 6 + nI (ftn ro S nv))) (f := fun k => N (26 + k)) (c := wt) q1 hw hS1.1 k2 nv 0 100000 (by omega) (by omega)
      rw [← hr1, ← hfm, show (raf (fun k => N (26 + k)) wt S 0).1 = (fun k => (upd N 6 (N 6 + nI (ftn ro S nv))) (26 + k)) from funext (fun k => (upd_n (show 26 + k ≠ 6 by omega)).symm), show (raf (fun k => N (26 + k)) wt S 0).2 = wt from rfl, rN_0 (by rw [upd_n (by omega)]; exact c2)] at y
      exact y
    rcases Nat.eq_zero_or_pos c with c0 | c0
    · have hR2 : RD qh nv (B + 1) (rD (uK D 11 (upd (D 11) 0 (D 11 0 + nI (ftn ro S nv)))) fc 0) (rN (upd N 6 (N 6 + nI (ftn ro S nv))) fm 0) := by
        have y := RD.row (B' := B + 1) (c := 0) (sh := sh) (fc := fc) (fm := fm) q1 hR (by omega) (fun k hk => absurd hk (by omega)) (by omega) (by omega)
        rw [uK_same (by rw [rD_n (by omega) (by omega), uK_n (by omega), ← b5, upd_id])] at y
        have y2 : upd (rN (upd N 6 (N 6 + nI (ftn ro S nv))) fm 0) 7 (nI sh) = rN (upd N 6 (N 6 + nI (ftn ro S nv))) fm 0 := by
          have y3 : rN (upd N 6 (N 6 + nI (ftn ro S nv))) fm 0 7 = nI sh := by rw [rN_n (by omega) (by omega), upd_n (by omega)]; exact c5
          rw [← y3, upd_id]
        rw [y2] at y
        exact y
      have hMon2 : Mon N (rN (upd N 6 (N 6 + nI (ftn ro S nv))) fm 0) := h0.mon0 (D' := D) (c' := sh) (by omega) (by rw [rN_n (by omega) (by omega)]; exact upd_n (by omega)) (by rw [rN_n (by omega) (by omega)]; exact upd_n (by omega)) (by rw [rN_n (by omega) (by omega), upd_n (by omega)]; exact c5) (fun c hc hc2 => by rw [c5] at hc; have := (nI_eq (by omega) (by omega)).mp hc; omega) (by omega) (fun k hk => by rw [rN_n (by omega) (by omega)]; exact upd_n (by omega))
      have hdy2 : rN (upd N 6 (N 6 + nI (ftn ro S nv))) fm 0 0 = nI dy := by rw [rN_n (by omega) (by omega)]; exact hdy1
      obtain ⟨D', N', t1, t2, t3, t4⟩ := tailE (K := K) (B' := B + 1) q1 (hR2) hdy2 (by omega) (by omega) (by omega) (by omega)
      refine ⟨D', N', t1, hMon2.trans t2, fun w d g hg e1 e2 => ?_, fun w g hg e1 e2 e3 => ?_⟩
      · have z := hC w d g hg e1 e2
        have z2 := kC w d
        rw [c0, ci_none] at z2
        have z3 := t3 w d g (nI i) hg (by rw [e1]; exact r1)
        unfold f1_live
        simp (disch := omega) only [bE, bO, bV, bK, nI_lit, nI_add, lt_T, lt_F, le_T, le_F, eq_T, eq_F, ltm_T, ltm_F, lem_T, lem_F, eqm_F, meq_F, cl_nI, nle_T, nle_F, nlt_T, nlt_F, ↓reduceIte, or_true, true_or, or_false, false_or, and_true, true_and, and_false, false_and, not_true_eq_false, not_false_eq_true, or_self, and_self, true_implies, ite_self, sI_sO, sA_sO, sO_s, sO_n, sO_2, uK_s, uK_n, upd_s, upd_n, upd_upd, z.1, z.2, z2]
        unfold f1_live_50
        exact z3
      · rw [hM w g hg e1 e2 e3]
        have z2 := kM w (by rw [e3 3 (by omega)]; exact s4)
        rw [c0, mi_none] at z2
        have z3 := t4 w (nI i) (by rw [e3 0 (by omega)]; exact s1)
        unfold f8_pass_63 f8_pass_93
        simp (disch := omega) only [bE, bO, bV, bK, nI_lit, nI_add, lt_T, lt_F, le_T, le_F, eq_T, eq_F, ltm_T, ltm_F, lem_T, lem_F, eqm_F, meq_F, cl_nI, nle_T, nle_F, nlt_T, nlt_F, ↓reduceIte, or_true, true_or, or_false, false_or, and_true, true_and, and_false, false_and, not_true_eq_false, not_false_eq_true, or_self, and_self, true_implies, ite_self, z2]
        exact z3
    · obtain ⟨v, v1, v2⟩ := (hr 0 c0).2
      have v3 := (hr 0 c0).1
      rw [v2] at v3
      have hR2 : RD qh nv (B + 1) (finD (uK D 11 (upd (D 11) 0 (D 11 0 + nI (ftn ro S nv)))) fc c i sh) (finN (upd N 6 (N 6 + nI (ftn ro S nv))) fm c i sh) := by
        refine RD.row (B' := B + 1) (c := min (c - 1) i) (sh := sh + (c - 1 - i)) (fc := shf fc (c - 1)) (fm := shf fm (c - 1)) q1 hR (by omega) (fun k hk => ?_) (by omega) (by omega)
        have hk1 : k < c - 1 := by omega
        have y := hr (k + 1) (by omega)
        rw [show shf fc (c - 1) k = fc (k + 1) from if_pos hk1, show shf fm (c - 1) k = fm (k + 1) from if_pos hk1]
        exact y
      have hMon2 : Mon N (finN (upd N 6 (N 6 + nI (ftn ro S nv))) fm c i sh) := by
        refine h0.mon0 (D' := D) (c' := sh + (c - 1 - i)) (by omega) ?_ ?_ ?_ (fun x hx hx2 => by rw [c5] at hx; have := (nI_eq (by omega) (by omega)).mp hx; omega) (by omega) (fun k hk => by unfold finN; rw [upd_n (by omega), rN_n (by omega) (by omega)]; exact upd_n (by omega))
        · unfold finN; rw [upd_n (by omega), rN_n (by omega) (by omega), upd_n (by omega)]
        · unfold finN; rw [upd_n (by omega), rN_n (by omega) (by omega), upd_n (by omega)]
        · unfold finN; rw [upd_s]
      have hdy2 : finN (upd N 6 (N 6 + nI (ftn ro S nv))) fm c i sh 0 = nI dy := by unfold finN; rw [upd_n (by omega), rN_n (by omega) (by omega)]; exact hdy1
      obtain ⟨D', N', t1, t2, t3, t4⟩ := tailB (v := v) (K := K) (B' := B + 1) q1 (hR2) hdy2 (by omega) (by omega) (by omega) (by omega) (by omega)
      refine ⟨D', N', t1, hMon2.trans t2, fun w d g hg e1 e2 => ?_, fun w g hg e1 e2 e3 => ?_⟩
      · have z := hC w d g hg e1 e2
        have z2 := kC w d
        rw [ci_end (sh := sh) (by omega) c0 hi (by rw [uK_n (by omega)]; exact b5) (by omega), v3] at z2
        have z3 := t3 w d g (nI i) hg (by rw [e1]; exact r1)
        unfold f1_live
        simp (disch := omega) only [bE, bO, bV, bK, nI_lit, nI_add, lt_T, lt_F, le_T, le_F, eq_T, eq_F, ltm_T, ltm_F, lem_T, lem_F, eqm_F, meq_F, cl_nI, nle_T, nle_F, nlt_T, nlt_F, ↓reduceIte, or_true, true_or, or_false, false_or, and_true, true_and, and_false, false_and, not_true_eq_false, not_false_eq_true, or_self, and_self, true_implies, ite_self, sI_sO, sA_sO, sO_s, sO_n, sO_2, uK_s, uK_n, upd_s, upd_n, upd_upd, z.1, z.2, z2]
        unfold f1_live_50
        exact z3
      · rw [hM w g hg e1 e2 e3]
        have z2 := kM w (by rw [e3 3 (by omega)]; exact s4)
        rw [mi_end (sh := sh) (by omega) c0 hi (by rw [upd_n (by omega)]; exact c5) (by omega), v2] at z2
        have z3 := t4 w (nI i) (by rw [e3 0 (by omega)]; exact s1)
        unfold f8_pass_63 f8_pass_93
        simp (disch := omega) only [bE, bO, bV, bK, nI_lit, nI_add, lt_T, lt_F, le_T, le_F, eq_T, eq_F, ltm_T, ltm_F, lem_T, lem_F, eqm_F, meq_F, cl_nI, nle_T, nle_F, nlt_T, nlt_F, ↓reduceIte, or_true, true_or, or_false, false_or, and_true, true_and, and_false, false_and, not_true_eq_false, not_false_eq_true, or_self, and_self, true_implies, ite_self, z2]
        exact z3
end Rock
